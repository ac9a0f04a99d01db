section
-- ===== PART A: goes FIRST, ahead of the names: the tables' words, and 'selects' of the private methods out of them =====
/-- a private method of a class that the tables say can be made, by its rows of tables_1 -/
def lw_okq (q : MethodName × Nat) : Prop := (q.1.cls ≠ "java/lang/invoke/MethodHandle" ∧ q.1.cls ≠ "java/lang/invoke/VarHandle") ∧ Cond.instantiable q.1.cls q.2 ∈ tables_1 ∧ Cond.privateMethod q.1 ∈ tables_1 ∧ Cond.instanceMethod q.1 ∈ tables_1
theorem lw_p0 : lw_okq (⟨"BlankMatcher", "countLike", "(LBlankMatcher$Likeness;)I"⟩, 5) := ⟨⟨by decide +kernel, by decide +kernel⟩, List.mem_of_getElem? (i := 14) (by decide +kernel), List.mem_of_getElem? (i := 65) (by decide +kernel), List.mem_of_getElem? (i := 66) (by decide +kernel)⟩
theorem lw_p1 : lw_okq (⟨"BlankMatcher", "isLike", "(LBlankMatcher$Likeness;I)Z"⟩, 5) := ⟨⟨by decide +kernel, by decide +kernel⟩, List.mem_of_getElem? (i := 14) (by decide +kernel), List.mem_of_getElem? (i := 70) (by decide +kernel), List.mem_of_getElem? (i := 71) (by decide +kernel)⟩
theorem lw_p2 : lw_okq (⟨"BlankMatcher", "hasSum", "(I)Z"⟩, 5) := ⟨⟨by decide +kernel, by decide +kernel⟩, List.mem_of_getElem? (i := 14) (by decide +kernel), List.mem_of_getElem? (i := 76) (by decide +kernel), List.mem_of_getElem? (i := 77) (by decide +kernel)⟩
theorem lw_p3 : lw_okq (⟨"BlankMatcher", "hasOrder", "(I)Z"⟩, 5) := ⟨⟨by decide +kernel, by decide +kernel⟩, List.mem_of_getElem? (i := 14) (by decide +kernel), List.mem_of_getElem? (i := 82) (by decide +kernel), List.mem_of_getElem? (i := 83) (by decide +kernel)⟩
theorem lw_p4 : lw_okq (⟨"BlankMatcher", "hasOrderUpTo", "(II)Z"⟩, 5) := ⟨⟨by decide +kernel, by decide +kernel⟩, List.mem_of_getElem? (i := 14) (by decide +kernel), List.mem_of_getElem? (i := 86) (by decide +kernel), List.mem_of_getElem? (i := 87) (by decide +kernel)⟩
theorem lw_p5 : lw_okq (⟨"BlankMatcher", "hasSymbols", "(I)Z"⟩, 5) := ⟨⟨by decide +kernel, by decide +kernel⟩, List.mem_of_getElem? (i := 14) (by decide +kernel), List.mem_of_getElem? (i := 90) (by decide +kernel), List.mem_of_getElem? (i := 91) (by decide +kernel)⟩
theorem lw_p6 : lw_okq (⟨"BlankMatcher", "firstMismatch", "(II)I"⟩, 5) := ⟨⟨by decide +kernel, by decide +kernel⟩, List.mem_of_getElem? (i := 14) (by decide +kernel), List.mem_of_getElem? (i := 94) (by decide +kernel), List.mem_of_getElem? (i := 95) (by decide +kernel)⟩
theorem lw_p7 : lw_okq (⟨"BlankMatcher", "repeatsAfter", "(I)Z"⟩, 5) := ⟨⟨by decide +kernel, by decide +kernel⟩, List.mem_of_getElem? (i := 14) (by decide +kernel), List.mem_of_getElem? (i := 120) (by decide +kernel), List.mem_of_getElem? (i := 121) (by decide +kernel)⟩
theorem lw_p8 : lw_okq (⟨"java/lang/Throwable", "fillInStackTrace", "(I)Ljava/lang/Throwable;"⟩, 6) := ⟨⟨by decide +kernel, by decide +kernel⟩, List.mem_of_getElem? (i := 174) (by decide +kernel), List.mem_of_getElem? (i := 172) (by decide +kernel), List.mem_of_getElem? (i := 173) (by decide +kernel)⟩
theorem lw_p9 : lw_okq (⟨"BlankMatcher", "requirePartOfText", "(II)V"⟩, 5) := ⟨⟨by decide +kernel, by decide +kernel⟩, List.mem_of_getElem? (i := 14) (by decide +kernel), List.mem_of_getElem? (i := 229) (by decide +kernel), List.mem_of_getElem? (i := 230) (by decide +kernel)⟩
theorem lw_p10 : lw_okq (⟨"BlankMatcher", "requirePatternIndex", "(I)V"⟩, 5) := ⟨⟨by decide +kernel, by decide +kernel⟩, List.mem_of_getElem? (i := 14) (by decide +kernel), List.mem_of_getElem? (i := 276) (by decide +kernel), List.mem_of_getElem? (i := 277) (by decide +kernel)⟩
theorem lw_p11 : lw_okq (⟨"BlankMatcher", "blanksInPattern", "()I"⟩, 5) := ⟨⟨by decide +kernel, by decide +kernel⟩, List.mem_of_getElem? (i := 14) (by decide +kernel), List.mem_of_getElem? (i := 289) (by decide +kernel), List.mem_of_getElem? (i := 290) (by decide +kernel)⟩
theorem lw_p12 : lw_okq (⟨"BlankMatcher", "requirePlace", "(I)V"⟩, 5) := ⟨⟨by decide +kernel, by decide +kernel⟩, List.mem_of_getElem? (i := 14) (by decide +kernel), List.mem_of_getElem? (i := 308) (by decide +kernel), List.mem_of_getElem? (i := 309) (by decide +kernel)⟩
theorem lw_p13 : lw_okq (⟨"BlankMatcher", "requireLike", "(LBlankMatcher$Likeness;I)I"⟩, 5) := ⟨⟨by decide +kernel, by decide +kernel⟩, List.mem_of_getElem? (i := 14) (by decide +kernel), List.mem_of_getElem? (i := 320) (by decide +kernel), List.mem_of_getElem? (i := 321) (by decide +kernel)⟩
theorem lw_p14 : lw_okq (⟨"BlankMatcher", "findLike", "(LBlankMatcher$Likeness;I)I"⟩, 5) := ⟨⟨by decide +kernel, by decide +kernel⟩, List.mem_of_getElem? (i := 14) (by decide +kernel), List.mem_of_getElem? (i := 324) (by decide +kernel), List.mem_of_getElem? (i := 325) (by decide +kernel)⟩
theorem lw_p15 : lw_okq (⟨"BlankMatcher", "countMismatches", "(I)I"⟩, 5) := ⟨⟨by decide +kernel, by decide +kernel⟩, List.mem_of_getElem? (i := 14) (by decide +kernel), List.mem_of_getElem? (i := 336) (by decide +kernel), List.mem_of_getElem? (i := 337) (by decide +kernel)⟩
def lw_privs_1 : List (MethodName × Nat) := [(⟨"BlankMatcher", "countLike", "(LBlankMatcher$Likeness;)I"⟩, 5), (⟨"BlankMatcher", "isLike", "(LBlankMatcher$Likeness;I)Z"⟩, 5), (⟨"BlankMatcher", "hasSum", "(I)Z"⟩, 5), (⟨"BlankMatcher", "hasOrder", "(I)Z"⟩, 5), (⟨"BlankMatcher", "hasOrderUpTo", "(II)Z"⟩, 5), (⟨"BlankMatcher", "hasSymbols", "(I)Z"⟩, 5), (⟨"BlankMatcher", "firstMismatch", "(II)I"⟩, 5), (⟨"BlankMatcher", "repeatsAfter", "(I)Z"⟩, 5), (⟨"java/lang/Throwable", "fillInStackTrace", "(I)Ljava/lang/Throwable;"⟩, 6), (⟨"BlankMatcher", "requirePartOfText", "(II)V"⟩, 5), (⟨"BlankMatcher", "requirePatternIndex", "(I)V"⟩, 5), (⟨"BlankMatcher", "blanksInPattern", "()I"⟩, 5), (⟨"BlankMatcher", "requirePlace", "(I)V"⟩, 5), (⟨"BlankMatcher", "requireLike", "(LBlankMatcher$Likeness;I)I"⟩, 5), (⟨"BlankMatcher", "findLike", "(LBlankMatcher$Likeness;I)I"⟩, 5), (⟨"BlankMatcher", "countMismatches", "(I)I"⟩, 5)]
theorem lw_r1 : ∀ q ∈ lw_privs_1, lw_okq q := List.forall_mem_cons.mpr ⟨lw_p0, List.forall_mem_cons.mpr ⟨lw_p1, List.forall_mem_cons.mpr ⟨lw_p2, List.forall_mem_cons.mpr ⟨lw_p3, List.forall_mem_cons.mpr ⟨lw_p4, List.forall_mem_cons.mpr ⟨lw_p5, List.forall_mem_cons.mpr ⟨lw_p6, List.forall_mem_cons.mpr ⟨lw_p7, List.forall_mem_cons.mpr ⟨lw_p8, List.forall_mem_cons.mpr ⟨lw_p9, List.forall_mem_cons.mpr ⟨lw_p10, List.forall_mem_cons.mpr ⟨lw_p11, List.forall_mem_cons.mpr ⟨lw_p12, List.forall_mem_cons.mpr ⟨lw_p13, List.forall_mem_cons.mpr ⟨lw_p14, List.forall_mem_cons.mpr ⟨lw_p15, fun _ h => absurd h List.not_mem_nil⟩⟩⟩⟩⟩⟩⟩⟩⟩⟩⟩⟩⟩⟩⟩⟩
theorem lw_p16 : lw_okq (⟨"BlankMatcher", "placeOfRank", "(II)I"⟩, 5) := ⟨⟨by decide +kernel, by decide +kernel⟩, List.mem_of_getElem? (i := 14) (by decide +kernel), List.mem_of_getElem? (i := 384) (by decide +kernel), List.mem_of_getElem? (i := 385) (by decide +kernel)⟩
theorem lw_p17 : lw_okq (⟨"BlankMatcher", "countLetter", "(II)I"⟩, 5) := ⟨⟨by decide +kernel, by decide +kernel⟩, List.mem_of_getElem? (i := 14) (by decide +kernel), List.mem_of_getElem? (i := 395) (by decide +kernel), List.mem_of_getElem? (i := 396) (by decide +kernel)⟩
theorem lw_p18 : lw_okq (⟨"BlankMatcherModel", "goesWell", "(I)Z"⟩, 5) := ⟨⟨by decide +kernel, by decide +kernel⟩, List.mem_of_getElem? (i := 421) (by decide +kernel), List.mem_of_getElem? (i := 454) (by decide +kernel), List.mem_of_getElem? (i := 455) (by decide +kernel)⟩
theorem lw_p19 : lw_okq (⟨"BlankMatcherModel", "isInPattern", "(I)Z"⟩, 5) := ⟨⟨by decide +kernel, by decide +kernel⟩, List.mem_of_getElem? (i := 421) (by decide +kernel), List.mem_of_getElem? (i := 474) (by decide +kernel), List.mem_of_getElem? (i := 475) (by decide +kernel)⟩
theorem lw_p20 : lw_okq (⟨"BlankMatcherModel", "placeMany", "()I"⟩, 5) := ⟨⟨by decide +kernel, by decide +kernel⟩, List.mem_of_getElem? (i := 421) (by decide +kernel), List.mem_of_getElem? (i := 502) (by decide +kernel), List.mem_of_getElem? (i := 503) (by decide +kernel)⟩
theorem lw_p21 : lw_okq (⟨"BlankMatcherModel", "isPlace", "(I)Z"⟩, 5) := ⟨⟨by decide +kernel, by decide +kernel⟩, List.mem_of_getElem? (i := 421) (by decide +kernel), List.mem_of_getElem? (i := 514) (by decide +kernel), List.mem_of_getElem? (i := 515) (by decide +kernel)⟩
theorem lw_p22 : lw_okq (⟨"BlankMatcherModel", "wanted", "(I)I"⟩, 5) := ⟨⟨by decide +kernel, by decide +kernel⟩, List.mem_of_getElem? (i := 421) (by decide +kernel), List.mem_of_getElem? (i := 522) (by decide +kernel), List.mem_of_getElem? (i := 523) (by decide +kernel)⟩
theorem lw_p23 : lw_okq (⟨"BlankMatcherModel", "isWanted", "(II)Z"⟩, 5) := ⟨⟨by decide +kernel, by decide +kernel⟩, List.mem_of_getElem? (i := 421) (by decide +kernel), List.mem_of_getElem? (i := 526) (by decide +kernel), List.mem_of_getElem? (i := 527) (by decide +kernel)⟩
theorem lw_p24 : lw_okq (⟨"BlankMatcherModel", "countAt", "(I)I"⟩, 5) := ⟨⟨by decide +kernel, by decide +kernel⟩, List.mem_of_getElem? (i := 421) (by decide +kernel), List.mem_of_getElem? (i := 530) (by decide +kernel), List.mem_of_getElem? (i := 531) (by decide +kernel)⟩
theorem lw_p25 : lw_okq (⟨"BlankMatcherModel", "sumOf", "(I)I"⟩, 5) := ⟨⟨by decide +kernel, by decide +kernel⟩, List.mem_of_getElem? (i := 421) (by decide +kernel), List.mem_of_getElem? (i := 537) (by decide +kernel), List.mem_of_getElem? (i := 538) (by decide +kernel)⟩
theorem lw_p26 : lw_okq (⟨"BlankMatcherModel", "isOrdered", "(I)Z"⟩, 5) := ⟨⟨by decide +kernel, by decide +kernel⟩, List.mem_of_getElem? (i := 421) (by decide +kernel), List.mem_of_getElem? (i := 541) (by decide +kernel), List.mem_of_getElem? (i := 542) (by decide +kernel)⟩
theorem lw_p27 : lw_okq (⟨"BlankMatcherModel", "isNumber", "(II)Z"⟩, 5) := ⟨⟨by decide +kernel, by decide +kernel⟩, List.mem_of_getElem? (i := 421) (by decide +kernel), List.mem_of_getElem? (i := 552) (by decide +kernel), List.mem_of_getElem? (i := 553) (by decide +kernel)⟩
theorem lw_p28 : lw_okq (⟨"BlankMatcherModel", "find", "(II)I"⟩, 5) := ⟨⟨by decide +kernel, by decide +kernel⟩, List.mem_of_getElem? (i := 421) (by decide +kernel), List.mem_of_getElem? (i := 556) (by decide +kernel), List.mem_of_getElem? (i := 557) (by decide +kernel)⟩
theorem lw_p29 : lw_okq (⟨"BlankMatcherModel", "comesAgain", "(I)Z"⟩, 5) := ⟨⟨by decide +kernel, by decide +kernel⟩, List.mem_of_getElem? (i := 421) (by decide +kernel), List.mem_of_getElem? (i := 612) (by decide +kernel), List.mem_of_getElem? (i := 613) (by decide +kernel)⟩
def lw_privs_2 : List (MethodName × Nat) := [(⟨"BlankMatcher", "placeOfRank", "(II)I"⟩, 5), (⟨"BlankMatcher", "countLetter", "(II)I"⟩, 5), (⟨"BlankMatcherModel", "goesWell", "(I)Z"⟩, 5), (⟨"BlankMatcherModel", "isInPattern", "(I)Z"⟩, 5), (⟨"BlankMatcherModel", "placeMany", "()I"⟩, 5), (⟨"BlankMatcherModel", "isPlace", "(I)Z"⟩, 5), (⟨"BlankMatcherModel", "wanted", "(I)I"⟩, 5), (⟨"BlankMatcherModel", "isWanted", "(II)Z"⟩, 5), (⟨"BlankMatcherModel", "countAt", "(I)I"⟩, 5), (⟨"BlankMatcherModel", "sumOf", "(I)I"⟩, 5), (⟨"BlankMatcherModel", "isOrdered", "(I)Z"⟩, 5), (⟨"BlankMatcherModel", "isNumber", "(II)Z"⟩, 5), (⟨"BlankMatcherModel", "find", "(II)I"⟩, 5), (⟨"BlankMatcherModel", "comesAgain", "(I)Z"⟩, 5)]
theorem lw_r2 : ∀ q ∈ lw_privs_2, lw_okq q := List.forall_mem_cons.mpr ⟨lw_p16, List.forall_mem_cons.mpr ⟨lw_p17, List.forall_mem_cons.mpr ⟨lw_p18, List.forall_mem_cons.mpr ⟨lw_p19, List.forall_mem_cons.mpr ⟨lw_p20, List.forall_mem_cons.mpr ⟨lw_p21, List.forall_mem_cons.mpr ⟨lw_p22, List.forall_mem_cons.mpr ⟨lw_p23, List.forall_mem_cons.mpr ⟨lw_p24, List.forall_mem_cons.mpr ⟨lw_p25, List.forall_mem_cons.mpr ⟨lw_p26, List.forall_mem_cons.mpr ⟨lw_p27, List.forall_mem_cons.mpr ⟨lw_p28, List.forall_mem_cons.mpr ⟨lw_p29, fun _ h => absurd h List.not_mem_nil⟩⟩⟩⟩⟩⟩⟩⟩⟩⟩⟩⟩⟩⟩
def lw_privs : List (MethodName × Nat) := lw_privs_1 ++ (lw_privs_2)
def lw_tbl : List Cond := k2_sels lw_privs ++ tables_1
theorem lw_privs_ok : ∀ q ∈ lw_privs, lw_okq q := by
  show ∀ q ∈ lw_privs_1 ++ (lw_privs_2), lw_okq q
  exact List.forall_mem_append.mpr ⟨lw_r1, lw_r2⟩
end
section
/-! ===== BEGIN words of one list among another's, by their places ===== -/
theorem goodIn_r {big : List Cond} (ws : List Cond) (ps : List Nat) (hp : ws = ps.filterMap (fun i => big[i]?)) (h : ws.all goodWord = true) : GoodIn big ws := by
  intro w hw
  have h1 := List.all_eq_true.mp h w hw
  rw [hp] at hw
  obtain ⟨i, -, hi⟩ := List.mem_filterMap.mp hw
  have hm : w ∈ big := by first | exact List.mem_of_getElem? hi | exact List.getElem?_mem hi
  exact ⟨hm, good_of_word h1⟩
theorem goodIn_app {big a b : List Cond} (ha : GoodIn big a) (hb : GoodIn big b) : GoodIn big (a ++ b) := fun w h => (List.mem_append.mp h).elim (ha w) (hb w)
theorem goodIn_ca {big a b : List Cond} {c : Cond} (ha : GoodIn big (c :: a)) (hb : GoodIn big b) : GoodIn big (c :: (a ++ b)) := fun w h => (List.mem_cons.mp h).elim (fun e => ha w (List.mem_cons.mpr (Or.inl e))) (fun h => (List.mem_append.mp h).elim (fun h => ha w (List.mem_cons.mpr (Or.inr h))) (hb w))
theorem goodIn_sub {big ws : List Cond} (hm : ∀ w ∈ ws, w ∈ big) (h : ws.all goodWord = true) : GoodIn big ws := fun w hw => ⟨hm w hw, good_of_word (List.all_eq_true.mp h w hw)⟩
/-! ===== END ===== -/

/-! ===== BEGIN exceptions that leave a method, and their catching by the caller (launches without stack traces) ===== -/
section VXA
/-! The laws vx_back, vx_callV, vx_callS, vx_callSW, vx_throw0, vx_throwS follow proofs of the library, with one case more: JvmDerived/Free/Laws.lean (Back.of_free), Shelf42/LK1.lean (callV, callS), Shelf/KitTraced.lean (throwNew0V, throwNewS). -/
/-- where a method has thrown q: the class by its name, the cell, what was written, the world -/
def vx_T (XC : String → State → State → Prop) (st : State) (q : Addr) (t : State) (mc ms : Nat) (free : Addr → Prop) : Prop :=
  ∃ (E : String) (ce : Cell) (L : List Loc), XC E st t ∧ t.heap[q]? = some ce ∧ ce.vm = .none ∧ st.vm.findClass E = some ce.cls ∧ st.WarmedH t.vm ∧ st.sameButNew ({ t with vm := st.vm } : State) L mc ms ∧ ∀ z ∈ L, free z.base
def vx_Q (Qc : Array Value → State → Outcome → State → Prop) (XC : String → State → State → Prop) (mc ms : Nat) (free : Addr → Prop) : Array Value → State → Outcome → State → Prop := fun a st o t =>
  (Qc a st o t ∧ ∃ L, FrameEnd st o t L mc ms ∧ ∀ q ∈ L, free q.base) ∨ ∃ q, o = .threw q ∧ vx_T XC st q t mc ms free
/-- a callee that returns or throws -/
def vx_Met (l : Launch) (y : MethodName) (ws : List Cond) (rm : Room) (Pc : Array Value → State → Prop) (Qc : Array Value → State → Outcome → State → Prop) (XC : String → State → State → Prop) (mc ms : Nat) (free : Addr → Prop) : Prop :=
  MetFree l y (headSpec ws rm) Pc (fun _ _ _ _ _ => True) (vx_Q Qc XC mc ms free)
def vx_Post (XC : String → State → State → Prop) (mc ms : Nat) (free : Addr → Prop) : Pt → Array Value → Addr → Pt → Prop := fun A a q B =>
  ∃ (g : JFrame) (mk : MethodId) (t : State) (L : List Loc) (E : String) (ce : Cell), B.U.heap = t.heap ∧ B.U.vm = t.vm ∧ XC E (A.U.calling g mk a) t ∧ t.heap[q]? = some ce ∧ ce.vm = .none ∧ A.U.vm.findClass E = some ce.cls ∧ B.locs = A.locs ++ L ∧ (∀ z ∈ L, free z.base) ∧ B.cells = A.cells + mc ∧ B.slots = A.slots + ms
def vx_Back (l : Launch) (R : Room) (p : Program) (e : Env) (below : List Frame) (s : State) (sargs : Array Value) (y : MethodName) (len W9 : Nat)
    (Pre : Pt → Array Value → Prop) (Post : Pt → Array Value → Option Value → Pt → Prop) (PostX : Pt → Array Value → Addr → Pt → Prop) : Prop :=
  ∀ (m : MethodId) (meth : Method) (c : Code) (A : Pt) (g : JFrame) (ig : Instr) (mk : MethodId) (a : Array Value),
    Stand p l e R s m sargs below meth c A.U A.locs A.cells A.slots → g.method = m → g.locals.size = c.maxLocals → decode c.code g.pc = .ok (ig, len) →
    2 * g.monitorRoom + (g.stack.map fun v => v.category).sum ≤ W9 → A.U.methodNamed? y = some mk → Pre A a →
    (∃ (v : Option Value) (B : Pt), Stand p l e R s m sargs below meth c B.U B.locs B.cells B.slots ∧ Post A a v B ∧
      Steps p.tables e below (doInvoke e (A.U.setTop g) [] mk a).1 (B.U.setTop { g with pc := g.pc + len, stack := v.toList ++ g.stack })) ∨
    (∃ (q : Addr) (B : Pt), Stand p l e R s m sargs below meth c B.U B.locs B.cells B.slots ∧ PostX A a q B ∧
      Steps p.tables e below (doInvoke e (A.U.setTop g) [] mk a).1 ((B.U.setTop g).pushFrame (.throwing q)))
section Payer
variable {l : Launch} {R : Room} {p : Program} {e : Env} {below : List Frame} {s : State} {sargs : Array Value} {y : MethodName} {len W9 : Nat}
theorem vx_back {ws : List Cond} {rm : Room} {Pc : Array Value → State → Prop} {Qc : Array Value → State → Outcome → State → Prop} {XC : String → State → State → Prop} {mc ms : Nat} {free : Addr → Prop} {bytes : ByteArray} {maxL : Nat} {ret : Option FieldType}
    (hM : vx_Met l y ws rm Pc Qc XC mc ms free) (hblind : FrameBlind Pc) (hrc : rm.cells = mc) (hrs : rm.slots = ms)
    (hframes : rm.frames + 1 ≤ R.frames) (hlocals : W9 + (maxL + 11) + rm.locals ≤ R.locals)
    (hws : ∀ w ∈ ws, ∀ a' U, s.WarmedH U.vm → w.before a' U = true) (hcode : Cond.code y bytes maxL ret ∈ ws) (hinit : ∀ a' U, s.WarmedH U.vm → (Cond.initialized y.cls).before a' U = true) :
    vx_Back l R p e below s sargs y len W9 (PreOf R mc ms Pc) (PostOf Qc mc ms free) (vx_Post XC mc ms free) := by
  intro m meth c A g ig mk a X hg hsize hdg hW hn hp
  have h1 : (headSpec ws rm).pre.before a A.U = true := atoms_intro fun w hw => hws w hw _ _ X.warmed
  have h2 : (Cond.code y bytes maxL ret).before a A.U = true := hws _ hcode _ _ X.warmed
  have h3 : (Cond.initialized y.cls).before a A.U = true := hinit _ _ X.warmed
  have h4 : A.cells + (headSpec ws rm).room.cells ≤ R.cells := by rw [show (headSpec ws rm).room.cells = mc from hrc]; exact hp.1
  have h5 : A.slots + (headSpec ws rm).room.slots ≤ R.slots := by rw [show (headSpec ws rm).room.slots = ms from hrs]; exact hp.2.1
  have hPc : Pc a (A.U.calling g mk a) := hblind _ _ _ _ hp.2.2
  obtain ⟨U, Ls, c0, s0⟩ := A
  dsimp only [Pt.U, Pt.locs, Pt.cells, Pt.slots] at h1 h2 h3 h4 h5 X hn hPc ⊢
  obtain ⟨methY, cY, hmY, hcY, -, hlY, -, -, -, -⟩ := Cond.code_spec hn h2
  obtain ⟨kY, hkY, -⟩ := className_of_methodNamed hn
  have hinitY : kY.init = .initialized := Cond.initialized_spec (findClass_of_methodNamed hn) hkY h3
  have h : At U g.method c below := by rw [hg]; exact X.here
  have hlocals9 : W9 + (maxL + 11) + (headSpec ws rm).room.locals ≤ R.locals := hlocals
  have happ : (headSpec ws rm).appliesLoose y e.platform (U.calling g mk a) = true :=
    Spec.appliesLoose_calling (g := g) h hdg hn hkY hinitY
      (X.room_calling (g := g) (R' := (headSpec ws rm).room) hsize hmY hcY hframes (by rw [hlY]; omega) h4 h5) h1
  obtain ⟨mid, hmid⟩ := h.above
  have hfr : (U.setTop g).frames = (.java g :: mid) ++ below := by rw [State.frames_setTop' g h.top, hmid]; rfl
  obtain ⟨o, s₂, hsteps, -, hend, hq⟩ := Steps.callFree hM p X.admits X.cas X.clock (acts := []) hfr happ hPc trivial
  have hq' : vx_Q Qc XC mc ms free a (U.calling g mk a) o s₂ := hq
  rw [State.frames_setTop' g h.top] at hend
  obtain ⟨g₀, hg0⟩ := Option.isSome_iff_exists.mp h.top
  obtain ⟨r, hr⟩ := State.topJava?_eq_some.mp hg0
  have hr' : (({ U with heap := s₂.heap, slotsUsed := s₂.slotsUsed } : State).setVm s₂.vm).frames = .java g₀ :: r := hr
  rcases hq' with ⟨hqc, L, hfe, hL⟩ | ⟨q, rfl, E, ce, L, hx, hce, hcv, hcl, hW₂, hsm, hL⟩
  · obtain ⟨⟨v, rfl⟩, hW₂, e2, q2, q3, q4, q5, q6⟩ := id hfe
    have e3 : s₂ = ({ (U.calling g mk a).setFrames s₂.frames with heap := s₂.heap, slotsUsed := s₂.slotsUsed } : State).setVm s₂.vm := by
      have : s₂ = ({ s₂ with vm := (U.calling g mk a).vm } : State).setVm s₂.vm := rfl
      rw [e2] at this
      exact this
    obtain ⟨c₂, i₂, len₂, hc₂, hd₂, hf₂⟩ := hend
    have hW' : U.WarmedH s₂.vm := hW₂
    have hcc : c₂ = c := by
      have h1 : s₂.code? g.method = U.code? g.method := by
        rw [State.code?_eq, State.code?_eq, hW'.alike.method?]
      exact Option.some.inj (hc₂.symm.trans (h1.trans h.code))
    subst hcc
    have hlen : len₂ = len := by rw [hdg] at hd₂; cases hd₂; rfl
    subst hlen
    have hs₂ : s₂ = (({ U with heap := s₂.heap, slotsUsed := s₂.slotsUsed } : State).setVm s₂.vm).setTop { g with pc := g.pc + len₂, stack := v.toList ++ g.stack } := by
      refine e3.trans ?_
      rw [hf₂, State.calling_eq h.top, State.setFrames_setFrames, State.setTop_of_frames _ hr', hr]
      rfl
    have hsame : U.sameButNew ({ U with heap := s₂.heap, slotsUsed := s₂.slotsUsed } : State) L mc ms := by
      refine ⟨?_, q2, q3, q4, q5, q6⟩
      obtain ⟨t, ht, -⟩ := State.frames_cons hr
      show ({ U with heap := s₂.heap, slotsUsed := s₂.slotsUsed } : State) = { U.setFrames U.frames with heap := s₂.heap, slotsUsed := s₂.slotsUsed }
      rw [State.setFrames_self ht]
    subst hg
    refine Or.inl ⟨v, ⟨(({ U with heap := s₂.heap, slotsUsed := s₂.slotsUsed } : State).setVm s₂.vm), Ls ++ L, c0 + mc, s0 + ms⟩,
      ⟨X.admits, X.cas, X.clock, X.frames, X.room, X.hears, X.method, X.code, (X.here.setHeapUsed s₂.heap s₂.slotsUsed).setVm hW'.alike, X.tail, State.WarmedH.trans X.warmed hW', X.limits, X.bytes, X.same.trans (hsame.setVm s.vm)⟩,
      ⟨g, mk, s₂, L, rfl, rfl, hqc, rfl, hL, rfl, rfl⟩, ?_⟩
    show Steps p.tables e below _ ((({ U with heap := s₂.heap, slotsUsed := s₂.slotsUsed } : State).setVm s₂.vm).setTop { g with pc := g.pc + len₂, stack := v.toList ++ g.stack })
    rw [← hs₂]
    exact hsteps
  · obtain ⟨e2, q2, q3, q4, q5, q6⟩ := id hsm
    have e3 : s₂ = ({ (U.calling g mk a).setFrames s₂.frames with heap := s₂.heap, slotsUsed := s₂.slotsUsed } : State).setVm s₂.vm := by
      have : s₂ = ({ s₂ with vm := (U.calling g mk a).vm } : State).setVm s₂.vm := rfl
      rw [e2] at this
      exact this
    have hf₂ : s₂.frames = .throwing q :: .java g :: U.frames.tail := hend
    have hW' : U.WarmedH s₂.vm := hW₂
    have hs₂ : s₂ = ((({ U with heap := s₂.heap, slotsUsed := s₂.slotsUsed } : State).setVm s₂.vm).setTop g).pushFrame (.throwing q) := by
      refine e3.trans ?_
      rw [hf₂, State.calling_eq h.top, State.setFrames_setFrames, State.pushFrame, State.frames_setTop _ hr', State.setTop_of_frames _ hr', State.setFrames_setFrames, hr]
      rfl
    have hsame : U.sameButNew ({ U with heap := s₂.heap, slotsUsed := s₂.slotsUsed } : State) L mc ms := by
      refine ⟨?_, q2, q3, q4, q5, q6⟩
      obtain ⟨t, ht, -⟩ := State.frames_cons hr
      show ({ U with heap := s₂.heap, slotsUsed := s₂.slotsUsed } : State) = { U.setFrames U.frames with heap := s₂.heap, slotsUsed := s₂.slotsUsed }
      rw [State.setFrames_self ht]
    subst hg
    refine Or.inr ⟨q, ⟨(({ U with heap := s₂.heap, slotsUsed := s₂.slotsUsed } : State).setVm s₂.vm), Ls ++ L, c0 + mc, s0 + ms⟩,
      ⟨X.admits, X.cas, X.clock, X.frames, X.room, X.hears, X.method, X.code, (X.here.setHeapUsed s₂.heap s₂.slotsUsed).setVm hW'.alike, X.tail, State.WarmedH.trans X.warmed hW', X.limits, X.bytes, X.same.trans (hsame.setVm s.vm)⟩,
      ⟨g, mk, s₂, L, E, ce, rfl, rfl, hx, hce, hcv, hcl, rfl, hL, rfl, rfl⟩, ?_⟩
    show Steps p.tables e below _ (((({ U with heap := s₂.heap, slotsUsed := s₂.slotsUsed } : State).setVm s₂.vm).setTop g).pushFrame (.throwing q))
    rw [← hs₂]
    exact hsteps
end Payer
section Calls
variable {p : Program} {l : Launch} {e : Env} {R : Room} {s : State} {m : MethodId} {args : Array Value} {below : List Frame} {meth : Method} {c : Code} {T : State} {locs : List Loc} {cells slots : Nat}
theorem vx_callV (X : Stand p l e R s m args below meth c T locs cells slots) (hexec : p.tables.exec = Jvm.exec) {own C : String} {index : Nat} {y : MethodName} {bytes : ByteArray} {maxL : Nat} {ret : Option FieldType}
    (hown : s.vm.findClass own = some m.cls) (hlink : (Cond.methodLink own index y).before args s = true) (hinst : (Cond.instanceMethod y).before args s = true) (hsel : (Cond.selects C y y).before args s = true)
    (hcode : (Cond.code y bytes maxL ret).before args s = true) (hy : y.cls ≠ "java/lang/invoke/MethodHandle" ∧ y.cls ≠ "java/lang/invoke/VarHandle")
    {W9 : Nat} {Pre : Pt → Array Value → Prop} {Post : Pt → Array Value → Option Value → Pt → Prop} {PostX : Pt → Array Value → Addr → Pt → Prop} (hK : vx_Back l R p e below s args y 3 W9 Pre Post PostX)
    {b : Addr} {cellB : Cell} (hcell : T.heap[b]? = some cellB) (hobj : cellB.vm.isStatics = false) (hcls : s.vm.findClass C = some cellB.cls)
    {g : JFrame} (hg : g.method = m) (hsize : g.locals.size = c.maxLocals) {argsL rest : List Value} (hlen : ∀ sig, parseMethodDescriptor y.desc = some sig → argsL.length = sig.parameters.length)
    (hstack : g.stack = argsL.reverse ++ .ref b :: rest) (hW : 2 * g.monitorRoom + (rest.map fun v => v.category).sum ≤ W9) (hdg : decode c.code g.pc = .ok (.invokevirtual index, 3))
    (hpre : ∀ vm₁, s.WarmedH vm₁ → Pre ⟨T.setVm vm₁, locs, cells, slots⟩ (Value.ref b :: argsL).toArray) :
    (∃ (v : Option Value) (vm₁ : Vm) (B : Pt), s.WarmedH vm₁ ∧ Stand p l e R s m args below meth c B.U B.locs B.cells B.slots ∧ Post ⟨T.setVm vm₁, locs, cells, slots⟩ (Value.ref b :: argsL).toArray v B ∧
      ∀ target, Steps p.tables e below (B.U.setTop { g with pc := g.pc + 3, stack := v.toList ++ rest }) target → Steps p.tables e below (T.setTop g) target) ∨
    (∃ (q : Addr) (vm₁ : Vm) (B : Pt), s.WarmedH vm₁ ∧ Stand p l e R s m args below meth c B.U B.locs B.cells B.slots ∧ PostX ⟨T.setVm vm₁, locs, cells, slots⟩ (Value.ref b :: argsL).toArray q B ∧
      Steps p.tables e below (T.setTop g) ((B.U.setTop { g with stack := rest }).pushFrame (.throwing q))) := by
  obtain ⟨mk, methM, hnamed, hmethM, hstM, habM⟩ := Cond.instanceMethod_spec hinst
  obtain ⟨methM', cM, hmethM', -, -, -, -, -, -, hsigM⟩ := Cond.code_spec hnamed hcode
  cases hmethM.symm.trans hmethM'
  obtain ⟨c2, r2, m2, q1, q2, q3, q4, kP, hkP, hkPi⟩ := Cond.selects_spec hsel
  cases hcls.symm.trans q1
  cases (State.methodFound?_of_named hnamed hy).symm.trans q2
  cases hnamed.symm.trans q3
  have hselP : selectMethod e.platform s.vm cellB.cls mk = .method mk := by rw [Launch.admits_selectMethod X.admits]; exact q4
  obtain ⟨vm₁, X₁, hstep₁⟩ := X.invokevirtual hexec hown hlink hnamed hmethM hstM hkP hkPi hy (a := b) (cell := cellB) hcell
    (fun z h => by rw [h] at hobj; cases hobj) hselP hmethM habM hkP hkPi (g := g) hg (argsL := argsL) (rest := rest) (hlen _ hsigM) hstack hdg
  rcases hK m meth c ⟨T.setVm vm₁, locs, cells, slots⟩ { g with stack := rest } (.invokevirtual index) mk (Value.ref b :: argsL).toArray X₁ hg hsize hdg hW (X₁.named hnamed) (hpre vm₁ X₁.warmed) with ⟨v, B, X', hpost, hsteps⟩ | ⟨q, B, X', hpost, hsteps⟩
  · exact Or.inl ⟨v, vm₁, B, X₁.warmed, X', hpost, fun target h => hstep₁ _ fun acts => by rw [doInvoke_state]; exact hsteps.trans h⟩
  · exact Or.inr ⟨q, vm₁, B, X₁.warmed, X', hpost, hstep₁ _ fun acts => by rw [doInvoke_state]; exact hsteps⟩
theorem vx_callS (X : Stand p l e R s m args below meth c T locs cells slots) (hexec : p.tables.exec = Jvm.exec) {own : String} {index : Nat} {y : MethodName} {bytes : ByteArray} {maxL : Nat} {ret : Option FieldType}
    (hown : s.vm.findClass own = some m.cls) (hlink : (Cond.methodLink own index y).before args s = true) (hstat : (Cond.static y).before args s = true) (hinit : (Cond.initialized y.cls).before args s = true)
    (hcode : (Cond.code y bytes maxL ret).before args s = true) (hy : y.cls ≠ "java/lang/invoke/MethodHandle" ∧ y.cls ≠ "java/lang/invoke/VarHandle")
    {W9 : Nat} {Pre : Pt → Array Value → Prop} {Post : Pt → Array Value → Option Value → Pt → Prop} {PostX : Pt → Array Value → Addr → Pt → Prop} (hK : vx_Back l R p e below s args y 3 W9 Pre Post PostX)
    {g : JFrame} (hg : g.method = m) (hsize : g.locals.size = c.maxLocals) {argsL rest : List Value} (hlen : ∀ sig, parseMethodDescriptor y.desc = some sig → argsL.length = sig.parameters.length)
    (hstack : g.stack = argsL.reverse ++ rest) (hW : 2 * g.monitorRoom + (rest.map fun v => v.category).sum ≤ W9) (hdg : decode c.code g.pc = .ok (.invokestatic index, 3))
    (hpre : ∀ vm₁, s.WarmedH vm₁ → Pre ⟨T.setVm vm₁, locs, cells, slots⟩ argsL.toArray) :
    (∃ (v : Option Value) (vm₁ : Vm) (B : Pt), s.WarmedH vm₁ ∧ Stand p l e R s m args below meth c B.U B.locs B.cells B.slots ∧ Post ⟨T.setVm vm₁, locs, cells, slots⟩ argsL.toArray v B ∧
      ∀ target, Steps p.tables e below (B.U.setTop { g with pc := g.pc + 3, stack := v.toList ++ rest }) target → Steps p.tables e below (T.setTop g) target) ∨
    (∃ (q : Addr) (vm₁ : Vm) (B : Pt), s.WarmedH vm₁ ∧ Stand p l e R s m args below meth c B.U B.locs B.cells B.slots ∧ PostX ⟨T.setVm vm₁, locs, cells, slots⟩ argsL.toArray q B ∧
      Steps p.tables e below (T.setTop g) ((B.U.setTop { g with stack := rest }).pushFrame (.throwing q))) := by
  obtain ⟨mk, hnamed⟩ := Cond.code_named hcode
  obtain ⟨methM, cM, hmethM, -, -, -, -, -, -, hsigM⟩ := Cond.code_spec hnamed hcode
  have hstatic : methM.isStatic = true := Cond.static_spec hnamed hmethM hstat
  obtain ⟨kP, hkP, -⟩ := className_of_methodNamed hnamed
  have hinitP : kP.init = .initialized := Cond.initialized_spec (findClass_of_methodNamed hnamed) hkP hinit
  obtain ⟨vm₁, X₁, hstep₁⟩ := X.invokestatic hexec hown hlink hnamed hmethM hstatic hkP hinitP hy (g := g) hg (argsL := argsL) (rest := rest) (hlen _ hsigM) hstack hdg
  rcases hK m meth c ⟨T.setVm vm₁, locs, cells, slots⟩ { g with stack := rest } (.invokestatic index) mk argsL.toArray X₁ hg hsize hdg hW (X₁.named hnamed) (hpre vm₁ X₁.warmed) with ⟨v, B, X', hpost, hsteps⟩ | ⟨q, B, X', hpost, hsteps⟩
  · exact Or.inl ⟨v, vm₁, B, X₁.warmed, X', hpost, fun target h => hstep₁ _ fun acts => by rw [doInvoke_state]; exact hsteps.trans h⟩
  · exact Or.inr ⟨q, vm₁, B, X₁.warmed, X', hpost, hstep₁ _ fun acts => by rw [doInvoke_state]; exact hsteps⟩
end Calls
theorem vx_cls {s : State} {T : State} {vm₁ : Vm} {E : String} {k : ClassId} (hW : s.WarmedH vm₁) (h : (T.setVm vm₁).vm.findClass E = some k) : s.vm.findClass E = some k := by
  have h1 : vm₁.findClass E = some k := h
  rw [hW.alike.findClass] at h1
  exact h1
/-- the method's frame g, with q thrown over it -/
def vx_W (p : Program) (l : Launch) (e : Env) (R : Room) (s : State) (m : MethodId) (args : Array Value) (below : List Frame) (meth : Method) (c : Code) (H : Heap) (locs : List Loc) (cells slots : Nat) (Q : State → Prop) (g : JFrame) (q : Addr) : Prop :=
  ∀ T : State, T.heap = H → Stand p l e R s m args below meth c T locs cells slots → ∃ t, Steps p.tables e below ((T.setTop g).pushFrame (.throwing q)) t ∧ Q t
def vx_Run (p : Program) (l : Launch) (e : Env) (R : Room) (s : State) (m : MethodId) (args : Array Value) (below : List Frame) (meth : Method) (c : Code) (H : Heap) (locs : List Loc) (cells slots mc ms : Nat) (g : JFrame) (rest : List Value) (Qa : State → Outcome → State → Prop) (XC : String → State → State → Prop) (free : Addr → Prop) : Prop :=
  ∀ T : State, T.heap = H → Stand p l e R s m args below meth c T locs cells slots →
    (∃ (v : Option Value) (st₀ t T' : State) (L : List Loc), st₀.heap = H ∧ Stand p l e R s m args below meth c T' (locs ++ L) (cells + mc) (slots + ms) ∧ (∀ q ∈ L, free q.base) ∧ T'.heap = t.heap ∧ T'.vm = t.vm ∧ Qa st₀ (.returned v) t ∧
      Goes p e below T g T' { g with pc := g.pc + 3, stack := v.toList ++ rest }) ∨
    (∃ (q : Addr) (st₀ t T' : State) (L : List Loc) (E : String) (ce : Cell), st₀.heap = H ∧ Stand p l e R s m args below meth c T' (locs ++ L) (cells + mc) (slots + ms) ∧ (∀ z ∈ L, free z.base) ∧ T'.heap = t.heap ∧ T'.vm = t.vm ∧ XC E st₀ t ∧ t.heap[q]? = some ce ∧ ce.vm = .none ∧ s.vm.findClass E = some ce.cls ∧
      Steps p.tables e below (T.setTop g) ((T'.setTop { g with stack := rest }).pushFrame (.throwing q)))
def vx_X {S : Type} (px : S → Prop) (B : String → S → State → Prop) (A : Nat → Prop) : String → State → State → Prop := fun E st t => ∃ u : S, px u ∧ B E u t ∧ va_F A st t
section Runs
variable {p : Program} {l : Launch} {e : Env} {R : Room} {s : State} {m : MethodId} {args : Array Value} {below : List Frame} {meth : Method} {c : Code} {H : Heap} {locs : List Loc} {cells slots : Nat}
variable {y : MethodName} {bytes cc : ByteArray} {maxL nL mc ms n index : Nat} {ret : Option FieldType} {ws : List Cond} {rm : Room} {Pc : Array Value → State → Prop} {Qc : Array Value → State → Outcome → State → Prop} {XC : String → State → State → Prop} {free : Addr → Prop} {Ts : List Cond} {own C : String} {b : Addr} {As rest : List Value} {g : JFrame}
theorem vx_callBack (cb : CallB R s args own index y bytes maxL ret ws rm mc ms n) (hM : vx_Met l y ws rm Pc Qc XC mc ms free) (hbl : FrameBlind Pc) : vx_Back l R p e below s args y 3 8 (PreOf R mc ms Pc) (PostOf Qc mc ms free) (vx_Post XC mc ms free) := by
  obtain ⟨hrc, hrs, hfr, hlo, hws, hcw, -, hini, -⟩ := cb
  exact vx_back (bytes := bytes) (maxL := maxL) (ret := ret) hM hbl hrc hrs hfr hlo hws hcw (fun a' U hW => word_at hW (Or.inl (by first | rfl | simp [Cond.onTables, Cond.keeps, Cond.steady])) hini)
theorem vx_runV (S : CallFix p m c cc nL s args Ts own) (hM : vx_Met l y ws rm Pc Qc XC mc ms free) (cw : CallW R s args own C index y bytes maxL ret ws rm mc ms n) (hp : PreV s H C b Pc As)
    (hg : g.method = m) (hn : As.length = n) (hsize : g.locals.size = nL) (hstack : g.stack = As.reverse ++ .ref b :: rest) (hW : 2 * g.monitorRoom + (rest.map fun v => v.category).sum ≤ 8) (hdg : decode cc g.pc = .ok (.invokevirtual index, 3)) (hf : cells + mc ≤ R.cells ∧ slots + ms ≤ R.slots) :
    vx_Run p l e R s m args below meth c H locs cells slots mc ms g rest (Qc (Value.ref b :: As).toArray) XC free := by
  have hK : vx_Back l R p e below s args y 3 8 (PreOf R mc ms Pc) (PostOf Qc mc ms free) (vx_Post XC mc ms free) := vx_callBack cw.1 hM hp.1
  obtain ⟨⟨-, -, -, -, -, -, hcode, -, hy, hlen, hl⟩, hin, hse⟩ := cw
  obtain ⟨hx, hb, hml, ho, -⟩ := S
  obtain ⟨-, ⟨cellB, hcB, hoB, hclB⟩, hPc⟩ := hp
  intro T hT X
  rcases vx_callV X hx (C := C) (bytes := bytes) (maxL := maxL) (ret := ret) ho hl hin hse hcode hy hK (by rw [hT]; exact hcB) hoB hclB hg (hsize.trans hml.symm) (argsL := As) (rest := rest) (fun sig h => hn.trans (hlen sig h)) hstack hW (by rw [hb]; exact hdg)
    (fun vm₁ hW₁ => ⟨hf.1, hf.2, hPc (T.setVm vm₁) hT hW₁⟩) with ⟨v, vm₁, ⟨U', l2, c2, s2⟩, hW₁, X', ⟨g', mk, t, L, e1, e2, hq, h1, hL, h2, h3⟩, st⟩ | ⟨q, vm₁, ⟨U', l2, c2, s2⟩, hW₁, X', ⟨g', mk, t, L, E, ce, e1, e2, hq, hce, hcv, hcl, h1, hL, h2, h3⟩, st⟩
  · dsimp only [Pt.U, Pt.locs, Pt.cells, Pt.slots] at X' e1 e2 h1 h2 h3 st
    subst h1; subst h2; subst h3
    exact Or.inl ⟨v, (T.setVm vm₁).calling g' mk (Value.ref b :: As).toArray, t, U', L, hT, X', hL, e1, e2, hq, st⟩
  · dsimp only [Pt.U, Pt.locs, Pt.cells, Pt.slots] at X' e1 e2 h1 h2 h3 st hcl
    subst h1; subst h2; subst h3
    exact Or.inr ⟨q, (T.setVm vm₁).calling g' mk (Value.ref b :: As).toArray, t, U', L, E, ce, hT, X', hL, e1, e2, hq, hce, hcv, vx_cls hW₁ hcl, st⟩
theorem vx_runS (S : CallFix p m c cc nL s args Ts own) (hM : vx_Met l y ws rm Pc Qc XC mc ms free) (cw : CallB R s args own index y bytes maxL ret ws rm mc ms n ∧ (Cond.static y).before args s = true) (hp : PreS s H Pc As)
    (hg : g.method = m) (hn : As.length = n) (hsize : g.locals.size = nL) (hstack : g.stack = As.reverse ++ rest) (hW : 2 * g.monitorRoom + (rest.map fun v => v.category).sum ≤ 8) (hdg : decode cc g.pc = .ok (.invokestatic index, 3)) (hf : cells + mc ≤ R.cells ∧ slots + ms ≤ R.slots) :
    vx_Run p l e R s m args below meth c H locs cells slots mc ms g rest (Qc As.toArray) XC free := by
  have hK : vx_Back l R p e below s args y 3 8 (PreOf R mc ms Pc) (PostOf Qc mc ms free) (vx_Post XC mc ms free) := vx_callBack cw.1 hM hp.1
  obtain ⟨⟨-, -, -, -, -, -, hcode, hini, hy, hlen, hl⟩, hstt⟩ := cw
  obtain ⟨hx, hb, hml, ho, -⟩ := S
  intro T hT X
  rcases vx_callS X hx (bytes := bytes) (maxL := maxL) (ret := ret) ho hl hstt hini hcode hy hK hg (hsize.trans hml.symm) (argsL := As) (rest := rest) (fun sig h => hn.trans (hlen sig h)) hstack hW (by rw [hb]; exact hdg)
    (fun vm₁ hW₁ => ⟨hf.1, hf.2, hp.2 (T.setVm vm₁) hT hW₁⟩) with ⟨v, vm₁, ⟨U', l2, c2, s2⟩, hW₁, X', ⟨g', mk, t, L, e1, e2, hq, h1, hL, h2, h3⟩, st⟩ | ⟨q, vm₁, ⟨U', l2, c2, s2⟩, hW₁, X', ⟨g', mk, t, L, E, ce, e1, e2, hq, hce, hcv, hcl, h1, hL, h2, h3⟩, st⟩
  · dsimp only [Pt.U, Pt.locs, Pt.cells, Pt.slots] at X' e1 e2 h1 h2 h3 st
    subst h1; subst h2; subst h3
    exact Or.inl ⟨v, (T.setVm vm₁).calling g' mk As.toArray, t, U', L, hT, X', hL, e1, e2, hq, st⟩
  · dsimp only [Pt.U, Pt.locs, Pt.cells, Pt.slots] at X' e1 e2 h1 h2 h3 st hcl
    subst h1; subst h2; subst h3
    exact Or.inr ⟨q, (T.setVm vm₁).calling g' mk As.toArray, t, U', L, E, ce, hT, X', hL, e1, e2, hq, hce, hcv, vx_cls hW₁ hcl, st⟩
end Runs
section Rows
variable {p : Program} {l : Launch} {e : Env} {R : Room} {s : State} {m : MethodId} {args : Array Value} {below : List Frame} {meth : Method} {c : Code} {H : Heap} {locs : List Loc} {cells slots : Nat} {Q : State → Prop}
variable {mc ms : Nat} {free : Addr → Prop} {A0 A1 : Nat → Prop} {H0 : Heap} {a : Array Value} {pc : Nat} {ls : Array Slot} {st0 rest : List Value}
theorem vx_keep {st₀ t T' : State} {L : List Loc} (h0 : st₀.heap = H) (e1 : T'.heap = t.heap) (hS : va_S A0 H0 H locs) (hA : ∀ q, q < H.size → A1 q → A0 q) (hf : ∀ q, free q → A0 q) (hL : ∀ q ∈ L, free q.base) (hF : va_F A1 st₀ t) :
    H.size ≤ T'.heap.size ∧ (∀ q : Nat, q < H.size → ¬ A1 q → T'.heap[q]? = H[q]?) ∧ va_S A0 H0 T'.heap (locs ++ L) := by
  obtain ⟨hz, hk⟩ := hF
  rw [h0] at hz hk
  exact ⟨by rw [e1]; exact hz, fun q h1 h2 => by rw [e1]; exact hk q h1 h2,
    ⟨Nat.le_trans hS.1 (by rw [e1]; exact hz), fun q h1 h2 => by rw [e1, hk q (Nat.lt_of_lt_of_le h1 hS.1) (fun z => h2 (hA q (Nat.lt_of_lt_of_le h1 hS.1) z))]; exact hS.2.1 q h1 h2, fun q hq => by
      rcases List.mem_append.mp hq with h | h
      · exact hS.2.2 q h
      · exact hf _ (hL q h)⟩⟩
theorem vx_calli {S SX : Type} {post : Int32 → S → Prop} {px : SX → Prop} {B : S → State → Prop} {BX : String → SX → State → Prop} {AX : Nat → Prop} (hr : vx_Run p l e R s m args below meth c H locs cells slots mc ms (F0 m pc ls st0) rest (va_Qi post B A1 a) (vx_X px BX AX) free) (hS : va_S A0 H0 H locs) (hA : ∀ q, q < H.size → A1 q → A0 q) (hf : ∀ q, free q → A0 q) (hAX : ∀ q, q < H.size → AX q → A0 q)
    (kx : ∀ (E : String) (ce : Cell) (q9 : Addr) (u : SX) (t : State) (H1 : Heap) (locs1 : List Loc), t.heap = H1 → s.vm.Alike t.vm → px u → BX E u t → H.size ≤ H1.size → (∀ q : Nat, q < H.size → ¬ AX q → H1[q]? = H[q]?) → va_S A0 H0 H1 locs1 → H1[q9]? = some ce → ce.vm = .none → s.vm.findClass E = some ce.cls → vx_W p l e R s m args below meth c H1 locs1 (cells + mc) (slots + ms) Q (F0 m pc ls rest) q9)
    (kk : ∀ (r : Int32) (u : S) (t : State) (H1 : Heap) (locs1 : List Loc), t.heap = H1 → s.vm.Alike t.vm → post r u → B u t → H.size ≤ H1.size → (∀ q : Nat, q < H.size → ¬ A1 q → H1[q]? = H[q]?) → va_S A0 H0 H1 locs1 → W p l e R s m args below meth c H1 locs1 (cells + mc) (slots + ms) Q (F0 m (pc + 3) ls (.int r :: rest))) : W p l e R s m args below meth c H locs cells slots Q (F0 m pc ls st0) := by
  intro T hT X
  rcases hr T hT X with ⟨v, st₀, t, T', L, h0, X', hL, e1, e2, ⟨⟨r, u, hv, hp, hb⟩, hF⟩, st⟩ | ⟨q, st₀, t, T', L, E, ce, h0, X', hL, e1, e2, ⟨u, hp, hb, hF⟩, hce, hcv, hcl, st⟩
  · cases hv
    obtain ⟨k1, k2, k3⟩ := vx_keep h0 e1 hS hA hf hL hF
    obtain ⟨t2, a1, b1⟩ := kk r u t T'.heap (locs ++ L) e1.symm (by rw [← e2]; exact X'.warmed.alike) hp hb k1 k2 k3 T' rfl X'
    exact ⟨t2, st t2 a1, b1⟩
  · obtain ⟨k1, k2, k3⟩ := vx_keep h0 e1 hS hAX hf hL hF
    obtain ⟨t2, a1, b1⟩ := kx E ce q u t T'.heap (locs ++ L) e1.symm (by rw [← e2]; exact X'.warmed.alike) hp hb k1 k2 k3 (by rw [e1]; exact hce) hcv hcl T' rfl X'
    exact ⟨t2, st.trans a1, b1⟩
theorem vx_calll {S SX : Type} {post : Int64 → S → Prop} {px : SX → Prop} {B : S → State → Prop} {BX : String → SX → State → Prop} {AX : Nat → Prop} (hr : vx_Run p l e R s m args below meth c H locs cells slots mc ms (F0 m pc ls st0) rest (va_Ql post B A1 a) (vx_X px BX AX) free) (hS : va_S A0 H0 H locs) (hA : ∀ q, q < H.size → A1 q → A0 q) (hf : ∀ q, free q → A0 q) (hAX : ∀ q, q < H.size → AX q → A0 q)
    (kx : ∀ (E : String) (ce : Cell) (q9 : Addr) (u : SX) (t : State) (H1 : Heap) (locs1 : List Loc), t.heap = H1 → s.vm.Alike t.vm → px u → BX E u t → H.size ≤ H1.size → (∀ q : Nat, q < H.size → ¬ AX q → H1[q]? = H[q]?) → va_S A0 H0 H1 locs1 → H1[q9]? = some ce → ce.vm = .none → s.vm.findClass E = some ce.cls → vx_W p l e R s m args below meth c H1 locs1 (cells + mc) (slots + ms) Q (F0 m pc ls rest) q9)
    (kk : ∀ (r : Int64) (u : S) (t : State) (H1 : Heap) (locs1 : List Loc), t.heap = H1 → s.vm.Alike t.vm → post r u → B u t → H.size ≤ H1.size → (∀ q : Nat, q < H.size → ¬ A1 q → H1[q]? = H[q]?) → va_S A0 H0 H1 locs1 → W p l e R s m args below meth c H1 locs1 (cells + mc) (slots + ms) Q (F0 m (pc + 3) ls (.long r :: rest))) : W p l e R s m args below meth c H locs cells slots Q (F0 m pc ls st0) := by
  intro T hT X
  rcases hr T hT X with ⟨v, st₀, t, T', L, h0, X', hL, e1, e2, ⟨⟨r, u, hv, hp, hb⟩, hF⟩, st⟩ | ⟨q, st₀, t, T', L, E, ce, h0, X', hL, e1, e2, ⟨u, hp, hb, hF⟩, hce, hcv, hcl, st⟩
  · cases hv
    obtain ⟨k1, k2, k3⟩ := vx_keep h0 e1 hS hA hf hL hF
    obtain ⟨t2, a1, b1⟩ := kk r u t T'.heap (locs ++ L) e1.symm (by rw [← e2]; exact X'.warmed.alike) hp hb k1 k2 k3 T' rfl X'
    exact ⟨t2, st t2 a1, b1⟩
  · obtain ⟨k1, k2, k3⟩ := vx_keep h0 e1 hS hAX hf hL hF
    obtain ⟨t2, a1, b1⟩ := kx E ce q u t T'.heap (locs ++ L) e1.symm (by rw [← e2]; exact X'.warmed.alike) hp hb k1 k2 k3 (by rw [e1]; exact hce) hcv hcl T' rfl X'
    exact ⟨t2, st.trans a1, b1⟩
theorem vx_callf {S SX : Type} {post : UInt32 → S → Prop} {px : SX → Prop} {B : S → State → Prop} {BX : String → SX → State → Prop} {AX : Nat → Prop} (hr : vx_Run p l e R s m args below meth c H locs cells slots mc ms (F0 m pc ls st0) rest (va_Qf post B A1 a) (vx_X px BX AX) free) (hS : va_S A0 H0 H locs) (hA : ∀ q, q < H.size → A1 q → A0 q) (hf : ∀ q, free q → A0 q) (hAX : ∀ q, q < H.size → AX q → A0 q)
    (kx : ∀ (E : String) (ce : Cell) (q9 : Addr) (u : SX) (t : State) (H1 : Heap) (locs1 : List Loc), t.heap = H1 → s.vm.Alike t.vm → px u → BX E u t → H.size ≤ H1.size → (∀ q : Nat, q < H.size → ¬ AX q → H1[q]? = H[q]?) → va_S A0 H0 H1 locs1 → H1[q9]? = some ce → ce.vm = .none → s.vm.findClass E = some ce.cls → vx_W p l e R s m args below meth c H1 locs1 (cells + mc) (slots + ms) Q (F0 m pc ls rest) q9)
    (kk : ∀ (r : UInt32) (u : S) (t : State) (H1 : Heap) (locs1 : List Loc), t.heap = H1 → s.vm.Alike t.vm → post r u → B u t → H.size ≤ H1.size → (∀ q : Nat, q < H.size → ¬ A1 q → H1[q]? = H[q]?) → va_S A0 H0 H1 locs1 → W p l e R s m args below meth c H1 locs1 (cells + mc) (slots + ms) Q (F0 m (pc + 3) ls (.float r :: rest))) : W p l e R s m args below meth c H locs cells slots Q (F0 m pc ls st0) := by
  intro T hT X
  rcases hr T hT X with ⟨v, st₀, t, T', L, h0, X', hL, e1, e2, ⟨⟨r, u, hv, hp, hb⟩, hF⟩, st⟩ | ⟨q, st₀, t, T', L, E, ce, h0, X', hL, e1, e2, ⟨u, hp, hb, hF⟩, hce, hcv, hcl, st⟩
  · cases hv
    obtain ⟨k1, k2, k3⟩ := vx_keep h0 e1 hS hA hf hL hF
    obtain ⟨t2, a1, b1⟩ := kk r u t T'.heap (locs ++ L) e1.symm (by rw [← e2]; exact X'.warmed.alike) hp hb k1 k2 k3 T' rfl X'
    exact ⟨t2, st t2 a1, b1⟩
  · obtain ⟨k1, k2, k3⟩ := vx_keep h0 e1 hS hAX hf hL hF
    obtain ⟨t2, a1, b1⟩ := kx E ce q u t T'.heap (locs ++ L) e1.symm (by rw [← e2]; exact X'.warmed.alike) hp hb k1 k2 k3 (by rw [e1]; exact hce) hcv hcl T' rfl X'
    exact ⟨t2, st.trans a1, b1⟩
theorem vx_calld {S SX : Type} {post : UInt64 → S → Prop} {px : SX → Prop} {B : S → State → Prop} {BX : String → SX → State → Prop} {AX : Nat → Prop} (hr : vx_Run p l e R s m args below meth c H locs cells slots mc ms (F0 m pc ls st0) rest (va_Qd post B A1 a) (vx_X px BX AX) free) (hS : va_S A0 H0 H locs) (hA : ∀ q, q < H.size → A1 q → A0 q) (hf : ∀ q, free q → A0 q) (hAX : ∀ q, q < H.size → AX q → A0 q)
    (kx : ∀ (E : String) (ce : Cell) (q9 : Addr) (u : SX) (t : State) (H1 : Heap) (locs1 : List Loc), t.heap = H1 → s.vm.Alike t.vm → px u → BX E u t → H.size ≤ H1.size → (∀ q : Nat, q < H.size → ¬ AX q → H1[q]? = H[q]?) → va_S A0 H0 H1 locs1 → H1[q9]? = some ce → ce.vm = .none → s.vm.findClass E = some ce.cls → vx_W p l e R s m args below meth c H1 locs1 (cells + mc) (slots + ms) Q (F0 m pc ls rest) q9)
    (kk : ∀ (r : UInt64) (u : S) (t : State) (H1 : Heap) (locs1 : List Loc), t.heap = H1 → s.vm.Alike t.vm → post r u → B u t → H.size ≤ H1.size → (∀ q : Nat, q < H.size → ¬ A1 q → H1[q]? = H[q]?) → va_S A0 H0 H1 locs1 → W p l e R s m args below meth c H1 locs1 (cells + mc) (slots + ms) Q (F0 m (pc + 3) ls (.double r :: rest))) : W p l e R s m args below meth c H locs cells slots Q (F0 m pc ls st0) := by
  intro T hT X
  rcases hr T hT X with ⟨v, st₀, t, T', L, h0, X', hL, e1, e2, ⟨⟨r, u, hv, hp, hb⟩, hF⟩, st⟩ | ⟨q, st₀, t, T', L, E, ce, h0, X', hL, e1, e2, ⟨u, hp, hb, hF⟩, hce, hcv, hcl, st⟩
  · cases hv
    obtain ⟨k1, k2, k3⟩ := vx_keep h0 e1 hS hA hf hL hF
    obtain ⟨t2, a1, b1⟩ := kk r u t T'.heap (locs ++ L) e1.symm (by rw [← e2]; exact X'.warmed.alike) hp hb k1 k2 k3 T' rfl X'
    exact ⟨t2, st t2 a1, b1⟩
  · obtain ⟨k1, k2, k3⟩ := vx_keep h0 e1 hS hAX hf hL hF
    obtain ⟨t2, a1, b1⟩ := kx E ce q u t T'.heap (locs ++ L) e1.symm (by rw [← e2]; exact X'.warmed.alike) hp hb k1 k2 k3 (by rw [e1]; exact hce) hcv hcl T' rfl X'
    exact ⟨t2, st.trans a1, b1⟩
theorem vx_callv {S SX : Type} {post : S → Prop} {px : SX → Prop} {B : S → State → Prop} {BX : String → SX → State → Prop} {AX : Nat → Prop} (hr : vx_Run p l e R s m args below meth c H locs cells slots mc ms (F0 m pc ls st0) rest (va_Qv post B A1 a) (vx_X px BX AX) free) (hS : va_S A0 H0 H locs) (hA : ∀ q, q < H.size → A1 q → A0 q) (hf : ∀ q, free q → A0 q) (hAX : ∀ q, q < H.size → AX q → A0 q)
    (kx : ∀ (E : String) (ce : Cell) (q9 : Addr) (u : SX) (t : State) (H1 : Heap) (locs1 : List Loc), t.heap = H1 → s.vm.Alike t.vm → px u → BX E u t → H.size ≤ H1.size → (∀ q : Nat, q < H.size → ¬ AX q → H1[q]? = H[q]?) → va_S A0 H0 H1 locs1 → H1[q9]? = some ce → ce.vm = .none → s.vm.findClass E = some ce.cls → vx_W p l e R s m args below meth c H1 locs1 (cells + mc) (slots + ms) Q (F0 m pc ls rest) q9)
    (kk : ∀ (u : S) (t : State) (H1 : Heap) (locs1 : List Loc), t.heap = H1 → s.vm.Alike t.vm → post u → B u t → H.size ≤ H1.size → (∀ q : Nat, q < H.size → ¬ A1 q → H1[q]? = H[q]?) → va_S A0 H0 H1 locs1 → W p l e R s m args below meth c H1 locs1 (cells + mc) (slots + ms) Q (F0 m (pc + 3) ls (rest))) : W p l e R s m args below meth c H locs cells slots Q (F0 m pc ls st0) := by
  intro T hT X
  rcases hr T hT X with ⟨v, st₀, t, T', L, h0, X', hL, e1, e2, ⟨⟨u, hv, hp, hb⟩, hF⟩, st⟩ | ⟨q, st₀, t, T', L, E, ce, h0, X', hL, e1, e2, ⟨u, hp, hb, hF⟩, hce, hcv, hcl, st⟩
  · cases hv
    obtain ⟨k1, k2, k3⟩ := vx_keep h0 e1 hS hA hf hL hF
    obtain ⟨t2, a1, b1⟩ := kk u t T'.heap (locs ++ L) e1.symm (by rw [← e2]; exact X'.warmed.alike) hp hb k1 k2 k3 T' rfl X'
    exact ⟨t2, st t2 a1, b1⟩
  · obtain ⟨k1, k2, k3⟩ := vx_keep h0 e1 hS hAX hf hL hF
    obtain ⟨t2, a1, b1⟩ := kx E ce q u t T'.heap (locs ++ L) e1.symm (by rw [← e2]; exact X'.warmed.alike) hp hb k1 k2 k3 (by rw [e1]; exact hce) hcv hcl T' rfl X'
    exact ⟨t2, st.trans a1, b1⟩
/-- caught by the row x of this method's table; the rows ahead don't take it -/
theorem vx_catch {own name : String} {E : String} {ce : Cell} {q : Addr} (hown : s.vm.findClass own = some m.cls) (pre : List ExceptionTableEntry) (x : ExceptionTableEntry) (suf : List ExceptionTableEntry) (hsplit : c.exceptionTable.toList = pre ++ x :: suf)
    (hpass : ∀ z ∈ pre, covers z pc = false ∨ (z.catchType ≠ 0 ∧ ∃ nm : String, (Cond.classLink own z.catchType nm).before args s = true ∧ va_Nc E nm s)) (hx : covers x pc = true) (h0 : x.catchType ≠ 0)
    (hlink : (Cond.classLink own x.catchType name).before args s = true) (hcast : (Cond.castable E name).before args s = true) (hcell : H[q]? = some ce) (hv : ce.vm = .none) (hcl : s.vm.findClass E = some ce.cls)
    (kk : W p l e R s m args below meth c H locs cells slots Q (F0 m x.handlerPc ls [.ref q])) : vx_W p l e R s m args below meth c H locs cells slots Q (F0 m pc ls rest) q := by
  intro T hT X
  have hpl : e.platform.magicAccessors = ({} : Platform).magicAccessors := by rw [X.admits.platform]
  obtain ⟨c3, c4, hc3, hc4, hasg⟩ := Cond.castable_spec hcast
  cases Option.some.inj (hc3.symm.trans hcl)
  obtain ⟨c5, hc5, hcl5⟩ := Cond.classLink_spec hown hlink e.platform hpl
  cases Option.some.inj (hc4.symm.trans hc5)
  obtain ⟨vm', X', st⟩ := X.thenCaughtThrough q (g := F0 m pc ls rest) rfl (Steps.refl _) (by rw [hT]; exact hcell) (by rw [hv]; rfl) (by obtain ⟨k9, h9, -⟩ := Vm.findClass_spec hcl; exact ⟨k9, h9⟩) pre x suf hsplit
    (fun z hz => by
      rcases hpass z hz with h | ⟨hz0, nm, hl1, hn1⟩
      · exact Or.inl h
      · obtain ⟨c6, hc6, hcl6⟩ := Cond.classLink_spec hown hl1 e.platform hpl
        obtain ⟨a8, b8, h1, h2, h3⟩ := hn1
        cases Option.some.inj (h1.symm.trans hcl)
        cases Option.some.inj (h2.symm.trans hc6)
        exact Or.inr ⟨hz0, _, hcl6, h3⟩) hx (Or.inr ⟨h0, c4, hcl5, hasg⟩)
  obtain ⟨t, a1, b1⟩ := kk (T.setVm vm') hT X'
  exact ⟨t, st.trans a1, b1⟩
end Rows
section Ends
variable {p : Program} {l : Launch} {e : Env} {R : Room} {s : State} {m : MethodId} {args : Array Value} {below : List Frame} {meth : Method} {c : Code} {H : Heap} {locs : List Loc} {cells slots : Nat} {Q : State → Prop}
variable {mc ms : Nat} {free : Addr → Prop} {A0 A1 : Nat → Prop} {H0 : Heap} {a : Array Value} {ls : Array Slot} {st0 rest : List Value}
variable {Qc : Array Value → State → Outcome → State → Prop} {XC : String → State → State → Prop}
/-- what a body that may throw owes at its end -/
def vx_MQ (below : List Frame) (Qc : Array Value → State → Outcome → State → Prop) (XC : String → State → State → Prop) (a : Array Value) (s : State) (mc ms : Nat) (free : Addr → Prop) : State → Prop := fun t =>
  ∃ o, t.status = .running ∧ Ended t below o ∧ vx_Q Qc XC mc ms free a s o t
theorem vx_ret {g : JFrame} {mc ms : Nat} (k : W p l e R s m args below meth c H locs cells slots (MQ below Qc args s mc ms free) g) : W p l e R s m args below meth c H locs cells slots (vx_MQ below Qc XC args s mc ms free) g := by
  intro T hT X
  obtain ⟨t, a1, o, b1, b2, b3, b4⟩ := k T hT X
  exact ⟨t, a1, o, b1, b2, Or.inl ⟨b3, b4⟩⟩
/-- not caught here: it goes on to the caller -/
theorem vx_widen {g : JFrame} {q : Addr} {k n : Nat} (h1 : cells ≤ k) (h2 : slots ≤ n) (kk : vx_W p l e R s m args below meth c H locs k n Q g q) : vx_W p l e R s m args below meth c H locs cells slots Q g q := fun T hT X => kk T hT (stand_widen X h1 h2)
theorem vx_out {pc : Nat} {E : String} {ce : Cell} {q : Addr} {mc ms : Nat} (hout : ∀ x ∈ c.exceptionTable.toList, covers x pc = false) (hlocks : meth.locks = false) (hcell : H[q]? = some ce) (hv : ce.vm = .none) (hcl : s.vm.findClass E = some ce.cls)
    (hx : ∀ t : State, t.heap = H → s.vm.Alike t.vm → XC E s t) (hf : ∀ z ∈ locs, free z.base) (hc : cells ≤ mc) (hs : slots ≤ ms) :
    vx_W p l e R s m args below meth c H locs cells slots (vx_MQ below Qc XC args s mc ms free) (F0 m pc ls rest) q := by
  intro T hT X
  obtain ⟨st1, hrun, hend, hW, hsm⟩ := X.leaveThrown q (g := F0 m pc ls rest) rfl rfl rfl hout hlocks
  have hcell9 : (T.setFrames (.throwing q :: below)).heap[q]? = some ce := by
    show T.heap[q]? = some ce
    rw [hT]; exact hcell
  exact ⟨_, st1, .threw q, hrun, hend, Or.inr ⟨q, rfl, E, ce, locs, hx _ hT hW.alike, hcell9, hv, hcl, hW, hsm.mono hc hs, hf⟩⟩
theorem vx_frame {U : State} {k n : Nat} (h : s.sameButNew ({ U with vm := s.vm } : State) locs k n) : s.heap.size ≤ U.heap.size ∧ ∀ q : Nat, q < s.heap.size → (∀ z ∈ locs, z.base ≠ q) → U.heap[q]? = s.heap[q]? := by
  obtain ⟨-, h2, -, -, -, h6⟩ := h
  refine ⟨h2, fun q hq hz => ?_⟩
  obtain ⟨c9, e1, e2, e3, e4⟩ := h6 q _ (Array.getElem?_eq_getElem hq)
  have hs : c9.slots = (s.heap[q]).slots := Array.ext_getElem? fun i => e4 i fun hm => hz _ hm rfl
  have h9 : c9 = s.heap[q] := by
    rw [hs] at e2
    exact e2
  have e5 : U.heap[q]? = some c9 := e1
  rw [e5, h9, Array.getElem?_eq_getElem hq]
/-- the words of a throw but the four that speak of the heap -/
def vx_no (w : Cond) : Bool := decide (w ≠ .isRef (.static Bundle.tN "UNASSIGNED_STACK" Bundle.steD)) && decide (w ≠ .isRef (.static Bundle.tN "SUPPRESSED_SENTINEL" Bundle.listD)) && decide (w ≠ .laysStatic Bundle.tN "UNASSIGNED_STACK" Bundle.steD) && decide (w ≠ .laysStatic Bundle.tN "SUPPRESSED_SENTINEL" Bundle.listD)
def vx_at0 (own : String) (ic : Nat) (X : String) (names : List String) : List Cond := (Bundle.ownAtoms0 own ic X names).filter vx_no
def vx_atS (own : String) (ic : Nat) (X : String) (names : List String) : List Cond := (Bundle.ownAtoms own ic X names).filter vx_no
/-- a word that the tables alone decide, or a good one -/
def vx_ot (w : Cond) : Bool := w.onTables || goodWord w
theorem vx_ot_at {args a' : Array Value} {s U : State} {w : Cond} (hW : s.WarmedH U.vm) (hvm : s.vm = U.vm) (hg : vx_ot w = true) (h : w.before args s = true) : w.before a' U = true := by
  simp only [vx_ot, Bool.or_eq_true] at hg
  rcases hg with hg | hg
  · exact va_tabs hg hvm h
  · exact word_at hW (good_of_word hg) h
/-- a list's words: the good ones out of the method's own list, the others by premises of their own -/
theorem vx_hat {args : Array Value} {s : State} {L B : List Cond} (h1 : ∀ w ∈ L.filter goodWord, w.before args s = true) (h2 : ∀ w ∈ L.filter (fun w => !goodWord w), w ∈ B) (h3 : ∀ w ∈ B, w.before args s = true) : ∀ w ∈ L, w.before args s = true := by
  intro w hw
  by_cases g : goodWord w = true
  · exact h1 w (List.mem_filter.mpr ⟨hw, g⟩)
  · refine h3 w (h2 w (List.mem_filter.mpr ⟨hw, ?_⟩))
    show (!goodWord w) = true
    cases hgw : goodWord w
    · rfl
    · exact absurd hgw g
theorem vx_c {args : Array Value} {s : State} {w : Cond} {B : List Cond} (h : w.before args s = true) (t : ∀ w ∈ B, w.before args s = true) : ∀ w' ∈ w :: B, w'.before args s = true := fun w' h' => (List.mem_cons.mp h').elim (fun e => by rw [e]; exact h) (t w')
theorem vx_n {args : Array Value} {s : State} : ∀ w ∈ ([] : List Cond), w.before args s = true := fun _ h => nomatch h
theorem vx_own {args : Array Value} {s : State} {L : List Cond} (h1 : ∀ w ∈ L.filter vx_no, w.before args s = true)
    (hU : (Cond.isRef (.static Bundle.tN "UNASSIGNED_STACK" Bundle.steD)).before args s = true) (hN : (Cond.isRef (.static Bundle.tN "SUPPRESSED_SENTINEL" Bundle.listD)).before args s = true)
    (lU : (Cond.laysStatic Bundle.tN "UNASSIGNED_STACK" Bundle.steD).before args s = true) (lN : (Cond.laysStatic Bundle.tN "SUPPRESSED_SENTINEL" Bundle.listD).before args s = true) : ∀ w ∈ L, w.before args s = true := by
  intro w hw
  by_cases e1 : w = .isRef (.static Bundle.tN "UNASSIGNED_STACK" Bundle.steD)
  · rw [e1]; exact hU
  · by_cases e2 : w = .isRef (.static Bundle.tN "SUPPRESSED_SENTINEL" Bundle.listD)
    · rw [e2]; exact hN
    · by_cases e3 : w = .laysStatic Bundle.tN "UNASSIGNED_STACK" Bundle.steD
      · rw [e3]; exact lU
      · by_cases e4 : w = .laysStatic Bundle.tN "SUPPRESSED_SENTINEL" Bundle.listD
        · rw [e4]; exact lN
        · exact h1 w (List.mem_filter.mpr ⟨hw, by unfold vx_no; rw [decide_eq_true e1, decide_eq_true e2, decide_eq_true e3, decide_eq_true e4]; rfl⟩)
/-- where a static field lies, its class's statics cell in H -/
def vx_L (C n d : String) (A : Nat → Prop) (U : State) (H : Heap) : Prop := ∃ (c : ClassId) (k : Class) (i : Nat) (f : Field) (a : Nat) (cell : Cell), U.vm.findClass C = some c ∧ U.fieldFound? C n d = some (c, k, i, f) ∧ f.isStatic = true ∧ k.statics = some a ∧ H[a]? = some cell ∧ cell.vm.isStatics = true ∧ cell.cls = c ∧ f.slot < cell.slots.size ∧ k.staticTypes[f.slot]? = some f.type ∧ ¬ A a
theorem vx_L.moved {C n d : String} {A : Nat → Prop} {u U : State} {H : Heap} (hvm : u.vm.Alike U.vm) (h : vx_L C n d A u H) : vx_L C n d A U H := by
  obtain ⟨c, k, i, f, a, cell, h1, h2, h3, h4, h5, h6, h7, h8, h9, h10⟩ := h
  obtain ⟨k', hi', he⟩ := State.fieldFound?_setVm hvm h2
  exact ⟨c, k', i, f, a, cell, by rw [hvm.findClass]; exact h1, hi', h3, by rw [he]; exact h4, h5, h6, h7, h8, by rw [he]; exact h9, h10⟩
theorem vx_L.kept {C n d : String} {A : Nat → Prop} {U : State} {H H1 : Heap} (h : vx_L C n d A U H) (hq : ∀ a : Nat, a < H.size → ¬ A a → H1[a]? = H[a]?) : vx_L C n d A U H1 := by
  obtain ⟨c, k, i, f, a, cell, h1, h2, h3, h4, h5, h6, h7, h8, h9, h10⟩ := h
  exact ⟨c, k, i, f, a, cell, h1, h2, h3, h4, by rw [hq a (Array.getElem?_eq_some_iff.mp h5).1 h10]; exact h5, h6, h7, h8, h9, h10⟩
theorem vx_L.narrow {C n d : String} {A B : Nat → Prop} {U : State} {H : Heap} (h : vx_L C n d A U H) (hAB : ∀ q, B q → A q) : vx_L C n d B U H := by
  obtain ⟨c, k, i, f, a, cell, h1, h2, h3, h4, h5, h6, h7, h8, h9, h10⟩ := h
  exact ⟨c, k, i, f, a, cell, h1, h2, h3, h4, h5, h6, h7, h8, h9, fun z => h10 (hAB _ z)⟩
theorem vx_L.word {C n d : String} {A : Nat → Prop} {s : State} {args : Array Value} (h : vx_L C n d A s s.heap) : (Cond.laysStatic C n d).before args s = true := by
  obtain ⟨c, k, i, f, a, cell, h1, h2, h3, h4, h5, h6, h7, h8, h9, -⟩ := h
  show (Cond.laysStatic C n d).holds args s none s [] = true
  exact Cond.laysStatic_of h1 h2 h3 h4 h5 h6 h7 h8 h9
/-- .. and what it holds: null or some reference -/
def vx_Zq (C n d : String) (A : Nat → Prop) (U : State) (H : Heap) : Prop := va_Zq C n d A U H ∧ vx_L C n d A U H
theorem vx_Zq.moved {C n d : String} {A : Nat → Prop} {u U : State} {H : Heap} (hvm : u.vm.Alike U.vm) (h : vx_Zq C n d A u H) : vx_Zq C n d A U H := ⟨va_Zq.moved hvm h.1, vx_L.moved hvm h.2⟩
theorem vx_Zq.kept {C n d : String} {A : Nat → Prop} {U : State} {H H1 : Heap} (h : vx_Zq C n d A U H) (hq : ∀ a : Nat, a < H.size → ¬ A a → H1[a]? = H[a]?) : vx_Zq C n d A U H1 := ⟨va_Zq.kept h.1 hq, vx_L.kept h.2 hq⟩
theorem vx_Zq.narrow {C n d : String} {A B : Nat → Prop} {U : State} {H : Heap} (h : vx_Zq C n d A U H) (hAB : ∀ q, B q → A q) : vx_Zq C n d B U H := ⟨va_Zq.narrow h.1 hAB, vx_L.narrow h.2 hAB⟩
theorem vx_Zqof {args : Array Value} {s : State} {C n d : String} {A : Nat → Prop} (hl : (Cond.laysStatic C n d).before args s = true) (hini : (Cond.initialized C).before args s = true) (h : (Cond.isRef (.static C n d)).before args s = true) (hA : ∀ a : Nat, a < s.heap.size → ¬ A a) : vx_Zq C n d A s s.heap := by
  refine ⟨va_Zqof hl hini h hA, ?_⟩
  obtain ⟨c, k, i, f, a, cell, h1, h2, h3, h4, h5, h6, h7, h8, h9⟩ := Cond.laysStatic_spec hl
  exact ⟨c, k, i, f, a, cell, h1, h2, h3, h4, h5, h6, h7, h8, h9, hA a (Array.getElem?_eq_some_iff.mp h5).1⟩
theorem vx_isRef {C n d : String} {v : Value} {A : Nat → Prop} {s : State} {args : Array Value} (h : va_Z C n d v A s s.heap) (hv : v.isRef = true) : (Cond.isRef (.static C n d)).before args s = true := by
  obtain ⟨cf, kf, fi, f, a, cell, h1, h2, h3, h4, h5, h6, h7, -⟩ := h
  have he : (Term.static C n d).eval args s none [] s = some v := by
    simp [Term.eval, State.fieldNamed?, h1, h2, h4, h5, h6, h7]
  simp only [Cond.before, Cond.holds, Cond.value, he]
  cases v <;> simp_all [Value.isRef]
theorem vx_isRefq {C n d : String} {A : Nat → Prop} {s : State} {args : Array Value} (h : va_Zq C n d A s s.heap) : (Cond.isRef (.static C n d)).before args s = true := by
  rcases h with h | ⟨t, h⟩
  · exact vx_isRef h rfl
  · exact vx_isRef h rfl
/-- the same frame, seen from here: as if the method were called anew in this heap -/
theorem vx_rebase {T : State} (X : Stand p l e R s m args below meth c T locs cells slots) {R' : Room} (hf : R'.frames ≤ R.frames) (hl : R'.locals ≤ R.locals) (hc : cells + R'.cells ≤ R.cells) (hs : slots + R'.slots ≤ R.slots) :
    Stand p l e R' ((T.setVm s.vm).setFrames (.invoking m args :: below)) m args below meth c T [] 0 0 := by
  have htop : (T.setVm s.vm).topJava?.isSome := X.here.top
  have hF : ((T.setVm s.vm).setFrames (.invoking m args :: below)).frames = .invoking m args :: below := State.frames_setFrames _ (State.cur_lt_of_top htop)
  obtain ⟨g₀, hg0⟩ := Option.isSome_iff_exists.mp htop
  obtain ⟨r, hr⟩ := State.topJava?_eq_some.mp hg0
  have hl9 : e.platform.stackLimits (T.setVm s.vm).me = e.platform.stackLimits s.me := X.limits
  have hb9 : (T.setVm s.vm).me.stackBytes = s.me.stackBytes := X.bytes
  refine ⟨X.admits, X.cas, X.clock, hF, ?_, X.hears, X.method, X.code, X.here, X.tail, X.warmed, ?_, ?_, ?_⟩
  · have h := X.room
    have hU : ((T.setVm s.vm).setFrames (.invoking m args :: below)).localsInUse = s.localsInUse := by
      rw [State.localsInUse_invoking hF (meth := meth) (c := c) X.method X.code, State.localsInUse_invoking X.frames X.method X.code]
    simp only [State.hasRoom, Bool.and_eq_true, decide_eq_true_eq] at h ⊢
    obtain ⟨⟨⟨⟨h1, h2, h3, h4, h5, h6⟩, h7⟩, h8⟩, h9⟩ := h
    rw [X.frames, List.length_cons] at h2 h3
    have q1 := X.heapSize
    have q2 := X.used
    simp only [hF, hU, List.length_cons, State.stackLimits_setFrames, State.stackBytes_setFrames, hl9, hb9]
    refine ⟨⟨⟨⟨by omega, by omega, by omega, by omega, by omega, h6⟩, ?_⟩, ?_⟩, X.book⟩
    · show T.heap.size + R'.cells ≤ e.platform.maxCells
      omega
    · show T.slotsUsed + R'.slots ≤ e.platform.maxSlots
      omega
  · rw [State.stackLimits_setFrames]; rfl
  · rw [State.stackBytes_setFrames]; rfl
  · refine ⟨?_, Nat.le_refl _, Nat.le_refl _, ?_, ?_, fun a c9 h9 => ⟨c9, h9, rfl, rfl, fun _ _ => rfl⟩⟩
    · obtain ⟨t, ht, -⟩ := State.frames_cons hr
      show T.setVm s.vm = { ((T.setVm s.vm).setFrames (.invoking m args :: below)).setFrames (T.setVm s.vm).frames with heap := T.heap, slotsUsed := T.slotsUsed }
      rw [State.setFrames_setFrames, State.setFrames_self ht]
      rfl
    · show T.slotsUsed = T.slotsUsed + ((T.heap.toList.drop T.heap.size).map (·.slots.size)).sum
      rw [List.drop_eq_nil_of_le (Nat.le_of_eq Array.length_toList)]
      rfl
    · show ((T.heap.toList.drop T.heap.size).map (·.slots.size)).sum ≤ 0
      rw [List.drop_eq_nil_of_le (Nat.le_of_eq Array.length_toList)]
      exact Nat.le_refl _
/-- 'throw new E()': new; dup; invokespecial; athrow -/
theorem vx_throw0 {cc : ByteArray} {pc : Nat} (hexec : p.tables.exec = Jvm.exec) (hb : c.code = cc) (hl : l.stackTraces = false) {own cls : String} {names : List String} {ik ic mc ms : Nat} {A : Nat → Prop}
    (hown : s.vm.findClass own = some m.cls) (hcls : Bundle.fit cls = true) (hnames : ∀ n ∈ names, Bundle.fit n = true)
    (hk : (Cond.classLink own ik cls).before args s = true) (hini : (Cond.initialized cls).before args s = true) (hat : ∀ w ∈ vx_at0 own ic cls names, w.before args s = true)
    (hgood : ∀ w ∈ Cond.classLink own ik cls :: Cond.initialized cls :: vx_at0 own ic cls names, vx_ot w = true)
    (hU : vx_Zq Bundle.tN "UNASSIGNED_STACK" Bundle.steD A s s.heap) (hN : vx_Zq Bundle.tN "SUPPRESSED_SENTINEL" Bundle.listD A s s.heap) (hS : va_S A s.heap H locs) (hsize : ls.size = c.maxLocals)
    (d0 : decode cc pc = .ok (.new ik, 3)) (d3 : decode cc (pc + 3) = .ok (.dup, 1)) (d4 : decode cc (pc + 4) = .ok (.invokespecial ic, 3)) (d7 : decode cc (pc + 7) = .ok (.athrow, 1))
    (hout : ∀ x ∈ c.exceptionTable.toList, covers x (pc + 7) = false)
    (hRframes : names.length + 3 < R.frames) (hRlocals : (rest.map fun v => v.category).sum + (13 * (names.length + 1) + 42) ≤ R.locals) (hRcells : cells + 1 ≤ R.cells) (hRslots : slots + 6 ≤ R.slots) (hlocks : meth.locks = false)
    (hx : ∀ t : State, s.vm.Alike t.vm → H.size ≤ t.heap.size → (∀ q : Nat, q < H.size → t.heap[q]? = H[q]?) → XC cls s t)
    (hf : ∀ z ∈ locs, free z.base) (hc : cells + 1 ≤ mc) (hs : slots + 6 ≤ ms) :
    W p l e R s m args below meth c H locs cells slots (vx_MQ below Qc XC args s mc ms free) (F0 m pc ls rest) := by
  intro T hT X
  have htr : e.platform.stackTraces = false := (show e.platform.stackTraces = l.stackTraces by rw [X.admits.platform]).trans hl
  have Y := vx_rebase X (R' := { frames := R.frames, locals := R.locals, cells := 1, slots := 6 }) (Nat.le_refl _) (Nat.le_refl _) hRcells hRslots
  obtain ⟨s', hA⟩ : ∃ z, z = (T.setVm s.vm).setFrames (.invoking m args :: below) := ⟨_, rfl⟩
  rw [← hA] at Y
  have hvm : s'.vm = s.vm := by rw [hA]; rfl
  have hhp : s'.heap = H := by rw [hA]; exact hT
  have hW0 : s.WarmedH s'.vm := by rw [hvm]; exact State.WarmedH.refl s
  have hat' : ∀ w ∈ vx_at0 own ic cls names, w.before args s' = true := fun w hw => vx_ot_at hW0 hvm.symm (hgood w (List.mem_cons_of_mem _ (List.mem_cons_of_mem _ hw))) (hat w hw)
  have hk' : (Cond.classLink own ik cls).before args s' = true := vx_ot_at hW0 hvm.symm (hgood _ List.mem_cons_self) hk
  have hini' : (Cond.initialized cls).before args s' = true := vx_ot_at hW0 hvm.symm (hgood _ (List.mem_cons_of_mem _ List.mem_cons_self)) hini
  have hU' : vx_Zq Bundle.tN "UNASSIGNED_STACK" Bundle.steD A s' s'.heap := by rw [hhp]; exact vx_Zq.moved hW0.alike (hU.kept hS.2.1)
  have hN' : vx_Zq Bundle.tN "SUPPRESSED_SENTINEL" Bundle.listD A s' s'.heap := by rw [hhp]; exact vx_Zq.moved hW0.alike (hN.kept hS.2.1)
  have h : ∀ w ∈ Bundle.ownAtoms0 own ic cls names, w.before args s' = true := vx_own hat' (vx_isRefq hU'.1) (vx_isRefq hN'.1) hU'.2.word hN'.2.word
  have hown' : s'.vm.findClass own = some m.cls := by rw [hvm]; exact hown
  have hins : (Cond.instantiable cls 6).before args s' = true := h _ (by simp [Bundle.ownAtoms0])
  obtain ⟨vm₁, cX, kX, hfX, hkX, -, -, X₁, st1⟩ := Y.newCold hexec (own := own) (C := cls) (index := ik) (n := 6) hown' hk' hins hini'
    (g := F0 m pc ls rest) rfl (by rw [hb]; exact d0) (Nat.le_refl _) (Nat.le_refl _)
  generalize hT1 : (T.setVm vm₁).pushCell { cls := cX, slots := kX.instanceTypes.map defaultValue, vm := .none } = T1 at X₁ st1
  have hcat : (Value.ref T.heap.size).category = 1 := rfl
  have hcellA : T1.heap[T.heap.size]? = some (freshCell cX kX) := by rw [← hT1]; exact State.heap_pushCell_size _ _
  have d3' : decode c.code (pc + 3) = .ok (.dup, 1) := by rw [hb]; exact d3
  obtain ⟨U, hsteps, hrun, hend, hW, hsame, ce, hce, hO⟩ := X₁.ctorThrow0 hexec htr (own := own) (cls := cls) (names := names) (ic := ic) hown' hcls hnames h (fun x hx => nomatch hx) hfX hkX hcellA (by rw [hhp, hT]; exact Nat.le_refl _)
    (g := { method := m, pc := pc + 4, locals := ls, stack := .ref T.heap.size :: .ref T.heap.size :: rest, locked := none }) rfl hsize rfl rfl (rest := rest) rfl
    (by rw [hb]; exact d4) (by rw [hb]; exact d7) hout hRframes (by simp only [List.map_cons, List.sum_cons, hcat]; omega) hlocks
  obtain ⟨f1, f2⟩ := vx_frame hsame
  rw [hhp] at f1 f2
  have hWs : s.WarmedH U.vm := State.WarmedH.trans hW0 hW
  have hcl : s.vm.findClass cls = some ce.cls := by
    have h9 := hO.cls
    rw [hvm] at h9
    exact h9
  have hall : s.sameButNew ({ U with vm := s.vm } : State) locs mc ms := by
    subst hA
    obtain ⟨e1, e2⟩ := hsame
    rw [State.setFrames_setFrames] at e1
    have h2 : (T.setVm s.vm).sameButNew ({ U with vm := s.vm } : State) [] (0 + 1) (0 + 6) := ⟨e1, e2⟩
    have h3 := X.same.trans h2
    rw [List.append_nil] at h3
    exact h3.mono hc hs
  refine ⟨U, ?_, .threw T.heap.size, hrun, hend, Or.inr ⟨T.heap.size, rfl, cls, ce, locs, hx U hWs.alike f1 (fun q hq => f2 q hq (fun z hz => nomatch hz)), hce, hO.vm, hcl, hWs, hall, hf⟩⟩
  refine st1 _ ?_
  show Steps p.tables e below (T1.setTop { method := m, pc := pc + 3, locals := ls, stack := .ref T.heap.size :: rest, locked := none }) _
  jvm_step X₁.here [X₁.here.top, hexec, d3', Value.category]
  exact hsteps
/-- 'throw new E("text")': new; dup; ldc; invokespecial; athrow -/
theorem vx_throwS {cc : ByteArray} {pc : Nat} (hexec : p.tables.exec = Jvm.exec) (hb : c.code = cc) (hl : l.stackTraces = false) {own cls text : String} {names : List String} {ik is ic mc ms sa : Nat} {A : Nat → Prop}
    (hown : s.vm.findClass own = some m.cls) (hcls : Bundle.fit cls = true) (hnames : ∀ n ∈ names, Bundle.fit n = true)
    (hk : (Cond.classLink own ik cls).before args s = true) (hini : (Cond.initialized cls).before args s = true) (hstr : vk_R own is text sa s) (hat : ∀ w ∈ vx_atS own ic cls names, w.before args s = true)
    (hgood : ∀ w ∈ Cond.classLink own ik cls :: Cond.initialized cls :: vx_atS own ic cls names, vx_ot w = true)
    (hU : vx_Zq Bundle.tN "UNASSIGNED_STACK" Bundle.steD A s s.heap) (hN : vx_Zq Bundle.tN "SUPPRESSED_SENTINEL" Bundle.listD A s s.heap) (hS : va_S A s.heap H locs) (hsize : ls.size = c.maxLocals)
    (d0 : decode cc pc = .ok (.new ik, 3)) (d3 : decode cc (pc + 3) = .ok (.dup, 1)) (d4 : decode cc (pc + 4) = .ok (.ldc is, 2)) (d6 : decode cc (pc + 6) = .ok (.invokespecial ic, 3)) (d9 : decode cc (pc + 9) = .ok (.athrow, 1))
    (hout : ∀ x ∈ c.exceptionTable.toList, covers x (pc + 9) = false)
    (hRframes : names.length + 3 < R.frames) (hRlocals : (rest.map fun v => v.category).sum + (13 * (names.length + 1) + 43) ≤ R.locals) (hRcells : cells + 1 ≤ R.cells) (hRslots : slots + 6 ≤ R.slots) (hlocks : meth.locks = false)
    (hx : ∀ t : State, s.vm.Alike t.vm → H.size ≤ t.heap.size → (∀ q : Nat, q < H.size → t.heap[q]? = H[q]?) → XC cls s t)
    (hf : ∀ z ∈ locs, free z.base) (hc : cells + 1 ≤ mc) (hs : slots + 6 ≤ ms) :
    W p l e R s m args below meth c H locs cells slots (vx_MQ below Qc XC args s mc ms free) (F0 m pc ls rest) := by
  intro T hT X
  have htr : e.platform.stackTraces = false := (show e.platform.stackTraces = l.stackTraces by rw [X.admits.platform]).trans hl
  have Y := vx_rebase X (R' := { frames := R.frames, locals := R.locals, cells := 1, slots := 6 }) (Nat.le_refl _) (Nat.le_refl _) hRcells hRslots
  obtain ⟨s', hA⟩ : ∃ z, z = (T.setVm s.vm).setFrames (.invoking m args :: below) := ⟨_, rfl⟩
  rw [← hA] at Y
  have hvm : s'.vm = s.vm := by rw [hA]; rfl
  have hhp : s'.heap = H := by rw [hA]; exact hT
  have hW0 : s.WarmedH s'.vm := by rw [hvm]; exact State.WarmedH.refl s
  have hat' : ∀ w ∈ vx_atS own ic cls names, w.before args s' = true := fun w hw => vx_ot_at hW0 hvm.symm (hgood w (List.mem_cons_of_mem _ (List.mem_cons_of_mem _ hw))) (hat w hw)
  have hk' : (Cond.classLink own ik cls).before args s' = true := vx_ot_at hW0 hvm.symm (hgood _ List.mem_cons_self) hk
  have hini' : (Cond.initialized cls).before args s' = true := vx_ot_at hW0 hvm.symm (hgood _ (List.mem_cons_of_mem _ List.mem_cons_self)) hini
  have hU' : vx_Zq Bundle.tN "UNASSIGNED_STACK" Bundle.steD A s' s'.heap := by rw [hhp]; exact vx_Zq.moved hW0.alike (hU.kept hS.2.1)
  have hN' : vx_Zq Bundle.tN "SUPPRESSED_SENTINEL" Bundle.listD A s' s'.heap := by rw [hhp]; exact vx_Zq.moved hW0.alike (hN.kept hS.2.1)
  have h : ∀ w ∈ Bundle.ownAtoms own ic cls names, w.before args s' = true := vx_own hat' (vx_isRefq hU'.1) (vx_isRefq hN'.1) hU'.2.word hN'.2.word
  have hown' : s'.vm.findClass own = some m.cls := by rw [hvm]; exact hown
  have hins : (Cond.instantiable cls 6).before args s' = true := h _ (by simp [Bundle.ownAtoms])
  obtain ⟨vm₁, cX, kX, hfX, hkX, -, -, X₁, st1⟩ := Y.newCold hexec (own := own) (C := cls) (index := ik) (n := 6) hown' hk' hins hini'
    (g := F0 m pc ls rest) rfl (by rw [hb]; exact d0) (Nat.le_refl _) (Nat.le_refl _)
  generalize hT1 : (T.setVm vm₁).pushCell { cls := cX, slots := kX.instanceTypes.map defaultValue, vm := .none } = T1 at X₁ st1
  have hcat : (Value.ref T.heap.size).category = 1 := rfl
  have hcellA : T1.heap[T.heap.size]? = some (freshCell cX kX) := by rw [← hT1]; exact State.heap_pushCell_size _ _
  have d3' : decode c.code (pc + 3) = .ok (.dup, 1) := by rw [hb]; exact d3
  have d4' : decode c.code (pc + 4) = .ok (.ldc is, 2) := by rw [hb]; exact d4
  have hstr' : vk_R own is text sa s' := vk_R.warm hW0 hstr
  obtain ⟨U, hsteps, hrun, hend, hW, hsame, ce, hce, hO⟩ := X₁.ctorThrowS hexec htr (own := own) (cls := cls) (names := names) (ic := ic) hown' hcls hnames h (fun x hx => nomatch hx) hfX hkX hcellA (by rw [hhp, hT]; exact Nat.le_refl _) (msg := .ref sa) rfl
    (g := { method := m, pc := pc + 6, locals := ls, stack := .ref sa :: .ref T.heap.size :: .ref T.heap.size :: rest, locked := none }) rfl hsize rfl rfl (rest := rest) rfl
    (by rw [hb]; exact d6) (by rw [hb]; exact d9) hout hRframes (by simp only [List.map_cons, List.sum_cons, hcat]; omega) hlocks
  obtain ⟨f1, f2⟩ := vx_frame hsame
  rw [hhp] at f1 f2
  have hWs : s.WarmedH U.vm := State.WarmedH.trans hW0 hW
  have hcl : s.vm.findClass cls = some ce.cls := by
    have h9 := hO.cls
    rw [hvm] at h9
    exact h9
  have hall : s.sameButNew ({ U with vm := s.vm } : State) locs mc ms := by
    subst hA
    obtain ⟨e1, e2⟩ := hsame
    rw [State.setFrames_setFrames] at e1
    have h2 : (T.setVm s.vm).sameButNew ({ U with vm := s.vm } : State) [] (0 + 1) (0 + 6) := ⟨e1, e2⟩
    have h3 := X.same.trans h2
    rw [List.append_nil] at h3
    exact h3.mono hc hs
  refine ⟨U, ?_, .threw T.heap.size, hrun, hend, Or.inr ⟨T.heap.size, rfl, cls, ce, locs, hx U hWs.alike f1 (fun q hq => f2 q hq (fun z hz => nomatch hz)), hce, hO.vm, hcl, hWs, hall, hf⟩⟩
  refine st1 _ ?_
  show Steps p.tables e below (T1.setTop { method := m, pc := pc + 3, locals := ls, stack := .ref T.heap.size :: rest, locked := none }) _
  jvm_step X₁.here [X₁.here.top, hexec, d3', Value.category]
  exact X₁.ldcString hexec (own := own) (text := text) (index := is) (a := sa) hown' hstr'.1 hstr'.2
    (g := { method := m, pc := pc + 4, locals := ls, stack := .ref T.heap.size :: .ref T.heap.size :: rest, locked := none }) rfl d4' _ hsteps
/-- 'throw new E("text")', the text by a wide index -/
theorem vx_throwSW {cc : ByteArray} {pc : Nat} (hexec : p.tables.exec = Jvm.exec) (hb : c.code = cc) (hl : l.stackTraces = false) {own cls text : String} {names : List String} {ik is ic mc ms sa : Nat} {A : Nat → Prop}
    (hown : s.vm.findClass own = some m.cls) (hcls : Bundle.fit cls = true) (hnames : ∀ n ∈ names, Bundle.fit n = true)
    (hk : (Cond.classLink own ik cls).before args s = true) (hini : (Cond.initialized cls).before args s = true) (hstr : vk_R own is text sa s) (hat : ∀ w ∈ vx_atS own ic cls names, w.before args s = true)
    (hgood : ∀ w ∈ Cond.classLink own ik cls :: Cond.initialized cls :: vx_atS own ic cls names, vx_ot w = true)
    (hU : vx_Zq Bundle.tN "UNASSIGNED_STACK" Bundle.steD A s s.heap) (hN : vx_Zq Bundle.tN "SUPPRESSED_SENTINEL" Bundle.listD A s s.heap) (hS : va_S A s.heap H locs) (hsize : ls.size = c.maxLocals)
    (d0 : decode cc pc = .ok (.new ik, 3)) (d3 : decode cc (pc + 3) = .ok (.dup, 1)) (d4 : decode cc (pc + 4) = .ok (.ldc_w is, 3)) (d7 : decode cc (pc + 7) = .ok (.invokespecial ic, 3)) (d10 : decode cc (pc + 10) = .ok (.athrow, 1))
    (hout : ∀ x ∈ c.exceptionTable.toList, covers x (pc + 10) = false)
    (hRframes : names.length + 3 < R.frames) (hRlocals : (rest.map fun v => v.category).sum + (13 * (names.length + 1) + 43) ≤ R.locals) (hRcells : cells + 1 ≤ R.cells) (hRslots : slots + 6 ≤ R.slots) (hlocks : meth.locks = false)
    (hx : ∀ t : State, s.vm.Alike t.vm → H.size ≤ t.heap.size → (∀ q : Nat, q < H.size → t.heap[q]? = H[q]?) → XC cls s t)
    (hf : ∀ z ∈ locs, free z.base) (hc : cells + 1 ≤ mc) (hs : slots + 6 ≤ ms) :
    W p l e R s m args below meth c H locs cells slots (vx_MQ below Qc XC args s mc ms free) (F0 m pc ls rest) := by
  intro T hT X
  have htr : e.platform.stackTraces = false := (show e.platform.stackTraces = l.stackTraces by rw [X.admits.platform]).trans hl
  have Y := vx_rebase X (R' := { frames := R.frames, locals := R.locals, cells := 1, slots := 6 }) (Nat.le_refl _) (Nat.le_refl _) hRcells hRslots
  obtain ⟨s', hA⟩ : ∃ z, z = (T.setVm s.vm).setFrames (.invoking m args :: below) := ⟨_, rfl⟩
  rw [← hA] at Y
  have hvm : s'.vm = s.vm := by rw [hA]; rfl
  have hhp : s'.heap = H := by rw [hA]; exact hT
  have hW0 : s.WarmedH s'.vm := by rw [hvm]; exact State.WarmedH.refl s
  have hat' : ∀ w ∈ vx_atS own ic cls names, w.before args s' = true := fun w hw => vx_ot_at hW0 hvm.symm (hgood w (List.mem_cons_of_mem _ (List.mem_cons_of_mem _ hw))) (hat w hw)
  have hk' : (Cond.classLink own ik cls).before args s' = true := vx_ot_at hW0 hvm.symm (hgood _ List.mem_cons_self) hk
  have hini' : (Cond.initialized cls).before args s' = true := vx_ot_at hW0 hvm.symm (hgood _ (List.mem_cons_of_mem _ List.mem_cons_self)) hini
  have hU' : vx_Zq Bundle.tN "UNASSIGNED_STACK" Bundle.steD A s' s'.heap := by rw [hhp]; exact vx_Zq.moved hW0.alike (hU.kept hS.2.1)
  have hN' : vx_Zq Bundle.tN "SUPPRESSED_SENTINEL" Bundle.listD A s' s'.heap := by rw [hhp]; exact vx_Zq.moved hW0.alike (hN.kept hS.2.1)
  have h : ∀ w ∈ Bundle.ownAtoms own ic cls names, w.before args s' = true := vx_own hat' (vx_isRefq hU'.1) (vx_isRefq hN'.1) hU'.2.word hN'.2.word
  have hown' : s'.vm.findClass own = some m.cls := by rw [hvm]; exact hown
  have hins : (Cond.instantiable cls 6).before args s' = true := h _ (by simp [Bundle.ownAtoms])
  obtain ⟨vm₁, cX, kX, hfX, hkX, -, -, X₁, st1⟩ := Y.newCold hexec (own := own) (C := cls) (index := ik) (n := 6) hown' hk' hins hini'
    (g := F0 m pc ls rest) rfl (by rw [hb]; exact d0) (Nat.le_refl _) (Nat.le_refl _)
  generalize hT1 : (T.setVm vm₁).pushCell { cls := cX, slots := kX.instanceTypes.map defaultValue, vm := .none } = T1 at X₁ st1
  have hcat : (Value.ref T.heap.size).category = 1 := rfl
  have hcellA : T1.heap[T.heap.size]? = some (freshCell cX kX) := by rw [← hT1]; exact State.heap_pushCell_size _ _
  have d3' : decode c.code (pc + 3) = .ok (.dup, 1) := by rw [hb]; exact d3
  have d4' : decode c.code (pc + 4) = .ok (.ldc_w is, 3) := by rw [hb]; exact d4
  have hstr' : vk_R own is text sa s' := vk_R.warm hW0 hstr
  obtain ⟨U, hsteps, hrun, hend, hW, hsame, ce, hce, hO⟩ := X₁.ctorThrowS hexec htr (own := own) (cls := cls) (names := names) (ic := ic) hown' hcls hnames h (fun x hx => nomatch hx) hfX hkX hcellA (by rw [hhp, hT]; exact Nat.le_refl _) (msg := .ref sa) rfl
    (g := { method := m, pc := pc + 7, locals := ls, stack := .ref sa :: .ref T.heap.size :: .ref T.heap.size :: rest, locked := none }) rfl hsize rfl rfl (rest := rest) rfl
    (by rw [hb]; exact d7) (by rw [hb]; exact d10) hout hRframes (by simp only [List.map_cons, List.sum_cons, hcat]; omega) hlocks
  obtain ⟨f1, f2⟩ := vx_frame hsame
  rw [hhp] at f1 f2
  have hWs : s.WarmedH U.vm := State.WarmedH.trans hW0 hW
  have hcl : s.vm.findClass cls = some ce.cls := by
    have h9 := hO.cls
    rw [hvm] at h9
    exact h9
  have hall : s.sameButNew ({ U with vm := s.vm } : State) locs mc ms := by
    subst hA
    obtain ⟨e1, e2⟩ := hsame
    rw [State.setFrames_setFrames] at e1
    have h2 : (T.setVm s.vm).sameButNew ({ U with vm := s.vm } : State) [] (0 + 1) (0 + 6) := ⟨e1, e2⟩
    have h3 := X.same.trans h2
    rw [List.append_nil] at h3
    exact h3.mono hc hs
  refine ⟨U, ?_, .threw T.heap.size, hrun, hend, Or.inr ⟨T.heap.size, rfl, cls, ce, locs, hx U hWs.alike f1 (fun q hq => f2 q hq (fun z hz => nomatch hz)), hce, hO.vm, hcl, hWs, hall, hf⟩⟩
  refine st1 _ ?_
  show Steps p.tables e below (T1.setTop { method := m, pc := pc + 3, locals := ls, stack := .ref T.heap.size :: rest, locked := none }) _
  jvm_step X₁.here [X₁.here.top, hexec, d3', Value.category]
  exact X₁.ldcStringW hexec (own := own) (text := text) (index := is) (a := sa) hown' hstr'.1 hstr'.2
    (g := { method := m, pc := pc + 4, locals := ls, stack := .ref T.heap.size :: .ref T.heap.size :: rest, locked := none }) rfl d4' _ hsteps
end Ends
section Bodies
variable {l : Launch}
theorem vx_ofW {y : MethodName} {ws ws' : List Cond} {rm : Room} {Pc : Array Value → State → Prop} {Qc : Array Value → State → Outcome → State → Prop} {XC : String → State → State → Prop} {mc ms : Nat} {free : Addr → Prop} {cc : ByteArray} {maxL : Nat} {ret : Option FieldType}
    (hy : plainName y.cls = true) (hw : ws = Cond.code y cc maxL ret :: ws')
    (body : ∀ p e s m args below meth c s₁, BodyLoose p l y (headSpec ws rm) cc maxL ret e s m args below meth c s₁ → c.maxLocals = maxL → (∀ x ∈ c.exceptionTable.toList, False) → Pc args s →
      W p l e (headSpec ws rm).room s m args below meth c s.heap [] 0 0 (vx_MQ below Qc XC args s mc ms free) (entryFrame m args maxL)) : vx_Met l y ws rm Pc Qc XC mc ms free := by
  refine MetFree.of_bodyS (code := cc) (maxLocals := maxL) (ret := ret) hy ?_ ?_
  · intro args s m h hn
    obtain ⟨meth, c, h1, h2, h3, h4, h5, h6, -, -⟩ := Cond.code_spec hn (atoms_spec (ws := ws) h _ (by rw [hw]; exact List.mem_cons_self))
    exact ⟨meth, c, h1, h2, h3, h4, h5, h6⟩
  · intro p e s m args below meth c s₁ B hml hP _
    have hh0 : s₁.heap = s.heap := by rw [B.state]; rfl
    have ht : ∀ x ∈ c.exceptionTable.toList, False := by
      obtain ⟨meth9, c9, h1, h2, -, -, -, -, h7, -⟩ := Cond.code_spec B.named (atoms_spec (ws := ws) B.pre _ (by rw [hw]; exact List.mem_cons_self))
      cases Option.some.inj (h1.symm.trans B.method)
      cases Option.some.inj (h2.symm.trans (Stand.of_body B).code)
      intro x hx
      rw [Array.isEmpty_iff.mp h7] at hx
      cases hx
    obtain ⟨t, a1, o, b1, b2, b3⟩ := body p e s m args below meth c s₁ B hml ht hP s₁ hh0 (Stand.of_body B)
    exact ⟨t, o, a1, b1, b2, b3⟩
/-- the table of a body with handlers -/
theorem vx_table {p : Program} {x y : MethodName} {S : Spec} {cc bytes : ByteArray} {maxL maxL' : Nat} {ret ret' : Option FieldType} {e : Env} {s s₁ : State} {m : MethodId} {args : Array Value} {below : List Frame} {meth : Method} {c : Code} {hh : List (Nat × Nat × Nat × Nat)}
    (B : BodyLoose p l y S cc maxL ret e s m args below meth c s₁) (h : (Cond.codeWith y bytes maxL' ret' hh).before args s = true) : c.exceptionTable.toList = tableOf hh := by
  obtain ⟨m9, meth9, c9, hn9, h1, h2, -, -, h6, -⟩ := Cond.codeWith_spec h
  cases Option.some.inj (hn9.symm.trans B.named)
  cases Option.some.inj (h1.symm.trans B.method)
  cases Option.some.inj (h2.symm.trans (Stand.of_body B).code)
  rw [← h6, table_eq]
end Bodies
end VXA
/-! ===== END ===== -/
/-! ===== BEGIN a static call of a method with an exception table ===== -/
section VXS
variable {p : Program} {l : Launch} {e : Env} {R : Room} {s : State} {m : MethodId} {args : Array Value} {below : List Frame} {meth : Method} {c : Code} {T : State} {H : Heap} {locs : List Loc} {cells slots : Nat}
abbrev vx_CSW (R : Room) (s : State) (args : Array Value) (own : String) (index : Nat) (y : MethodName) (bytes : ByteArray) (maxL : Nat) (ret : Option FieldType) (hh : List (Nat × Nat × Nat × Nat)) (ws : List Cond) (rm : Room) (mc ms n : Nat) : Prop :=
  (rm.cells = mc ∧ rm.slots = ms ∧ rm.frames + 1 ≤ R.frames ∧ 8 + (maxL + 11) + rm.locals ≤ R.locals ∧ (∀ w ∈ ws, ∀ (a' : Array Value) (U : State), s.WarmedH U.vm → w.before a' U = true) ∧ Cond.codeWith y bytes maxL ret hh ∈ ws) ∧
  (Cond.codeWith y bytes maxL ret hh).before args s = true ∧ (Cond.initialized y.cls).before args s = true ∧ (y.cls ≠ "java/lang/invoke/MethodHandle" ∧ y.cls ≠ "java/lang/invoke/VarHandle") ∧
  (∀ sig, parseMethodDescriptor y.desc = some sig → n = sig.parameters.length) ∧ (Cond.methodLink own index y).before args s = true ∧ (Cond.static y).before args s = true
theorem vx_cwSW {own : String} {index maxL mc ms : Nat} {y : MethodName} {bytes : ByteArray} {ret : Option FieldType} {hh : List (Nat × Nat × Nat × Nat)} {Ts ws ws' : List Cond} {rm : Room} (n : Nat) (ht : ∀ w ∈ Ts, w.before args s = true) (hT : GoodIn Ts (va_wsS own index y ws)) (hw : ws = Cond.codeWith y bytes maxL ret hh :: ws') (hrc : rm.cells = mc) (hrs : rm.slots = ms)
    (hd : y.cls ≠ "java/lang/invoke/MethodHandle" ∧ y.cls ≠ "java/lang/invoke/VarHandle" ∧ (parseMethodDescriptor y.desc).map (fun d => d.parameters.length) = some n) (hR : rm.frames + 1 ≤ R.frames ∧ 8 + (maxL + 11) + rm.locals ≤ R.locals) :
    vx_CSW R s args own index y bytes maxL ret hh ws rm mc ms n := by
  have ok : ∀ w ∈ va_wsS own index y ws, w.before args s = true := fun w h => ht w (hT w h).1
  have hG : GoodIn Ts ws := fun w h => hT w (by unfold va_wsS; exact List.mem_append_right _ h)
  have hc : Cond.codeWith y bytes maxL ret hh ∈ ws := by rw [hw]; exact List.mem_cons_self
  refine ⟨⟨hrc, hrs, hR.1, hR.2, pay_in ht hG, hc⟩, ht _ (hG _ hc).1, ok _ (by simp [va_wsS]), ⟨hd.1, hd.2.1⟩, fun sig h => ?_, ok _ (by simp [va_wsS]), ok _ (by simp [va_wsS])⟩
  have h2 := hd.2.2
  rw [h] at h2
  exact (Option.some.inj h2).symm
theorem vx_callSW (X : Stand p l e R s m args below meth c T locs cells slots) (hexec : p.tables.exec = Jvm.exec) {own : String} {index : Nat} {y : MethodName} {bytes : ByteArray} {maxL : Nat} {ret : Option FieldType} {hh : List (Nat × Nat × Nat × Nat)}
    (hown : s.vm.findClass own = some m.cls) (hlink : (Cond.methodLink own index y).before args s = true) (hstat : (Cond.static y).before args s = true) (hinit : (Cond.initialized y.cls).before args s = true)
    (hcode : (Cond.codeWith y bytes maxL ret hh).before args s = true) (hy : y.cls ≠ "java/lang/invoke/MethodHandle" ∧ y.cls ≠ "java/lang/invoke/VarHandle")
    {W9 : Nat} {Pre : Pt → Array Value → Prop} {Post : Pt → Array Value → Option Value → Pt → Prop} (hK : Back l R p e below s args y 3 W9 Pre Post)
    {g : JFrame} (hg : g.method = m) (hsize : g.locals.size = c.maxLocals) {argsL rest : List Value} (hlen : ∀ sig, parseMethodDescriptor y.desc = some sig → argsL.length = sig.parameters.length)
    (hstack : g.stack = argsL.reverse ++ rest) (hW : 2 * g.monitorRoom + (rest.map fun v => v.category).sum ≤ W9) (hdg : decode c.code g.pc = .ok (.invokestatic index, 3))
    (hpre : ∀ vm₁, s.WarmedH vm₁ → Pre ⟨T.setVm vm₁, locs, cells, slots⟩ argsL.toArray) :
    ∃ (v : Option Value) (vm₁ : Vm) (B : Pt), s.WarmedH vm₁ ∧ Stand p l e R s m args below meth c B.U B.locs B.cells B.slots ∧ Post ⟨T.setVm vm₁, locs, cells, slots⟩ argsL.toArray v B ∧
      ∀ target, Steps p.tables e below (B.U.setTop { g with pc := g.pc + 3, stack := v.toList ++ rest }) target → Steps p.tables e below (T.setTop g) target := by
  obtain ⟨mk, methM, cM, hnamed, hmethM, -, -, -, -, -, -, hsigM⟩ := Cond.codeWith_spec hcode
  have hstatic : methM.isStatic = true := Cond.static_spec hnamed hmethM hstat
  obtain ⟨kP, hkP, -⟩ := className_of_methodNamed hnamed
  have hinitP : kP.init = .initialized := Cond.initialized_spec (findClass_of_methodNamed hnamed) hkP hinit
  obtain ⟨vm₁, X₁, hstep₁⟩ := X.invokestatic hexec hown hlink hnamed hmethM hstatic hkP hinitP hy (g := g) hg (argsL := argsL) (rest := rest) (hlen _ hsigM) hstack hdg
  obtain ⟨v, B, X', hpost, hsteps⟩ := hK m meth c ⟨T.setVm vm₁, locs, cells, slots⟩ { g with stack := rest } (.invokestatic index) mk argsL.toArray X₁ hg hsize hdg hW (X₁.named hnamed) (hpre vm₁ X₁.warmed)
  exact ⟨v, vm₁, B, X₁.warmed, X', hpost, fun target h => hstep₁ _ fun acts => by rw [doInvoke_state]; exact hsteps.trans h⟩
theorem vx_runSW {y : MethodName} {bytes cc : ByteArray} {maxL nL mc ms n index : Nat} {ret : Option FieldType} {hh : List (Nat × Nat × Nat × Nat)} {ws : List Cond} {rm : Room} {Pc : Array Value → State → Prop} {Qc : Array Value → State → Outcome → State → Prop} {free : Addr → Prop} {Ts : List Cond} {own : String} {As rest : List Value} {g : JFrame}
    (S : CallFix p m c cc nL s args Ts own) (hM : Met l y ws rm Pc Qc mc ms free) (cw : vx_CSW R s args own index y bytes maxL ret hh ws rm mc ms n) (hp : PreS s H Pc As)
    (hg : g.method = m) (hn : As.length = n) (hsize : g.locals.size = nL) (hstack : g.stack = As.reverse ++ rest) (hW : 2 * g.monitorRoom + (rest.map fun v => v.category).sum ≤ 8) (hdg : decode cc g.pc = .ok (.invokestatic index, 3)) (hf : cells + mc ≤ R.cells ∧ slots + ms ≤ R.slots) :
    va_Run p l e R s m args below meth c H locs cells slots mc ms g rest (Qc As.toArray) (free) := by
  obtain ⟨⟨hrc, hrs, hfr, hlo, hws, hcw⟩, hcode, hini, hy, hlen, hl, hstt⟩ := cw
  have hK : Back l R p e below s args y 3 8 (PreOf R mc ms Pc) (PostOf Qc mc ms free) := va_backW (hh := hh) (bytes := bytes) (maxL := maxL) (ret := ret) hM hp.1 hrc hrs hfr hlo hws hcw (fun a' U hW => word_at hW (Or.inl (by first | rfl | simp [Cond.onTables, Cond.keeps, Cond.steady])) hini)
  obtain ⟨hx, hb, hml, ho, -⟩ := S
  intro T hT X
  obtain ⟨v, vm₁, ⟨U', l2, c2, s2⟩, hW₁, X', ⟨g', mk, t, L, e1, e2, hq, h1, hL, h2, h3⟩, st⟩ := vx_callSW X hx (hh := hh) (bytes := bytes) (maxL := maxL) (ret := ret) ho hl hstt hini hcode hy hK hg (hsize.trans hml.symm) (argsL := As) (rest := rest) (fun sig h => hn.trans (hlen sig h)) hstack hW (by rw [hb]; exact hdg)
    (fun vm₁ hW₁ => ⟨hf.1, hf.2, hp.2 (T.setVm vm₁) hT hW₁⟩)
  dsimp only [Pt.U, Pt.locs, Pt.cells, Pt.slots] at X' e1 e2 h1 h2 h3 st
  subst h1; subst h2; subst h3
  exact ⟨v, (T.setVm vm₁).calling g' mk As.toArray, t, U', L, hT, X', hL, e1, e2, hq, st⟩
/-- not caught here, past rows that name other classes: it goes on to the caller -/
theorem vx_outP {p : Program} {l : Launch} {e : Env} {R : Room} {s : State} {m : MethodId} {args : Array Value} {below : List Frame} {meth : Method} {c : Code} {H : Heap} {locs : List Loc} {cells slots : Nat} {free : Addr → Prop} {ls : Array Slot} {rest : List Value} {Qc : Array Value → State → Outcome → State → Prop} {XC : String → State → State → Prop}
    {pc : Nat} {own E : String} {ce : Cell} {q : Addr} {mc ms : Nat} (hown : s.vm.findClass own = some m.cls) (hlocks : meth.locks = false)
    (hpass : ∀ z ∈ c.exceptionTable.toList, covers z pc = false ∨ (z.catchType ≠ 0 ∧ ∃ nm : String, (Cond.classLink own z.catchType nm).before args s = true ∧ va_Nc E nm s)) (hcell : H[q]? = some ce) (hv : ce.vm = .none) (hcl : s.vm.findClass E = some ce.cls)
    (hx : ∀ t : State, t.heap = H → s.vm.Alike t.vm → XC E s t) (hf : ∀ z ∈ locs, free z.base) (hc : cells ≤ mc) (hs : slots ≤ ms) :
    vx_W p l e R s m args below meth c H locs cells slots (vx_MQ below Qc XC args s mc ms free) (F0 m pc ls rest) q := by
  intro T hT X
  have hpl : e.platform.magicAccessors = ({} : Platform).magicAccessors := by rw [X.admits.platform]
  obtain ⟨vm', hW', X', st⟩ := X.outThrough hlocks q (g := F0 m pc ls rest) rfl rfl rfl (cell := ce) (by rw [hT]; exact hcell) (by rw [hv]; rfl)
    (by obtain ⟨k9, h9, -⟩ := Vm.findClass_spec hcl; exact ⟨k9, h9⟩) (fun z hz => by
      rcases hpass z hz with h | ⟨hz0, nm, hl1, hn1⟩
      · exact Or.inl h
      · obtain ⟨c6, hc6, hcl6⟩ := Cond.classLink_spec hown hl1 e.platform hpl
        obtain ⟨a8, b8, h1, h2, h3⟩ := hn1
        cases Option.some.inj (h1.symm.trans hcl)
        cases Option.some.inj (h2.symm.trans hc6)
        exact Or.inr ⟨hz0, _, hcl6, h3⟩)
  obtain ⟨g₀, hfr⟩ := X'.frames_eq
  have hcell9 : ((T.setVm vm').setFrames (.throwing q :: below)).heap[q]? = some ce := by
    show T.heap[q]? = some ce
    rw [hT]; exact hcell
  have hend : Ended ((T.setVm vm').setFrames (.throwing q :: below)) below (.threw q) := State.frames_setFrames _ (State.cur_lt_of_frames hfr)
  refine ⟨(T.setVm vm').setFrames (.throwing q :: below), ?_, .threw q, X'.here.running, hend, Or.inr ⟨q, rfl, E, ce, locs, hx _ hT (X'.ends _).1.alike, hcell9, hv, hcl, (X'.ends _).1, (X'.ends _).2.mono hc hs, hf⟩⟩
  rw [X.pushThrowing_eq]
  exact st
/-- a thing of a world lies in the heap -/
theorem vx_lt {D : va_G} {cl : List vw_C} {ws : va_W} {H1 : Heap} (h : va_P D cl ws H1) {k : Nat} {q : Nat × va_E} (hk : ws[k]? = some q) : q.1 < H1.size := (h k q hk).lt
end VXS
/-! ===== END ===== -/
/-! ===== BEGIN methods with a table of their own: called by a name, returning or throwing ===== -/
section VXH
/-! vx_backW, vx_callVX, vx_callSX, vx_callVW, vx_runVW, vx_runVX, vx_runSX, vx_ofWH follow the same proofs as their sisters above (Free/Laws.lean, Shelf42/LK1.lean); vx_outP calls Shelf42/NT130.lean (outThrough). -/
section
variable {l : Launch} {R : Room} {p : Program} {e : Env} {below : List Frame} {s : State} {sargs : Array Value} {y : MethodName} {len W9 : Nat}
theorem vx_backW {ws : List Cond} {rm : Room} {Pc : Array Value → State → Prop} {Qc : Array Value → State → Outcome → State → Prop} {XC : String → State → State → Prop} {mc ms : Nat} {free : Addr → Prop} {bytes : ByteArray} {maxL : Nat} {ret : Option FieldType} {hh : List (Nat × Nat × Nat × Nat)}
    (hM : vx_Met l y ws rm Pc Qc XC mc ms free) (hblind : FrameBlind Pc) (hrc : rm.cells = mc) (hrs : rm.slots = ms)
    (hframes : rm.frames + 1 ≤ R.frames) (hlocals : W9 + (maxL + 11) + rm.locals ≤ R.locals)
    (hws : ∀ w ∈ ws, ∀ a' U, s.WarmedH U.vm → w.before a' U = true) (hcode : Cond.codeWith y bytes maxL ret hh ∈ ws) (hinit : ∀ a' U, s.WarmedH U.vm → (Cond.initialized y.cls).before a' U = true) :
    vx_Back l R p e below s sargs y len W9 (PreOf R mc ms Pc) (PostOf Qc mc ms free) (vx_Post XC mc ms free) := by
  intro m meth c A g ig mk a X hg hsize hdg hW hn hp
  have h1 : (headSpec ws rm).pre.before a A.U = true := atoms_intro fun w hw => hws w hw _ _ X.warmed
  have h2 : (Cond.codeWith y bytes maxL ret hh).before a A.U = true := hws _ hcode _ _ X.warmed
  have h3 : (Cond.initialized y.cls).before a A.U = true := hinit _ _ X.warmed
  have h4 : A.cells + (headSpec ws rm).room.cells ≤ R.cells := by rw [show (headSpec ws rm).room.cells = mc from hrc]; exact hp.1
  have h5 : A.slots + (headSpec ws rm).room.slots ≤ R.slots := by rw [show (headSpec ws rm).room.slots = ms from hrs]; exact hp.2.1
  have hPc : Pc a (A.U.calling g mk a) := hblind _ _ _ _ hp.2.2
  obtain ⟨U, Ls, c0, s0⟩ := A
  dsimp only [Pt.U, Pt.locs, Pt.cells, Pt.slots] at h1 h2 h3 h4 h5 X hn hPc ⊢
  obtain ⟨m9, methY, cY, hn9, hmY, hcY, -, hlY, -⟩ := Cond.codeWith_spec h2
  cases Option.some.inj (hn9.symm.trans hn)
  obtain ⟨kY, hkY, -⟩ := className_of_methodNamed hn
  have hinitY : kY.init = .initialized := Cond.initialized_spec (findClass_of_methodNamed hn) hkY h3
  have h : At U g.method c below := by rw [hg]; exact X.here
  have hlocals9 : W9 + (maxL + 11) + (headSpec ws rm).room.locals ≤ R.locals := hlocals
  have happ : (headSpec ws rm).appliesLoose y e.platform (U.calling g mk a) = true :=
    Spec.appliesLoose_calling (g := g) h hdg hn hkY hinitY
      (X.room_calling (g := g) (R' := (headSpec ws rm).room) hsize hmY hcY hframes (by rw [hlY]; omega) h4 h5) h1
  obtain ⟨mid, hmid⟩ := h.above
  have hfr : (U.setTop g).frames = (.java g :: mid) ++ below := by rw [State.frames_setTop' g h.top, hmid]; rfl
  obtain ⟨o, s₂, hsteps, -, hend, hq⟩ := Steps.callFree hM p X.admits X.cas X.clock (acts := []) hfr happ hPc trivial
  have hq' : vx_Q Qc XC mc ms free a (U.calling g mk a) o s₂ := hq
  rw [State.frames_setTop' g h.top] at hend
  obtain ⟨g₀, hg0⟩ := Option.isSome_iff_exists.mp h.top
  obtain ⟨r, hr⟩ := State.topJava?_eq_some.mp hg0
  have hr' : (({ U with heap := s₂.heap, slotsUsed := s₂.slotsUsed } : State).setVm s₂.vm).frames = .java g₀ :: r := hr
  rcases hq' with ⟨hqc, L, hfe, hL⟩ | ⟨q, rfl, E, ce, L, hx, hce, hcv, hcl, hW₂, hsm, hL⟩
  · obtain ⟨⟨v, rfl⟩, hW₂, e2, q2, q3, q4, q5, q6⟩ := id hfe
    have e3 : s₂ = ({ (U.calling g mk a).setFrames s₂.frames with heap := s₂.heap, slotsUsed := s₂.slotsUsed } : State).setVm s₂.vm := by
      have : s₂ = ({ s₂ with vm := (U.calling g mk a).vm } : State).setVm s₂.vm := rfl
      rw [e2] at this
      exact this
    obtain ⟨c₂, i₂, len₂, hc₂, hd₂, hf₂⟩ := hend
    have hW' : U.WarmedH s₂.vm := hW₂
    have hcc : c₂ = c := by
      have h1 : s₂.code? g.method = U.code? g.method := by
        rw [State.code?_eq, State.code?_eq, hW'.alike.method?]
      exact Option.some.inj (hc₂.symm.trans (h1.trans h.code))
    subst hcc
    have hlen : len₂ = len := by rw [hdg] at hd₂; cases hd₂; rfl
    subst hlen
    have hs₂ : s₂ = (({ U with heap := s₂.heap, slotsUsed := s₂.slotsUsed } : State).setVm s₂.vm).setTop { g with pc := g.pc + len₂, stack := v.toList ++ g.stack } := by
      refine e3.trans ?_
      rw [hf₂, State.calling_eq h.top, State.setFrames_setFrames, State.setTop_of_frames _ hr', hr]
      rfl
    have hsame : U.sameButNew ({ U with heap := s₂.heap, slotsUsed := s₂.slotsUsed } : State) L mc ms := by
      refine ⟨?_, q2, q3, q4, q5, q6⟩
      obtain ⟨t, ht, -⟩ := State.frames_cons hr
      show ({ U with heap := s₂.heap, slotsUsed := s₂.slotsUsed } : State) = { U.setFrames U.frames with heap := s₂.heap, slotsUsed := s₂.slotsUsed }
      rw [State.setFrames_self ht]
    subst hg
    refine Or.inl ⟨v, ⟨(({ U with heap := s₂.heap, slotsUsed := s₂.slotsUsed } : State).setVm s₂.vm), Ls ++ L, c0 + mc, s0 + ms⟩,
      ⟨X.admits, X.cas, X.clock, X.frames, X.room, X.hears, X.method, X.code, (X.here.setHeapUsed s₂.heap s₂.slotsUsed).setVm hW'.alike, X.tail, State.WarmedH.trans X.warmed hW', X.limits, X.bytes, X.same.trans (hsame.setVm s.vm)⟩,
      ⟨g, mk, s₂, L, rfl, rfl, hqc, rfl, hL, rfl, rfl⟩, ?_⟩
    show Steps p.tables e below _ ((({ U with heap := s₂.heap, slotsUsed := s₂.slotsUsed } : State).setVm s₂.vm).setTop { g with pc := g.pc + len₂, stack := v.toList ++ g.stack })
    rw [← hs₂]
    exact hsteps
  · obtain ⟨e2, q2, q3, q4, q5, q6⟩ := id hsm
    have e3 : s₂ = ({ (U.calling g mk a).setFrames s₂.frames with heap := s₂.heap, slotsUsed := s₂.slotsUsed } : State).setVm s₂.vm := by
      have : s₂ = ({ s₂ with vm := (U.calling g mk a).vm } : State).setVm s₂.vm := rfl
      rw [e2] at this
      exact this
    have hf₂ : s₂.frames = .throwing q :: .java g :: U.frames.tail := hend
    have hW' : U.WarmedH s₂.vm := hW₂
    have hs₂ : s₂ = ((({ U with heap := s₂.heap, slotsUsed := s₂.slotsUsed } : State).setVm s₂.vm).setTop g).pushFrame (.throwing q) := by
      refine e3.trans ?_
      rw [hf₂, State.calling_eq h.top, State.setFrames_setFrames, State.pushFrame, State.frames_setTop _ hr', State.setTop_of_frames _ hr', State.setFrames_setFrames, hr]
      rfl
    have hsame : U.sameButNew ({ U with heap := s₂.heap, slotsUsed := s₂.slotsUsed } : State) L mc ms := by
      refine ⟨?_, q2, q3, q4, q5, q6⟩
      obtain ⟨t, ht, -⟩ := State.frames_cons hr
      show ({ U with heap := s₂.heap, slotsUsed := s₂.slotsUsed } : State) = { U.setFrames U.frames with heap := s₂.heap, slotsUsed := s₂.slotsUsed }
      rw [State.setFrames_self ht]
    subst hg
    refine Or.inr ⟨q, ⟨(({ U with heap := s₂.heap, slotsUsed := s₂.slotsUsed } : State).setVm s₂.vm), Ls ++ L, c0 + mc, s0 + ms⟩,
      ⟨X.admits, X.cas, X.clock, X.frames, X.room, X.hears, X.method, X.code, (X.here.setHeapUsed s₂.heap s₂.slotsUsed).setVm hW'.alike, X.tail, State.WarmedH.trans X.warmed hW', X.limits, X.bytes, X.same.trans (hsame.setVm s.vm)⟩,
      ⟨g, mk, s₂, L, E, ce, rfl, rfl, hx, hce, hcv, hcl, rfl, hL, rfl, rfl⟩, ?_⟩
    show Steps p.tables e below _ (((({ U with heap := s₂.heap, slotsUsed := s₂.slotsUsed } : State).setVm s₂.vm).setTop g).pushFrame (.throwing q))
    rw [← hs₂]
    exact hsteps
end
variable {p : Program} {l : Launch} {e : Env} {R : Room} {s : State} {m : MethodId} {args : Array Value} {below : List Frame} {meth : Method} {c : Code} {T : State} {H : Heap} {locs : List Loc} {cells slots : Nat}
theorem vx_callVX (X : Stand p l e R s m args below meth c T locs cells slots) (hexec : p.tables.exec = Jvm.exec) {own C : String} {index : Nat} {y : MethodName} {bytes : ByteArray} {maxL : Nat} {ret : Option FieldType} {hh : List (Nat × Nat × Nat × Nat)}
    (hown : s.vm.findClass own = some m.cls) (hlink : (Cond.methodLink own index y).before args s = true) (hinst : (Cond.instanceMethod y).before args s = true) (hsel : (Cond.selects C y y).before args s = true)
    (hcode : (Cond.codeWith y bytes maxL ret hh).before args s = true) (hy : y.cls ≠ "java/lang/invoke/MethodHandle" ∧ y.cls ≠ "java/lang/invoke/VarHandle")
    {W9 : Nat} {Pre : Pt → Array Value → Prop} {Post : Pt → Array Value → Option Value → Pt → Prop} {PostX : Pt → Array Value → Addr → Pt → Prop} (hK : vx_Back l R p e below s args y 3 W9 Pre Post PostX)
    {b : Addr} {cellB : Cell} (hcell : T.heap[b]? = some cellB) (hobj : cellB.vm.isStatics = false) (hcls : s.vm.findClass C = some cellB.cls)
    {g : JFrame} (hg : g.method = m) (hsize : g.locals.size = c.maxLocals) {argsL rest : List Value} (hlen : ∀ sig, parseMethodDescriptor y.desc = some sig → argsL.length = sig.parameters.length)
    (hstack : g.stack = argsL.reverse ++ .ref b :: rest) (hW : 2 * g.monitorRoom + (rest.map fun v => v.category).sum ≤ W9) (hdg : decode c.code g.pc = .ok (.invokevirtual index, 3))
    (hpre : ∀ vm₁, s.WarmedH vm₁ → Pre ⟨T.setVm vm₁, locs, cells, slots⟩ (Value.ref b :: argsL).toArray) :
    (∃ (v : Option Value) (vm₁ : Vm) (B : Pt), s.WarmedH vm₁ ∧ Stand p l e R s m args below meth c B.U B.locs B.cells B.slots ∧ Post ⟨T.setVm vm₁, locs, cells, slots⟩ (Value.ref b :: argsL).toArray v B ∧
      ∀ target, Steps p.tables e below (B.U.setTop { g with pc := g.pc + 3, stack := v.toList ++ rest }) target → Steps p.tables e below (T.setTop g) target) ∨
    (∃ (q : Addr) (vm₁ : Vm) (B : Pt), s.WarmedH vm₁ ∧ Stand p l e R s m args below meth c B.U B.locs B.cells B.slots ∧ PostX ⟨T.setVm vm₁, locs, cells, slots⟩ (Value.ref b :: argsL).toArray q B ∧
      Steps p.tables e below (T.setTop g) ((B.U.setTop { g with stack := rest }).pushFrame (.throwing q))) := by
  obtain ⟨mk, methM, hnamed, hmethM, hstM, habM⟩ := Cond.instanceMethod_spec hinst
  obtain ⟨m8, methM', cM, hn8, hmethM', -, -, -, -, -, -, hsigM⟩ := Cond.codeWith_spec hcode
  cases Option.some.inj (hn8.symm.trans hnamed)
  cases hmethM.symm.trans hmethM'
  obtain ⟨c2, r2, m2, q1, q2, q3, q4, kP, hkP, hkPi⟩ := Cond.selects_spec hsel
  cases hcls.symm.trans q1
  cases (State.methodFound?_of_named hnamed hy).symm.trans q2
  cases hnamed.symm.trans q3
  have hselP : selectMethod e.platform s.vm cellB.cls mk = .method mk := by rw [Launch.admits_selectMethod X.admits]; exact q4
  obtain ⟨vm₁, X₁, hstep₁⟩ := X.invokevirtual hexec hown hlink hnamed hmethM hstM hkP hkPi hy (a := b) (cell := cellB) hcell
    (fun z h => by rw [h] at hobj; cases hobj) hselP hmethM habM hkP hkPi (g := g) hg (argsL := argsL) (rest := rest) (hlen _ hsigM) hstack hdg
  rcases hK m meth c ⟨T.setVm vm₁, locs, cells, slots⟩ { g with stack := rest } (.invokevirtual index) mk (Value.ref b :: argsL).toArray X₁ hg hsize hdg hW (X₁.named hnamed) (hpre vm₁ X₁.warmed) with ⟨v, B, X', hpost, hsteps⟩ | ⟨q, B, X', hpost, hsteps⟩
  · exact Or.inl ⟨v, vm₁, B, X₁.warmed, X', hpost, fun target h => hstep₁ _ fun acts => by rw [doInvoke_state]; exact hsteps.trans h⟩
  · exact Or.inr ⟨q, vm₁, B, X₁.warmed, X', hpost, hstep₁ _ fun acts => by rw [doInvoke_state]; exact hsteps⟩
theorem vx_callSX (X : Stand p l e R s m args below meth c T locs cells slots) (hexec : p.tables.exec = Jvm.exec) {own : String} {index : Nat} {y : MethodName} {bytes : ByteArray} {maxL : Nat} {ret : Option FieldType} {hh : List (Nat × Nat × Nat × Nat)}
    (hown : s.vm.findClass own = some m.cls) (hlink : (Cond.methodLink own index y).before args s = true) (hstat : (Cond.static y).before args s = true) (hinit : (Cond.initialized y.cls).before args s = true)
    (hcode : (Cond.codeWith y bytes maxL ret hh).before args s = true) (hy : y.cls ≠ "java/lang/invoke/MethodHandle" ∧ y.cls ≠ "java/lang/invoke/VarHandle")
    {W9 : Nat} {Pre : Pt → Array Value → Prop} {Post : Pt → Array Value → Option Value → Pt → Prop} {PostX : Pt → Array Value → Addr → Pt → Prop} (hK : vx_Back l R p e below s args y 3 W9 Pre Post PostX)
    {g : JFrame} (hg : g.method = m) (hsize : g.locals.size = c.maxLocals) {argsL rest : List Value} (hlen : ∀ sig, parseMethodDescriptor y.desc = some sig → argsL.length = sig.parameters.length)
    (hstack : g.stack = argsL.reverse ++ rest) (hW : 2 * g.monitorRoom + (rest.map fun v => v.category).sum ≤ W9) (hdg : decode c.code g.pc = .ok (.invokestatic index, 3))
    (hpre : ∀ vm₁, s.WarmedH vm₁ → Pre ⟨T.setVm vm₁, locs, cells, slots⟩ argsL.toArray) :
    (∃ (v : Option Value) (vm₁ : Vm) (B : Pt), s.WarmedH vm₁ ∧ Stand p l e R s m args below meth c B.U B.locs B.cells B.slots ∧ Post ⟨T.setVm vm₁, locs, cells, slots⟩ argsL.toArray v B ∧
      ∀ target, Steps p.tables e below (B.U.setTop { g with pc := g.pc + 3, stack := v.toList ++ rest }) target → Steps p.tables e below (T.setTop g) target) ∨
    (∃ (q : Addr) (vm₁ : Vm) (B : Pt), s.WarmedH vm₁ ∧ Stand p l e R s m args below meth c B.U B.locs B.cells B.slots ∧ PostX ⟨T.setVm vm₁, locs, cells, slots⟩ argsL.toArray q B ∧
      Steps p.tables e below (T.setTop g) ((B.U.setTop { g with stack := rest }).pushFrame (.throwing q))) := by
  obtain ⟨mk, methM, cM, hnamed, hmethM, -, -, -, -, -, -, hsigM⟩ := Cond.codeWith_spec hcode
  have hstatic : methM.isStatic = true := Cond.static_spec hnamed hmethM hstat
  obtain ⟨kP, hkP, -⟩ := className_of_methodNamed hnamed
  have hinitP : kP.init = .initialized := Cond.initialized_spec (findClass_of_methodNamed hnamed) hkP hinit
  obtain ⟨vm₁, X₁, hstep₁⟩ := X.invokestatic hexec hown hlink hnamed hmethM hstatic hkP hinitP hy (g := g) hg (argsL := argsL) (rest := rest) (hlen _ hsigM) hstack hdg
  rcases hK m meth c ⟨T.setVm vm₁, locs, cells, slots⟩ { g with stack := rest } (.invokestatic index) mk argsL.toArray X₁ hg hsize hdg hW (X₁.named hnamed) (hpre vm₁ X₁.warmed) with ⟨v, B, X', hpost, hsteps⟩ | ⟨q, B, X', hpost, hsteps⟩
  · exact Or.inl ⟨v, vm₁, B, X₁.warmed, X', hpost, fun target h => hstep₁ _ fun acts => by rw [doInvoke_state]; exact hsteps.trans h⟩
  · exact Or.inr ⟨q, vm₁, B, X₁.warmed, X', hpost, hstep₁ _ fun acts => by rw [doInvoke_state]; exact hsteps⟩
theorem vx_callVW (X : Stand p l e R s m args below meth c T locs cells slots) (hexec : p.tables.exec = Jvm.exec) {own C : String} {index : Nat} {y : MethodName} {bytes : ByteArray} {maxL : Nat} {ret : Option FieldType} {hh : List (Nat × Nat × Nat × Nat)}
    (hown : s.vm.findClass own = some m.cls) (hlink : (Cond.methodLink own index y).before args s = true) (hinst : (Cond.instanceMethod y).before args s = true) (hsel : (Cond.selects C y y).before args s = true)
    (hcode : (Cond.codeWith y bytes maxL ret hh).before args s = true) (hy : y.cls ≠ "java/lang/invoke/MethodHandle" ∧ y.cls ≠ "java/lang/invoke/VarHandle")
    {W9 : Nat} {Pre : Pt → Array Value → Prop} {Post : Pt → Array Value → Option Value → Pt → Prop} (hK : Back l R p e below s args y 3 W9 Pre Post)
    {b : Addr} {cellB : Cell} (hcell : T.heap[b]? = some cellB) (hobj : cellB.vm.isStatics = false) (hcls : s.vm.findClass C = some cellB.cls)
    {g : JFrame} (hg : g.method = m) (hsize : g.locals.size = c.maxLocals) {argsL rest : List Value} (hlen : ∀ sig, parseMethodDescriptor y.desc = some sig → argsL.length = sig.parameters.length)
    (hstack : g.stack = argsL.reverse ++ .ref b :: rest) (hW : 2 * g.monitorRoom + (rest.map fun v => v.category).sum ≤ W9) (hdg : decode c.code g.pc = .ok (.invokevirtual index, 3))
    (hpre : ∀ vm₁, s.WarmedH vm₁ → Pre ⟨T.setVm vm₁, locs, cells, slots⟩ (Value.ref b :: argsL).toArray) :
    ∃ (v : Option Value) (vm₁ : Vm) (B : Pt), s.WarmedH vm₁ ∧ Stand p l e R s m args below meth c B.U B.locs B.cells B.slots ∧ Post ⟨T.setVm vm₁, locs, cells, slots⟩ (Value.ref b :: argsL).toArray v B ∧
      ∀ target, Steps p.tables e below (B.U.setTop { g with pc := g.pc + 3, stack := v.toList ++ rest }) target → Steps p.tables e below (T.setTop g) target := by
  obtain ⟨mk, methM, hnamed, hmethM, hstM, habM⟩ := Cond.instanceMethod_spec hinst
  obtain ⟨m8, methM', cM, hn8, hmethM', -, -, -, -, -, -, hsigM⟩ := Cond.codeWith_spec hcode
  cases Option.some.inj (hn8.symm.trans hnamed)
  cases hmethM.symm.trans hmethM'
  obtain ⟨c2, r2, m2, q1, q2, q3, q4, kP, hkP, hkPi⟩ := Cond.selects_spec hsel
  cases hcls.symm.trans q1
  cases (State.methodFound?_of_named hnamed hy).symm.trans q2
  cases hnamed.symm.trans q3
  have hselP : selectMethod e.platform s.vm cellB.cls mk = .method mk := by rw [Launch.admits_selectMethod X.admits]; exact q4
  obtain ⟨vm₁, X₁, hstep₁⟩ := X.invokevirtual hexec hown hlink hnamed hmethM hstM hkP hkPi hy (a := b) (cell := cellB) hcell
    (fun z h => by rw [h] at hobj; cases hobj) hselP hmethM habM hkP hkPi (g := g) hg (argsL := argsL) (rest := rest) (hlen _ hsigM) hstack hdg
  obtain ⟨v, B, X', hpost, hsteps⟩ := hK m meth c ⟨T.setVm vm₁, locs, cells, slots⟩ { g with stack := rest } (.invokevirtual index) mk (Value.ref b :: argsL).toArray X₁ hg hsize hdg hW (X₁.named hnamed) (hpre vm₁ X₁.warmed)
  exact ⟨v, vm₁, B, X₁.warmed, X', hpost, fun target h => hstep₁ _ fun acts => by rw [doInvoke_state]; exact hsteps.trans h⟩
abbrev vx_CVW (R : Room) (s : State) (args : Array Value) (own C : String) (index : Nat) (y : MethodName) (bytes : ByteArray) (maxL : Nat) (ret : Option FieldType) (hh : List (Nat × Nat × Nat × Nat)) (ws : List Cond) (rm : Room) (mc ms n : Nat) : Prop :=
  (rm.cells = mc ∧ rm.slots = ms ∧ rm.frames + 1 ≤ R.frames ∧ 8 + (maxL + 11) + rm.locals ≤ R.locals ∧ (∀ w ∈ ws, ∀ (a' : Array Value) (U : State), s.WarmedH U.vm → w.before a' U = true) ∧ Cond.codeWith y bytes maxL ret hh ∈ ws) ∧
  (Cond.codeWith y bytes maxL ret hh).before args s = true ∧ (Cond.initialized y.cls).before args s = true ∧ (y.cls ≠ "java/lang/invoke/MethodHandle" ∧ y.cls ≠ "java/lang/invoke/VarHandle") ∧
  (∀ sig, parseMethodDescriptor y.desc = some sig → n = sig.parameters.length) ∧ (Cond.methodLink own index y).before args s = true ∧ (Cond.instanceMethod y).before args s = true ∧ (Cond.selects C y y).before args s = true
theorem vx_cwVW {own C : String} {index maxL mc ms : Nat} {y : MethodName} {bytes : ByteArray} {ret : Option FieldType} {hh : List (Nat × Nat × Nat × Nat)} {Ts ws ws' : List Cond} {rm : Room} (n : Nat) (ht : ∀ w ∈ Ts, w.before args s = true) (hT : GoodIn Ts (wsV own index C y ws)) (hw : ws = Cond.codeWith y bytes maxL ret hh :: ws') (hrc : rm.cells = mc) (hrs : rm.slots = ms)
    (hd : y.cls = C ∧ y.cls ≠ "java/lang/invoke/MethodHandle" ∧ y.cls ≠ "java/lang/invoke/VarHandle" ∧ (parseMethodDescriptor y.desc).map (fun d => d.parameters.length) = some n) (hR : rm.frames + 1 ≤ R.frames ∧ 8 + (maxL + 11) + rm.locals ≤ R.locals) :
    vx_CVW R s args own C index y bytes maxL ret hh ws rm mc ms n := by
  obtain ⟨hC, hd⟩ := hd
  subst hC
  have ok : ∀ w ∈ wsV own index y.cls y ws, w.before args s = true := fun w h => ht w (hT w h).1
  have hG : GoodIn Ts ws := fun w h => hT w (by unfold wsV; exact List.mem_append_right _ h)
  have hc : Cond.codeWith y bytes maxL ret hh ∈ ws := by rw [hw]; exact List.mem_cons_self
  refine ⟨⟨hrc, hrs, hR.1, hR.2, pay_in ht hG, hc⟩, ht _ (hG _ hc).1, ok _ (by simp [wsV]), ⟨hd.1, hd.2.1⟩, fun sig h => ?_, ok _ (by simp [wsV]), ok _ (by simp [wsV]), ok _ (by simp [wsV])⟩
  have h2 := hd.2.2
  rw [h] at h2
  exact (Option.some.inj h2).symm
theorem vx_runVW {y : MethodName} {bytes cc : ByteArray} {maxL nL mc ms n index : Nat} {ret : Option FieldType} {hh : List (Nat × Nat × Nat × Nat)} {ws : List Cond} {rm : Room} {Pc : Array Value → State → Prop} {Qc : Array Value → State → Outcome → State → Prop} {free : Addr → Prop} {Ts : List Cond} {own C : String} {b : Addr} {As rest : List Value} {g : JFrame}
    (S : CallFix p m c cc nL s args Ts own) (hM : Met l y ws rm Pc Qc mc ms free) (cw : vx_CVW R s args own C index y bytes maxL ret hh ws rm mc ms n) (hp : PreV s H C b Pc As)
    (hg : g.method = m) (hn : As.length = n) (hsize : g.locals.size = nL) (hstack : g.stack = As.reverse ++ .ref b :: rest) (hW : 2 * g.monitorRoom + (rest.map fun v => v.category).sum ≤ 8) (hdg : decode cc g.pc = .ok (.invokevirtual index, 3)) (hf : cells + mc ≤ R.cells ∧ slots + ms ≤ R.slots) :
    va_Run p l e R s m args below meth c H locs cells slots mc ms g rest (Qc (Value.ref b :: As).toArray) free := by
  obtain ⟨⟨hrc, hrs, hfr, hlo, hws, hcw⟩, hcode, hini, hy, hlen, hl, hin, hse⟩ := cw
  have hK : Back l R p e below s args y 3 8 (PreOf R mc ms Pc) (PostOf Qc mc ms free) := va_backW (hh := hh) (bytes := bytes) (maxL := maxL) (ret := ret) hM hp.1 hrc hrs hfr hlo hws hcw (fun a' U hW => word_at hW (Or.inl (by first | rfl | simp [Cond.onTables, Cond.keeps, Cond.steady])) hini)
  obtain ⟨hx, hb, hml, ho, -⟩ := S
  obtain ⟨-, ⟨cellB, hcB, hoB, hclB⟩, hPc⟩ := hp
  intro T hT X
  obtain ⟨v, vm₁, ⟨U', l2, c2, s2⟩, hW₁, X', ⟨g', mk, t, L, e1, e2, hq, h1, hL, h2, h3⟩, st⟩ := vx_callVW X hx (C := C) (hh := hh) (bytes := bytes) (maxL := maxL) (ret := ret) ho hl hin hse hcode hy hK (by rw [hT]; exact hcB) hoB hclB hg (hsize.trans hml.symm) (argsL := As) (rest := rest) (fun sig h => hn.trans (hlen sig h)) hstack hW (by rw [hb]; exact hdg)
    (fun vm₁ hW₁ => ⟨hf.1, hf.2, hPc (T.setVm vm₁) hT hW₁⟩)
  dsimp only [Pt.U, Pt.locs, Pt.cells, Pt.slots] at X' e1 e2 h1 h2 h3 st
  subst h1; subst h2; subst h3
  exact ⟨v, (T.setVm vm₁).calling g' mk (Value.ref b :: As).toArray, t, U', L, hT, X', hL, e1, e2, hq, st⟩
section
variable {y : MethodName} {bytes cc : ByteArray} {maxL nL mc ms n index : Nat} {ret : Option FieldType} {ws : List Cond} {rm : Room} {Pc : Array Value → State → Prop} {Qc : Array Value → State → Outcome → State → Prop} {XC : String → State → State → Prop} {free : Addr → Prop} {Ts : List Cond} {own C : String} {b : Addr} {As rest : List Value} {g : JFrame}
theorem vx_runVX {hh : List (Nat × Nat × Nat × Nat)} (S : CallFix p m c cc nL s args Ts own) (hM : vx_Met l y ws rm Pc Qc XC mc ms free) (cw : vx_CVW R s args own C index y bytes maxL ret hh ws rm mc ms n) (hp : PreV s H C b Pc As)
    (hg : g.method = m) (hn : As.length = n) (hsize : g.locals.size = nL) (hstack : g.stack = As.reverse ++ .ref b :: rest) (hW : 2 * g.monitorRoom + (rest.map fun v => v.category).sum ≤ 8) (hdg : decode cc g.pc = .ok (.invokevirtual index, 3)) (hf : cells + mc ≤ R.cells ∧ slots + ms ≤ R.slots) :
    vx_Run p l e R s m args below meth c H locs cells slots mc ms g rest (Qc (Value.ref b :: As).toArray) XC free := by
  obtain ⟨⟨hrc, hrs, hfr, hlo, hws, hcw⟩, hcode, hini, hy, hlen, hl, hin, hse⟩ := cw
  have hK : vx_Back l R p e below s args y 3 8 (PreOf R mc ms Pc) (PostOf Qc mc ms free) (vx_Post XC mc ms free) := vx_backW (hh := hh) (bytes := bytes) (maxL := maxL) (ret := ret) hM hp.1 hrc hrs hfr hlo hws hcw (fun a' U hW => word_at hW (Or.inl (by first | rfl | simp [Cond.onTables, Cond.keeps, Cond.steady])) hini)
  obtain ⟨hx, hb, hml, ho, -⟩ := S
  obtain ⟨-, ⟨cellB, hcB, hoB, hclB⟩, hPc⟩ := hp
  intro T hT X
  rcases vx_callVX X hx (C := C) (hh := hh) (bytes := bytes) (maxL := maxL) (ret := ret) ho hl hin hse hcode hy hK (by rw [hT]; exact hcB) hoB hclB hg (hsize.trans hml.symm) (argsL := As) (rest := rest) (fun sig h => hn.trans (hlen sig h)) hstack hW (by rw [hb]; exact hdg)
    (fun vm₁ hW₁ => ⟨hf.1, hf.2, hPc (T.setVm vm₁) hT hW₁⟩) with ⟨v, vm₁, ⟨U', l2, c2, s2⟩, hW₁, X', ⟨g', mk, t, L, e1, e2, hq, h1, hL, h2, h3⟩, st⟩ | ⟨q, vm₁, ⟨U', l2, c2, s2⟩, hW₁, X', ⟨g', mk, t, L, E, ce, e1, e2, hq, hce, hcv, hcl, h1, hL, h2, h3⟩, st⟩
  · dsimp only [Pt.U, Pt.locs, Pt.cells, Pt.slots] at X' e1 e2 h1 h2 h3 st
    subst h1; subst h2; subst h3
    exact Or.inl ⟨v, (T.setVm vm₁).calling g' mk (Value.ref b :: As).toArray, t, U', L, hT, X', hL, e1, e2, hq, st⟩
  · dsimp only [Pt.U, Pt.locs, Pt.cells, Pt.slots] at X' e1 e2 h1 h2 h3 st hcl
    subst h1; subst h2; subst h3
    exact Or.inr ⟨q, (T.setVm vm₁).calling g' mk (Value.ref b :: As).toArray, t, U', L, E, ce, hT, X', hL, e1, e2, hq, hce, hcv, vx_cls hW₁ hcl, st⟩
theorem vx_runSX {hh : List (Nat × Nat × Nat × Nat)} (S : CallFix p m c cc nL s args Ts own) (hM : vx_Met l y ws rm Pc Qc XC mc ms free) (cw : vx_CSW R s args own index y bytes maxL ret hh ws rm mc ms n) (hp : PreS s H Pc As)
    (hg : g.method = m) (hn : As.length = n) (hsize : g.locals.size = nL) (hstack : g.stack = As.reverse ++ rest) (hW : 2 * g.monitorRoom + (rest.map fun v => v.category).sum ≤ 8) (hdg : decode cc g.pc = .ok (.invokestatic index, 3)) (hf : cells + mc ≤ R.cells ∧ slots + ms ≤ R.slots) :
    vx_Run p l e R s m args below meth c H locs cells slots mc ms g rest (Qc As.toArray) XC free := by
  obtain ⟨⟨hrc, hrs, hfr, hlo, hws, hcw⟩, hcode, hini, hy, hlen, hl, hstt⟩ := cw
  have hK : vx_Back l R p e below s args y 3 8 (PreOf R mc ms Pc) (PostOf Qc mc ms free) (vx_Post XC mc ms free) := vx_backW (hh := hh) (bytes := bytes) (maxL := maxL) (ret := ret) hM hp.1 hrc hrs hfr hlo hws hcw (fun a' U hW => word_at hW (Or.inl (by first | rfl | simp [Cond.onTables, Cond.keeps, Cond.steady])) hini)
  obtain ⟨hx, hb, hml, ho, -⟩ := S
  intro T hT X
  rcases vx_callSX X hx (hh := hh) (bytes := bytes) (maxL := maxL) (ret := ret) ho hl hstt hini hcode hy hK hg (hsize.trans hml.symm) (argsL := As) (rest := rest) (fun sig h => hn.trans (hlen sig h)) hstack hW (by rw [hb]; exact hdg)
    (fun vm₁ hW₁ => ⟨hf.1, hf.2, hp.2 (T.setVm vm₁) hT hW₁⟩) with ⟨v, vm₁, ⟨U', l2, c2, s2⟩, hW₁, X', ⟨g', mk, t, L, e1, e2, hq, h1, hL, h2, h3⟩, st⟩ | ⟨q, vm₁, ⟨U', l2, c2, s2⟩, hW₁, X', ⟨g', mk, t, L, E, ce, e1, e2, hq, hce, hcv, hcl, h1, hL, h2, h3⟩, st⟩
  · dsimp only [Pt.U, Pt.locs, Pt.cells, Pt.slots] at X' e1 e2 h1 h2 h3 st
    subst h1; subst h2; subst h3
    exact Or.inl ⟨v, (T.setVm vm₁).calling g' mk As.toArray, t, U', L, hT, X', hL, e1, e2, hq, st⟩
  · dsimp only [Pt.U, Pt.locs, Pt.cells, Pt.slots] at X' e1 e2 h1 h2 h3 st hcl
    subst h1; subst h2; subst h3
    exact Or.inr ⟨q, (T.setVm vm₁).calling g' mk As.toArray, t, U', L, E, ce, hT, X', hL, e1, e2, hq, hce, hcv, vx_cls hW₁ hcl, st⟩
end
end VXH
theorem vx_ofWH {l : Launch} {y : MethodName} {ws ws' : List Cond} {rm : Room} {Pc : Array Value → State → Prop} {Qc : Array Value → State → Outcome → State → Prop} {XC : String → State → State → Prop} {mc ms : Nat} {free : Addr → Prop} {cc : ByteArray} {maxL : Nat} {ret : Option FieldType} {hh : List (Nat × Nat × Nat × Nat)}
    (hy : plainName y.cls = true) (hw : ws = Cond.codeWith y cc maxL ret hh :: ws')
    (body : ∀ p e s m args below meth c s₁, BodyLoose p l y (headSpec ws rm) cc maxL ret e s m args below meth c s₁ → c.maxLocals = maxL → Pc args s →
      W p l e (headSpec ws rm).room s m args below meth c s.heap [] 0 0 (vx_MQ below Qc XC args s mc ms free) (entryFrame m args maxL)) : vx_Met l y ws rm Pc Qc XC mc ms free := by
  refine MetFree.of_bodyS (code := cc) (maxLocals := maxL) (ret := ret) hy ?_ ?_
  · intro args s m h hn
    obtain ⟨m9, meth, c, hn9, h1, h2, h3, h4, -, h5, h6, -⟩ := Cond.codeWith_spec (atoms_spec (ws := ws) h _ (by rw [hw]; exact List.mem_cons_self))
    cases hn.symm.trans hn9
    exact ⟨meth, c, h1, h2, h3, h4, h5, h6⟩
  · intro p e s m args below meth c s₁ B hml hP _
    have hh0 : s₁.heap = s.heap := by rw [B.state]; rfl
    obtain ⟨t, a1, o, b1, b2, b3⟩ := body p e s m args below meth c s₁ B hml hP s₁ hh0 (Stand.of_body B)
    exact ⟨t, o, a1, b1, b2, b3⟩
/-! ===== END ===== -/
end
section
/-! ===== BEGIN printed: names, fields, word lists, decode rows ===== -/
def RX0 : String := "BlankMatcher$Likeness"
def TX0 : u_T := fun k => match k with
  | _ => ("", "", "", false)
def tyX0 : Nat → FieldType := fun k => match k with
  | _ => .int
abbrev wsX00 : List Cond := u_ws RX0 TX0 0
theorem nmX0 : ∀ a, a < 0 → ∀ b, b < 0 → a ≠ b → (TX0 a).2.1 ≠ (TX0 b).2.1 := by decide +kernel
theorem tyX0_ok : ∀ k, k < 0 → parseFieldDescriptor (TX0 k).2.2.1 = some (tyX0 k) := by decide +kernel
def RX1 : String := "BlankMatcher"
def TX1 : u_T := fun k => match k with
  | 0 => ("BlankMatcher", "text", "[I", true)
  | 1 => ("BlankMatcher", "pattern", "[I", true)
  | 2 => ("BlankMatcher", "mismatchesByPlace", "[I", true)
  | 3 => ("BlankMatcher", "textSize", "I", false)
  | _ => ("BlankMatcher", "patternSize", "I", false)
def tyX1 : Nat → FieldType := fun k => match k with
  | 0 => .array .int
  | 1 => .array .int
  | 2 => .array .int
  | 3 => .int
  | _ => .int
abbrev wsX10 : List Cond := u_ws RX1 TX1 5
theorem nmX1 : ∀ a, a < 5 → ∀ b, b < 5 → a ≠ b → (TX1 a).2.1 ≠ (TX1 b).2.1 := by decide +kernel
theorem tyX1_ok : ∀ k, k < 5 → parseFieldDescriptor (TX1 k).2.2.1 = some (tyX1 k) := by decide +kernel
abbrev cX1_init : ByteArray := prog_1_method_1_code
def yX1_init : MethodName := ⟨RX1, "<init>", "()V"⟩
abbrev cX1_appendText : ByteArray := prog_1_method_2_code
def yX1_appendText : MethodName := ⟨RX1, "appendText", "(I)I"⟩
abbrev cX1_repeatText : ByteArray := prog_1_method_3_code
def yX1_repeatText : MethodName := ⟨RX1, "repeatText", "(II)I"⟩
abbrev cX1_setText : ByteArray := prog_1_method_4_code
def yX1_setText : MethodName := ⟨RX1, "setText", "(II)I"⟩
abbrev cX1_appendPattern : ByteArray := prog_1_method_5_code
def yX1_appendPattern : MethodName := ⟨RX1, "appendPattern", "(I)I"⟩
abbrev cX1_setPattern : ByteArray := prog_1_method_6_code
def yX1_setPattern : MethodName := ⟨RX1, "setPattern", "(II)I"⟩
abbrev cX1_takePattern : ByteArray := prog_1_method_7_code
def yX1_takePattern : MethodName := ⟨RX1, "takePattern", "(II)I"⟩
abbrev cX1_clearText : ByteArray := prog_1_method_8_code
def yX1_clearText : MethodName := ⟨RX1, "clearText", "()I"⟩
abbrev cX1_clearPattern : ByteArray := prog_1_method_9_code
def yX1_clearPattern : MethodName := ⟨RX1, "clearPattern", "()I"⟩
abbrev cX1_textLength : ByteArray := prog_1_method_10_code
def yX1_textLength : MethodName := ⟨RX1, "textLength", "()I"⟩
abbrev cX1_patternLength : ByteArray := prog_1_method_11_code
def yX1_patternLength : MethodName := ⟨RX1, "patternLength", "()I"⟩
abbrev cX1_places : ByteArray := prog_1_method_12_code
def yX1_places : MethodName := ⟨RX1, "places", "()I"⟩
abbrev cX1_product : ByteArray := prog_1_method_13_code
def yX1_product : MethodName := ⟨RX1, "product", "(I)I"⟩
abbrev cX1_difference : ByteArray := prog_1_method_14_code
def yX1_difference : MethodName := ⟨RX1, "difference", "(I)I"⟩
abbrev cX1_matches : ByteArray := prog_1_method_15_code
def yX1_matches : MethodName := ⟨RX1, "matches", "()I"⟩
abbrev cX1_match : ByteArray := prog_1_method_16_code
def yX1_match : MethodName := ⟨RX1, "match", "(I)I"⟩
abbrev cX1_apart : ByteArray := prog_1_method_17_code
def yX1_apart : MethodName := ⟨RX1, "apart", "()I"⟩
abbrev cX1_mismatches : ByteArray := prog_1_method_18_code
def yX1_mismatches : MethodName := ⟨RX1, "mismatches", "(I)I"⟩
abbrev cX1_mismatchesOf : ByteArray := prog_1_method_19_code
def yX1_mismatchesOf : MethodName := ⟨RX1, "mismatchesOf", "(II)I"⟩
abbrev cX1_nextMismatch : ByteArray := prog_1_method_20_code
def yX1_nextMismatch : MethodName := ⟨RX1, "nextMismatch", "(II)I"⟩
abbrev cX1_agreement : ByteArray := prog_1_method_21_code
def yX1_agreement : MethodName := ⟨RX1, "agreement", "(II)I"⟩
abbrev cX1_within : ByteArray := prog_1_method_22_code
def yX1_within : MethodName := ⟨RX1, "within", "(I)I"⟩
abbrev cX1_ranked : ByteArray := prog_1_method_23_code
def yX1_ranked : MethodName := ⟨RX1, "ranked", "(I)I"⟩
abbrev cX1_bestLetter : ByteArray := prog_1_method_24_code
def yX1_bestLetter : MethodName := ⟨RX1, "bestLetter", "(I)I"⟩
abbrev cX1_sumMatches : ByteArray := prog_1_method_25_code
def yX1_sumMatches : MethodName := ⟨RX1, "sumMatches", "()I"⟩
abbrev cX1_sumMatch : ByteArray := prog_1_method_26_code
def yX1_sumMatch : MethodName := ⟨RX1, "sumMatch", "(I)I"⟩
abbrev cX1_orderMatches : ByteArray := prog_1_method_27_code
def yX1_orderMatches : MethodName := ⟨RX1, "orderMatches", "()I"⟩
abbrev cX1_orderMatch : ByteArray := prog_1_method_28_code
def yX1_orderMatch : MethodName := ⟨RX1, "orderMatch", "(I)I"⟩
abbrev cX1_hasPeriod : ByteArray := prog_1_method_29_code
def yX1_hasPeriod : MethodName := ⟨RX1, "hasPeriod", "(I)Z"⟩
abbrev cX1_leastPeriod : ByteArray := prog_1_method_30_code
def yX1_leastPeriod : MethodName := ⟨RX1, "leastPeriod", "()I"⟩
abbrev cX1_requireSymbol : ByteArray := prog_1_method_31_code
def yX1_requireSymbol : MethodName := ⟨RX1, "requireSymbol", "(I)V"⟩
abbrev cX1_requirePatternIndex : ByteArray := prog_1_method_32_code
def yX1_requirePatternIndex : MethodName := ⟨RX1, "requirePatternIndex", "(I)V"⟩
abbrev cX1_requirePartOfText : ByteArray := prog_1_method_33_code
def yX1_requirePartOfText : MethodName := ⟨RX1, "requirePartOfText", "(II)V"⟩
abbrev cX1_requirePlace : ByteArray := prog_1_method_34_code
def yX1_requirePlace : MethodName := ⟨RX1, "requirePlace", "(I)V"⟩
abbrev cX1_requireLike : ByteArray := prog_1_method_35_code
def yX1_requireLike : MethodName := ⟨RX1, "requireLike", "(LBlankMatcher$Likeness;I)I"⟩
abbrev cX1_countLike : ByteArray := prog_1_method_36_code
def yX1_countLike : MethodName := ⟨RX1, "countLike", "(LBlankMatcher$Likeness;)I"⟩
abbrev cX1_findLike : ByteArray := prog_1_method_37_code
def yX1_findLike : MethodName := ⟨RX1, "findLike", "(LBlankMatcher$Likeness;I)I"⟩
abbrev cX1_isLike : ByteArray := prog_1_method_38_code
def yX1_isLike : MethodName := ⟨RX1, "isLike", "(LBlankMatcher$Likeness;I)Z"⟩
abbrev cX1_hasSymbols : ByteArray := prog_1_method_39_code
def yX1_hasSymbols : MethodName := ⟨RX1, "hasSymbols", "(I)Z"⟩
abbrev cX1_hasSum : ByteArray := prog_1_method_40_code
def yX1_hasSum : MethodName := ⟨RX1, "hasSum", "(I)Z"⟩
abbrev cX1_hasOrder : ByteArray := prog_1_method_41_code
def yX1_hasOrder : MethodName := ⟨RX1, "hasOrder", "(I)Z"⟩
abbrev cX1_hasOrderUpTo : ByteArray := prog_1_method_42_code
def yX1_hasOrderUpTo : MethodName := ⟨RX1, "hasOrderUpTo", "(II)Z"⟩
abbrev cX1_agree : ByteArray := prog_1_method_43_code
def yX1_agree : MethodName := ⟨RX1, "agree", "(II)Z"⟩
abbrev cX1_countMismatches : ByteArray := prog_1_method_44_code
def yX1_countMismatches : MethodName := ⟨RX1, "countMismatches", "(I)I"⟩
abbrev cX1_firstMismatch : ByteArray := prog_1_method_45_code
def yX1_firstMismatch : MethodName := ⟨RX1, "firstMismatch", "(II)I"⟩
abbrev cX1_placeOfRank : ByteArray := prog_1_method_46_code
def yX1_placeOfRank : MethodName := ⟨RX1, "placeOfRank", "(II)I"⟩
abbrev cX1_countLetter : ByteArray := prog_1_method_47_code
def yX1_countLetter : MethodName := ⟨RX1, "countLetter", "(II)I"⟩
abbrev cX1_blanksInPattern : ByteArray := prog_1_method_48_code
def yX1_blanksInPattern : MethodName := ⟨RX1, "blanksInPattern", "()I"⟩
abbrev cX1_repeatsAfter : ByteArray := prog_1_method_49_code
def yX1_repeatsAfter : MethodName := ⟨RX1, "repeatsAfter", "(I)Z"⟩
def RX2 : String := "BlankMatcherModel"
def TX2 : u_T := fun k => match k with
  | 0 => ("BlankMatcherModel", "thrown", "I", false)
  | 1 => ("BlankMatcherModel", "text", "[I", true)
  | 2 => ("BlankMatcherModel", "pattern", "[I", true)
  | 3 => ("BlankMatcherModel", "n", "I", false)
  | _ => ("BlankMatcherModel", "m", "I", false)
def tyX2 : Nat → FieldType := fun k => match k with
  | 0 => .int
  | 1 => .array .int
  | 2 => .array .int
  | 3 => .int
  | _ => .int
abbrev wsX20 : List Cond := u_ws RX2 TX2 5
theorem nmX2 : ∀ a, a < 5 → ∀ b, b < 5 → a ≠ b → (TX2 a).2.1 ≠ (TX2 b).2.1 := by decide +kernel
theorem tyX2_ok : ∀ k, k < 5 → parseFieldDescriptor (TX2 k).2.2.1 = some (tyX2 k) := by decide +kernel
abbrev cX2_init : ByteArray := prog_4_method_1_code
def yX2_init : MethodName := ⟨RX2, "<init>", "()V"⟩
abbrev cX2_thrown : ByteArray := prog_4_method_2_code
def yX2_thrown : MethodName := ⟨RX2, "thrown", "()I"⟩
abbrev cX2_goesWell : ByteArray := prog_4_method_3_code
def yX2_goesWell : MethodName := ⟨RX2, "goesWell", "(I)Z"⟩
abbrev cX2_isSymbol : ByteArray := prog_4_method_4_code
def yX2_isSymbol : MethodName := ⟨RX2, "isSymbol", "(I)Z"⟩
abbrev cX2_appendText : ByteArray := prog_4_method_5_code
def yX2_appendText : MethodName := ⟨RX2, "appendText", "(I)I"⟩
abbrev cX2_repeatText : ByteArray := prog_4_method_6_code
def yX2_repeatText : MethodName := ⟨RX2, "repeatText", "(II)I"⟩
abbrev cX2_setText : ByteArray := prog_4_method_7_code
def yX2_setText : MethodName := ⟨RX2, "setText", "(II)I"⟩
abbrev cX2_appendPattern : ByteArray := prog_4_method_8_code
def yX2_appendPattern : MethodName := ⟨RX2, "appendPattern", "(I)I"⟩
abbrev cX2_isInPattern : ByteArray := prog_4_method_9_code
def yX2_isInPattern : MethodName := ⟨RX2, "isInPattern", "(I)Z"⟩
abbrev cX2_setPattern : ByteArray := prog_4_method_10_code
def yX2_setPattern : MethodName := ⟨RX2, "setPattern", "(II)I"⟩
abbrev cX2_takePattern : ByteArray := prog_4_method_11_code
def yX2_takePattern : MethodName := ⟨RX2, "takePattern", "(II)I"⟩
abbrev cX2_clearText : ByteArray := prog_4_method_12_code
def yX2_clearText : MethodName := ⟨RX2, "clearText", "()I"⟩
abbrev cX2_clearPattern : ByteArray := prog_4_method_13_code
def yX2_clearPattern : MethodName := ⟨RX2, "clearPattern", "()I"⟩
abbrev cX2_textLength : ByteArray := prog_4_method_14_code
def yX2_textLength : MethodName := ⟨RX2, "textLength", "()I"⟩
abbrev cX2_patternLength : ByteArray := prog_4_method_15_code
def yX2_patternLength : MethodName := ⟨RX2, "patternLength", "()I"⟩
abbrev cX2_placeMany : ByteArray := prog_4_method_16_code
def yX2_placeMany : MethodName := ⟨RX2, "placeMany", "()I"⟩
abbrev cX2_isPlace : ByteArray := prog_4_method_17_code
def yX2_isPlace : MethodName := ⟨RX2, "isPlace", "(I)Z"⟩
abbrev cX2_places : ByteArray := prog_4_method_18_code
def yX2_places : MethodName := ⟨RX2, "places", "()I"⟩
abbrev cX2_product : ByteArray := prog_4_method_19_code
def yX2_product : MethodName := ⟨RX2, "product", "(I)I"⟩
abbrev cX2_difference : ByteArray := prog_4_method_20_code
def yX2_difference : MethodName := ⟨RX2, "difference", "(I)I"⟩
abbrev cX2_agree : ByteArray := prog_4_method_21_code
def yX2_agree : MethodName := ⟨RX2, "agree", "(II)Z"⟩
abbrev cX2_countAt : ByteArray := prog_4_method_22_code
def yX2_countAt : MethodName := ⟨RX2, "countAt", "(I)I"⟩
abbrev cX2_sumOf : ByteArray := prog_4_method_23_code
def yX2_sumOf : MethodName := ⟨RX2, "sumOf", "(I)I"⟩
abbrev cX2_sign : ByteArray := prog_4_method_24_code
def yX2_sign : MethodName := ⟨RX2, "sign", "(I)I"⟩
abbrev cX2_isOrdered : ByteArray := prog_4_method_25_code
def yX2_isOrdered : MethodName := ⟨RX2, "isOrdered", "(I)Z"⟩
abbrev cX2_isWanted : ByteArray := prog_4_method_26_code
def yX2_isWanted : MethodName := ⟨RX2, "isWanted", "(II)Z"⟩
abbrev cX2_wanted : ByteArray := prog_4_method_27_code
def yX2_wanted : MethodName := ⟨RX2, "wanted", "(I)I"⟩
abbrev cX2_find : ByteArray := prog_4_method_28_code
def yX2_find : MethodName := ⟨RX2, "find", "(II)I"⟩
abbrev cX2_isNumber : ByteArray := prog_4_method_29_code
def yX2_isNumber : MethodName := ⟨RX2, "isNumber", "(II)Z"⟩
abbrev cX2_matches : ByteArray := prog_4_method_30_code
def yX2_matches : MethodName := ⟨RX2, "matches", "()I"⟩
abbrev cX2_match : ByteArray := prog_4_method_31_code
def yX2_match : MethodName := ⟨RX2, "match", "(I)I"⟩
abbrev cX2_apart : ByteArray := prog_4_method_32_code
def yX2_apart : MethodName := ⟨RX2, "apart", "()I"⟩
abbrev cX2_mismatches : ByteArray := prog_4_method_33_code
def yX2_mismatches : MethodName := ⟨RX2, "mismatches", "(I)I"⟩
abbrev cX2_mismatchesOf : ByteArray := prog_4_method_34_code
def yX2_mismatchesOf : MethodName := ⟨RX2, "mismatchesOf", "(II)I"⟩
abbrev cX2_nextMismatch : ByteArray := prog_4_method_35_code
def yX2_nextMismatch : MethodName := ⟨RX2, "nextMismatch", "(II)I"⟩
abbrev cX2_agreement : ByteArray := prog_4_method_36_code
def yX2_agreement : MethodName := ⟨RX2, "agreement", "(II)I"⟩
abbrev cX2_within : ByteArray := prog_4_method_37_code
def yX2_within : MethodName := ⟨RX2, "within", "(I)I"⟩
abbrev cX2_ranked : ByteArray := prog_4_method_38_code
def yX2_ranked : MethodName := ⟨RX2, "ranked", "(I)I"⟩
abbrev cX2_bestLetter : ByteArray := prog_4_method_39_code
def yX2_bestLetter : MethodName := ⟨RX2, "bestLetter", "(I)I"⟩
abbrev cX2_sumMatches : ByteArray := prog_4_method_40_code
def yX2_sumMatches : MethodName := ⟨RX2, "sumMatches", "()I"⟩
abbrev cX2_sumMatch : ByteArray := prog_4_method_41_code
def yX2_sumMatch : MethodName := ⟨RX2, "sumMatch", "(I)I"⟩
abbrev cX2_orderMatches : ByteArray := prog_4_method_42_code
def yX2_orderMatches : MethodName := ⟨RX2, "orderMatches", "()I"⟩
abbrev cX2_orderMatch : ByteArray := prog_4_method_43_code
def yX2_orderMatch : MethodName := ⟨RX2, "orderMatch", "(I)I"⟩
abbrev cX2_comesAgain : ByteArray := prog_4_method_44_code
def yX2_comesAgain : MethodName := ⟨RX2, "comesAgain", "(I)Z"⟩
abbrev cX2_hasPeriod : ByteArray := prog_4_method_45_code
def yX2_hasPeriod : MethodName := ⟨RX2, "hasPeriod", "(I)Z"⟩
abbrev cX2_leastPeriod : ByteArray := prog_4_method_46_code
def yX2_leastPeriod : MethodName := ⟨RX2, "leastPeriod", "()I"⟩
def RJx29ce0 : String := "java/lang/Enum"
def TJx29ce0 : u_T := fun k => match k with
  | _ => ("", "", "", false)
def tyJx29ce0 : Nat → FieldType := fun k => match k with
  | _ => .int
abbrev wsJx29ce00 : List Cond := u_ws RJx29ce0 TJx29ce0 0
theorem nmJx29ce0 : ∀ a, a < 0 → ∀ b, b < 0 → a ≠ b → (TJx29ce0 a).2.1 ≠ (TJx29ce0 b).2.1 := by decide +kernel
theorem tyJx29ce0_ok : ∀ k, k < 0 → parseFieldDescriptor (TJx29ce0 k).2.2.1 = some (tyJx29ce0 k) := by decide +kernel
def RJ9 : String := "java/lang/Math"
def TJ9 : u_T := fun k => match k with
  | _ => ("", "", "", false)
def tyJ9 : Nat → FieldType := fun k => match k with
  | _ => .int
abbrev wsJ90 : List Cond := u_ws RJ9 TJ9 0
theorem nmJ9 : ∀ a, a < 0 → ∀ b, b < 0 → a ≠ b → (TJ9 a).2.1 ≠ (TJ9 b).2.1 := by decide +kernel
theorem tyJ9_ok : ∀ k, k < 0 → parseFieldDescriptor (TJ9 k).2.2.1 = some (tyJ9 k) := by decide +kernel
abbrev cJ9_max_7cf53 : ByteArray := prog_10_method_65_code
def yJ9_max_7cf53 : MethodName := ⟨RJ9, "max", "(II)I"⟩
abbrev cJ9_min_7cf53 : ByteArray := prog_10_method_69_code
def yJ9_min_7cf53 : MethodName := ⟨RJ9, "min", "(II)I"⟩
def RJ0 : String := "java/lang/String"
def TJ0 : u_T := fun k => match k with
  | _ => ("", "", "", false)
def tyJ0 : Nat → FieldType := fun k => match k with
  | _ => .int
abbrev wsJ00 : List Cond := u_ws RJ0 TJ0 0
theorem nmJ0 : ∀ a, a < 0 → ∀ b, b < 0 → a ≠ b → (TJ0 a).2.1 ≠ (TJ0 b).2.1 := by decide +kernel
theorem tyJ0_ok : ∀ k, k < 0 → parseFieldDescriptor (TJ0 k).2.2.1 = some (tyJ0 k) := by decide +kernel
def RJ10 : String := "java/lang/System"
def TJ10 : u_T := fun k => match k with
  | _ => ("", "", "", false)
def tyJ10 : Nat → FieldType := fun k => match k with
  | _ => .int
abbrev wsJ100 : List Cond := u_ws RJ10 TJ10 0
theorem nmJ10 : ∀ a, a < 0 → ∀ b, b < 0 → a ≠ b → (TJ10 a).2.1 ≠ (TJ10 b).2.1 := by decide +kernel
theorem tyJ10_ok : ∀ k, k < 0 → parseFieldDescriptor (TJ10 k).2.2.1 = some (tyJ10 k) := by decide +kernel
def RL : String := "BlankMatcherLaw"
abbrev cL_appendText : ByteArray := method_3_code
def yL_appendText : MethodName := ⟨RL, "appendText", "(LBlankMatcher;I[J)I"⟩
abbrev cL_repeatText : ByteArray := method_4_code
def yL_repeatText : MethodName := ⟨RL, "repeatText", "(LBlankMatcher;II[J)I"⟩
abbrev cL_setText : ByteArray := method_5_code
def yL_setText : MethodName := ⟨RL, "setText", "(LBlankMatcher;II[J)I"⟩
abbrev cL_appendPattern : ByteArray := method_6_code
def yL_appendPattern : MethodName := ⟨RL, "appendPattern", "(LBlankMatcher;I[J)I"⟩
abbrev cL_setPattern : ByteArray := method_7_code
def yL_setPattern : MethodName := ⟨RL, "setPattern", "(LBlankMatcher;II[J)I"⟩
abbrev cL_takePattern : ByteArray := method_8_code
def yL_takePattern : MethodName := ⟨RL, "takePattern", "(LBlankMatcher;II[J)I"⟩
abbrev cL_product : ByteArray := method_9_code
def yL_product : MethodName := ⟨RL, "product", "(LBlankMatcher;I[J)I"⟩
abbrev cL_difference : ByteArray := method_10_code
def yL_difference : MethodName := ⟨RL, "difference", "(LBlankMatcher;I[J)I"⟩
abbrev cL_match : ByteArray := method_11_code
def yL_match : MethodName := ⟨RL, "match", "(LBlankMatcher;I[J)I"⟩
abbrev cL_mismatches : ByteArray := method_12_code
def yL_mismatches : MethodName := ⟨RL, "mismatches", "(LBlankMatcher;I[J)I"⟩
abbrev cL_mismatchesOf : ByteArray := method_13_code
def yL_mismatchesOf : MethodName := ⟨RL, "mismatchesOf", "(LBlankMatcher;II[J)I"⟩
abbrev cL_nextMismatch : ByteArray := method_14_code
def yL_nextMismatch : MethodName := ⟨RL, "nextMismatch", "(LBlankMatcher;II[J)I"⟩
abbrev cL_agreement : ByteArray := method_15_code
def yL_agreement : MethodName := ⟨RL, "agreement", "(LBlankMatcher;II[J)I"⟩
abbrev cL_within : ByteArray := method_16_code
def yL_within : MethodName := ⟨RL, "within", "(LBlankMatcher;I[J)I"⟩
abbrev cL_ranked : ByteArray := method_17_code
def yL_ranked : MethodName := ⟨RL, "ranked", "(LBlankMatcher;I[J)I"⟩
abbrev cL_bestLetter : ByteArray := method_18_code
def yL_bestLetter : MethodName := ⟨RL, "bestLetter", "(LBlankMatcher;I[J)I"⟩
abbrev cL_sumMatch : ByteArray := method_19_code
def yL_sumMatch : MethodName := ⟨RL, "sumMatch", "(LBlankMatcher;I[J)I"⟩
abbrev cL_orderMatch : ByteArray := method_20_code
def yL_orderMatch : MethodName := ⟨RL, "orderMatch", "(LBlankMatcher;I[J)I"⟩
abbrev cL_hasPeriod : ByteArray := method_21_code
def yL_hasPeriod : MethodName := ⟨RL, "hasPeriod", "(LBlankMatcher;I[J)I"⟩
abbrev cL_law : ByteArray := code
def yL_law : MethodName := ⟨RL, "law", "([I)Z"⟩
def wsX1_init : List Cond := .code yX1_init cX1_init 1 none :: ([.methodLink RX1 1 objectInit, .instanceMethod objectInit, .code objectInit ⟨#[0xb1]⟩ 1 none, .arrayClass .int, .fieldLink RX1 9 "BlankMatcher" "text" "[I", .fieldLink RX1 13 "BlankMatcher" "pattern" "[I", .fieldLink RX1 16 "BlankMatcher" "mismatchesByPlace" "[I", .fieldLink RX1 19 "BlankMatcher" "textSize" "I", .fieldLink RX1 23 "BlankMatcher" "patternSize" "I"] ++ wsX10)
def wsX1_requireSymbol : List Cond := .code yX1_requireSymbol cX1_requireSymbol 1 none :: ([.classLink RX1 37 "java/lang/IllegalArgumentException", .initialized "java/lang/IllegalArgumentException"] ++ (vx_atS RX1 41 "java/lang/IllegalArgumentException" ["java/lang/RuntimeException", "java/lang/Exception"]).filter goodWord)
def wsX1_appendText : List Cond := .code yX1_appendText cX1_appendText 2 (some .int) :: ([.classLink RX1 30 "java/lang/IllegalStateException", .initialized "java/lang/IllegalStateException", .fieldLink RX1 19 "BlankMatcher" "textSize" "I", .fieldLink RX1 9 "BlankMatcher" "text" "[I", .methodLink RX1 26 yX1_requireSymbol, .static yX1_requireSymbol, .initialized RX1, .code yX1_requireSymbol cX1_requireSymbol 1 none, .classLink RX1 37 "java/lang/IllegalArgumentException", .initialized "java/lang/IllegalArgumentException"] ++ wsX10 ++ (vx_atS RX1 34 "java/lang/IllegalStateException" ["java/lang/RuntimeException", "java/lang/Exception"]).filter goodWord ++ (vx_atS RX1 41 "java/lang/IllegalArgumentException" ["java/lang/RuntimeException", "java/lang/Exception"]).filter goodWord)
def wsX1_requirePartOfText : List Cond := .code yX1_requirePartOfText cX1_requirePartOfText 3 none :: ([.classLink RX1 54 "java/lang/IndexOutOfBoundsException", .initialized "java/lang/IndexOutOfBoundsException", .fieldLink RX1 19 "BlankMatcher" "textSize" "I"] ++ wsX10 ++ (vx_atS RX1 58 "java/lang/IndexOutOfBoundsException" ["java/lang/RuntimeException", "java/lang/Exception"]).filter goodWord)
def wsX1_repeatText : List Cond := .code yX1_repeatText cX1_repeatText 3 (some .int) :: ([.classLink RX1 37 "java/lang/IllegalArgumentException", .initialized "java/lang/IllegalArgumentException", .classLink RX1 30 "java/lang/IllegalStateException", .initialized "java/lang/IllegalStateException", .fieldLink RX1 19 "BlankMatcher" "textSize" "I", .fieldLink RX1 9 "BlankMatcher" "text" "[I", .methodLink RX1 48 arraycopyName, .native arraycopyName, .static arraycopyName, .initialized "java/lang/System", .methodLink RX1 42 yX1_requirePartOfText, .instanceMethod yX1_requirePartOfText, .selects RX1 yX1_requirePartOfText yX1_requirePartOfText, .initialized RX1, .code yX1_requirePartOfText cX1_requirePartOfText 3 none, .classLink RX1 54 "java/lang/IndexOutOfBoundsException", .initialized "java/lang/IndexOutOfBoundsException"] ++ wsX10 ++ (vx_atS RX1 41 "java/lang/IllegalArgumentException" ["java/lang/RuntimeException", "java/lang/Exception"]).filter goodWord ++ (vx_atS RX1 34 "java/lang/IllegalStateException" ["java/lang/RuntimeException", "java/lang/Exception"]).filter goodWord ++ (vx_atS RX1 58 "java/lang/IndexOutOfBoundsException" ["java/lang/RuntimeException", "java/lang/Exception"]).filter goodWord)
def wsX1_setText : List Cond := .code yX1_setText cX1_setText 4 (some .int) :: ([.classLink RX1 54 "java/lang/IndexOutOfBoundsException", .initialized "java/lang/IndexOutOfBoundsException", .fieldLink RX1 19 "BlankMatcher" "textSize" "I", .fieldLink RX1 9 "BlankMatcher" "text" "[I", .methodLink RX1 26 yX1_requireSymbol, .static yX1_requireSymbol, .initialized RX1, .code yX1_requireSymbol cX1_requireSymbol 1 none, .classLink RX1 37 "java/lang/IllegalArgumentException", .initialized "java/lang/IllegalArgumentException"] ++ wsX10 ++ (vx_atS RX1 58 "java/lang/IndexOutOfBoundsException" ["java/lang/RuntimeException", "java/lang/Exception"]).filter goodWord ++ (vx_atS RX1 41 "java/lang/IllegalArgumentException" ["java/lang/RuntimeException", "java/lang/Exception"]).filter goodWord)
def wsX1_appendPattern : List Cond := .code yX1_appendPattern cX1_appendPattern 2 (some .int) :: ([.classLink RX1 30 "java/lang/IllegalStateException", .initialized "java/lang/IllegalStateException", .fieldLink RX1 23 "BlankMatcher" "patternSize" "I", .fieldLink RX1 13 "BlankMatcher" "pattern" "[I", .methodLink RX1 26 yX1_requireSymbol, .static yX1_requireSymbol, .initialized RX1, .code yX1_requireSymbol cX1_requireSymbol 1 none, .classLink RX1 37 "java/lang/IllegalArgumentException", .initialized "java/lang/IllegalArgumentException"] ++ wsX10 ++ (vx_atS RX1 34 "java/lang/IllegalStateException" ["java/lang/RuntimeException", "java/lang/Exception"]).filter goodWord ++ (vx_atS RX1 41 "java/lang/IllegalArgumentException" ["java/lang/RuntimeException", "java/lang/Exception"]).filter goodWord)
def wsX1_requirePatternIndex : List Cond := .code yX1_requirePatternIndex cX1_requirePatternIndex 2 none :: ([.classLink RX1 54 "java/lang/IndexOutOfBoundsException", .initialized "java/lang/IndexOutOfBoundsException", .fieldLink RX1 23 "BlankMatcher" "patternSize" "I"] ++ wsX10 ++ (vx_atS RX1 58 "java/lang/IndexOutOfBoundsException" ["java/lang/RuntimeException", "java/lang/Exception"]).filter goodWord)
def wsX1_setPattern : List Cond := .code yX1_setPattern cX1_setPattern 4 (some .int) :: ([.fieldLink RX1 13 "BlankMatcher" "pattern" "[I", .methodLink RX1 61 yX1_requirePatternIndex, .instanceMethod yX1_requirePatternIndex, .selects RX1 yX1_requirePatternIndex yX1_requirePatternIndex, .initialized RX1, .code yX1_requirePatternIndex cX1_requirePatternIndex 2 none, .classLink RX1 54 "java/lang/IndexOutOfBoundsException", .initialized "java/lang/IndexOutOfBoundsException", .fieldLink RX1 23 "BlankMatcher" "patternSize" "I", .methodLink RX1 26 yX1_requireSymbol, .static yX1_requireSymbol, .code yX1_requireSymbol cX1_requireSymbol 1 none, .classLink RX1 37 "java/lang/IllegalArgumentException", .initialized "java/lang/IllegalArgumentException"] ++ wsX10 ++ (vx_atS RX1 58 "java/lang/IndexOutOfBoundsException" ["java/lang/RuntimeException", "java/lang/Exception"]).filter goodWord ++ (vx_atS RX1 41 "java/lang/IllegalArgumentException" ["java/lang/RuntimeException", "java/lang/Exception"]).filter goodWord)
def wsX1_blanksInPattern : List Cond := .code yX1_blanksInPattern cX1_blanksInPattern 3 (some .int) :: ([.fieldLink RX1 23 "BlankMatcher" "patternSize" "I", .fieldLink RX1 13 "BlankMatcher" "pattern" "[I"] ++ wsX10)
def wsX1_takePattern : List Cond := .code yX1_takePattern cX1_takePattern 3 (some .int) :: ([.classLink RX1 37 "java/lang/IllegalArgumentException", .initialized "java/lang/IllegalArgumentException", .fieldLink RX1 9 "BlankMatcher" "text" "[I", .fieldLink RX1 13 "BlankMatcher" "pattern" "[I", .methodLink RX1 48 arraycopyName, .native arraycopyName, .static arraycopyName, .initialized "java/lang/System", .fieldLink RX1 23 "BlankMatcher" "patternSize" "I", .methodLink RX1 42 yX1_requirePartOfText, .instanceMethod yX1_requirePartOfText, .selects RX1 yX1_requirePartOfText yX1_requirePartOfText, .initialized RX1, .code yX1_requirePartOfText cX1_requirePartOfText 3 none, .classLink RX1 54 "java/lang/IndexOutOfBoundsException", .initialized "java/lang/IndexOutOfBoundsException", .fieldLink RX1 19 "BlankMatcher" "textSize" "I", .methodLink RX1 66 yX1_blanksInPattern, .instanceMethod yX1_blanksInPattern, .selects RX1 yX1_blanksInPattern yX1_blanksInPattern, .code yX1_blanksInPattern cX1_blanksInPattern 3 (some .int)] ++ wsX10 ++ (vx_atS RX1 41 "java/lang/IllegalArgumentException" ["java/lang/RuntimeException", "java/lang/Exception"]).filter goodWord ++ (vx_atS RX1 58 "java/lang/IndexOutOfBoundsException" ["java/lang/RuntimeException", "java/lang/Exception"]).filter goodWord)
def wsX1_clearText : List Cond := .code yX1_clearText cX1_clearText 2 (some .int) :: ([.fieldLink RX1 19 "BlankMatcher" "textSize" "I"] ++ wsX10)
def wsX1_clearPattern : List Cond := .code yX1_clearPattern cX1_clearPattern 2 (some .int) :: ([.fieldLink RX1 23 "BlankMatcher" "patternSize" "I"] ++ wsX10)
def wsX1_textLength : List Cond := .code yX1_textLength cX1_textLength 1 (some .int) :: ([.fieldLink RX1 19 "BlankMatcher" "textSize" "I"] ++ wsX10)
def wsX1_patternLength : List Cond := .code yX1_patternLength cX1_patternLength 1 (some .int) :: ([.fieldLink RX1 23 "BlankMatcher" "patternSize" "I"] ++ wsX10)
def wsX1_places : List Cond := .code yX1_places cX1_places 1 (some .int) :: ([.fieldLink RX1 23 "BlankMatcher" "patternSize" "I", .fieldLink RX1 19 "BlankMatcher" "textSize" "I"] ++ wsX10)
def wsX1_product : List Cond := .code yX1_product cX1_product 5 (some .int) :: ([.classLink RX1 37 "java/lang/IllegalArgumentException", .initialized "java/lang/IllegalArgumentException", .fieldLink RX1 19 "BlankMatcher" "textSize" "I", .fieldLink RX1 23 "BlankMatcher" "patternSize" "I", .fieldLink RX1 9 "BlankMatcher" "text" "[I", .fieldLink RX1 13 "BlankMatcher" "pattern" "[I"] ++ wsX10 ++ (vx_atS RX1 41 "java/lang/IllegalArgumentException" ["java/lang/RuntimeException", "java/lang/Exception"]).filter goodWord)
def wsX1_requirePlace : List Cond := .code yX1_requirePlace cX1_requirePlace 2 none :: ([.classLink RX1 54 "java/lang/IndexOutOfBoundsException", .initialized "java/lang/IndexOutOfBoundsException", .methodLink RX1 89 yX1_places, .instanceMethod yX1_places, .selects RX1 yX1_places yX1_places, .initialized RX1, .code yX1_places cX1_places 1 (some .int), .fieldLink RX1 23 "BlankMatcher" "patternSize" "I", .fieldLink RX1 19 "BlankMatcher" "textSize" "I"] ++ wsX10 ++ (vx_atS RX1 58 "java/lang/IndexOutOfBoundsException" ["java/lang/RuntimeException", "java/lang/Exception"]).filter goodWord)
def wsX1_difference : List Cond := .code yX1_difference cX1_difference 6 (some .int) :: ([.fieldLink RX1 23 "BlankMatcher" "patternSize" "I", .fieldLink RX1 13 "BlankMatcher" "pattern" "[I", .fieldLink RX1 9 "BlankMatcher" "text" "[I", .methodLink RX1 72 yX1_requirePlace, .instanceMethod yX1_requirePlace, .selects RX1 yX1_requirePlace yX1_requirePlace, .initialized RX1, .code yX1_requirePlace cX1_requirePlace 2 none, .classLink RX1 54 "java/lang/IndexOutOfBoundsException", .initialized "java/lang/IndexOutOfBoundsException", .methodLink RX1 89 yX1_places, .instanceMethod yX1_places, .selects RX1 yX1_places yX1_places, .code yX1_places cX1_places 1 (some .int), .fieldLink RX1 19 "BlankMatcher" "textSize" "I"] ++ wsX10 ++ (vx_atS RX1 58 "java/lang/IndexOutOfBoundsException" ["java/lang/RuntimeException", "java/lang/Exception"]).filter goodWord)
def wsX1_hasSum : List Cond := .code yX1_hasSum cX1_hasSum 4 (some .boolean) :: ([.fieldLink RX1 23 "BlankMatcher" "patternSize" "I", .fieldLink RX1 9 "BlankMatcher" "text" "[I", .fieldLink RX1 13 "BlankMatcher" "pattern" "[I"] ++ wsX10)
def wsX1_hasOrderUpTo : List Cond := .code yX1_hasOrderUpTo cX1_hasOrderUpTo 8 (some .boolean) :: ([.fieldLink RX1 13 "BlankMatcher" "pattern" "[I", .fieldLink RX1 9 "BlankMatcher" "text" "[I"] ++ wsX10)
def wsX1_hasOrder : List Cond := .code yX1_hasOrder cX1_hasOrder 3 (some .boolean) :: ([.fieldLink RX1 23 "BlankMatcher" "patternSize" "I", .methodLink RX1 168 yX1_hasOrderUpTo, .instanceMethod yX1_hasOrderUpTo, .selects RX1 yX1_hasOrderUpTo yX1_hasOrderUpTo, .initialized RX1, .code yX1_hasOrderUpTo cX1_hasOrderUpTo 8 (some .boolean), .fieldLink RX1 13 "BlankMatcher" "pattern" "[I", .fieldLink RX1 9 "BlankMatcher" "text" "[I"] ++ wsX10)
def wsX1_agree : List Cond := .code yX1_agree cX1_agree 2 (some .boolean) :: ([])
def wsX1_firstMismatch : List Cond := .code yX1_firstMismatch cX1_firstMismatch 4 (some .int) :: ([.fieldLink RX1 23 "BlankMatcher" "patternSize" "I", .fieldLink RX1 13 "BlankMatcher" "pattern" "[I", .fieldLink RX1 9 "BlankMatcher" "text" "[I", .methodLink RX1 108 yX1_agree, .static yX1_agree, .initialized RX1, .code yX1_agree cX1_agree 2 (some .boolean)] ++ wsX10)
def wsX1_hasSymbols : List Cond := .code yX1_hasSymbols cX1_hasSymbols 2 (some .boolean) :: ([.methodLink RX1 114 yX1_firstMismatch, .instanceMethod yX1_firstMismatch, .selects RX1 yX1_firstMismatch yX1_firstMismatch, .initialized RX1, .code yX1_firstMismatch cX1_firstMismatch 4 (some .int), .fieldLink RX1 23 "BlankMatcher" "patternSize" "I", .fieldLink RX1 13 "BlankMatcher" "pattern" "[I", .fieldLink RX1 9 "BlankMatcher" "text" "[I", .methodLink RX1 108 yX1_agree, .static yX1_agree, .code yX1_agree cX1_agree 2 (some .boolean)] ++ wsX10)
def wsX1_isLike_r1 : List Cond := [Cond.fieldLink RX1 134 "BlankMatcher$Likeness" "SUM" "LBlankMatcher$Likeness;", Cond.fieldLink RX1 137 "BlankMatcher$Likeness" "ORDER" "LBlankMatcher$Likeness;", Cond.methodLink RX1 162 yX1_hasSum, Cond.instanceMethod yX1_hasSum, Cond.selects RX1 yX1_hasSum yX1_hasSum, Cond.initialized RX1, Cond.code yX1_hasSum cX1_hasSum 4 (some .boolean), Cond.fieldLink RX1 23 "BlankMatcher" "patternSize" "I", Cond.fieldLink RX1 9 "BlankMatcher" "text" "[I", Cond.fieldLink RX1 13 "BlankMatcher" "pattern" "[I", Cond.methodLink RX1 165 yX1_hasOrder, Cond.instanceMethod yX1_hasOrder, Cond.selects RX1 yX1_hasOrder yX1_hasOrder, Cond.code yX1_hasOrder cX1_hasOrder 3 (some .boolean), Cond.methodLink RX1 168 yX1_hasOrderUpTo, Cond.instanceMethod yX1_hasOrderUpTo, Cond.selects RX1 yX1_hasOrderUpTo yX1_hasOrderUpTo, Cond.code yX1_hasOrderUpTo cX1_hasOrderUpTo 8 (some .boolean), Cond.methodLink RX1 98 yX1_hasSymbols, Cond.instanceMethod yX1_hasSymbols, Cond.selects RX1 yX1_hasSymbols yX1_hasSymbols, Cond.code yX1_hasSymbols cX1_hasSymbols 2 (some .boolean), Cond.methodLink RX1 114 yX1_firstMismatch, Cond.instanceMethod yX1_firstMismatch]
def wsX1_isLike_r2 : List Cond := [Cond.selects RX1 yX1_firstMismatch yX1_firstMismatch, Cond.code yX1_firstMismatch cX1_firstMismatch 4 (some .int), Cond.methodLink RX1 108 yX1_agree, Cond.static yX1_agree, Cond.code yX1_agree cX1_agree 2 (some .boolean)]
def wsX1_isLike : List Cond := .code yX1_isLike cX1_isLike 3 (some .boolean) :: ((wsX1_isLike_r1 ++ wsX1_isLike_r2) ++ wsX10)
def wsX1_countLike_r1 : List Cond := [Cond.methodLink RX1 89 yX1_places, Cond.instanceMethod yX1_places, Cond.selects RX1 yX1_places yX1_places, Cond.initialized RX1, Cond.code yX1_places cX1_places 1 (some .int), Cond.fieldLink RX1 23 "BlankMatcher" "patternSize" "I", Cond.fieldLink RX1 19 "BlankMatcher" "textSize" "I", Cond.methodLink RX1 158 yX1_isLike, Cond.instanceMethod yX1_isLike, Cond.selects RX1 yX1_isLike yX1_isLike, Cond.code yX1_isLike cX1_isLike 3 (some .boolean), Cond.fieldLink RX1 134 "BlankMatcher$Likeness" "SUM" "LBlankMatcher$Likeness;", Cond.fieldLink RX1 137 "BlankMatcher$Likeness" "ORDER" "LBlankMatcher$Likeness;", Cond.methodLink RX1 162 yX1_hasSum, Cond.instanceMethod yX1_hasSum, Cond.selects RX1 yX1_hasSum yX1_hasSum, Cond.code yX1_hasSum cX1_hasSum 4 (some .boolean), Cond.fieldLink RX1 9 "BlankMatcher" "text" "[I", Cond.fieldLink RX1 13 "BlankMatcher" "pattern" "[I", Cond.methodLink RX1 165 yX1_hasOrder, Cond.instanceMethod yX1_hasOrder, Cond.selects RX1 yX1_hasOrder yX1_hasOrder, Cond.code yX1_hasOrder cX1_hasOrder 3 (some .boolean), Cond.methodLink RX1 168 yX1_hasOrderUpTo]
def wsX1_countLike_r2 : List Cond := [Cond.instanceMethod yX1_hasOrderUpTo, Cond.selects RX1 yX1_hasOrderUpTo yX1_hasOrderUpTo, Cond.code yX1_hasOrderUpTo cX1_hasOrderUpTo 8 (some .boolean), Cond.methodLink RX1 98 yX1_hasSymbols, Cond.instanceMethod yX1_hasSymbols, Cond.selects RX1 yX1_hasSymbols yX1_hasSymbols, Cond.code yX1_hasSymbols cX1_hasSymbols 2 (some .boolean), Cond.methodLink RX1 114 yX1_firstMismatch, Cond.instanceMethod yX1_firstMismatch, Cond.selects RX1 yX1_firstMismatch yX1_firstMismatch, Cond.code yX1_firstMismatch cX1_firstMismatch 4 (some .int), Cond.methodLink RX1 108 yX1_agree, Cond.static yX1_agree, Cond.code yX1_agree cX1_agree 2 (some .boolean)]
def wsX1_countLike : List Cond := .code yX1_countLike cX1_countLike 5 (some .int) :: ((wsX1_countLike_r1 ++ wsX1_countLike_r2) ++ wsX10)
def wsX1_matches_r1 : List Cond := [Cond.fieldLink RX1 75 "BlankMatcher$Likeness" "SYMBOLS" "LBlankMatcher$Likeness;", Cond.methodLink RX1 81 yX1_countLike, Cond.instanceMethod yX1_countLike, Cond.selects RX1 yX1_countLike yX1_countLike, Cond.initialized RX1, Cond.code yX1_countLike cX1_countLike 5 (some .int), Cond.methodLink RX1 89 yX1_places, Cond.instanceMethod yX1_places, Cond.selects RX1 yX1_places yX1_places, Cond.code yX1_places cX1_places 1 (some .int), Cond.fieldLink RX1 23 "BlankMatcher" "patternSize" "I", Cond.fieldLink RX1 19 "BlankMatcher" "textSize" "I", Cond.methodLink RX1 158 yX1_isLike, Cond.instanceMethod yX1_isLike, Cond.selects RX1 yX1_isLike yX1_isLike, Cond.code yX1_isLike cX1_isLike 3 (some .boolean), Cond.fieldLink RX1 134 "BlankMatcher$Likeness" "SUM" "LBlankMatcher$Likeness;", Cond.fieldLink RX1 137 "BlankMatcher$Likeness" "ORDER" "LBlankMatcher$Likeness;", Cond.methodLink RX1 162 yX1_hasSum, Cond.instanceMethod yX1_hasSum, Cond.selects RX1 yX1_hasSum yX1_hasSum, Cond.code yX1_hasSum cX1_hasSum 4 (some .boolean), Cond.fieldLink RX1 9 "BlankMatcher" "text" "[I", Cond.fieldLink RX1 13 "BlankMatcher" "pattern" "[I"]
def wsX1_matches_r2 : List Cond := [Cond.methodLink RX1 165 yX1_hasOrder, Cond.instanceMethod yX1_hasOrder, Cond.selects RX1 yX1_hasOrder yX1_hasOrder, Cond.code yX1_hasOrder cX1_hasOrder 3 (some .boolean), Cond.methodLink RX1 168 yX1_hasOrderUpTo, Cond.instanceMethod yX1_hasOrderUpTo, Cond.selects RX1 yX1_hasOrderUpTo yX1_hasOrderUpTo, Cond.code yX1_hasOrderUpTo cX1_hasOrderUpTo 8 (some .boolean), Cond.methodLink RX1 98 yX1_hasSymbols, Cond.instanceMethod yX1_hasSymbols, Cond.selects RX1 yX1_hasSymbols yX1_hasSymbols, Cond.code yX1_hasSymbols cX1_hasSymbols 2 (some .boolean), Cond.methodLink RX1 114 yX1_firstMismatch, Cond.instanceMethod yX1_firstMismatch, Cond.selects RX1 yX1_firstMismatch yX1_firstMismatch, Cond.code yX1_firstMismatch cX1_firstMismatch 4 (some .int), Cond.methodLink RX1 108 yX1_agree, Cond.static yX1_agree, Cond.code yX1_agree cX1_agree 2 (some .boolean)]
def wsX1_matches : List Cond := .code yX1_matches cX1_matches 1 (some .int) :: ((wsX1_matches_r1 ++ wsX1_matches_r2) ++ wsX10)
def wsX1_findLike_r1 : List Cond := [Cond.methodLink RX1 89 yX1_places, Cond.instanceMethod yX1_places, Cond.selects RX1 yX1_places yX1_places, Cond.initialized RX1, Cond.code yX1_places cX1_places 1 (some .int), Cond.fieldLink RX1 23 "BlankMatcher" "patternSize" "I", Cond.fieldLink RX1 19 "BlankMatcher" "textSize" "I", Cond.methodLink RX1 158 yX1_isLike, Cond.instanceMethod yX1_isLike, Cond.selects RX1 yX1_isLike yX1_isLike, Cond.code yX1_isLike cX1_isLike 3 (some .boolean), Cond.fieldLink RX1 134 "BlankMatcher$Likeness" "SUM" "LBlankMatcher$Likeness;", Cond.fieldLink RX1 137 "BlankMatcher$Likeness" "ORDER" "LBlankMatcher$Likeness;", Cond.methodLink RX1 162 yX1_hasSum, Cond.instanceMethod yX1_hasSum, Cond.selects RX1 yX1_hasSum yX1_hasSum, Cond.code yX1_hasSum cX1_hasSum 4 (some .boolean), Cond.fieldLink RX1 9 "BlankMatcher" "text" "[I", Cond.fieldLink RX1 13 "BlankMatcher" "pattern" "[I", Cond.methodLink RX1 165 yX1_hasOrder, Cond.instanceMethod yX1_hasOrder, Cond.selects RX1 yX1_hasOrder yX1_hasOrder, Cond.code yX1_hasOrder cX1_hasOrder 3 (some .boolean), Cond.methodLink RX1 168 yX1_hasOrderUpTo]
def wsX1_findLike_r2 : List Cond := [Cond.instanceMethod yX1_hasOrderUpTo, Cond.selects RX1 yX1_hasOrderUpTo yX1_hasOrderUpTo, Cond.code yX1_hasOrderUpTo cX1_hasOrderUpTo 8 (some .boolean), Cond.methodLink RX1 98 yX1_hasSymbols, Cond.instanceMethod yX1_hasSymbols, Cond.selects RX1 yX1_hasSymbols yX1_hasSymbols, Cond.code yX1_hasSymbols cX1_hasSymbols 2 (some .boolean), Cond.methodLink RX1 114 yX1_firstMismatch, Cond.instanceMethod yX1_firstMismatch, Cond.selects RX1 yX1_firstMismatch yX1_firstMismatch, Cond.code yX1_firstMismatch cX1_firstMismatch 4 (some .int), Cond.methodLink RX1 108 yX1_agree, Cond.static yX1_agree, Cond.code yX1_agree cX1_agree 2 (some .boolean)]
def wsX1_findLike : List Cond := .code yX1_findLike cX1_findLike 6 (some .int) :: ((wsX1_findLike_r1 ++ wsX1_findLike_r2) ++ wsX10)
def wsX1_requireLike_r1 : List Cond := [Cond.classLink RX1 54 "java/lang/IndexOutOfBoundsException", Cond.initialized "java/lang/IndexOutOfBoundsException", Cond.methodLink RX1 153 yX1_findLike, Cond.instanceMethod yX1_findLike, Cond.selects RX1 yX1_findLike yX1_findLike, Cond.initialized RX1, Cond.code yX1_findLike cX1_findLike 6 (some .int), Cond.methodLink RX1 89 yX1_places, Cond.instanceMethod yX1_places, Cond.selects RX1 yX1_places yX1_places, Cond.code yX1_places cX1_places 1 (some .int), Cond.fieldLink RX1 23 "BlankMatcher" "patternSize" "I", Cond.fieldLink RX1 19 "BlankMatcher" "textSize" "I", Cond.methodLink RX1 158 yX1_isLike, Cond.instanceMethod yX1_isLike, Cond.selects RX1 yX1_isLike yX1_isLike, Cond.code yX1_isLike cX1_isLike 3 (some .boolean), Cond.fieldLink RX1 134 "BlankMatcher$Likeness" "SUM" "LBlankMatcher$Likeness;", Cond.fieldLink RX1 137 "BlankMatcher$Likeness" "ORDER" "LBlankMatcher$Likeness;", Cond.methodLink RX1 162 yX1_hasSum, Cond.instanceMethod yX1_hasSum, Cond.selects RX1 yX1_hasSum yX1_hasSum, Cond.code yX1_hasSum cX1_hasSum 4 (some .boolean), Cond.fieldLink RX1 9 "BlankMatcher" "text" "[I"]
def wsX1_requireLike_r2 : List Cond := [Cond.fieldLink RX1 13 "BlankMatcher" "pattern" "[I", Cond.methodLink RX1 165 yX1_hasOrder, Cond.instanceMethod yX1_hasOrder, Cond.selects RX1 yX1_hasOrder yX1_hasOrder, Cond.code yX1_hasOrder cX1_hasOrder 3 (some .boolean), Cond.methodLink RX1 168 yX1_hasOrderUpTo, Cond.instanceMethod yX1_hasOrderUpTo, Cond.selects RX1 yX1_hasOrderUpTo yX1_hasOrderUpTo, Cond.code yX1_hasOrderUpTo cX1_hasOrderUpTo 8 (some .boolean), Cond.methodLink RX1 98 yX1_hasSymbols, Cond.instanceMethod yX1_hasSymbols, Cond.selects RX1 yX1_hasSymbols yX1_hasSymbols, Cond.code yX1_hasSymbols cX1_hasSymbols 2 (some .boolean), Cond.methodLink RX1 114 yX1_firstMismatch, Cond.instanceMethod yX1_firstMismatch, Cond.selects RX1 yX1_firstMismatch yX1_firstMismatch, Cond.code yX1_firstMismatch cX1_firstMismatch 4 (some .int), Cond.methodLink RX1 108 yX1_agree, Cond.static yX1_agree, Cond.code yX1_agree cX1_agree 2 (some .boolean)]
def wsX1_requireLike : List Cond := .code yX1_requireLike cX1_requireLike 4 (some .int) :: ((wsX1_requireLike_r1 ++ wsX1_requireLike_r2) ++ wsX10 ++ (vx_atS RX1 58 "java/lang/IndexOutOfBoundsException" ["java/lang/RuntimeException", "java/lang/Exception"]).filter goodWord)
def wsX1_match_r1 : List Cond := [Cond.fieldLink RX1 75 "BlankMatcher$Likeness" "SYMBOLS" "LBlankMatcher$Likeness;", Cond.methodLink RX1 85 yX1_requireLike, Cond.instanceMethod yX1_requireLike, Cond.selects RX1 yX1_requireLike yX1_requireLike, Cond.initialized RX1, Cond.code yX1_requireLike cX1_requireLike 4 (some .int), Cond.classLink RX1 54 "java/lang/IndexOutOfBoundsException", Cond.initialized "java/lang/IndexOutOfBoundsException", Cond.methodLink RX1 153 yX1_findLike, Cond.instanceMethod yX1_findLike, Cond.selects RX1 yX1_findLike yX1_findLike, Cond.code yX1_findLike cX1_findLike 6 (some .int), Cond.methodLink RX1 89 yX1_places, Cond.instanceMethod yX1_places, Cond.selects RX1 yX1_places yX1_places, Cond.code yX1_places cX1_places 1 (some .int), Cond.fieldLink RX1 23 "BlankMatcher" "patternSize" "I", Cond.fieldLink RX1 19 "BlankMatcher" "textSize" "I", Cond.methodLink RX1 158 yX1_isLike, Cond.instanceMethod yX1_isLike, Cond.selects RX1 yX1_isLike yX1_isLike, Cond.code yX1_isLike cX1_isLike 3 (some .boolean), Cond.fieldLink RX1 134 "BlankMatcher$Likeness" "SUM" "LBlankMatcher$Likeness;", Cond.fieldLink RX1 137 "BlankMatcher$Likeness" "ORDER" "LBlankMatcher$Likeness;"]
def wsX1_match_r2 : List Cond := [Cond.methodLink RX1 162 yX1_hasSum, Cond.instanceMethod yX1_hasSum, Cond.selects RX1 yX1_hasSum yX1_hasSum, Cond.code yX1_hasSum cX1_hasSum 4 (some .boolean), Cond.fieldLink RX1 9 "BlankMatcher" "text" "[I", Cond.fieldLink RX1 13 "BlankMatcher" "pattern" "[I", Cond.methodLink RX1 165 yX1_hasOrder, Cond.instanceMethod yX1_hasOrder, Cond.selects RX1 yX1_hasOrder yX1_hasOrder, Cond.code yX1_hasOrder cX1_hasOrder 3 (some .boolean), Cond.methodLink RX1 168 yX1_hasOrderUpTo, Cond.instanceMethod yX1_hasOrderUpTo, Cond.selects RX1 yX1_hasOrderUpTo yX1_hasOrderUpTo, Cond.code yX1_hasOrderUpTo cX1_hasOrderUpTo 8 (some .boolean), Cond.methodLink RX1 98 yX1_hasSymbols, Cond.instanceMethod yX1_hasSymbols, Cond.selects RX1 yX1_hasSymbols yX1_hasSymbols, Cond.code yX1_hasSymbols cX1_hasSymbols 2 (some .boolean), Cond.methodLink RX1 114 yX1_firstMismatch, Cond.instanceMethod yX1_firstMismatch, Cond.selects RX1 yX1_firstMismatch yX1_firstMismatch, Cond.code yX1_firstMismatch cX1_firstMismatch 4 (some .int), Cond.methodLink RX1 108 yX1_agree, Cond.static yX1_agree]
def wsX1_match_r3 : List Cond := [Cond.code yX1_agree cX1_agree 2 (some .boolean)]
def wsX1_match : List Cond := .code yX1_match cX1_match 2 (some .int) :: ((wsX1_match_r1 ++ (wsX1_match_r2 ++ wsX1_match_r3)) ++ wsX10 ++ (vx_atS RX1 58 "java/lang/IndexOutOfBoundsException" ["java/lang/RuntimeException", "java/lang/Exception"]).filter goodWord)
def wsX1_apart : List Cond := .code yX1_apart cX1_apart 5 (some .int) :: ([.fieldLink RX1 23 "BlankMatcher" "patternSize" "I", .methodLink RX1 92 Lib.Math.max.name, .static Lib.Math.max.name, .initialized "java/lang/Math", .code Lib.Math.max.name Lib.Math.max.code 2 (some .int), .methodLink RX1 89 yX1_places, .instanceMethod yX1_places, .selects RX1 yX1_places yX1_places, .initialized RX1, .code yX1_places cX1_places 1 (some .int), .fieldLink RX1 19 "BlankMatcher" "textSize" "I", .methodLink RX1 98 yX1_hasSymbols, .instanceMethod yX1_hasSymbols, .selects RX1 yX1_hasSymbols yX1_hasSymbols, .code yX1_hasSymbols cX1_hasSymbols 2 (some .boolean), .methodLink RX1 114 yX1_firstMismatch, .instanceMethod yX1_firstMismatch, .selects RX1 yX1_firstMismatch yX1_firstMismatch, .code yX1_firstMismatch cX1_firstMismatch 4 (some .int), .fieldLink RX1 13 "BlankMatcher" "pattern" "[I", .fieldLink RX1 9 "BlankMatcher" "text" "[I", .methodLink RX1 108 yX1_agree, .static yX1_agree, .code yX1_agree cX1_agree 2 (some .boolean)] ++ wsX10)
def wsX1_countMismatches : List Cond := .code yX1_countMismatches cX1_countMismatches 4 (some .int) :: ([.fieldLink RX1 23 "BlankMatcher" "patternSize" "I", .fieldLink RX1 13 "BlankMatcher" "pattern" "[I", .fieldLink RX1 9 "BlankMatcher" "text" "[I", .methodLink RX1 108 yX1_agree, .static yX1_agree, .initialized RX1, .code yX1_agree cX1_agree 2 (some .boolean)] ++ wsX10)
def wsX1_mismatches : List Cond := .code yX1_mismatches cX1_mismatches 2 (some .int) :: ([.methodLink RX1 72 yX1_requirePlace, .instanceMethod yX1_requirePlace, .selects RX1 yX1_requirePlace yX1_requirePlace, .initialized RX1, .code yX1_requirePlace cX1_requirePlace 2 none, .classLink RX1 54 "java/lang/IndexOutOfBoundsException", .initialized "java/lang/IndexOutOfBoundsException", .methodLink RX1 89 yX1_places, .instanceMethod yX1_places, .selects RX1 yX1_places yX1_places, .code yX1_places cX1_places 1 (some .int), .fieldLink RX1 23 "BlankMatcher" "patternSize" "I", .fieldLink RX1 19 "BlankMatcher" "textSize" "I", .methodLink RX1 102 yX1_countMismatches, .instanceMethod yX1_countMismatches, .selects RX1 yX1_countMismatches yX1_countMismatches, .code yX1_countMismatches cX1_countMismatches 4 (some .int), .fieldLink RX1 13 "BlankMatcher" "pattern" "[I", .fieldLink RX1 9 "BlankMatcher" "text" "[I", .methodLink RX1 108 yX1_agree, .static yX1_agree, .code yX1_agree cX1_agree 2 (some .boolean)] ++ wsX10 ++ (vx_atS RX1 58 "java/lang/IndexOutOfBoundsException" ["java/lang/RuntimeException", "java/lang/Exception"]).filter goodWord)
def wsX1_mismatchesOf : List Cond := .code yX1_mismatchesOf cX1_mismatchesOf 5 (some .int) :: ([.classLink RX1 37 "java/lang/IllegalArgumentException", .initialized "java/lang/IllegalArgumentException", .fieldLink RX1 23 "BlankMatcher" "patternSize" "I", .fieldLink RX1 13 "BlankMatcher" "pattern" "[I", .fieldLink RX1 9 "BlankMatcher" "text" "[I", .methodLink RX1 72 yX1_requirePlace, .instanceMethod yX1_requirePlace, .selects RX1 yX1_requirePlace yX1_requirePlace, .initialized RX1, .code yX1_requirePlace cX1_requirePlace 2 none, .classLink RX1 54 "java/lang/IndexOutOfBoundsException", .initialized "java/lang/IndexOutOfBoundsException", .methodLink RX1 89 yX1_places, .instanceMethod yX1_places, .selects RX1 yX1_places yX1_places, .code yX1_places cX1_places 1 (some .int), .fieldLink RX1 19 "BlankMatcher" "textSize" "I", .methodLink RX1 108 yX1_agree, .static yX1_agree, .code yX1_agree cX1_agree 2 (some .boolean)] ++ wsX10 ++ (vx_atS RX1 41 "java/lang/IllegalArgumentException" ["java/lang/RuntimeException", "java/lang/Exception"]).filter goodWord ++ (vx_atS RX1 58 "java/lang/IndexOutOfBoundsException" ["java/lang/RuntimeException", "java/lang/Exception"]).filter goodWord)
def wsX1_nextMismatch : List Cond := .code yX1_nextMismatch cX1_nextMismatch 3 (some .int) :: ([.classLink RX1 37 "java/lang/IllegalArgumentException", .initialized "java/lang/IllegalArgumentException", .methodLink RX1 72 yX1_requirePlace, .instanceMethod yX1_requirePlace, .selects RX1 yX1_requirePlace yX1_requirePlace, .initialized RX1, .code yX1_requirePlace cX1_requirePlace 2 none, .classLink RX1 54 "java/lang/IndexOutOfBoundsException", .initialized "java/lang/IndexOutOfBoundsException", .methodLink RX1 89 yX1_places, .instanceMethod yX1_places, .selects RX1 yX1_places yX1_places, .code yX1_places cX1_places 1 (some .int), .fieldLink RX1 23 "BlankMatcher" "patternSize" "I", .fieldLink RX1 19 "BlankMatcher" "textSize" "I", .methodLink RX1 114 yX1_firstMismatch, .instanceMethod yX1_firstMismatch, .selects RX1 yX1_firstMismatch yX1_firstMismatch, .code yX1_firstMismatch cX1_firstMismatch 4 (some .int), .fieldLink RX1 13 "BlankMatcher" "pattern" "[I", .fieldLink RX1 9 "BlankMatcher" "text" "[I", .methodLink RX1 108 yX1_agree, .static yX1_agree, .code yX1_agree cX1_agree 2 (some .boolean)] ++ wsX10 ++ (vx_atS RX1 41 "java/lang/IllegalArgumentException" ["java/lang/RuntimeException", "java/lang/Exception"]).filter goodWord ++ (vx_atS RX1 58 "java/lang/IndexOutOfBoundsException" ["java/lang/RuntimeException", "java/lang/Exception"]).filter goodWord)
def wsX1_agreement : List Cond := .code yX1_agreement cX1_agreement 5 (some .int) :: ([.classLink RX1 37 "java/lang/IllegalArgumentException", .initialized "java/lang/IllegalArgumentException", .fieldLink RX1 19 "BlankMatcher" "textSize" "I", .fieldLink RX1 23 "BlankMatcher" "patternSize" "I", .methodLink RX1 121 Lib.Math.min.name, .static Lib.Math.min.name, .initialized "java/lang/Math", .code Lib.Math.min.name Lib.Math.min.code 2 (some .int), .fieldLink RX1 9 "BlankMatcher" "text" "[I", .fieldLink RX1 13 "BlankMatcher" "pattern" "[I", .methodLink RX1 108 yX1_agree, .static yX1_agree, .initialized RX1, .code yX1_agree cX1_agree 2 (some .boolean)] ++ wsX10 ++ (vx_atS RX1 41 "java/lang/IllegalArgumentException" ["java/lang/RuntimeException", "java/lang/Exception"]).filter goodWord)
def wsX1_within : List Cond := .code yX1_within cX1_within 5 (some .int) :: ([.classLink RX1 37 "java/lang/IllegalArgumentException", .initialized "java/lang/IllegalArgumentException", .methodLink RX1 89 yX1_places, .instanceMethod yX1_places, .selects RX1 yX1_places yX1_places, .initialized RX1, .code yX1_places cX1_places 1 (some .int), .fieldLink RX1 23 "BlankMatcher" "patternSize" "I", .fieldLink RX1 19 "BlankMatcher" "textSize" "I", .methodLink RX1 102 yX1_countMismatches, .instanceMethod yX1_countMismatches, .selects RX1 yX1_countMismatches yX1_countMismatches, .code yX1_countMismatches cX1_countMismatches 4 (some .int), .fieldLink RX1 13 "BlankMatcher" "pattern" "[I", .fieldLink RX1 9 "BlankMatcher" "text" "[I", .methodLink RX1 108 yX1_agree, .static yX1_agree, .code yX1_agree cX1_agree 2 (some .boolean)] ++ wsX10 ++ (vx_atS RX1 41 "java/lang/IllegalArgumentException" ["java/lang/RuntimeException", "java/lang/Exception"]).filter goodWord)
def wsX1_placeOfRank : List Cond := .code yX1_placeOfRank cX1_placeOfRank 6 (some .int) :: ([.fieldLink RX1 23 "BlankMatcher" "patternSize" "I", .fieldLink RX1 16 "BlankMatcher" "mismatchesByPlace" "[I"] ++ wsX10)
def wsX1_ranked : List Cond := .code yX1_ranked cX1_ranked 4 (some .int) :: ([.classLink RX1 54 "java/lang/IndexOutOfBoundsException", .initialized "java/lang/IndexOutOfBoundsException", .fieldLink RX1 16 "BlankMatcher" "mismatchesByPlace" "[I", .methodLink RX1 89 yX1_places, .instanceMethod yX1_places, .selects RX1 yX1_places yX1_places, .initialized RX1, .code yX1_places cX1_places 1 (some .int), .fieldLink RX1 23 "BlankMatcher" "patternSize" "I", .fieldLink RX1 19 "BlankMatcher" "textSize" "I", .methodLink RX1 102 yX1_countMismatches, .instanceMethod yX1_countMismatches, .selects RX1 yX1_countMismatches yX1_countMismatches, .code yX1_countMismatches cX1_countMismatches 4 (some .int), .fieldLink RX1 13 "BlankMatcher" "pattern" "[I", .fieldLink RX1 9 "BlankMatcher" "text" "[I", .methodLink RX1 108 yX1_agree, .static yX1_agree, .code yX1_agree cX1_agree 2 (some .boolean), .methodLink RX1 128 yX1_placeOfRank, .instanceMethod yX1_placeOfRank, .selects RX1 yX1_placeOfRank yX1_placeOfRank, .code yX1_placeOfRank cX1_placeOfRank 6 (some .int)] ++ wsX10 ++ (vx_atS RX1 58 "java/lang/IndexOutOfBoundsException" ["java/lang/RuntimeException", "java/lang/Exception"]).filter goodWord)
def wsX1_countLetter : List Cond := .code yX1_countLetter cX1_countLetter 6 (some .int) :: ([.fieldLink RX1 9 "BlankMatcher" "text" "[I", .methodLink RX1 89 yX1_places, .instanceMethod yX1_places, .selects RX1 yX1_places yX1_places, .initialized RX1, .code yX1_places cX1_places 1 (some .int), .fieldLink RX1 23 "BlankMatcher" "patternSize" "I", .fieldLink RX1 19 "BlankMatcher" "textSize" "I"] ++ wsX10)
def wsX1_bestLetter : List Cond := .code yX1_bestLetter cX1_bestLetter 6 (some .int) :: ([.methodLink RX1 61 yX1_requirePatternIndex, .instanceMethod yX1_requirePatternIndex, .selects RX1 yX1_requirePatternIndex yX1_requirePatternIndex, .initialized RX1, .code yX1_requirePatternIndex cX1_requirePatternIndex 2 none, .classLink RX1 54 "java/lang/IndexOutOfBoundsException", .initialized "java/lang/IndexOutOfBoundsException", .fieldLink RX1 23 "BlankMatcher" "patternSize" "I", .methodLink RX1 131 yX1_countLetter, .instanceMethod yX1_countLetter, .selects RX1 yX1_countLetter yX1_countLetter, .code yX1_countLetter cX1_countLetter 6 (some .int), .fieldLink RX1 9 "BlankMatcher" "text" "[I", .methodLink RX1 89 yX1_places, .instanceMethod yX1_places, .selects RX1 yX1_places yX1_places, .code yX1_places cX1_places 1 (some .int), .fieldLink RX1 19 "BlankMatcher" "textSize" "I"] ++ wsX10 ++ (vx_atS RX1 58 "java/lang/IndexOutOfBoundsException" ["java/lang/RuntimeException", "java/lang/Exception"]).filter goodWord)
def wsX1_sumMatches_r1 : List Cond := [Cond.fieldLink RX1 134 "BlankMatcher$Likeness" "SUM" "LBlankMatcher$Likeness;", Cond.methodLink RX1 81 yX1_countLike, Cond.instanceMethod yX1_countLike, Cond.selects RX1 yX1_countLike yX1_countLike, Cond.initialized RX1, Cond.code yX1_countLike cX1_countLike 5 (some .int), Cond.methodLink RX1 89 yX1_places, Cond.instanceMethod yX1_places, Cond.selects RX1 yX1_places yX1_places, Cond.code yX1_places cX1_places 1 (some .int), Cond.fieldLink RX1 23 "BlankMatcher" "patternSize" "I", Cond.fieldLink RX1 19 "BlankMatcher" "textSize" "I", Cond.methodLink RX1 158 yX1_isLike, Cond.instanceMethod yX1_isLike, Cond.selects RX1 yX1_isLike yX1_isLike, Cond.code yX1_isLike cX1_isLike 3 (some .boolean), Cond.fieldLink RX1 137 "BlankMatcher$Likeness" "ORDER" "LBlankMatcher$Likeness;", Cond.methodLink RX1 162 yX1_hasSum, Cond.instanceMethod yX1_hasSum, Cond.selects RX1 yX1_hasSum yX1_hasSum, Cond.code yX1_hasSum cX1_hasSum 4 (some .boolean), Cond.fieldLink RX1 9 "BlankMatcher" "text" "[I", Cond.fieldLink RX1 13 "BlankMatcher" "pattern" "[I", Cond.methodLink RX1 165 yX1_hasOrder]
def wsX1_sumMatches_r2 : List Cond := [Cond.instanceMethod yX1_hasOrder, Cond.selects RX1 yX1_hasOrder yX1_hasOrder, Cond.code yX1_hasOrder cX1_hasOrder 3 (some .boolean), Cond.methodLink RX1 168 yX1_hasOrderUpTo, Cond.instanceMethod yX1_hasOrderUpTo, Cond.selects RX1 yX1_hasOrderUpTo yX1_hasOrderUpTo, Cond.code yX1_hasOrderUpTo cX1_hasOrderUpTo 8 (some .boolean), Cond.methodLink RX1 98 yX1_hasSymbols, Cond.instanceMethod yX1_hasSymbols, Cond.selects RX1 yX1_hasSymbols yX1_hasSymbols, Cond.code yX1_hasSymbols cX1_hasSymbols 2 (some .boolean), Cond.methodLink RX1 114 yX1_firstMismatch, Cond.instanceMethod yX1_firstMismatch, Cond.selects RX1 yX1_firstMismatch yX1_firstMismatch, Cond.code yX1_firstMismatch cX1_firstMismatch 4 (some .int), Cond.methodLink RX1 108 yX1_agree, Cond.static yX1_agree, Cond.code yX1_agree cX1_agree 2 (some .boolean)]
def wsX1_sumMatches : List Cond := .code yX1_sumMatches cX1_sumMatches 1 (some .int) :: ((wsX1_sumMatches_r1 ++ wsX1_sumMatches_r2) ++ wsX10)
def wsX1_sumMatch_r1 : List Cond := [Cond.fieldLink RX1 134 "BlankMatcher$Likeness" "SUM" "LBlankMatcher$Likeness;", Cond.methodLink RX1 85 yX1_requireLike, Cond.instanceMethod yX1_requireLike, Cond.selects RX1 yX1_requireLike yX1_requireLike, Cond.initialized RX1, Cond.code yX1_requireLike cX1_requireLike 4 (some .int), Cond.classLink RX1 54 "java/lang/IndexOutOfBoundsException", Cond.initialized "java/lang/IndexOutOfBoundsException", Cond.methodLink RX1 153 yX1_findLike, Cond.instanceMethod yX1_findLike, Cond.selects RX1 yX1_findLike yX1_findLike, Cond.code yX1_findLike cX1_findLike 6 (some .int), Cond.methodLink RX1 89 yX1_places, Cond.instanceMethod yX1_places, Cond.selects RX1 yX1_places yX1_places, Cond.code yX1_places cX1_places 1 (some .int), Cond.fieldLink RX1 23 "BlankMatcher" "patternSize" "I", Cond.fieldLink RX1 19 "BlankMatcher" "textSize" "I", Cond.methodLink RX1 158 yX1_isLike, Cond.instanceMethod yX1_isLike, Cond.selects RX1 yX1_isLike yX1_isLike, Cond.code yX1_isLike cX1_isLike 3 (some .boolean), Cond.fieldLink RX1 137 "BlankMatcher$Likeness" "ORDER" "LBlankMatcher$Likeness;", Cond.methodLink RX1 162 yX1_hasSum]
def wsX1_sumMatch_r2 : List Cond := [Cond.instanceMethod yX1_hasSum, Cond.selects RX1 yX1_hasSum yX1_hasSum, Cond.code yX1_hasSum cX1_hasSum 4 (some .boolean), Cond.fieldLink RX1 9 "BlankMatcher" "text" "[I", Cond.fieldLink RX1 13 "BlankMatcher" "pattern" "[I", Cond.methodLink RX1 165 yX1_hasOrder, Cond.instanceMethod yX1_hasOrder, Cond.selects RX1 yX1_hasOrder yX1_hasOrder, Cond.code yX1_hasOrder cX1_hasOrder 3 (some .boolean), Cond.methodLink RX1 168 yX1_hasOrderUpTo, Cond.instanceMethod yX1_hasOrderUpTo, Cond.selects RX1 yX1_hasOrderUpTo yX1_hasOrderUpTo, Cond.code yX1_hasOrderUpTo cX1_hasOrderUpTo 8 (some .boolean), Cond.methodLink RX1 98 yX1_hasSymbols, Cond.instanceMethod yX1_hasSymbols, Cond.selects RX1 yX1_hasSymbols yX1_hasSymbols, Cond.code yX1_hasSymbols cX1_hasSymbols 2 (some .boolean), Cond.methodLink RX1 114 yX1_firstMismatch, Cond.instanceMethod yX1_firstMismatch, Cond.selects RX1 yX1_firstMismatch yX1_firstMismatch, Cond.code yX1_firstMismatch cX1_firstMismatch 4 (some .int), Cond.methodLink RX1 108 yX1_agree, Cond.static yX1_agree, Cond.code yX1_agree cX1_agree 2 (some .boolean)]
def wsX1_sumMatch : List Cond := .code yX1_sumMatch cX1_sumMatch 2 (some .int) :: ((wsX1_sumMatch_r1 ++ wsX1_sumMatch_r2) ++ wsX10 ++ (vx_atS RX1 58 "java/lang/IndexOutOfBoundsException" ["java/lang/RuntimeException", "java/lang/Exception"]).filter goodWord)
def wsX1_orderMatches_r1 : List Cond := [Cond.fieldLink RX1 137 "BlankMatcher$Likeness" "ORDER" "LBlankMatcher$Likeness;", Cond.methodLink RX1 81 yX1_countLike, Cond.instanceMethod yX1_countLike, Cond.selects RX1 yX1_countLike yX1_countLike, Cond.initialized RX1, Cond.code yX1_countLike cX1_countLike 5 (some .int), Cond.methodLink RX1 89 yX1_places, Cond.instanceMethod yX1_places, Cond.selects RX1 yX1_places yX1_places, Cond.code yX1_places cX1_places 1 (some .int), Cond.fieldLink RX1 23 "BlankMatcher" "patternSize" "I", Cond.fieldLink RX1 19 "BlankMatcher" "textSize" "I", Cond.methodLink RX1 158 yX1_isLike, Cond.instanceMethod yX1_isLike, Cond.selects RX1 yX1_isLike yX1_isLike, Cond.code yX1_isLike cX1_isLike 3 (some .boolean), Cond.fieldLink RX1 134 "BlankMatcher$Likeness" "SUM" "LBlankMatcher$Likeness;", Cond.methodLink RX1 162 yX1_hasSum, Cond.instanceMethod yX1_hasSum, Cond.selects RX1 yX1_hasSum yX1_hasSum, Cond.code yX1_hasSum cX1_hasSum 4 (some .boolean), Cond.fieldLink RX1 9 "BlankMatcher" "text" "[I", Cond.fieldLink RX1 13 "BlankMatcher" "pattern" "[I", Cond.methodLink RX1 165 yX1_hasOrder]
def wsX1_orderMatches_r2 : List Cond := [Cond.instanceMethod yX1_hasOrder, Cond.selects RX1 yX1_hasOrder yX1_hasOrder, Cond.code yX1_hasOrder cX1_hasOrder 3 (some .boolean), Cond.methodLink RX1 168 yX1_hasOrderUpTo, Cond.instanceMethod yX1_hasOrderUpTo, Cond.selects RX1 yX1_hasOrderUpTo yX1_hasOrderUpTo, Cond.code yX1_hasOrderUpTo cX1_hasOrderUpTo 8 (some .boolean), Cond.methodLink RX1 98 yX1_hasSymbols, Cond.instanceMethod yX1_hasSymbols, Cond.selects RX1 yX1_hasSymbols yX1_hasSymbols, Cond.code yX1_hasSymbols cX1_hasSymbols 2 (some .boolean), Cond.methodLink RX1 114 yX1_firstMismatch, Cond.instanceMethod yX1_firstMismatch, Cond.selects RX1 yX1_firstMismatch yX1_firstMismatch, Cond.code yX1_firstMismatch cX1_firstMismatch 4 (some .int), Cond.methodLink RX1 108 yX1_agree, Cond.static yX1_agree, Cond.code yX1_agree cX1_agree 2 (some .boolean)]
def wsX1_orderMatches : List Cond := .code yX1_orderMatches cX1_orderMatches 1 (some .int) :: ((wsX1_orderMatches_r1 ++ wsX1_orderMatches_r2) ++ wsX10)
def wsX1_orderMatch_r1 : List Cond := [Cond.fieldLink RX1 137 "BlankMatcher$Likeness" "ORDER" "LBlankMatcher$Likeness;", Cond.methodLink RX1 85 yX1_requireLike, Cond.instanceMethod yX1_requireLike, Cond.selects RX1 yX1_requireLike yX1_requireLike, Cond.initialized RX1, Cond.code yX1_requireLike cX1_requireLike 4 (some .int), Cond.classLink RX1 54 "java/lang/IndexOutOfBoundsException", Cond.initialized "java/lang/IndexOutOfBoundsException", Cond.methodLink RX1 153 yX1_findLike, Cond.instanceMethod yX1_findLike, Cond.selects RX1 yX1_findLike yX1_findLike, Cond.code yX1_findLike cX1_findLike 6 (some .int), Cond.methodLink RX1 89 yX1_places, Cond.instanceMethod yX1_places, Cond.selects RX1 yX1_places yX1_places, Cond.code yX1_places cX1_places 1 (some .int), Cond.fieldLink RX1 23 "BlankMatcher" "patternSize" "I", Cond.fieldLink RX1 19 "BlankMatcher" "textSize" "I", Cond.methodLink RX1 158 yX1_isLike, Cond.instanceMethod yX1_isLike, Cond.selects RX1 yX1_isLike yX1_isLike, Cond.code yX1_isLike cX1_isLike 3 (some .boolean), Cond.fieldLink RX1 134 "BlankMatcher$Likeness" "SUM" "LBlankMatcher$Likeness;", Cond.methodLink RX1 162 yX1_hasSum]
def wsX1_orderMatch_r2 : List Cond := [Cond.instanceMethod yX1_hasSum, Cond.selects RX1 yX1_hasSum yX1_hasSum, Cond.code yX1_hasSum cX1_hasSum 4 (some .boolean), Cond.fieldLink RX1 9 "BlankMatcher" "text" "[I", Cond.fieldLink RX1 13 "BlankMatcher" "pattern" "[I", Cond.methodLink RX1 165 yX1_hasOrder, Cond.instanceMethod yX1_hasOrder, Cond.selects RX1 yX1_hasOrder yX1_hasOrder, Cond.code yX1_hasOrder cX1_hasOrder 3 (some .boolean), Cond.methodLink RX1 168 yX1_hasOrderUpTo, Cond.instanceMethod yX1_hasOrderUpTo, Cond.selects RX1 yX1_hasOrderUpTo yX1_hasOrderUpTo, Cond.code yX1_hasOrderUpTo cX1_hasOrderUpTo 8 (some .boolean), Cond.methodLink RX1 98 yX1_hasSymbols, Cond.instanceMethod yX1_hasSymbols, Cond.selects RX1 yX1_hasSymbols yX1_hasSymbols, Cond.code yX1_hasSymbols cX1_hasSymbols 2 (some .boolean), Cond.methodLink RX1 114 yX1_firstMismatch, Cond.instanceMethod yX1_firstMismatch, Cond.selects RX1 yX1_firstMismatch yX1_firstMismatch, Cond.code yX1_firstMismatch cX1_firstMismatch 4 (some .int), Cond.methodLink RX1 108 yX1_agree, Cond.static yX1_agree, Cond.code yX1_agree cX1_agree 2 (some .boolean)]
def wsX1_orderMatch : List Cond := .code yX1_orderMatch cX1_orderMatch 2 (some .int) :: ((wsX1_orderMatch_r1 ++ wsX1_orderMatch_r2) ++ wsX10 ++ (vx_atS RX1 58 "java/lang/IndexOutOfBoundsException" ["java/lang/RuntimeException", "java/lang/Exception"]).filter goodWord)
def wsX1_repeatsAfter : List Cond := .code yX1_repeatsAfter cX1_repeatsAfter 3 (some .boolean) :: ([.fieldLink RX1 19 "BlankMatcher" "textSize" "I", .fieldLink RX1 9 "BlankMatcher" "text" "[I", .methodLink RX1 108 yX1_agree, .static yX1_agree, .initialized RX1, .code yX1_agree cX1_agree 2 (some .boolean)] ++ wsX10)
def wsX1_hasPeriod : List Cond := .code yX1_hasPeriod cX1_hasPeriod 2 (some .boolean) :: ([.classLink RX1 37 "java/lang/IllegalArgumentException", .initialized "java/lang/IllegalArgumentException", .methodLink RX1 142 yX1_repeatsAfter, .instanceMethod yX1_repeatsAfter, .selects RX1 yX1_repeatsAfter yX1_repeatsAfter, .initialized RX1, .code yX1_repeatsAfter cX1_repeatsAfter 3 (some .boolean), .fieldLink RX1 19 "BlankMatcher" "textSize" "I", .fieldLink RX1 9 "BlankMatcher" "text" "[I", .methodLink RX1 108 yX1_agree, .static yX1_agree, .code yX1_agree cX1_agree 2 (some .boolean)] ++ wsX10 ++ (vx_atS RX1 41 "java/lang/IllegalArgumentException" ["java/lang/RuntimeException", "java/lang/Exception"]).filter goodWord)
def wsX1_leastPeriod : List Cond := .code yX1_leastPeriod cX1_leastPeriod 2 (some .int) :: ([.fieldLink RX1 19 "BlankMatcher" "textSize" "I", .methodLink RX1 92 Lib.Math.max.name, .static Lib.Math.max.name, .initialized "java/lang/Math", .code Lib.Math.max.name Lib.Math.max.code 2 (some .int), .methodLink RX1 142 yX1_repeatsAfter, .instanceMethod yX1_repeatsAfter, .selects RX1 yX1_repeatsAfter yX1_repeatsAfter, .initialized RX1, .code yX1_repeatsAfter cX1_repeatsAfter 3 (some .boolean), .fieldLink RX1 9 "BlankMatcher" "text" "[I", .methodLink RX1 108 yX1_agree, .static yX1_agree, .code yX1_agree cX1_agree 2 (some .boolean)] ++ wsX10)
def wsX2_init : List Cond := .code yX2_init cX2_init 1 none :: ([.methodLink RX2 1 objectInit, .instanceMethod objectInit, .code objectInit ⟨#[0xb1]⟩ 1 none, .arrayClass .int, .fieldLink RX2 7 "BlankMatcherModel" "text" "[I", .fieldLink RX2 13 "BlankMatcherModel" "pattern" "[I"] ++ wsX20)
def wsX2_thrown : List Cond := .code yX2_thrown cX2_thrown 1 (some .int) :: ([.fieldLink RX2 16 "BlankMatcherModel" "thrown" "I"] ++ wsX20)
def wsX2_goesWell : List Cond := .code yX2_goesWell cX2_goesWell 2 (some .boolean) :: ([.fieldLink RX2 16 "BlankMatcherModel" "thrown" "I"] ++ wsX20)
def wsX2_isSymbol : List Cond := .code yX2_isSymbol cX2_isSymbol 1 (some .boolean) :: ([])
def wsX2_appendText : List Cond := .code yX2_appendText cX2_appendText 2 (some .int) :: ([.fieldLink RX2 24 "BlankMatcherModel" "n" "I", .fieldLink RX2 7 "BlankMatcherModel" "text" "[I", .methodLink RX2 20 yX2_isSymbol, .static yX2_isSymbol, .initialized RX2, .code yX2_isSymbol cX2_isSymbol 1 (some .boolean), .methodLink RX2 27 yX2_goesWell, .instanceMethod yX2_goesWell, .selects RX2 yX2_goesWell yX2_goesWell, .code yX2_goesWell cX2_goesWell 2 (some .boolean), .fieldLink RX2 16 "BlankMatcherModel" "thrown" "I"] ++ wsX20)
def wsX2_repeatText : List Cond := .code yX2_repeatText cX2_repeatText 5 (some .int) :: ([.fieldLink RX2 24 "BlankMatcherModel" "n" "I", .fieldLink RX2 7 "BlankMatcherModel" "text" "[I", .methodLink RX2 27 yX2_goesWell, .instanceMethod yX2_goesWell, .selects RX2 yX2_goesWell yX2_goesWell, .initialized RX2, .code yX2_goesWell cX2_goesWell 2 (some .boolean), .fieldLink RX2 16 "BlankMatcherModel" "thrown" "I"] ++ wsX20)
def wsX2_setText : List Cond := .code yX2_setText cX2_setText 4 (some .int) :: ([.fieldLink RX2 24 "BlankMatcherModel" "n" "I", .fieldLink RX2 7 "BlankMatcherModel" "text" "[I", .methodLink RX2 20 yX2_isSymbol, .static yX2_isSymbol, .initialized RX2, .code yX2_isSymbol cX2_isSymbol 1 (some .boolean), .methodLink RX2 27 yX2_goesWell, .instanceMethod yX2_goesWell, .selects RX2 yX2_goesWell yX2_goesWell, .code yX2_goesWell cX2_goesWell 2 (some .boolean), .fieldLink RX2 16 "BlankMatcherModel" "thrown" "I"] ++ wsX20)
def wsX2_appendPattern : List Cond := .code yX2_appendPattern cX2_appendPattern 2 (some .int) :: ([.fieldLink RX2 30 "BlankMatcherModel" "m" "I", .fieldLink RX2 13 "BlankMatcherModel" "pattern" "[I", .methodLink RX2 20 yX2_isSymbol, .static yX2_isSymbol, .initialized RX2, .code yX2_isSymbol cX2_isSymbol 1 (some .boolean), .methodLink RX2 27 yX2_goesWell, .instanceMethod yX2_goesWell, .selects RX2 yX2_goesWell yX2_goesWell, .code yX2_goesWell cX2_goesWell 2 (some .boolean), .fieldLink RX2 16 "BlankMatcherModel" "thrown" "I"] ++ wsX20)
def wsX2_isInPattern : List Cond := .code yX2_isInPattern cX2_isInPattern 2 (some .boolean) :: ([.fieldLink RX2 30 "BlankMatcherModel" "m" "I"] ++ wsX20)
def wsX2_setPattern : List Cond := .code yX2_setPattern cX2_setPattern 4 (some .int) :: ([.fieldLink RX2 13 "BlankMatcherModel" "pattern" "[I", .methodLink RX2 33 yX2_isInPattern, .instanceMethod yX2_isInPattern, .selects RX2 yX2_isInPattern yX2_isInPattern, .initialized RX2, .code yX2_isInPattern cX2_isInPattern 2 (some .boolean), .fieldLink RX2 30 "BlankMatcherModel" "m" "I", .methodLink RX2 20 yX2_isSymbol, .static yX2_isSymbol, .code yX2_isSymbol cX2_isSymbol 1 (some .boolean), .methodLink RX2 27 yX2_goesWell, .instanceMethod yX2_goesWell, .selects RX2 yX2_goesWell yX2_goesWell, .code yX2_goesWell cX2_goesWell 2 (some .boolean), .fieldLink RX2 16 "BlankMatcherModel" "thrown" "I"] ++ wsX20)
def wsX2_takePattern : List Cond := .code yX2_takePattern cX2_takePattern 6 (some .int) :: ([.fieldLink RX2 24 "BlankMatcherModel" "n" "I", .fieldLink RX2 30 "BlankMatcherModel" "m" "I", .fieldLink RX2 13 "BlankMatcherModel" "pattern" "[I", .fieldLink RX2 7 "BlankMatcherModel" "text" "[I", .methodLink RX2 27 yX2_goesWell, .instanceMethod yX2_goesWell, .selects RX2 yX2_goesWell yX2_goesWell, .initialized RX2, .code yX2_goesWell cX2_goesWell 2 (some .boolean), .fieldLink RX2 16 "BlankMatcherModel" "thrown" "I"] ++ wsX20)
def wsX2_clearText : List Cond := .code yX2_clearText cX2_clearText 2 (some .int) :: ([.fieldLink RX2 16 "BlankMatcherModel" "thrown" "I", .fieldLink RX2 24 "BlankMatcherModel" "n" "I"] ++ wsX20)
def wsX2_clearPattern : List Cond := .code yX2_clearPattern cX2_clearPattern 2 (some .int) :: ([.fieldLink RX2 16 "BlankMatcherModel" "thrown" "I", .fieldLink RX2 30 "BlankMatcherModel" "m" "I"] ++ wsX20)
def wsX2_textLength : List Cond := .code yX2_textLength cX2_textLength 1 (some .int) :: ([.fieldLink RX2 16 "BlankMatcherModel" "thrown" "I", .fieldLink RX2 24 "BlankMatcherModel" "n" "I"] ++ wsX20)
def wsX2_patternLength : List Cond := .code yX2_patternLength cX2_patternLength 1 (some .int) :: ([.fieldLink RX2 16 "BlankMatcherModel" "thrown" "I", .fieldLink RX2 30 "BlankMatcherModel" "m" "I"] ++ wsX20)
def wsX2_placeMany : List Cond := .code yX2_placeMany cX2_placeMany 1 (some .int) :: ([.fieldLink RX2 24 "BlankMatcherModel" "n" "I", .fieldLink RX2 30 "BlankMatcherModel" "m" "I"] ++ wsX20)
def wsX2_isPlace : List Cond := .code yX2_isPlace cX2_isPlace 2 (some .boolean) :: ([.methodLink RX2 36 yX2_placeMany, .instanceMethod yX2_placeMany, .selects RX2 yX2_placeMany yX2_placeMany, .initialized RX2, .code yX2_placeMany cX2_placeMany 1 (some .int), .fieldLink RX2 24 "BlankMatcherModel" "n" "I", .fieldLink RX2 30 "BlankMatcherModel" "m" "I"] ++ wsX20)
def wsX2_places : List Cond := .code yX2_places cX2_places 1 (some .int) :: ([.fieldLink RX2 16 "BlankMatcherModel" "thrown" "I", .methodLink RX2 36 yX2_placeMany, .instanceMethod yX2_placeMany, .selects RX2 yX2_placeMany yX2_placeMany, .initialized RX2, .code yX2_placeMany cX2_placeMany 1 (some .int), .fieldLink RX2 24 "BlankMatcherModel" "n" "I", .fieldLink RX2 30 "BlankMatcherModel" "m" "I"] ++ wsX20)
def wsX2_product : List Cond := .code yX2_product cX2_product 5 (some .int) :: ([.fieldLink RX2 30 "BlankMatcherModel" "m" "I", .fieldLink RX2 24 "BlankMatcherModel" "n" "I", .fieldLink RX2 7 "BlankMatcherModel" "text" "[I", .fieldLink RX2 13 "BlankMatcherModel" "pattern" "[I", .methodLink RX2 27 yX2_goesWell, .instanceMethod yX2_goesWell, .selects RX2 yX2_goesWell yX2_goesWell, .initialized RX2, .code yX2_goesWell cX2_goesWell 2 (some .boolean), .fieldLink RX2 16 "BlankMatcherModel" "thrown" "I"] ++ wsX20)
def wsX2_difference : List Cond := .code yX2_difference cX2_difference 5 (some .int) :: ([.fieldLink RX2 30 "BlankMatcherModel" "m" "I", .fieldLink RX2 13 "BlankMatcherModel" "pattern" "[I", .fieldLink RX2 7 "BlankMatcherModel" "text" "[I", .methodLink RX2 40 yX2_isPlace, .instanceMethod yX2_isPlace, .selects RX2 yX2_isPlace yX2_isPlace, .initialized RX2, .code yX2_isPlace cX2_isPlace 2 (some .boolean), .methodLink RX2 36 yX2_placeMany, .instanceMethod yX2_placeMany, .selects RX2 yX2_placeMany yX2_placeMany, .code yX2_placeMany cX2_placeMany 1 (some .int), .fieldLink RX2 24 "BlankMatcherModel" "n" "I", .methodLink RX2 27 yX2_goesWell, .instanceMethod yX2_goesWell, .selects RX2 yX2_goesWell yX2_goesWell, .code yX2_goesWell cX2_goesWell 2 (some .boolean), .fieldLink RX2 16 "BlankMatcherModel" "thrown" "I"] ++ wsX20)
def wsX2_agree : List Cond := .code yX2_agree cX2_agree 2 (some .boolean) :: ([])
def wsX2_countAt : List Cond := .code yX2_countAt cX2_countAt 4 (some .int) :: ([.fieldLink RX2 30 "BlankMatcherModel" "m" "I", .fieldLink RX2 13 "BlankMatcherModel" "pattern" "[I", .fieldLink RX2 7 "BlankMatcherModel" "text" "[I", .methodLink RX2 43 yX2_agree, .static yX2_agree, .initialized RX2, .code yX2_agree cX2_agree 2 (some .boolean)] ++ wsX20)
def wsX2_sumOf : List Cond := .code yX2_sumOf cX2_sumOf 4 (some .int) :: ([.fieldLink RX2 30 "BlankMatcherModel" "m" "I", .fieldLink RX2 7 "BlankMatcherModel" "text" "[I", .fieldLink RX2 13 "BlankMatcherModel" "pattern" "[I"] ++ wsX20)
def wsX2_sign : List Cond := .code yX2_sign cX2_sign 1 (some .int) :: ([])
def wsX2_isOrdered : List Cond := .code yX2_isOrdered cX2_isOrdered 5 (some .boolean) :: ([.fieldLink RX2 30 "BlankMatcherModel" "m" "I", .fieldLink RX2 13 "BlankMatcherModel" "pattern" "[I", .fieldLink RX2 7 "BlankMatcherModel" "text" "[I", .methodLink RX2 47 yX2_sign, .static yX2_sign, .initialized RX2, .code yX2_sign cX2_sign 1 (some .int)] ++ wsX20)
def wsX2_isWanted : List Cond := .code yX2_isWanted cX2_isWanted 3 (some .boolean) :: ([.methodLink RX2 51 yX2_countAt, .instanceMethod yX2_countAt, .selects RX2 yX2_countAt yX2_countAt, .initialized RX2, .code yX2_countAt cX2_countAt 4 (some .int), .fieldLink RX2 30 "BlankMatcherModel" "m" "I", .fieldLink RX2 13 "BlankMatcherModel" "pattern" "[I", .fieldLink RX2 7 "BlankMatcherModel" "text" "[I", .methodLink RX2 43 yX2_agree, .static yX2_agree, .code yX2_agree cX2_agree 2 (some .boolean), .methodLink RX2 54 yX2_sumOf, .instanceMethod yX2_sumOf, .selects RX2 yX2_sumOf yX2_sumOf, .code yX2_sumOf cX2_sumOf 4 (some .int), .methodLink RX2 57 yX2_isOrdered, .instanceMethod yX2_isOrdered, .selects RX2 yX2_isOrdered yX2_isOrdered, .code yX2_isOrdered cX2_isOrdered 5 (some .boolean), .methodLink RX2 47 yX2_sign, .static yX2_sign, .code yX2_sign cX2_sign 1 (some .int)] ++ wsX20)
def wsX2_wanted_r1 : List Cond := [Cond.methodLink RX2 36 yX2_placeMany, Cond.instanceMethod yX2_placeMany, Cond.selects RX2 yX2_placeMany yX2_placeMany, Cond.initialized RX2, Cond.code yX2_placeMany cX2_placeMany 1 (some .int), Cond.fieldLink RX2 24 "BlankMatcherModel" "n" "I", Cond.fieldLink RX2 30 "BlankMatcherModel" "m" "I", Cond.methodLink RX2 60 yX2_isWanted, Cond.instanceMethod yX2_isWanted, Cond.selects RX2 yX2_isWanted yX2_isWanted, Cond.code yX2_isWanted cX2_isWanted 3 (some .boolean), Cond.methodLink RX2 51 yX2_countAt, Cond.instanceMethod yX2_countAt, Cond.selects RX2 yX2_countAt yX2_countAt, Cond.code yX2_countAt cX2_countAt 4 (some .int), Cond.fieldLink RX2 13 "BlankMatcherModel" "pattern" "[I", Cond.fieldLink RX2 7 "BlankMatcherModel" "text" "[I", Cond.methodLink RX2 43 yX2_agree, Cond.static yX2_agree, Cond.code yX2_agree cX2_agree 2 (some .boolean), Cond.methodLink RX2 54 yX2_sumOf, Cond.instanceMethod yX2_sumOf, Cond.selects RX2 yX2_sumOf yX2_sumOf, Cond.code yX2_sumOf cX2_sumOf 4 (some .int)]
def wsX2_wanted_r2 : List Cond := [Cond.methodLink RX2 57 yX2_isOrdered, Cond.instanceMethod yX2_isOrdered, Cond.selects RX2 yX2_isOrdered yX2_isOrdered, Cond.code yX2_isOrdered cX2_isOrdered 5 (some .boolean), Cond.methodLink RX2 47 yX2_sign, Cond.static yX2_sign, Cond.code yX2_sign cX2_sign 1 (some .int)]
def wsX2_wanted : List Cond := .code yX2_wanted cX2_wanted 4 (some .int) :: ((wsX2_wanted_r1 ++ wsX2_wanted_r2) ++ wsX20)
def wsX2_find_r1 : List Cond := [Cond.methodLink RX2 60 yX2_isWanted, Cond.instanceMethod yX2_isWanted, Cond.selects RX2 yX2_isWanted yX2_isWanted, Cond.initialized RX2, Cond.code yX2_isWanted cX2_isWanted 3 (some .boolean), Cond.methodLink RX2 51 yX2_countAt, Cond.instanceMethod yX2_countAt, Cond.selects RX2 yX2_countAt yX2_countAt, Cond.code yX2_countAt cX2_countAt 4 (some .int), Cond.fieldLink RX2 30 "BlankMatcherModel" "m" "I", Cond.fieldLink RX2 13 "BlankMatcherModel" "pattern" "[I", Cond.fieldLink RX2 7 "BlankMatcherModel" "text" "[I", Cond.methodLink RX2 43 yX2_agree, Cond.static yX2_agree, Cond.code yX2_agree cX2_agree 2 (some .boolean), Cond.methodLink RX2 54 yX2_sumOf, Cond.instanceMethod yX2_sumOf, Cond.selects RX2 yX2_sumOf yX2_sumOf, Cond.code yX2_sumOf cX2_sumOf 4 (some .int), Cond.methodLink RX2 57 yX2_isOrdered, Cond.instanceMethod yX2_isOrdered, Cond.selects RX2 yX2_isOrdered yX2_isOrdered, Cond.code yX2_isOrdered cX2_isOrdered 5 (some .boolean), Cond.methodLink RX2 47 yX2_sign]
def wsX2_find_r2 : List Cond := [Cond.static yX2_sign, Cond.code yX2_sign cX2_sign 1 (some .int)]
def wsX2_find : List Cond := .code yX2_find cX2_find 5 (some .int) :: ((wsX2_find_r1 ++ wsX2_find_r2) ++ wsX20)
def wsX2_isNumber_r1 : List Cond := [Cond.methodLink RX2 63 yX2_wanted, Cond.instanceMethod yX2_wanted, Cond.selects RX2 yX2_wanted yX2_wanted, Cond.initialized RX2, Cond.code yX2_wanted cX2_wanted 4 (some .int), Cond.methodLink RX2 36 yX2_placeMany, Cond.instanceMethod yX2_placeMany, Cond.selects RX2 yX2_placeMany yX2_placeMany, Cond.code yX2_placeMany cX2_placeMany 1 (some .int), Cond.fieldLink RX2 24 "BlankMatcherModel" "n" "I", Cond.fieldLink RX2 30 "BlankMatcherModel" "m" "I", Cond.methodLink RX2 60 yX2_isWanted, Cond.instanceMethod yX2_isWanted, Cond.selects RX2 yX2_isWanted yX2_isWanted, Cond.code yX2_isWanted cX2_isWanted 3 (some .boolean), Cond.methodLink RX2 51 yX2_countAt, Cond.instanceMethod yX2_countAt, Cond.selects RX2 yX2_countAt yX2_countAt, Cond.code yX2_countAt cX2_countAt 4 (some .int), Cond.fieldLink RX2 13 "BlankMatcherModel" "pattern" "[I", Cond.fieldLink RX2 7 "BlankMatcherModel" "text" "[I", Cond.methodLink RX2 43 yX2_agree, Cond.static yX2_agree, Cond.code yX2_agree cX2_agree 2 (some .boolean)]
def wsX2_isNumber_r2 : List Cond := [Cond.methodLink RX2 54 yX2_sumOf, Cond.instanceMethod yX2_sumOf, Cond.selects RX2 yX2_sumOf yX2_sumOf, Cond.code yX2_sumOf cX2_sumOf 4 (some .int), Cond.methodLink RX2 57 yX2_isOrdered, Cond.instanceMethod yX2_isOrdered, Cond.selects RX2 yX2_isOrdered yX2_isOrdered, Cond.code yX2_isOrdered cX2_isOrdered 5 (some .boolean), Cond.methodLink RX2 47 yX2_sign, Cond.static yX2_sign, Cond.code yX2_sign cX2_sign 1 (some .int)]
def wsX2_isNumber : List Cond := .code yX2_isNumber cX2_isNumber 3 (some .boolean) :: ((wsX2_isNumber_r1 ++ wsX2_isNumber_r2) ++ wsX20)
def wsX2_matches_r1 : List Cond := [Cond.fieldLink RX2 16 "BlankMatcherModel" "thrown" "I", Cond.methodLink RX2 63 yX2_wanted, Cond.instanceMethod yX2_wanted, Cond.selects RX2 yX2_wanted yX2_wanted, Cond.initialized RX2, Cond.code yX2_wanted cX2_wanted 4 (some .int), Cond.methodLink RX2 36 yX2_placeMany, Cond.instanceMethod yX2_placeMany, Cond.selects RX2 yX2_placeMany yX2_placeMany, Cond.code yX2_placeMany cX2_placeMany 1 (some .int), Cond.fieldLink RX2 24 "BlankMatcherModel" "n" "I", Cond.fieldLink RX2 30 "BlankMatcherModel" "m" "I", Cond.methodLink RX2 60 yX2_isWanted, Cond.instanceMethod yX2_isWanted, Cond.selects RX2 yX2_isWanted yX2_isWanted, Cond.code yX2_isWanted cX2_isWanted 3 (some .boolean), Cond.methodLink RX2 51 yX2_countAt, Cond.instanceMethod yX2_countAt, Cond.selects RX2 yX2_countAt yX2_countAt, Cond.code yX2_countAt cX2_countAt 4 (some .int), Cond.fieldLink RX2 13 "BlankMatcherModel" "pattern" "[I", Cond.fieldLink RX2 7 "BlankMatcherModel" "text" "[I", Cond.methodLink RX2 43 yX2_agree, Cond.static yX2_agree]
def wsX2_matches_r2 : List Cond := [Cond.code yX2_agree cX2_agree 2 (some .boolean), Cond.methodLink RX2 54 yX2_sumOf, Cond.instanceMethod yX2_sumOf, Cond.selects RX2 yX2_sumOf yX2_sumOf, Cond.code yX2_sumOf cX2_sumOf 4 (some .int), Cond.methodLink RX2 57 yX2_isOrdered, Cond.instanceMethod yX2_isOrdered, Cond.selects RX2 yX2_isOrdered yX2_isOrdered, Cond.code yX2_isOrdered cX2_isOrdered 5 (some .boolean), Cond.methodLink RX2 47 yX2_sign, Cond.static yX2_sign, Cond.code yX2_sign cX2_sign 1 (some .int)]
def wsX2_matches : List Cond := .code yX2_matches cX2_matches 1 (some .int) :: ((wsX2_matches_r1 ++ wsX2_matches_r2) ++ wsX20)
def wsX2_match_r1 : List Cond := [Cond.methodLink RX2 66 yX2_isNumber, Cond.instanceMethod yX2_isNumber, Cond.selects RX2 yX2_isNumber yX2_isNumber, Cond.initialized RX2, Cond.code yX2_isNumber cX2_isNumber 3 (some .boolean), Cond.methodLink RX2 63 yX2_wanted, Cond.instanceMethod yX2_wanted, Cond.selects RX2 yX2_wanted yX2_wanted, Cond.code yX2_wanted cX2_wanted 4 (some .int), Cond.methodLink RX2 36 yX2_placeMany, Cond.instanceMethod yX2_placeMany, Cond.selects RX2 yX2_placeMany yX2_placeMany, Cond.code yX2_placeMany cX2_placeMany 1 (some .int), Cond.fieldLink RX2 24 "BlankMatcherModel" "n" "I", Cond.fieldLink RX2 30 "BlankMatcherModel" "m" "I", Cond.methodLink RX2 60 yX2_isWanted, Cond.instanceMethod yX2_isWanted, Cond.selects RX2 yX2_isWanted yX2_isWanted, Cond.code yX2_isWanted cX2_isWanted 3 (some .boolean), Cond.methodLink RX2 51 yX2_countAt, Cond.instanceMethod yX2_countAt, Cond.selects RX2 yX2_countAt yX2_countAt, Cond.code yX2_countAt cX2_countAt 4 (some .int), Cond.fieldLink RX2 13 "BlankMatcherModel" "pattern" "[I"]
def wsX2_match_r2 : List Cond := [Cond.fieldLink RX2 7 "BlankMatcherModel" "text" "[I", Cond.methodLink RX2 43 yX2_agree, Cond.static yX2_agree, Cond.code yX2_agree cX2_agree 2 (some .boolean), Cond.methodLink RX2 54 yX2_sumOf, Cond.instanceMethod yX2_sumOf, Cond.selects RX2 yX2_sumOf yX2_sumOf, Cond.code yX2_sumOf cX2_sumOf 4 (some .int), Cond.methodLink RX2 57 yX2_isOrdered, Cond.instanceMethod yX2_isOrdered, Cond.selects RX2 yX2_isOrdered yX2_isOrdered, Cond.code yX2_isOrdered cX2_isOrdered 5 (some .boolean), Cond.methodLink RX2 47 yX2_sign, Cond.static yX2_sign, Cond.code yX2_sign cX2_sign 1 (some .int), Cond.methodLink RX2 27 yX2_goesWell, Cond.instanceMethod yX2_goesWell, Cond.selects RX2 yX2_goesWell yX2_goesWell, Cond.code yX2_goesWell cX2_goesWell 2 (some .boolean), Cond.fieldLink RX2 16 "BlankMatcherModel" "thrown" "I", Cond.methodLink RX2 69 yX2_find, Cond.instanceMethod yX2_find, Cond.selects RX2 yX2_find yX2_find, Cond.code yX2_find cX2_find 5 (some .int)]
def wsX2_match : List Cond := .code yX2_match cX2_match 2 (some .int) :: ((wsX2_match_r1 ++ wsX2_match_r2) ++ wsX20)
def wsX2_apart_r1 : List Cond := [Cond.fieldLink RX2 16 "BlankMatcherModel" "thrown" "I", Cond.fieldLink RX2 30 "BlankMatcherModel" "m" "I", Cond.methodLink RX2 36 yX2_placeMany, Cond.instanceMethod yX2_placeMany, Cond.selects RX2 yX2_placeMany yX2_placeMany, Cond.initialized RX2, Cond.code yX2_placeMany cX2_placeMany 1 (some .int), Cond.fieldLink RX2 24 "BlankMatcherModel" "n" "I", Cond.methodLink RX2 60 yX2_isWanted, Cond.instanceMethod yX2_isWanted, Cond.selects RX2 yX2_isWanted yX2_isWanted, Cond.code yX2_isWanted cX2_isWanted 3 (some .boolean), Cond.methodLink RX2 51 yX2_countAt, Cond.instanceMethod yX2_countAt, Cond.selects RX2 yX2_countAt yX2_countAt, Cond.code yX2_countAt cX2_countAt 4 (some .int), Cond.fieldLink RX2 13 "BlankMatcherModel" "pattern" "[I", Cond.fieldLink RX2 7 "BlankMatcherModel" "text" "[I", Cond.methodLink RX2 43 yX2_agree, Cond.static yX2_agree, Cond.code yX2_agree cX2_agree 2 (some .boolean), Cond.methodLink RX2 54 yX2_sumOf, Cond.instanceMethod yX2_sumOf, Cond.selects RX2 yX2_sumOf yX2_sumOf]
def wsX2_apart_r2 : List Cond := [Cond.code yX2_sumOf cX2_sumOf 4 (some .int), Cond.methodLink RX2 57 yX2_isOrdered, Cond.instanceMethod yX2_isOrdered, Cond.selects RX2 yX2_isOrdered yX2_isOrdered, Cond.code yX2_isOrdered cX2_isOrdered 5 (some .boolean), Cond.methodLink RX2 47 yX2_sign, Cond.static yX2_sign, Cond.code yX2_sign cX2_sign 1 (some .int)]
def wsX2_apart : List Cond := .code yX2_apart cX2_apart 4 (some .int) :: ((wsX2_apart_r1 ++ wsX2_apart_r2) ++ wsX20)
def wsX2_mismatches_r1 : List Cond := [Cond.methodLink RX2 40 yX2_isPlace, Cond.instanceMethod yX2_isPlace, Cond.selects RX2 yX2_isPlace yX2_isPlace, Cond.initialized RX2, Cond.code yX2_isPlace cX2_isPlace 2 (some .boolean), Cond.methodLink RX2 36 yX2_placeMany, Cond.instanceMethod yX2_placeMany, Cond.selects RX2 yX2_placeMany yX2_placeMany, Cond.code yX2_placeMany cX2_placeMany 1 (some .int), Cond.fieldLink RX2 24 "BlankMatcherModel" "n" "I", Cond.fieldLink RX2 30 "BlankMatcherModel" "m" "I", Cond.methodLink RX2 27 yX2_goesWell, Cond.instanceMethod yX2_goesWell, Cond.selects RX2 yX2_goesWell yX2_goesWell, Cond.code yX2_goesWell cX2_goesWell 2 (some .boolean), Cond.fieldLink RX2 16 "BlankMatcherModel" "thrown" "I", Cond.methodLink RX2 51 yX2_countAt, Cond.instanceMethod yX2_countAt, Cond.selects RX2 yX2_countAt yX2_countAt, Cond.code yX2_countAt cX2_countAt 4 (some .int), Cond.fieldLink RX2 13 "BlankMatcherModel" "pattern" "[I", Cond.fieldLink RX2 7 "BlankMatcherModel" "text" "[I", Cond.methodLink RX2 43 yX2_agree, Cond.static yX2_agree]
def wsX2_mismatches_r2 : List Cond := [Cond.code yX2_agree cX2_agree 2 (some .boolean)]
def wsX2_mismatches : List Cond := .code yX2_mismatches cX2_mismatches 2 (some .int) :: ((wsX2_mismatches_r1 ++ wsX2_mismatches_r2) ++ wsX20)
def wsX2_mismatchesOf : List Cond := .code yX2_mismatchesOf cX2_mismatchesOf 5 (some .int) :: ([.fieldLink RX2 30 "BlankMatcherModel" "m" "I", .fieldLink RX2 13 "BlankMatcherModel" "pattern" "[I", .fieldLink RX2 7 "BlankMatcherModel" "text" "[I", .methodLink RX2 40 yX2_isPlace, .instanceMethod yX2_isPlace, .selects RX2 yX2_isPlace yX2_isPlace, .initialized RX2, .code yX2_isPlace cX2_isPlace 2 (some .boolean), .methodLink RX2 36 yX2_placeMany, .instanceMethod yX2_placeMany, .selects RX2 yX2_placeMany yX2_placeMany, .code yX2_placeMany cX2_placeMany 1 (some .int), .fieldLink RX2 24 "BlankMatcherModel" "n" "I", .methodLink RX2 27 yX2_goesWell, .instanceMethod yX2_goesWell, .selects RX2 yX2_goesWell yX2_goesWell, .code yX2_goesWell cX2_goesWell 2 (some .boolean), .fieldLink RX2 16 "BlankMatcherModel" "thrown" "I", .methodLink RX2 43 yX2_agree, .static yX2_agree, .code yX2_agree cX2_agree 2 (some .boolean)] ++ wsX20)
def wsX2_nextMismatch : List Cond := .code yX2_nextMismatch cX2_nextMismatch 4 (some .int) :: ([.fieldLink RX2 30 "BlankMatcherModel" "m" "I", .fieldLink RX2 13 "BlankMatcherModel" "pattern" "[I", .fieldLink RX2 7 "BlankMatcherModel" "text" "[I", .methodLink RX2 40 yX2_isPlace, .instanceMethod yX2_isPlace, .selects RX2 yX2_isPlace yX2_isPlace, .initialized RX2, .code yX2_isPlace cX2_isPlace 2 (some .boolean), .methodLink RX2 36 yX2_placeMany, .instanceMethod yX2_placeMany, .selects RX2 yX2_placeMany yX2_placeMany, .code yX2_placeMany cX2_placeMany 1 (some .int), .fieldLink RX2 24 "BlankMatcherModel" "n" "I", .methodLink RX2 27 yX2_goesWell, .instanceMethod yX2_goesWell, .selects RX2 yX2_goesWell yX2_goesWell, .code yX2_goesWell cX2_goesWell 2 (some .boolean), .fieldLink RX2 16 "BlankMatcherModel" "thrown" "I", .methodLink RX2 43 yX2_agree, .static yX2_agree, .code yX2_agree cX2_agree 2 (some .boolean)] ++ wsX20)
def wsX2_agreement : List Cond := .code yX2_agreement cX2_agreement 5 (some .int) :: ([.fieldLink RX2 24 "BlankMatcherModel" "n" "I", .fieldLink RX2 30 "BlankMatcherModel" "m" "I", .fieldLink RX2 7 "BlankMatcherModel" "text" "[I", .fieldLink RX2 13 "BlankMatcherModel" "pattern" "[I", .methodLink RX2 27 yX2_goesWell, .instanceMethod yX2_goesWell, .selects RX2 yX2_goesWell yX2_goesWell, .initialized RX2, .code yX2_goesWell cX2_goesWell 2 (some .boolean), .fieldLink RX2 16 "BlankMatcherModel" "thrown" "I", .methodLink RX2 43 yX2_agree, .static yX2_agree, .code yX2_agree cX2_agree 2 (some .boolean)] ++ wsX20)
def wsX2_within : List Cond := .code yX2_within cX2_within 4 (some .int) :: ([.methodLink RX2 27 yX2_goesWell, .instanceMethod yX2_goesWell, .selects RX2 yX2_goesWell yX2_goesWell, .initialized RX2, .code yX2_goesWell cX2_goesWell 2 (some .boolean), .fieldLink RX2 16 "BlankMatcherModel" "thrown" "I", .methodLink RX2 36 yX2_placeMany, .instanceMethod yX2_placeMany, .selects RX2 yX2_placeMany yX2_placeMany, .code yX2_placeMany cX2_placeMany 1 (some .int), .fieldLink RX2 24 "BlankMatcherModel" "n" "I", .fieldLink RX2 30 "BlankMatcherModel" "m" "I", .methodLink RX2 51 yX2_countAt, .instanceMethod yX2_countAt, .selects RX2 yX2_countAt yX2_countAt, .code yX2_countAt cX2_countAt 4 (some .int), .fieldLink RX2 13 "BlankMatcherModel" "pattern" "[I", .fieldLink RX2 7 "BlankMatcherModel" "text" "[I", .methodLink RX2 43 yX2_agree, .static yX2_agree, .code yX2_agree cX2_agree 2 (some .boolean)] ++ wsX20)
def wsX2_ranked_r1 : List Cond := [Cond.methodLink RX2 40 yX2_isPlace, Cond.instanceMethod yX2_isPlace, Cond.selects RX2 yX2_isPlace yX2_isPlace, Cond.initialized RX2, Cond.code yX2_isPlace cX2_isPlace 2 (some .boolean), Cond.methodLink RX2 36 yX2_placeMany, Cond.instanceMethod yX2_placeMany, Cond.selects RX2 yX2_placeMany yX2_placeMany, Cond.code yX2_placeMany cX2_placeMany 1 (some .int), Cond.fieldLink RX2 24 "BlankMatcherModel" "n" "I", Cond.fieldLink RX2 30 "BlankMatcherModel" "m" "I", Cond.methodLink RX2 27 yX2_goesWell, Cond.instanceMethod yX2_goesWell, Cond.selects RX2 yX2_goesWell yX2_goesWell, Cond.code yX2_goesWell cX2_goesWell 2 (some .boolean), Cond.fieldLink RX2 16 "BlankMatcherModel" "thrown" "I", Cond.methodLink RX2 51 yX2_countAt, Cond.instanceMethod yX2_countAt, Cond.selects RX2 yX2_countAt yX2_countAt, Cond.code yX2_countAt cX2_countAt 4 (some .int), Cond.fieldLink RX2 13 "BlankMatcherModel" "pattern" "[I", Cond.fieldLink RX2 7 "BlankMatcherModel" "text" "[I", Cond.methodLink RX2 43 yX2_agree, Cond.static yX2_agree]
def wsX2_ranked_r2 : List Cond := [Cond.code yX2_agree cX2_agree 2 (some .boolean)]
def wsX2_ranked : List Cond := .code yX2_ranked cX2_ranked 5 (some .int) :: ((wsX2_ranked_r1 ++ wsX2_ranked_r2) ++ wsX20)
def wsX2_bestLetter : List Cond := .code yX2_bestLetter cX2_bestLetter 7 (some .int) :: ([.fieldLink RX2 7 "BlankMatcherModel" "text" "[I", .methodLink RX2 33 yX2_isInPattern, .instanceMethod yX2_isInPattern, .selects RX2 yX2_isInPattern yX2_isInPattern, .initialized RX2, .code yX2_isInPattern cX2_isInPattern 2 (some .boolean), .fieldLink RX2 30 "BlankMatcherModel" "m" "I", .methodLink RX2 27 yX2_goesWell, .instanceMethod yX2_goesWell, .selects RX2 yX2_goesWell yX2_goesWell, .code yX2_goesWell cX2_goesWell 2 (some .boolean), .fieldLink RX2 16 "BlankMatcherModel" "thrown" "I", .methodLink RX2 36 yX2_placeMany, .instanceMethod yX2_placeMany, .selects RX2 yX2_placeMany yX2_placeMany, .code yX2_placeMany cX2_placeMany 1 (some .int), .fieldLink RX2 24 "BlankMatcherModel" "n" "I", .methodLink RX2 43 yX2_agree, .static yX2_agree, .code yX2_agree cX2_agree 2 (some .boolean)] ++ wsX20)
def wsX2_sumMatches_r1 : List Cond := [Cond.fieldLink RX2 16 "BlankMatcherModel" "thrown" "I", Cond.methodLink RX2 63 yX2_wanted, Cond.instanceMethod yX2_wanted, Cond.selects RX2 yX2_wanted yX2_wanted, Cond.initialized RX2, Cond.code yX2_wanted cX2_wanted 4 (some .int), Cond.methodLink RX2 36 yX2_placeMany, Cond.instanceMethod yX2_placeMany, Cond.selects RX2 yX2_placeMany yX2_placeMany, Cond.code yX2_placeMany cX2_placeMany 1 (some .int), Cond.fieldLink RX2 24 "BlankMatcherModel" "n" "I", Cond.fieldLink RX2 30 "BlankMatcherModel" "m" "I", Cond.methodLink RX2 60 yX2_isWanted, Cond.instanceMethod yX2_isWanted, Cond.selects RX2 yX2_isWanted yX2_isWanted, Cond.code yX2_isWanted cX2_isWanted 3 (some .boolean), Cond.methodLink RX2 51 yX2_countAt, Cond.instanceMethod yX2_countAt, Cond.selects RX2 yX2_countAt yX2_countAt, Cond.code yX2_countAt cX2_countAt 4 (some .int), Cond.fieldLink RX2 13 "BlankMatcherModel" "pattern" "[I", Cond.fieldLink RX2 7 "BlankMatcherModel" "text" "[I", Cond.methodLink RX2 43 yX2_agree, Cond.static yX2_agree]
def wsX2_sumMatches_r2 : List Cond := [Cond.code yX2_agree cX2_agree 2 (some .boolean), Cond.methodLink RX2 54 yX2_sumOf, Cond.instanceMethod yX2_sumOf, Cond.selects RX2 yX2_sumOf yX2_sumOf, Cond.code yX2_sumOf cX2_sumOf 4 (some .int), Cond.methodLink RX2 57 yX2_isOrdered, Cond.instanceMethod yX2_isOrdered, Cond.selects RX2 yX2_isOrdered yX2_isOrdered, Cond.code yX2_isOrdered cX2_isOrdered 5 (some .boolean), Cond.methodLink RX2 47 yX2_sign, Cond.static yX2_sign, Cond.code yX2_sign cX2_sign 1 (some .int)]
def wsX2_sumMatches : List Cond := .code yX2_sumMatches cX2_sumMatches 1 (some .int) :: ((wsX2_sumMatches_r1 ++ wsX2_sumMatches_r2) ++ wsX20)
def wsX2_sumMatch_r1 : List Cond := [Cond.methodLink RX2 66 yX2_isNumber, Cond.instanceMethod yX2_isNumber, Cond.selects RX2 yX2_isNumber yX2_isNumber, Cond.initialized RX2, Cond.code yX2_isNumber cX2_isNumber 3 (some .boolean), Cond.methodLink RX2 63 yX2_wanted, Cond.instanceMethod yX2_wanted, Cond.selects RX2 yX2_wanted yX2_wanted, Cond.code yX2_wanted cX2_wanted 4 (some .int), Cond.methodLink RX2 36 yX2_placeMany, Cond.instanceMethod yX2_placeMany, Cond.selects RX2 yX2_placeMany yX2_placeMany, Cond.code yX2_placeMany cX2_placeMany 1 (some .int), Cond.fieldLink RX2 24 "BlankMatcherModel" "n" "I", Cond.fieldLink RX2 30 "BlankMatcherModel" "m" "I", Cond.methodLink RX2 60 yX2_isWanted, Cond.instanceMethod yX2_isWanted, Cond.selects RX2 yX2_isWanted yX2_isWanted, Cond.code yX2_isWanted cX2_isWanted 3 (some .boolean), Cond.methodLink RX2 51 yX2_countAt, Cond.instanceMethod yX2_countAt, Cond.selects RX2 yX2_countAt yX2_countAt, Cond.code yX2_countAt cX2_countAt 4 (some .int), Cond.fieldLink RX2 13 "BlankMatcherModel" "pattern" "[I"]
def wsX2_sumMatch_r2 : List Cond := [Cond.fieldLink RX2 7 "BlankMatcherModel" "text" "[I", Cond.methodLink RX2 43 yX2_agree, Cond.static yX2_agree, Cond.code yX2_agree cX2_agree 2 (some .boolean), Cond.methodLink RX2 54 yX2_sumOf, Cond.instanceMethod yX2_sumOf, Cond.selects RX2 yX2_sumOf yX2_sumOf, Cond.code yX2_sumOf cX2_sumOf 4 (some .int), Cond.methodLink RX2 57 yX2_isOrdered, Cond.instanceMethod yX2_isOrdered, Cond.selects RX2 yX2_isOrdered yX2_isOrdered, Cond.code yX2_isOrdered cX2_isOrdered 5 (some .boolean), Cond.methodLink RX2 47 yX2_sign, Cond.static yX2_sign, Cond.code yX2_sign cX2_sign 1 (some .int), Cond.methodLink RX2 27 yX2_goesWell, Cond.instanceMethod yX2_goesWell, Cond.selects RX2 yX2_goesWell yX2_goesWell, Cond.code yX2_goesWell cX2_goesWell 2 (some .boolean), Cond.fieldLink RX2 16 "BlankMatcherModel" "thrown" "I", Cond.methodLink RX2 69 yX2_find, Cond.instanceMethod yX2_find, Cond.selects RX2 yX2_find yX2_find, Cond.code yX2_find cX2_find 5 (some .int)]
def wsX2_sumMatch : List Cond := .code yX2_sumMatch cX2_sumMatch 2 (some .int) :: ((wsX2_sumMatch_r1 ++ wsX2_sumMatch_r2) ++ wsX20)
def wsX2_orderMatches_r1 : List Cond := [Cond.fieldLink RX2 16 "BlankMatcherModel" "thrown" "I", Cond.methodLink RX2 63 yX2_wanted, Cond.instanceMethod yX2_wanted, Cond.selects RX2 yX2_wanted yX2_wanted, Cond.initialized RX2, Cond.code yX2_wanted cX2_wanted 4 (some .int), Cond.methodLink RX2 36 yX2_placeMany, Cond.instanceMethod yX2_placeMany, Cond.selects RX2 yX2_placeMany yX2_placeMany, Cond.code yX2_placeMany cX2_placeMany 1 (some .int), Cond.fieldLink RX2 24 "BlankMatcherModel" "n" "I", Cond.fieldLink RX2 30 "BlankMatcherModel" "m" "I", Cond.methodLink RX2 60 yX2_isWanted, Cond.instanceMethod yX2_isWanted, Cond.selects RX2 yX2_isWanted yX2_isWanted, Cond.code yX2_isWanted cX2_isWanted 3 (some .boolean), Cond.methodLink RX2 51 yX2_countAt, Cond.instanceMethod yX2_countAt, Cond.selects RX2 yX2_countAt yX2_countAt, Cond.code yX2_countAt cX2_countAt 4 (some .int), Cond.fieldLink RX2 13 "BlankMatcherModel" "pattern" "[I", Cond.fieldLink RX2 7 "BlankMatcherModel" "text" "[I", Cond.methodLink RX2 43 yX2_agree, Cond.static yX2_agree]
def wsX2_orderMatches_r2 : List Cond := [Cond.code yX2_agree cX2_agree 2 (some .boolean), Cond.methodLink RX2 54 yX2_sumOf, Cond.instanceMethod yX2_sumOf, Cond.selects RX2 yX2_sumOf yX2_sumOf, Cond.code yX2_sumOf cX2_sumOf 4 (some .int), Cond.methodLink RX2 57 yX2_isOrdered, Cond.instanceMethod yX2_isOrdered, Cond.selects RX2 yX2_isOrdered yX2_isOrdered, Cond.code yX2_isOrdered cX2_isOrdered 5 (some .boolean), Cond.methodLink RX2 47 yX2_sign, Cond.static yX2_sign, Cond.code yX2_sign cX2_sign 1 (some .int)]
def wsX2_orderMatches : List Cond := .code yX2_orderMatches cX2_orderMatches 1 (some .int) :: ((wsX2_orderMatches_r1 ++ wsX2_orderMatches_r2) ++ wsX20)
def wsX2_orderMatch_r1 : List Cond := [Cond.methodLink RX2 66 yX2_isNumber, Cond.instanceMethod yX2_isNumber, Cond.selects RX2 yX2_isNumber yX2_isNumber, Cond.initialized RX2, Cond.code yX2_isNumber cX2_isNumber 3 (some .boolean), Cond.methodLink RX2 63 yX2_wanted, Cond.instanceMethod yX2_wanted, Cond.selects RX2 yX2_wanted yX2_wanted, Cond.code yX2_wanted cX2_wanted 4 (some .int), Cond.methodLink RX2 36 yX2_placeMany, Cond.instanceMethod yX2_placeMany, Cond.selects RX2 yX2_placeMany yX2_placeMany, Cond.code yX2_placeMany cX2_placeMany 1 (some .int), Cond.fieldLink RX2 24 "BlankMatcherModel" "n" "I", Cond.fieldLink RX2 30 "BlankMatcherModel" "m" "I", Cond.methodLink RX2 60 yX2_isWanted, Cond.instanceMethod yX2_isWanted, Cond.selects RX2 yX2_isWanted yX2_isWanted, Cond.code yX2_isWanted cX2_isWanted 3 (some .boolean), Cond.methodLink RX2 51 yX2_countAt, Cond.instanceMethod yX2_countAt, Cond.selects RX2 yX2_countAt yX2_countAt, Cond.code yX2_countAt cX2_countAt 4 (some .int), Cond.fieldLink RX2 13 "BlankMatcherModel" "pattern" "[I"]
def wsX2_orderMatch_r2 : List Cond := [Cond.fieldLink RX2 7 "BlankMatcherModel" "text" "[I", Cond.methodLink RX2 43 yX2_agree, Cond.static yX2_agree, Cond.code yX2_agree cX2_agree 2 (some .boolean), Cond.methodLink RX2 54 yX2_sumOf, Cond.instanceMethod yX2_sumOf, Cond.selects RX2 yX2_sumOf yX2_sumOf, Cond.code yX2_sumOf cX2_sumOf 4 (some .int), Cond.methodLink RX2 57 yX2_isOrdered, Cond.instanceMethod yX2_isOrdered, Cond.selects RX2 yX2_isOrdered yX2_isOrdered, Cond.code yX2_isOrdered cX2_isOrdered 5 (some .boolean), Cond.methodLink RX2 47 yX2_sign, Cond.static yX2_sign, Cond.code yX2_sign cX2_sign 1 (some .int), Cond.methodLink RX2 27 yX2_goesWell, Cond.instanceMethod yX2_goesWell, Cond.selects RX2 yX2_goesWell yX2_goesWell, Cond.code yX2_goesWell cX2_goesWell 2 (some .boolean), Cond.fieldLink RX2 16 "BlankMatcherModel" "thrown" "I", Cond.methodLink RX2 69 yX2_find, Cond.instanceMethod yX2_find, Cond.selects RX2 yX2_find yX2_find, Cond.code yX2_find cX2_find 5 (some .int)]
def wsX2_orderMatch : List Cond := .code yX2_orderMatch cX2_orderMatch 2 (some .int) :: ((wsX2_orderMatch_r1 ++ wsX2_orderMatch_r2) ++ wsX20)
def wsX2_comesAgain : List Cond := .code yX2_comesAgain cX2_comesAgain 4 (some .boolean) :: ([.fieldLink RX2 24 "BlankMatcherModel" "n" "I", .fieldLink RX2 7 "BlankMatcherModel" "text" "[I", .methodLink RX2 43 yX2_agree, .static yX2_agree, .initialized RX2, .code yX2_agree cX2_agree 2 (some .boolean)] ++ wsX20)
def wsX2_hasPeriod : List Cond := .code yX2_hasPeriod cX2_hasPeriod 2 (some .boolean) :: ([.methodLink RX2 27 yX2_goesWell, .instanceMethod yX2_goesWell, .selects RX2 yX2_goesWell yX2_goesWell, .initialized RX2, .code yX2_goesWell cX2_goesWell 2 (some .boolean), .fieldLink RX2 16 "BlankMatcherModel" "thrown" "I", .methodLink RX2 73 yX2_comesAgain, .instanceMethod yX2_comesAgain, .selects RX2 yX2_comesAgain yX2_comesAgain, .code yX2_comesAgain cX2_comesAgain 4 (some .boolean), .fieldLink RX2 24 "BlankMatcherModel" "n" "I", .fieldLink RX2 7 "BlankMatcherModel" "text" "[I", .methodLink RX2 43 yX2_agree, .static yX2_agree, .code yX2_agree cX2_agree 2 (some .boolean)] ++ wsX20)
def wsX2_leastPeriod : List Cond := .code yX2_leastPeriod cX2_leastPeriod 2 (some .int) :: ([.fieldLink RX2 16 "BlankMatcherModel" "thrown" "I", .methodLink RX2 73 yX2_comesAgain, .instanceMethod yX2_comesAgain, .selects RX2 yX2_comesAgain yX2_comesAgain, .initialized RX2, .code yX2_comesAgain cX2_comesAgain 4 (some .boolean), .fieldLink RX2 24 "BlankMatcherModel" "n" "I", .fieldLink RX2 7 "BlankMatcherModel" "text" "[I", .methodLink RX2 43 yX2_agree, .static yX2_agree, .code yX2_agree cX2_agree 2 (some .boolean)] ++ wsX20)
def wsJ9_max_7cf53 : List Cond := .code yJ9_max_7cf53 cJ9_max_7cf53 2 (some .int) :: ([])
def wsJ9_min_7cf53 : List Cond := .code yJ9_min_7cf53 cJ9_min_7cf53 2 (some .int) :: ([])
def wsL_appendText : List Cond := .codeWith yL_appendText cL_appendText 4 (some .int) [(0, 9, 12, 13), (0, 9, 15, 15)] :: ([.classLink RL 13 "java/lang/IllegalArgumentException", .classLink RL 15 "java/lang/IllegalStateException", .methodLink RL 7 yX1_appendText, .instanceMethod yX1_appendText, .selects RX1 yX1_appendText yX1_appendText, .initialized RX1, .code yX1_appendText cX1_appendText 2 (some .int), .classLink RX1 30 "java/lang/IllegalStateException", .initialized "java/lang/IllegalStateException", .fieldLink RX1 19 "BlankMatcher" "textSize" "I", .fieldLink RX1 9 "BlankMatcher" "text" "[I", .methodLink RX1 26 yX1_requireSymbol, .static yX1_requireSymbol, .code yX1_requireSymbol cX1_requireSymbol 1 none, .classLink RX1 37 "java/lang/IllegalArgumentException", .initialized "java/lang/IllegalArgumentException"] ++ wsX10 ++ (vx_atS RX1 34 "java/lang/IllegalStateException" ["java/lang/RuntimeException", "java/lang/Exception"]).filter goodWord ++ (vx_atS RX1 41 "java/lang/IllegalArgumentException" ["java/lang/RuntimeException", "java/lang/Exception"]).filter goodWord)
def wsL_repeatText : List Cond := .codeWith yL_repeatText cL_repeatText 5 (some .int) [(0, 10, 13, 13), (0, 10, 17, 21), (0, 10, 21, 15)] :: ([.classLink RL 13 "java/lang/IllegalArgumentException", .classLink RL 21 "java/lang/IndexOutOfBoundsException", .classLink RL 15 "java/lang/IllegalStateException", .methodLink RL 17 yX1_repeatText, .instanceMethod yX1_repeatText, .selects RX1 yX1_repeatText yX1_repeatText, .initialized RX1, .code yX1_repeatText cX1_repeatText 3 (some .int), .classLink RX1 37 "java/lang/IllegalArgumentException", .initialized "java/lang/IllegalArgumentException", .classLink RX1 30 "java/lang/IllegalStateException", .initialized "java/lang/IllegalStateException", .fieldLink RX1 19 "BlankMatcher" "textSize" "I", .fieldLink RX1 9 "BlankMatcher" "text" "[I", .methodLink RX1 48 arraycopyName, .native arraycopyName, .static arraycopyName, .initialized "java/lang/System", .methodLink RX1 42 yX1_requirePartOfText, .instanceMethod yX1_requirePartOfText, .selects RX1 yX1_requirePartOfText yX1_requirePartOfText, .code yX1_requirePartOfText cX1_requirePartOfText 3 none, .classLink RX1 54 "java/lang/IndexOutOfBoundsException", .initialized "java/lang/IndexOutOfBoundsException"] ++ wsX10 ++ (vx_atS RX1 41 "java/lang/IllegalArgumentException" ["java/lang/RuntimeException", "java/lang/Exception"]).filter goodWord ++ (vx_atS RX1 34 "java/lang/IllegalStateException" ["java/lang/RuntimeException", "java/lang/Exception"]).filter goodWord ++ (vx_atS RX1 58 "java/lang/IndexOutOfBoundsException" ["java/lang/RuntimeException", "java/lang/Exception"]).filter goodWord)
def wsL_setText : List Cond := .codeWith yL_setText cL_setText 5 (some .int) [(0, 10, 13, 21), (0, 10, 17, 13)] :: ([.classLink RL 21 "java/lang/IndexOutOfBoundsException", .classLink RL 13 "java/lang/IllegalArgumentException", .methodLink RL 23 yX1_setText, .instanceMethod yX1_setText, .selects RX1 yX1_setText yX1_setText, .initialized RX1, .code yX1_setText cX1_setText 4 (some .int), .classLink RX1 54 "java/lang/IndexOutOfBoundsException", .initialized "java/lang/IndexOutOfBoundsException", .fieldLink RX1 19 "BlankMatcher" "textSize" "I", .fieldLink RX1 9 "BlankMatcher" "text" "[I", .methodLink RX1 26 yX1_requireSymbol, .static yX1_requireSymbol, .code yX1_requireSymbol cX1_requireSymbol 1 none, .classLink RX1 37 "java/lang/IllegalArgumentException", .initialized "java/lang/IllegalArgumentException"] ++ wsX10 ++ (vx_atS RX1 58 "java/lang/IndexOutOfBoundsException" ["java/lang/RuntimeException", "java/lang/Exception"]).filter goodWord ++ (vx_atS RX1 41 "java/lang/IllegalArgumentException" ["java/lang/RuntimeException", "java/lang/Exception"]).filter goodWord)
def wsL_appendPattern : List Cond := .codeWith yL_appendPattern cL_appendPattern 4 (some .int) [(0, 9, 12, 13), (0, 9, 15, 15)] :: ([.classLink RL 13 "java/lang/IllegalArgumentException", .classLink RL 15 "java/lang/IllegalStateException", .methodLink RL 26 yX1_appendPattern, .instanceMethod yX1_appendPattern, .selects RX1 yX1_appendPattern yX1_appendPattern, .initialized RX1, .code yX1_appendPattern cX1_appendPattern 2 (some .int), .classLink RX1 30 "java/lang/IllegalStateException", .initialized "java/lang/IllegalStateException", .fieldLink RX1 23 "BlankMatcher" "patternSize" "I", .fieldLink RX1 13 "BlankMatcher" "pattern" "[I", .methodLink RX1 26 yX1_requireSymbol, .static yX1_requireSymbol, .code yX1_requireSymbol cX1_requireSymbol 1 none, .classLink RX1 37 "java/lang/IllegalArgumentException", .initialized "java/lang/IllegalArgumentException"] ++ wsX10 ++ (vx_atS RX1 34 "java/lang/IllegalStateException" ["java/lang/RuntimeException", "java/lang/Exception"]).filter goodWord ++ (vx_atS RX1 41 "java/lang/IllegalArgumentException" ["java/lang/RuntimeException", "java/lang/Exception"]).filter goodWord)
def wsL_setPattern : List Cond := .codeWith yL_setPattern cL_setPattern 5 (some .int) [(0, 10, 13, 21), (0, 10, 17, 13)] :: ([.classLink RL 21 "java/lang/IndexOutOfBoundsException", .classLink RL 13 "java/lang/IllegalArgumentException", .methodLink RL 29 yX1_setPattern, .instanceMethod yX1_setPattern, .selects RX1 yX1_setPattern yX1_setPattern, .initialized RX1, .code yX1_setPattern cX1_setPattern 4 (some .int), .fieldLink RX1 13 "BlankMatcher" "pattern" "[I", .methodLink RX1 61 yX1_requirePatternIndex, .instanceMethod yX1_requirePatternIndex, .selects RX1 yX1_requirePatternIndex yX1_requirePatternIndex, .code yX1_requirePatternIndex cX1_requirePatternIndex 2 none, .classLink RX1 54 "java/lang/IndexOutOfBoundsException", .initialized "java/lang/IndexOutOfBoundsException", .fieldLink RX1 23 "BlankMatcher" "patternSize" "I", .methodLink RX1 26 yX1_requireSymbol, .static yX1_requireSymbol, .code yX1_requireSymbol cX1_requireSymbol 1 none, .classLink RX1 37 "java/lang/IllegalArgumentException", .initialized "java/lang/IllegalArgumentException"] ++ wsX10 ++ (vx_atS RX1 58 "java/lang/IndexOutOfBoundsException" ["java/lang/RuntimeException", "java/lang/Exception"]).filter goodWord ++ (vx_atS RX1 41 "java/lang/IllegalArgumentException" ["java/lang/RuntimeException", "java/lang/Exception"]).filter goodWord)
def wsL_takePattern_r1 : List Cond := [Cond.classLink RL 13 "java/lang/IllegalArgumentException", Cond.classLink RL 21 "java/lang/IndexOutOfBoundsException", Cond.methodLink RL 32 yX1_takePattern, Cond.instanceMethod yX1_takePattern, Cond.selects RX1 yX1_takePattern yX1_takePattern, Cond.initialized RX1, Cond.code yX1_takePattern cX1_takePattern 3 (some .int), Cond.classLink RX1 37 "java/lang/IllegalArgumentException", Cond.initialized "java/lang/IllegalArgumentException", Cond.fieldLink RX1 9 "BlankMatcher" "text" "[I", Cond.fieldLink RX1 13 "BlankMatcher" "pattern" "[I", Cond.methodLink RX1 48 arraycopyName, Cond.native arraycopyName, Cond.static arraycopyName, Cond.initialized "java/lang/System", Cond.fieldLink RX1 23 "BlankMatcher" "patternSize" "I", Cond.methodLink RX1 42 yX1_requirePartOfText, Cond.instanceMethod yX1_requirePartOfText, Cond.selects RX1 yX1_requirePartOfText yX1_requirePartOfText, Cond.code yX1_requirePartOfText cX1_requirePartOfText 3 none, Cond.classLink RX1 54 "java/lang/IndexOutOfBoundsException", Cond.initialized "java/lang/IndexOutOfBoundsException", Cond.fieldLink RX1 19 "BlankMatcher" "textSize" "I", Cond.methodLink RX1 66 yX1_blanksInPattern]
def wsL_takePattern_r2 : List Cond := [Cond.instanceMethod yX1_blanksInPattern, Cond.selects RX1 yX1_blanksInPattern yX1_blanksInPattern, Cond.code yX1_blanksInPattern cX1_blanksInPattern 3 (some .int)]
def wsL_takePattern : List Cond := .codeWith yL_takePattern cL_takePattern 5 (some .int) [(0, 10, 13, 13), (0, 10, 17, 21)] :: ((wsL_takePattern_r1 ++ wsL_takePattern_r2) ++ wsX10 ++ (vx_atS RX1 41 "java/lang/IllegalArgumentException" ["java/lang/RuntimeException", "java/lang/Exception"]).filter goodWord ++ (vx_atS RX1 58 "java/lang/IndexOutOfBoundsException" ["java/lang/RuntimeException", "java/lang/Exception"]).filter goodWord)
def wsL_product : List Cond := .codeWith yL_product cL_product 4 (some .int) [(0, 9, 12, 13)] :: ([.classLink RL 13 "java/lang/IllegalArgumentException", .methodLink RL 35 yX1_product, .instanceMethod yX1_product, .selects RX1 yX1_product yX1_product, .initialized RX1, .code yX1_product cX1_product 5 (some .int), .classLink RX1 37 "java/lang/IllegalArgumentException", .initialized "java/lang/IllegalArgumentException", .fieldLink RX1 19 "BlankMatcher" "textSize" "I", .fieldLink RX1 23 "BlankMatcher" "patternSize" "I", .fieldLink RX1 9 "BlankMatcher" "text" "[I", .fieldLink RX1 13 "BlankMatcher" "pattern" "[I"] ++ wsX10 ++ (vx_atS RX1 41 "java/lang/IllegalArgumentException" ["java/lang/RuntimeException", "java/lang/Exception"]).filter goodWord)
def wsL_difference : List Cond := .codeWith yL_difference cL_difference 4 (some .int) [(0, 9, 12, 21)] :: ([.classLink RL 21 "java/lang/IndexOutOfBoundsException", .methodLink RL 38 yX1_difference, .instanceMethod yX1_difference, .selects RX1 yX1_difference yX1_difference, .initialized RX1, .code yX1_difference cX1_difference 6 (some .int), .fieldLink RX1 23 "BlankMatcher" "patternSize" "I", .fieldLink RX1 13 "BlankMatcher" "pattern" "[I", .fieldLink RX1 9 "BlankMatcher" "text" "[I", .methodLink RX1 72 yX1_requirePlace, .instanceMethod yX1_requirePlace, .selects RX1 yX1_requirePlace yX1_requirePlace, .code yX1_requirePlace cX1_requirePlace 2 none, .classLink RX1 54 "java/lang/IndexOutOfBoundsException", .initialized "java/lang/IndexOutOfBoundsException", .methodLink RX1 89 yX1_places, .instanceMethod yX1_places, .selects RX1 yX1_places yX1_places, .code yX1_places cX1_places 1 (some .int), .fieldLink RX1 19 "BlankMatcher" "textSize" "I"] ++ wsX10 ++ (vx_atS RX1 58 "java/lang/IndexOutOfBoundsException" ["java/lang/RuntimeException", "java/lang/Exception"]).filter goodWord)
def wsL_match_r1 : List Cond := [Cond.classLink RL 21 "java/lang/IndexOutOfBoundsException", Cond.methodLink RL 41 yX1_match, Cond.instanceMethod yX1_match, Cond.selects RX1 yX1_match yX1_match, Cond.initialized RX1, Cond.code yX1_match cX1_match 2 (some .int), Cond.fieldLink RX1 75 "BlankMatcher$Likeness" "SYMBOLS" "LBlankMatcher$Likeness;", Cond.methodLink RX1 85 yX1_requireLike, Cond.instanceMethod yX1_requireLike, Cond.selects RX1 yX1_requireLike yX1_requireLike, Cond.code yX1_requireLike cX1_requireLike 4 (some .int), Cond.classLink RX1 54 "java/lang/IndexOutOfBoundsException", Cond.initialized "java/lang/IndexOutOfBoundsException", Cond.methodLink RX1 153 yX1_findLike, Cond.instanceMethod yX1_findLike, Cond.selects RX1 yX1_findLike yX1_findLike, Cond.code yX1_findLike cX1_findLike 6 (some .int), Cond.methodLink RX1 89 yX1_places, Cond.instanceMethod yX1_places, Cond.selects RX1 yX1_places yX1_places, Cond.code yX1_places cX1_places 1 (some .int), Cond.fieldLink RX1 23 "BlankMatcher" "patternSize" "I", Cond.fieldLink RX1 19 "BlankMatcher" "textSize" "I", Cond.methodLink RX1 158 yX1_isLike]
def wsL_match_r2 : List Cond := [Cond.instanceMethod yX1_isLike, Cond.selects RX1 yX1_isLike yX1_isLike, Cond.code yX1_isLike cX1_isLike 3 (some .boolean), Cond.fieldLink RX1 134 "BlankMatcher$Likeness" "SUM" "LBlankMatcher$Likeness;", Cond.fieldLink RX1 137 "BlankMatcher$Likeness" "ORDER" "LBlankMatcher$Likeness;", Cond.methodLink RX1 162 yX1_hasSum, Cond.instanceMethod yX1_hasSum, Cond.selects RX1 yX1_hasSum yX1_hasSum, Cond.code yX1_hasSum cX1_hasSum 4 (some .boolean), Cond.fieldLink RX1 9 "BlankMatcher" "text" "[I", Cond.fieldLink RX1 13 "BlankMatcher" "pattern" "[I", Cond.methodLink RX1 165 yX1_hasOrder, Cond.instanceMethod yX1_hasOrder, Cond.selects RX1 yX1_hasOrder yX1_hasOrder, Cond.code yX1_hasOrder cX1_hasOrder 3 (some .boolean), Cond.methodLink RX1 168 yX1_hasOrderUpTo, Cond.instanceMethod yX1_hasOrderUpTo, Cond.selects RX1 yX1_hasOrderUpTo yX1_hasOrderUpTo, Cond.code yX1_hasOrderUpTo cX1_hasOrderUpTo 8 (some .boolean), Cond.methodLink RX1 98 yX1_hasSymbols, Cond.instanceMethod yX1_hasSymbols, Cond.selects RX1 yX1_hasSymbols yX1_hasSymbols, Cond.code yX1_hasSymbols cX1_hasSymbols 2 (some .boolean), Cond.methodLink RX1 114 yX1_firstMismatch]
def wsL_match_r3 : List Cond := [Cond.instanceMethod yX1_firstMismatch, Cond.selects RX1 yX1_firstMismatch yX1_firstMismatch, Cond.code yX1_firstMismatch cX1_firstMismatch 4 (some .int), Cond.methodLink RX1 108 yX1_agree, Cond.static yX1_agree, Cond.code yX1_agree cX1_agree 2 (some .boolean)]
def wsL_match : List Cond := .codeWith yL_match cL_match 4 (some .int) [(0, 9, 12, 21)] :: ((wsL_match_r1 ++ (wsL_match_r2 ++ wsL_match_r3)) ++ wsX10 ++ (vx_atS RX1 58 "java/lang/IndexOutOfBoundsException" ["java/lang/RuntimeException", "java/lang/Exception"]).filter goodWord)
def wsL_mismatches_r1 : List Cond := [Cond.classLink RL 21 "java/lang/IndexOutOfBoundsException", Cond.methodLink RL 44 yX1_mismatches, Cond.instanceMethod yX1_mismatches, Cond.selects RX1 yX1_mismatches yX1_mismatches, Cond.initialized RX1, Cond.code yX1_mismatches cX1_mismatches 2 (some .int), Cond.methodLink RX1 72 yX1_requirePlace, Cond.instanceMethod yX1_requirePlace, Cond.selects RX1 yX1_requirePlace yX1_requirePlace, Cond.code yX1_requirePlace cX1_requirePlace 2 none, Cond.classLink RX1 54 "java/lang/IndexOutOfBoundsException", Cond.initialized "java/lang/IndexOutOfBoundsException", Cond.methodLink RX1 89 yX1_places, Cond.instanceMethod yX1_places, Cond.selects RX1 yX1_places yX1_places, Cond.code yX1_places cX1_places 1 (some .int), Cond.fieldLink RX1 23 "BlankMatcher" "patternSize" "I", Cond.fieldLink RX1 19 "BlankMatcher" "textSize" "I", Cond.methodLink RX1 102 yX1_countMismatches, Cond.instanceMethod yX1_countMismatches, Cond.selects RX1 yX1_countMismatches yX1_countMismatches, Cond.code yX1_countMismatches cX1_countMismatches 4 (some .int), Cond.fieldLink RX1 13 "BlankMatcher" "pattern" "[I", Cond.fieldLink RX1 9 "BlankMatcher" "text" "[I"]
def wsL_mismatches_r2 : List Cond := [Cond.methodLink RX1 108 yX1_agree, Cond.static yX1_agree, Cond.code yX1_agree cX1_agree 2 (some .boolean)]
def wsL_mismatches : List Cond := .codeWith yL_mismatches cL_mismatches 4 (some .int) [(0, 9, 12, 21)] :: ((wsL_mismatches_r1 ++ wsL_mismatches_r2) ++ wsX10 ++ (vx_atS RX1 58 "java/lang/IndexOutOfBoundsException" ["java/lang/RuntimeException", "java/lang/Exception"]).filter goodWord)
def wsL_mismatchesOf_r1 : List Cond := [Cond.classLink RL 13 "java/lang/IllegalArgumentException", Cond.classLink RL 21 "java/lang/IndexOutOfBoundsException", Cond.methodLink RL 47 yX1_mismatchesOf, Cond.instanceMethod yX1_mismatchesOf, Cond.selects RX1 yX1_mismatchesOf yX1_mismatchesOf, Cond.initialized RX1, Cond.code yX1_mismatchesOf cX1_mismatchesOf 5 (some .int), Cond.classLink RX1 37 "java/lang/IllegalArgumentException", Cond.initialized "java/lang/IllegalArgumentException", Cond.fieldLink RX1 23 "BlankMatcher" "patternSize" "I", Cond.fieldLink RX1 13 "BlankMatcher" "pattern" "[I", Cond.fieldLink RX1 9 "BlankMatcher" "text" "[I", Cond.methodLink RX1 72 yX1_requirePlace, Cond.instanceMethod yX1_requirePlace, Cond.selects RX1 yX1_requirePlace yX1_requirePlace, Cond.code yX1_requirePlace cX1_requirePlace 2 none, Cond.classLink RX1 54 "java/lang/IndexOutOfBoundsException", Cond.initialized "java/lang/IndexOutOfBoundsException", Cond.methodLink RX1 89 yX1_places, Cond.instanceMethod yX1_places, Cond.selects RX1 yX1_places yX1_places, Cond.code yX1_places cX1_places 1 (some .int), Cond.fieldLink RX1 19 "BlankMatcher" "textSize" "I", Cond.methodLink RX1 108 yX1_agree]
def wsL_mismatchesOf_r2 : List Cond := [Cond.static yX1_agree, Cond.code yX1_agree cX1_agree 2 (some .boolean)]
def wsL_mismatchesOf : List Cond := .codeWith yL_mismatchesOf cL_mismatchesOf 5 (some .int) [(0, 10, 13, 13), (0, 10, 17, 21)] :: ((wsL_mismatchesOf_r1 ++ wsL_mismatchesOf_r2) ++ wsX10 ++ (vx_atS RX1 41 "java/lang/IllegalArgumentException" ["java/lang/RuntimeException", "java/lang/Exception"]).filter goodWord ++ (vx_atS RX1 58 "java/lang/IndexOutOfBoundsException" ["java/lang/RuntimeException", "java/lang/Exception"]).filter goodWord)
def wsL_nextMismatch_r1 : List Cond := [Cond.classLink RL 13 "java/lang/IllegalArgumentException", Cond.classLink RL 21 "java/lang/IndexOutOfBoundsException", Cond.methodLink RL 50 yX1_nextMismatch, Cond.instanceMethod yX1_nextMismatch, Cond.selects RX1 yX1_nextMismatch yX1_nextMismatch, Cond.initialized RX1, Cond.code yX1_nextMismatch cX1_nextMismatch 3 (some .int), Cond.classLink RX1 37 "java/lang/IllegalArgumentException", Cond.initialized "java/lang/IllegalArgumentException", Cond.methodLink RX1 72 yX1_requirePlace, Cond.instanceMethod yX1_requirePlace, Cond.selects RX1 yX1_requirePlace yX1_requirePlace, Cond.code yX1_requirePlace cX1_requirePlace 2 none, Cond.classLink RX1 54 "java/lang/IndexOutOfBoundsException", Cond.initialized "java/lang/IndexOutOfBoundsException", Cond.methodLink RX1 89 yX1_places, Cond.instanceMethod yX1_places, Cond.selects RX1 yX1_places yX1_places, Cond.code yX1_places cX1_places 1 (some .int), Cond.fieldLink RX1 23 "BlankMatcher" "patternSize" "I", Cond.fieldLink RX1 19 "BlankMatcher" "textSize" "I", Cond.methodLink RX1 114 yX1_firstMismatch, Cond.instanceMethod yX1_firstMismatch, Cond.selects RX1 yX1_firstMismatch yX1_firstMismatch]
def wsL_nextMismatch_r2 : List Cond := [Cond.code yX1_firstMismatch cX1_firstMismatch 4 (some .int), Cond.fieldLink RX1 13 "BlankMatcher" "pattern" "[I", Cond.fieldLink RX1 9 "BlankMatcher" "text" "[I", Cond.methodLink RX1 108 yX1_agree, Cond.static yX1_agree, Cond.code yX1_agree cX1_agree 2 (some .boolean)]
def wsL_nextMismatch : List Cond := .codeWith yL_nextMismatch cL_nextMismatch 5 (some .int) [(0, 10, 13, 13), (0, 10, 17, 21)] :: ((wsL_nextMismatch_r1 ++ wsL_nextMismatch_r2) ++ wsX10 ++ (vx_atS RX1 41 "java/lang/IllegalArgumentException" ["java/lang/RuntimeException", "java/lang/Exception"]).filter goodWord ++ (vx_atS RX1 58 "java/lang/IndexOutOfBoundsException" ["java/lang/RuntimeException", "java/lang/Exception"]).filter goodWord)
def wsL_agreement : List Cond := .codeWith yL_agreement cL_agreement 5 (some .int) [(0, 10, 13, 13)] :: ([.classLink RL 13 "java/lang/IllegalArgumentException", .methodLink RL 53 yX1_agreement, .instanceMethod yX1_agreement, .selects RX1 yX1_agreement yX1_agreement, .initialized RX1, .code yX1_agreement cX1_agreement 5 (some .int), .classLink RX1 37 "java/lang/IllegalArgumentException", .initialized "java/lang/IllegalArgumentException", .fieldLink RX1 19 "BlankMatcher" "textSize" "I", .fieldLink RX1 23 "BlankMatcher" "patternSize" "I", .methodLink RX1 121 Lib.Math.min.name, .static Lib.Math.min.name, .initialized "java/lang/Math", .code Lib.Math.min.name Lib.Math.min.code 2 (some .int), .fieldLink RX1 9 "BlankMatcher" "text" "[I", .fieldLink RX1 13 "BlankMatcher" "pattern" "[I", .methodLink RX1 108 yX1_agree, .static yX1_agree, .code yX1_agree cX1_agree 2 (some .boolean)] ++ wsX10 ++ (vx_atS RX1 41 "java/lang/IllegalArgumentException" ["java/lang/RuntimeException", "java/lang/Exception"]).filter goodWord)
def wsL_within : List Cond := .codeWith yL_within cL_within 4 (some .int) [(0, 9, 12, 13)] :: ([.classLink RL 13 "java/lang/IllegalArgumentException", .methodLink RL 56 yX1_within, .instanceMethod yX1_within, .selects RX1 yX1_within yX1_within, .initialized RX1, .code yX1_within cX1_within 5 (some .int), .classLink RX1 37 "java/lang/IllegalArgumentException", .initialized "java/lang/IllegalArgumentException", .methodLink RX1 89 yX1_places, .instanceMethod yX1_places, .selects RX1 yX1_places yX1_places, .code yX1_places cX1_places 1 (some .int), .fieldLink RX1 23 "BlankMatcher" "patternSize" "I", .fieldLink RX1 19 "BlankMatcher" "textSize" "I", .methodLink RX1 102 yX1_countMismatches, .instanceMethod yX1_countMismatches, .selects RX1 yX1_countMismatches yX1_countMismatches, .code yX1_countMismatches cX1_countMismatches 4 (some .int), .fieldLink RX1 13 "BlankMatcher" "pattern" "[I", .fieldLink RX1 9 "BlankMatcher" "text" "[I", .methodLink RX1 108 yX1_agree, .static yX1_agree, .code yX1_agree cX1_agree 2 (some .boolean)] ++ wsX10 ++ (vx_atS RX1 41 "java/lang/IllegalArgumentException" ["java/lang/RuntimeException", "java/lang/Exception"]).filter goodWord)
def wsL_ranked_r1 : List Cond := [Cond.classLink RL 21 "java/lang/IndexOutOfBoundsException", Cond.methodLink RL 59 yX1_ranked, Cond.instanceMethod yX1_ranked, Cond.selects RX1 yX1_ranked yX1_ranked, Cond.initialized RX1, Cond.code yX1_ranked cX1_ranked 4 (some .int), Cond.classLink RX1 54 "java/lang/IndexOutOfBoundsException", Cond.initialized "java/lang/IndexOutOfBoundsException", Cond.fieldLink RX1 16 "BlankMatcher" "mismatchesByPlace" "[I", Cond.methodLink RX1 89 yX1_places, Cond.instanceMethod yX1_places, Cond.selects RX1 yX1_places yX1_places, Cond.code yX1_places cX1_places 1 (some .int), Cond.fieldLink RX1 23 "BlankMatcher" "patternSize" "I", Cond.fieldLink RX1 19 "BlankMatcher" "textSize" "I", Cond.methodLink RX1 102 yX1_countMismatches, Cond.instanceMethod yX1_countMismatches, Cond.selects RX1 yX1_countMismatches yX1_countMismatches, Cond.code yX1_countMismatches cX1_countMismatches 4 (some .int), Cond.fieldLink RX1 13 "BlankMatcher" "pattern" "[I", Cond.fieldLink RX1 9 "BlankMatcher" "text" "[I", Cond.methodLink RX1 108 yX1_agree, Cond.static yX1_agree, Cond.code yX1_agree cX1_agree 2 (some .boolean)]
def wsL_ranked_r2 : List Cond := [Cond.methodLink RX1 128 yX1_placeOfRank, Cond.instanceMethod yX1_placeOfRank, Cond.selects RX1 yX1_placeOfRank yX1_placeOfRank, Cond.code yX1_placeOfRank cX1_placeOfRank 6 (some .int)]
def wsL_ranked : List Cond := .codeWith yL_ranked cL_ranked 4 (some .int) [(0, 9, 12, 21)] :: ((wsL_ranked_r1 ++ wsL_ranked_r2) ++ wsX10 ++ (vx_atS RX1 58 "java/lang/IndexOutOfBoundsException" ["java/lang/RuntimeException", "java/lang/Exception"]).filter goodWord)
def wsL_bestLetter : List Cond := .codeWith yL_bestLetter cL_bestLetter 4 (some .int) [(0, 9, 12, 21)] :: ([.classLink RL 21 "java/lang/IndexOutOfBoundsException", .methodLink RL 62 yX1_bestLetter, .instanceMethod yX1_bestLetter, .selects RX1 yX1_bestLetter yX1_bestLetter, .initialized RX1, .code yX1_bestLetter cX1_bestLetter 6 (some .int), .methodLink RX1 61 yX1_requirePatternIndex, .instanceMethod yX1_requirePatternIndex, .selects RX1 yX1_requirePatternIndex yX1_requirePatternIndex, .code yX1_requirePatternIndex cX1_requirePatternIndex 2 none, .classLink RX1 54 "java/lang/IndexOutOfBoundsException", .initialized "java/lang/IndexOutOfBoundsException", .fieldLink RX1 23 "BlankMatcher" "patternSize" "I", .methodLink RX1 131 yX1_countLetter, .instanceMethod yX1_countLetter, .selects RX1 yX1_countLetter yX1_countLetter, .code yX1_countLetter cX1_countLetter 6 (some .int), .fieldLink RX1 9 "BlankMatcher" "text" "[I", .methodLink RX1 89 yX1_places, .instanceMethod yX1_places, .selects RX1 yX1_places yX1_places, .code yX1_places cX1_places 1 (some .int), .fieldLink RX1 19 "BlankMatcher" "textSize" "I"] ++ wsX10 ++ (vx_atS RX1 58 "java/lang/IndexOutOfBoundsException" ["java/lang/RuntimeException", "java/lang/Exception"]).filter goodWord)
def wsL_sumMatch_r1 : List Cond := [Cond.classLink RL 21 "java/lang/IndexOutOfBoundsException", Cond.methodLink RL 65 yX1_sumMatch, Cond.instanceMethod yX1_sumMatch, Cond.selects RX1 yX1_sumMatch yX1_sumMatch, Cond.initialized RX1, Cond.code yX1_sumMatch cX1_sumMatch 2 (some .int), Cond.fieldLink RX1 134 "BlankMatcher$Likeness" "SUM" "LBlankMatcher$Likeness;", Cond.methodLink RX1 85 yX1_requireLike, Cond.instanceMethod yX1_requireLike, Cond.selects RX1 yX1_requireLike yX1_requireLike, Cond.code yX1_requireLike cX1_requireLike 4 (some .int), Cond.classLink RX1 54 "java/lang/IndexOutOfBoundsException", Cond.initialized "java/lang/IndexOutOfBoundsException", Cond.methodLink RX1 153 yX1_findLike, Cond.instanceMethod yX1_findLike, Cond.selects RX1 yX1_findLike yX1_findLike, Cond.code yX1_findLike cX1_findLike 6 (some .int), Cond.methodLink RX1 89 yX1_places, Cond.instanceMethod yX1_places, Cond.selects RX1 yX1_places yX1_places, Cond.code yX1_places cX1_places 1 (some .int), Cond.fieldLink RX1 23 "BlankMatcher" "patternSize" "I", Cond.fieldLink RX1 19 "BlankMatcher" "textSize" "I", Cond.methodLink RX1 158 yX1_isLike]
def wsL_sumMatch_r2 : List Cond := [Cond.instanceMethod yX1_isLike, Cond.selects RX1 yX1_isLike yX1_isLike, Cond.code yX1_isLike cX1_isLike 3 (some .boolean), Cond.fieldLink RX1 137 "BlankMatcher$Likeness" "ORDER" "LBlankMatcher$Likeness;", Cond.methodLink RX1 162 yX1_hasSum, Cond.instanceMethod yX1_hasSum, Cond.selects RX1 yX1_hasSum yX1_hasSum, Cond.code yX1_hasSum cX1_hasSum 4 (some .boolean), Cond.fieldLink RX1 9 "BlankMatcher" "text" "[I", Cond.fieldLink RX1 13 "BlankMatcher" "pattern" "[I", Cond.methodLink RX1 165 yX1_hasOrder, Cond.instanceMethod yX1_hasOrder, Cond.selects RX1 yX1_hasOrder yX1_hasOrder, Cond.code yX1_hasOrder cX1_hasOrder 3 (some .boolean), Cond.methodLink RX1 168 yX1_hasOrderUpTo, Cond.instanceMethod yX1_hasOrderUpTo, Cond.selects RX1 yX1_hasOrderUpTo yX1_hasOrderUpTo, Cond.code yX1_hasOrderUpTo cX1_hasOrderUpTo 8 (some .boolean), Cond.methodLink RX1 98 yX1_hasSymbols, Cond.instanceMethod yX1_hasSymbols, Cond.selects RX1 yX1_hasSymbols yX1_hasSymbols, Cond.code yX1_hasSymbols cX1_hasSymbols 2 (some .boolean), Cond.methodLink RX1 114 yX1_firstMismatch, Cond.instanceMethod yX1_firstMismatch]
def wsL_sumMatch_r3 : List Cond := [Cond.selects RX1 yX1_firstMismatch yX1_firstMismatch, Cond.code yX1_firstMismatch cX1_firstMismatch 4 (some .int), Cond.methodLink RX1 108 yX1_agree, Cond.static yX1_agree, Cond.code yX1_agree cX1_agree 2 (some .boolean)]
def wsL_sumMatch : List Cond := .codeWith yL_sumMatch cL_sumMatch 4 (some .int) [(0, 9, 12, 21)] :: ((wsL_sumMatch_r1 ++ (wsL_sumMatch_r2 ++ wsL_sumMatch_r3)) ++ wsX10 ++ (vx_atS RX1 58 "java/lang/IndexOutOfBoundsException" ["java/lang/RuntimeException", "java/lang/Exception"]).filter goodWord)
def wsL_orderMatch_r1 : List Cond := [Cond.classLink RL 21 "java/lang/IndexOutOfBoundsException", Cond.methodLink RL 68 yX1_orderMatch, Cond.instanceMethod yX1_orderMatch, Cond.selects RX1 yX1_orderMatch yX1_orderMatch, Cond.initialized RX1, Cond.code yX1_orderMatch cX1_orderMatch 2 (some .int), Cond.fieldLink RX1 137 "BlankMatcher$Likeness" "ORDER" "LBlankMatcher$Likeness;", Cond.methodLink RX1 85 yX1_requireLike, Cond.instanceMethod yX1_requireLike, Cond.selects RX1 yX1_requireLike yX1_requireLike, Cond.code yX1_requireLike cX1_requireLike 4 (some .int), Cond.classLink RX1 54 "java/lang/IndexOutOfBoundsException", Cond.initialized "java/lang/IndexOutOfBoundsException", Cond.methodLink RX1 153 yX1_findLike, Cond.instanceMethod yX1_findLike, Cond.selects RX1 yX1_findLike yX1_findLike, Cond.code yX1_findLike cX1_findLike 6 (some .int), Cond.methodLink RX1 89 yX1_places, Cond.instanceMethod yX1_places, Cond.selects RX1 yX1_places yX1_places, Cond.code yX1_places cX1_places 1 (some .int), Cond.fieldLink RX1 23 "BlankMatcher" "patternSize" "I", Cond.fieldLink RX1 19 "BlankMatcher" "textSize" "I", Cond.methodLink RX1 158 yX1_isLike]
def wsL_orderMatch_r2 : List Cond := [Cond.instanceMethod yX1_isLike, Cond.selects RX1 yX1_isLike yX1_isLike, Cond.code yX1_isLike cX1_isLike 3 (some .boolean), Cond.fieldLink RX1 134 "BlankMatcher$Likeness" "SUM" "LBlankMatcher$Likeness;", Cond.methodLink RX1 162 yX1_hasSum, Cond.instanceMethod yX1_hasSum, Cond.selects RX1 yX1_hasSum yX1_hasSum, Cond.code yX1_hasSum cX1_hasSum 4 (some .boolean), Cond.fieldLink RX1 9 "BlankMatcher" "text" "[I", Cond.fieldLink RX1 13 "BlankMatcher" "pattern" "[I", Cond.methodLink RX1 165 yX1_hasOrder, Cond.instanceMethod yX1_hasOrder, Cond.selects RX1 yX1_hasOrder yX1_hasOrder, Cond.code yX1_hasOrder cX1_hasOrder 3 (some .boolean), Cond.methodLink RX1 168 yX1_hasOrderUpTo, Cond.instanceMethod yX1_hasOrderUpTo, Cond.selects RX1 yX1_hasOrderUpTo yX1_hasOrderUpTo, Cond.code yX1_hasOrderUpTo cX1_hasOrderUpTo 8 (some .boolean), Cond.methodLink RX1 98 yX1_hasSymbols, Cond.instanceMethod yX1_hasSymbols, Cond.selects RX1 yX1_hasSymbols yX1_hasSymbols, Cond.code yX1_hasSymbols cX1_hasSymbols 2 (some .boolean), Cond.methodLink RX1 114 yX1_firstMismatch, Cond.instanceMethod yX1_firstMismatch]
def wsL_orderMatch_r3 : List Cond := [Cond.selects RX1 yX1_firstMismatch yX1_firstMismatch, Cond.code yX1_firstMismatch cX1_firstMismatch 4 (some .int), Cond.methodLink RX1 108 yX1_agree, Cond.static yX1_agree, Cond.code yX1_agree cX1_agree 2 (some .boolean)]
def wsL_orderMatch : List Cond := .codeWith yL_orderMatch cL_orderMatch 4 (some .int) [(0, 9, 12, 21)] :: ((wsL_orderMatch_r1 ++ (wsL_orderMatch_r2 ++ wsL_orderMatch_r3)) ++ wsX10 ++ (vx_atS RX1 58 "java/lang/IndexOutOfBoundsException" ["java/lang/RuntimeException", "java/lang/Exception"]).filter goodWord)
def wsL_hasPeriod : List Cond := .codeWith yL_hasPeriod cL_hasPeriod 4 (some .int) [(0, 16, 19, 13)] :: ([.classLink RL 13 "java/lang/IllegalArgumentException", .methodLink RL 71 yX1_hasPeriod, .instanceMethod yX1_hasPeriod, .selects RX1 yX1_hasPeriod yX1_hasPeriod, .initialized RX1, .code yX1_hasPeriod cX1_hasPeriod 2 (some .boolean), .classLink RX1 37 "java/lang/IllegalArgumentException", .initialized "java/lang/IllegalArgumentException", .methodLink RX1 142 yX1_repeatsAfter, .instanceMethod yX1_repeatsAfter, .selects RX1 yX1_repeatsAfter yX1_repeatsAfter, .code yX1_repeatsAfter cX1_repeatsAfter 3 (some .boolean), .fieldLink RX1 19 "BlankMatcher" "textSize" "I", .fieldLink RX1 9 "BlankMatcher" "text" "[I", .methodLink RX1 108 yX1_agree, .static yX1_agree, .code yX1_agree cX1_agree 2 (some .boolean)] ++ wsX10 ++ (vx_atS RX1 41 "java/lang/IllegalArgumentException" ["java/lang/RuntimeException", "java/lang/Exception"]).filter goodWord)
def wsL_law0_r1 : List Cond := [Cond.classLink RL 8 RX1, Cond.instantiable RX1 5, Cond.initialized RX1, Cond.classLink RL 76 RX2, Cond.instantiable RX2 5, Cond.initialized RX2, Cond.arrayClass .long, Cond.methodLink RL 75 yX1_init, Cond.instanceMethod yX1_init, Cond.code yX1_init cX1_init 1 none, Cond.methodLink RX1 1 objectInit, Cond.instanceMethod objectInit, Cond.code objectInit ⟨#[0xb1]⟩ 1 none, Cond.arrayClass .int, Cond.fieldLink RX1 9 "BlankMatcher" "text" "[I", Cond.fieldLink RX1 13 "BlankMatcher" "pattern" "[I", Cond.fieldLink RX1 16 "BlankMatcher" "mismatchesByPlace" "[I", Cond.fieldLink RX1 19 "BlankMatcher" "textSize" "I", Cond.fieldLink RX1 23 "BlankMatcher" "patternSize" "I", Cond.methodLink RL 78 yX2_init, Cond.instanceMethod yX2_init, Cond.code yX2_init cX2_init 1 none, Cond.methodLink RX2 1 objectInit, Cond.fieldLink RX2 7 "BlankMatcherModel" "text" "[I"]
def wsL_law0_r2 : List Cond := [Cond.fieldLink RX2 13 "BlankMatcherModel" "pattern" "[I", Cond.methodLink RL 79 yL_appendText, Cond.static yL_appendText, Cond.initialized RL, Cond.codeWith yL_appendText cL_appendText 4 (some .int) [(0, 9, 12, 13), (0, 9, 15, 15)], Cond.classLink RL 13 "java/lang/IllegalArgumentException", Cond.classLink RL 15 "java/lang/IllegalStateException", Cond.methodLink RL 7 yX1_appendText, Cond.instanceMethod yX1_appendText, Cond.selects RX1 yX1_appendText yX1_appendText, Cond.code yX1_appendText cX1_appendText 2 (some .int), Cond.classLink RX1 30 "java/lang/IllegalStateException", Cond.initialized "java/lang/IllegalStateException", Cond.methodLink RX1 26 yX1_requireSymbol, Cond.static yX1_requireSymbol, Cond.code yX1_requireSymbol cX1_requireSymbol 1 none, Cond.classLink RX1 37 "java/lang/IllegalArgumentException", Cond.initialized "java/lang/IllegalArgumentException", Cond.methodLink RL 84 yX2_appendText, Cond.instanceMethod yX2_appendText, Cond.selects RX2 yX2_appendText yX2_appendText, Cond.code yX2_appendText cX2_appendText 2 (some .int), Cond.fieldLink RX2 24 "BlankMatcherModel" "n" "I", Cond.methodLink RX2 20 yX2_isSymbol]
def wsL_law0_r3 : List Cond := [Cond.static yX2_isSymbol, Cond.code yX2_isSymbol cX2_isSymbol 1 (some .boolean), Cond.methodLink RX2 27 yX2_goesWell, Cond.instanceMethod yX2_goesWell, Cond.selects RX2 yX2_goesWell yX2_goesWell, Cond.code yX2_goesWell cX2_goesWell 2 (some .boolean), Cond.fieldLink RX2 16 "BlankMatcherModel" "thrown" "I", Cond.methodLink RL 85 yX2_thrown, Cond.instanceMethod yX2_thrown, Cond.selects RX2 yX2_thrown yX2_thrown, Cond.code yX2_thrown cX2_thrown 1 (some .int), Cond.methodLink RL 89 yL_repeatText, Cond.static yL_repeatText, Cond.codeWith yL_repeatText cL_repeatText 5 (some .int) [(0, 10, 13, 13), (0, 10, 17, 21), (0, 10, 21, 15)], Cond.classLink RL 21 "java/lang/IndexOutOfBoundsException", Cond.methodLink RL 17 yX1_repeatText, Cond.instanceMethod yX1_repeatText, Cond.selects RX1 yX1_repeatText yX1_repeatText, Cond.code yX1_repeatText cX1_repeatText 3 (some .int), Cond.methodLink RX1 48 arraycopyName, Cond.native arraycopyName, Cond.static arraycopyName, Cond.initialized "java/lang/System", Cond.methodLink RX1 42 yX1_requirePartOfText]
def wsL_law0_r4 : List Cond := [Cond.instanceMethod yX1_requirePartOfText, Cond.selects RX1 yX1_requirePartOfText yX1_requirePartOfText, Cond.code yX1_requirePartOfText cX1_requirePartOfText 3 none, Cond.classLink RX1 54 "java/lang/IndexOutOfBoundsException", Cond.initialized "java/lang/IndexOutOfBoundsException", Cond.methodLink RL 92 yX2_repeatText, Cond.instanceMethod yX2_repeatText, Cond.selects RX2 yX2_repeatText yX2_repeatText, Cond.code yX2_repeatText cX2_repeatText 5 (some .int), Cond.methodLink RL 93 yL_setText, Cond.static yL_setText, Cond.codeWith yL_setText cL_setText 5 (some .int) [(0, 10, 13, 21), (0, 10, 17, 13)], Cond.methodLink RL 23 yX1_setText, Cond.instanceMethod yX1_setText, Cond.selects RX1 yX1_setText yX1_setText, Cond.code yX1_setText cX1_setText 4 (some .int), Cond.methodLink RL 95 yX2_setText, Cond.instanceMethod yX2_setText, Cond.selects RX2 yX2_setText yX2_setText, Cond.code yX2_setText cX2_setText 4 (some .int), Cond.methodLink RL 96 yL_appendPattern, Cond.static yL_appendPattern, Cond.codeWith yL_appendPattern cL_appendPattern 4 (some .int) [(0, 9, 12, 13), (0, 9, 15, 15)], Cond.methodLink RL 26 yX1_appendPattern]
def wsL_law0_r5 : List Cond := [Cond.instanceMethod yX1_appendPattern, Cond.selects RX1 yX1_appendPattern yX1_appendPattern, Cond.code yX1_appendPattern cX1_appendPattern 2 (some .int), Cond.methodLink RL 98 yX2_appendPattern, Cond.instanceMethod yX2_appendPattern, Cond.selects RX2 yX2_appendPattern yX2_appendPattern, Cond.code yX2_appendPattern cX2_appendPattern 2 (some .int), Cond.fieldLink RX2 30 "BlankMatcherModel" "m" "I", Cond.methodLink RL 99 yL_setPattern, Cond.static yL_setPattern, Cond.codeWith yL_setPattern cL_setPattern 5 (some .int) [(0, 10, 13, 21), (0, 10, 17, 13)], Cond.methodLink RL 29 yX1_setPattern, Cond.instanceMethod yX1_setPattern, Cond.selects RX1 yX1_setPattern yX1_setPattern, Cond.code yX1_setPattern cX1_setPattern 4 (some .int), Cond.methodLink RX1 61 yX1_requirePatternIndex, Cond.instanceMethod yX1_requirePatternIndex, Cond.selects RX1 yX1_requirePatternIndex yX1_requirePatternIndex, Cond.code yX1_requirePatternIndex cX1_requirePatternIndex 2 none, Cond.methodLink RL 101 yX2_setPattern, Cond.instanceMethod yX2_setPattern, Cond.selects RX2 yX2_setPattern yX2_setPattern, Cond.code yX2_setPattern cX2_setPattern 4 (some .int), Cond.methodLink RX2 33 yX2_isInPattern]
def wsL_law0_r6 : List Cond := [Cond.instanceMethod yX2_isInPattern, Cond.selects RX2 yX2_isInPattern yX2_isInPattern, Cond.code yX2_isInPattern cX2_isInPattern 2 (some .boolean), Cond.methodLink RL 102 yL_takePattern, Cond.static yL_takePattern, Cond.codeWith yL_takePattern cL_takePattern 5 (some .int) [(0, 10, 13, 13), (0, 10, 17, 21)], Cond.methodLink RL 32 yX1_takePattern, Cond.instanceMethod yX1_takePattern, Cond.selects RX1 yX1_takePattern yX1_takePattern, Cond.code yX1_takePattern cX1_takePattern 3 (some .int), Cond.methodLink RX1 66 yX1_blanksInPattern, Cond.instanceMethod yX1_blanksInPattern, Cond.selects RX1 yX1_blanksInPattern yX1_blanksInPattern, Cond.code yX1_blanksInPattern cX1_blanksInPattern 3 (some .int), Cond.methodLink RL 104 yX2_takePattern, Cond.instanceMethod yX2_takePattern, Cond.selects RX2 yX2_takePattern yX2_takePattern, Cond.code yX2_takePattern cX2_takePattern 6 (some .int), Cond.methodLink RL 105 yX1_clearText, Cond.instanceMethod yX1_clearText, Cond.selects RX1 yX1_clearText yX1_clearText, Cond.code yX1_clearText cX1_clearText 2 (some .int), Cond.methodLink RL 108 yX2_clearText, Cond.instanceMethod yX2_clearText]
def wsL_law0_r7 : List Cond := [Cond.selects RX2 yX2_clearText yX2_clearText, Cond.code yX2_clearText cX2_clearText 2 (some .int), Cond.methodLink RL 109 yX1_clearPattern, Cond.instanceMethod yX1_clearPattern, Cond.selects RX1 yX1_clearPattern yX1_clearPattern, Cond.code yX1_clearPattern cX1_clearPattern 2 (some .int), Cond.methodLink RL 112 yX2_clearPattern, Cond.instanceMethod yX2_clearPattern, Cond.selects RX2 yX2_clearPattern yX2_clearPattern, Cond.code yX2_clearPattern cX2_clearPattern 2 (some .int), Cond.methodLink RL 113 yX1_textLength, Cond.instanceMethod yX1_textLength, Cond.selects RX1 yX1_textLength yX1_textLength, Cond.code yX1_textLength cX1_textLength 1 (some .int), Cond.methodLink RL 116 yX2_textLength, Cond.instanceMethod yX2_textLength, Cond.selects RX2 yX2_textLength yX2_textLength, Cond.code yX2_textLength cX2_textLength 1 (some .int), Cond.methodLink RL 117 yX1_patternLength, Cond.instanceMethod yX1_patternLength, Cond.selects RX1 yX1_patternLength yX1_patternLength, Cond.code yX1_patternLength cX1_patternLength 1 (some .int), Cond.methodLink RL 120 yX2_patternLength, Cond.instanceMethod yX2_patternLength]
def wsL_law0_r8 : List Cond := [Cond.selects RX2 yX2_patternLength yX2_patternLength, Cond.code yX2_patternLength cX2_patternLength 1 (some .int), Cond.methodLink RL 121 yX1_places, Cond.instanceMethod yX1_places, Cond.selects RX1 yX1_places yX1_places, Cond.code yX1_places cX1_places 1 (some .int), Cond.methodLink RL 124 yX2_places, Cond.instanceMethod yX2_places, Cond.selects RX2 yX2_places yX2_places, Cond.code yX2_places cX2_places 1 (some .int), Cond.methodLink RX2 36 yX2_placeMany, Cond.instanceMethod yX2_placeMany, Cond.selects RX2 yX2_placeMany yX2_placeMany, Cond.code yX2_placeMany cX2_placeMany 1 (some .int), Cond.methodLink RL 125 yL_product, Cond.static yL_product, Cond.codeWith yL_product cL_product 4 (some .int) [(0, 9, 12, 13)], Cond.methodLink RL 35 yX1_product, Cond.instanceMethod yX1_product, Cond.selects RX1 yX1_product yX1_product, Cond.code yX1_product cX1_product 5 (some .int), Cond.methodLink RL 127 yX2_product, Cond.instanceMethod yX2_product, Cond.selects RX2 yX2_product yX2_product]
def wsL_law0_r9 : List Cond := [Cond.code yX2_product cX2_product 5 (some .int), Cond.methodLink RL 128 yL_difference, Cond.static yL_difference, Cond.codeWith yL_difference cL_difference 4 (some .int) [(0, 9, 12, 21)], Cond.methodLink RL 38 yX1_difference, Cond.instanceMethod yX1_difference, Cond.selects RX1 yX1_difference yX1_difference, Cond.code yX1_difference cX1_difference 6 (some .int), Cond.methodLink RX1 72 yX1_requirePlace, Cond.instanceMethod yX1_requirePlace, Cond.selects RX1 yX1_requirePlace yX1_requirePlace, Cond.code yX1_requirePlace cX1_requirePlace 2 none, Cond.methodLink RX1 89 yX1_places, Cond.methodLink RL 130 yX2_difference, Cond.instanceMethod yX2_difference, Cond.selects RX2 yX2_difference yX2_difference, Cond.code yX2_difference cX2_difference 5 (some .int), Cond.methodLink RX2 40 yX2_isPlace, Cond.instanceMethod yX2_isPlace, Cond.selects RX2 yX2_isPlace yX2_isPlace, Cond.code yX2_isPlace cX2_isPlace 2 (some .boolean), Cond.methodLink RL 131 yX1_matches, Cond.instanceMethod yX1_matches, Cond.selects RX1 yX1_matches yX1_matches]
def wsL_law0_r10 : List Cond := [Cond.code yX1_matches cX1_matches 1 (some .int), Cond.fieldLink RX1 75 "BlankMatcher$Likeness" "SYMBOLS" "LBlankMatcher$Likeness;", Cond.methodLink RX1 81 yX1_countLike, Cond.instanceMethod yX1_countLike, Cond.selects RX1 yX1_countLike yX1_countLike, Cond.code yX1_countLike cX1_countLike 5 (some .int), Cond.methodLink RX1 158 yX1_isLike, Cond.instanceMethod yX1_isLike, Cond.selects RX1 yX1_isLike yX1_isLike, Cond.code yX1_isLike cX1_isLike 3 (some .boolean), Cond.fieldLink RX1 134 "BlankMatcher$Likeness" "SUM" "LBlankMatcher$Likeness;", Cond.fieldLink RX1 137 "BlankMatcher$Likeness" "ORDER" "LBlankMatcher$Likeness;", Cond.methodLink RX1 162 yX1_hasSum, Cond.instanceMethod yX1_hasSum, Cond.selects RX1 yX1_hasSum yX1_hasSum, Cond.code yX1_hasSum cX1_hasSum 4 (some .boolean), Cond.methodLink RX1 165 yX1_hasOrder, Cond.instanceMethod yX1_hasOrder, Cond.selects RX1 yX1_hasOrder yX1_hasOrder, Cond.code yX1_hasOrder cX1_hasOrder 3 (some .boolean), Cond.methodLink RX1 168 yX1_hasOrderUpTo, Cond.instanceMethod yX1_hasOrderUpTo, Cond.selects RX1 yX1_hasOrderUpTo yX1_hasOrderUpTo, Cond.code yX1_hasOrderUpTo cX1_hasOrderUpTo 8 (some .boolean)]
def wsL_law0_r11 : List Cond := [Cond.methodLink RX1 98 yX1_hasSymbols, Cond.instanceMethod yX1_hasSymbols, Cond.selects RX1 yX1_hasSymbols yX1_hasSymbols, Cond.code yX1_hasSymbols cX1_hasSymbols 2 (some .boolean), Cond.methodLink RX1 114 yX1_firstMismatch, Cond.instanceMethod yX1_firstMismatch, Cond.selects RX1 yX1_firstMismatch yX1_firstMismatch, Cond.code yX1_firstMismatch cX1_firstMismatch 4 (some .int), Cond.methodLink RX1 108 yX1_agree, Cond.static yX1_agree, Cond.code yX1_agree cX1_agree 2 (some .boolean), Cond.methodLink RL 134 yX2_matches, Cond.instanceMethod yX2_matches, Cond.selects RX2 yX2_matches yX2_matches, Cond.code yX2_matches cX2_matches 1 (some .int), Cond.methodLink RX2 63 yX2_wanted, Cond.instanceMethod yX2_wanted, Cond.selects RX2 yX2_wanted yX2_wanted, Cond.code yX2_wanted cX2_wanted 4 (some .int), Cond.methodLink RX2 60 yX2_isWanted, Cond.instanceMethod yX2_isWanted, Cond.selects RX2 yX2_isWanted yX2_isWanted, Cond.code yX2_isWanted cX2_isWanted 3 (some .boolean), Cond.methodLink RX2 51 yX2_countAt]
def wsL_law0_r12 : List Cond := [Cond.instanceMethod yX2_countAt, Cond.selects RX2 yX2_countAt yX2_countAt, Cond.code yX2_countAt cX2_countAt 4 (some .int), Cond.methodLink RX2 43 yX2_agree, Cond.static yX2_agree, Cond.code yX2_agree cX2_agree 2 (some .boolean), Cond.methodLink RX2 54 yX2_sumOf, Cond.instanceMethod yX2_sumOf, Cond.selects RX2 yX2_sumOf yX2_sumOf, Cond.code yX2_sumOf cX2_sumOf 4 (some .int), Cond.methodLink RX2 57 yX2_isOrdered, Cond.instanceMethod yX2_isOrdered, Cond.selects RX2 yX2_isOrdered yX2_isOrdered, Cond.code yX2_isOrdered cX2_isOrdered 5 (some .boolean), Cond.methodLink RX2 47 yX2_sign, Cond.static yX2_sign, Cond.code yX2_sign cX2_sign 1 (some .int), Cond.methodLink RL 135 yL_match, Cond.static yL_match, Cond.codeWith yL_match cL_match 4 (some .int) [(0, 9, 12, 21)], Cond.methodLink RL 41 yX1_match, Cond.instanceMethod yX1_match, Cond.selects RX1 yX1_match yX1_match, Cond.code yX1_match cX1_match 2 (some .int)]
def wsL_law0_r13 : List Cond := [Cond.methodLink RX1 85 yX1_requireLike, Cond.instanceMethod yX1_requireLike, Cond.selects RX1 yX1_requireLike yX1_requireLike, Cond.code yX1_requireLike cX1_requireLike 4 (some .int), Cond.methodLink RX1 153 yX1_findLike, Cond.instanceMethod yX1_findLike, Cond.selects RX1 yX1_findLike yX1_findLike, Cond.code yX1_findLike cX1_findLike 6 (some .int), Cond.methodLink RL 137 yX2_match, Cond.instanceMethod yX2_match, Cond.selects RX2 yX2_match yX2_match, Cond.code yX2_match cX2_match 2 (some .int), Cond.methodLink RX2 66 yX2_isNumber, Cond.instanceMethod yX2_isNumber, Cond.selects RX2 yX2_isNumber yX2_isNumber, Cond.code yX2_isNumber cX2_isNumber 3 (some .boolean), Cond.methodLink RX2 69 yX2_find, Cond.instanceMethod yX2_find, Cond.selects RX2 yX2_find yX2_find, Cond.code yX2_find cX2_find 5 (some .int), Cond.methodLink RL 138 yX1_apart, Cond.instanceMethod yX1_apart, Cond.selects RX1 yX1_apart yX1_apart, Cond.code yX1_apart cX1_apart 5 (some .int)]
def wsL_law0_r14 : List Cond := [Cond.methodLink RX1 92 Lib.Math.max.name, Cond.static Lib.Math.max.name, Cond.initialized "java/lang/Math", Cond.code Lib.Math.max.name Lib.Math.max.code 2 (some .int), Cond.methodLink RL 141 yX2_apart, Cond.instanceMethod yX2_apart, Cond.selects RX2 yX2_apart yX2_apart, Cond.code yX2_apart cX2_apart 4 (some .int), Cond.methodLink RL 142 yL_mismatches, Cond.static yL_mismatches, Cond.codeWith yL_mismatches cL_mismatches 4 (some .int) [(0, 9, 12, 21)], Cond.methodLink RL 44 yX1_mismatches, Cond.instanceMethod yX1_mismatches, Cond.selects RX1 yX1_mismatches yX1_mismatches, Cond.code yX1_mismatches cX1_mismatches 2 (some .int), Cond.methodLink RX1 102 yX1_countMismatches, Cond.instanceMethod yX1_countMismatches, Cond.selects RX1 yX1_countMismatches yX1_countMismatches, Cond.code yX1_countMismatches cX1_countMismatches 4 (some .int), Cond.methodLink RL 144 yX2_mismatches, Cond.instanceMethod yX2_mismatches, Cond.selects RX2 yX2_mismatches yX2_mismatches, Cond.code yX2_mismatches cX2_mismatches 2 (some .int), Cond.methodLink RL 145 yL_mismatchesOf]
def wsL_law0_r15 : List Cond := [Cond.static yL_mismatchesOf, Cond.codeWith yL_mismatchesOf cL_mismatchesOf 5 (some .int) [(0, 10, 13, 13), (0, 10, 17, 21)], Cond.methodLink RL 47 yX1_mismatchesOf, Cond.instanceMethod yX1_mismatchesOf, Cond.selects RX1 yX1_mismatchesOf yX1_mismatchesOf, Cond.code yX1_mismatchesOf cX1_mismatchesOf 5 (some .int), Cond.methodLink RL 147 yX2_mismatchesOf, Cond.instanceMethod yX2_mismatchesOf, Cond.selects RX2 yX2_mismatchesOf yX2_mismatchesOf, Cond.code yX2_mismatchesOf cX2_mismatchesOf 5 (some .int), Cond.methodLink RL 148 yL_nextMismatch, Cond.static yL_nextMismatch, Cond.codeWith yL_nextMismatch cL_nextMismatch 5 (some .int) [(0, 10, 13, 13), (0, 10, 17, 21)], Cond.methodLink RL 50 yX1_nextMismatch, Cond.instanceMethod yX1_nextMismatch, Cond.selects RX1 yX1_nextMismatch yX1_nextMismatch, Cond.code yX1_nextMismatch cX1_nextMismatch 3 (some .int), Cond.methodLink RL 150 yX2_nextMismatch, Cond.instanceMethod yX2_nextMismatch, Cond.selects RX2 yX2_nextMismatch yX2_nextMismatch, Cond.code yX2_nextMismatch cX2_nextMismatch 4 (some .int), Cond.methodLink RL 151 yL_agreement, Cond.static yL_agreement, Cond.codeWith yL_agreement cL_agreement 5 (some .int) [(0, 10, 13, 13)]]
def wsL_law0_r16 : List Cond := [Cond.methodLink RL 53 yX1_agreement, Cond.instanceMethod yX1_agreement, Cond.selects RX1 yX1_agreement yX1_agreement, Cond.code yX1_agreement cX1_agreement 5 (some .int), Cond.methodLink RX1 121 Lib.Math.min.name, Cond.static Lib.Math.min.name, Cond.code Lib.Math.min.name Lib.Math.min.code 2 (some .int), Cond.methodLink RL 153 yX2_agreement, Cond.instanceMethod yX2_agreement, Cond.selects RX2 yX2_agreement yX2_agreement, Cond.code yX2_agreement cX2_agreement 5 (some .int), Cond.methodLink RL 154 yL_within, Cond.static yL_within, Cond.codeWith yL_within cL_within 4 (some .int) [(0, 9, 12, 13)], Cond.methodLink RL 56 yX1_within, Cond.instanceMethod yX1_within, Cond.selects RX1 yX1_within yX1_within, Cond.code yX1_within cX1_within 5 (some .int), Cond.methodLink RL 156 yX2_within, Cond.instanceMethod yX2_within, Cond.selects RX2 yX2_within yX2_within, Cond.code yX2_within cX2_within 4 (some .int), Cond.methodLink RL 157 yL_ranked, Cond.static yL_ranked]
def wsL_law0_r17 : List Cond := [Cond.codeWith yL_ranked cL_ranked 4 (some .int) [(0, 9, 12, 21)], Cond.methodLink RL 59 yX1_ranked, Cond.instanceMethod yX1_ranked, Cond.selects RX1 yX1_ranked yX1_ranked, Cond.code yX1_ranked cX1_ranked 4 (some .int), Cond.methodLink RX1 128 yX1_placeOfRank, Cond.instanceMethod yX1_placeOfRank, Cond.selects RX1 yX1_placeOfRank yX1_placeOfRank, Cond.code yX1_placeOfRank cX1_placeOfRank 6 (some .int), Cond.methodLink RL 159 yX2_ranked, Cond.instanceMethod yX2_ranked, Cond.selects RX2 yX2_ranked yX2_ranked, Cond.code yX2_ranked cX2_ranked 5 (some .int), Cond.methodLink RL 160 yL_bestLetter, Cond.static yL_bestLetter, Cond.codeWith yL_bestLetter cL_bestLetter 4 (some .int) [(0, 9, 12, 21)], Cond.methodLink RL 62 yX1_bestLetter, Cond.instanceMethod yX1_bestLetter, Cond.selects RX1 yX1_bestLetter yX1_bestLetter, Cond.code yX1_bestLetter cX1_bestLetter 6 (some .int), Cond.methodLink RX1 131 yX1_countLetter, Cond.instanceMethod yX1_countLetter, Cond.selects RX1 yX1_countLetter yX1_countLetter, Cond.code yX1_countLetter cX1_countLetter 6 (some .int)]
def wsL_law0_r18 : List Cond := [Cond.methodLink RL 162 yX2_bestLetter, Cond.instanceMethod yX2_bestLetter, Cond.selects RX2 yX2_bestLetter yX2_bestLetter, Cond.code yX2_bestLetter cX2_bestLetter 7 (some .int), Cond.methodLink RL 163 yX1_sumMatches, Cond.instanceMethod yX1_sumMatches, Cond.selects RX1 yX1_sumMatches yX1_sumMatches, Cond.code yX1_sumMatches cX1_sumMatches 1 (some .int), Cond.methodLink RL 166 yX2_sumMatches, Cond.instanceMethod yX2_sumMatches, Cond.selects RX2 yX2_sumMatches yX2_sumMatches, Cond.code yX2_sumMatches cX2_sumMatches 1 (some .int), Cond.methodLink RL 167 yL_sumMatch, Cond.static yL_sumMatch, Cond.codeWith yL_sumMatch cL_sumMatch 4 (some .int) [(0, 9, 12, 21)], Cond.methodLink RL 65 yX1_sumMatch, Cond.instanceMethod yX1_sumMatch, Cond.selects RX1 yX1_sumMatch yX1_sumMatch, Cond.code yX1_sumMatch cX1_sumMatch 2 (some .int), Cond.methodLink RL 169 yX2_sumMatch, Cond.instanceMethod yX2_sumMatch, Cond.selects RX2 yX2_sumMatch yX2_sumMatch, Cond.code yX2_sumMatch cX2_sumMatch 2 (some .int), Cond.methodLink RL 170 yX1_orderMatches]
def wsL_law0_r19 : List Cond := [Cond.instanceMethod yX1_orderMatches, Cond.selects RX1 yX1_orderMatches yX1_orderMatches, Cond.code yX1_orderMatches cX1_orderMatches 1 (some .int), Cond.methodLink RL 173 yX2_orderMatches, Cond.instanceMethod yX2_orderMatches, Cond.selects RX2 yX2_orderMatches yX2_orderMatches, Cond.code yX2_orderMatches cX2_orderMatches 1 (some .int), Cond.methodLink RL 174 yL_orderMatch, Cond.static yL_orderMatch, Cond.codeWith yL_orderMatch cL_orderMatch 4 (some .int) [(0, 9, 12, 21)], Cond.methodLink RL 68 yX1_orderMatch, Cond.instanceMethod yX1_orderMatch, Cond.selects RX1 yX1_orderMatch yX1_orderMatch, Cond.code yX1_orderMatch cX1_orderMatch 2 (some .int), Cond.methodLink RL 176 yX2_orderMatch, Cond.instanceMethod yX2_orderMatch, Cond.selects RX2 yX2_orderMatch yX2_orderMatch, Cond.code yX2_orderMatch cX2_orderMatch 2 (some .int), Cond.methodLink RL 177 yL_hasPeriod, Cond.static yL_hasPeriod, Cond.codeWith yL_hasPeriod cL_hasPeriod 4 (some .int) [(0, 16, 19, 13)], Cond.methodLink RL 71 yX1_hasPeriod, Cond.instanceMethod yX1_hasPeriod, Cond.selects RX1 yX1_hasPeriod yX1_hasPeriod]
def wsL_law0_r20 : List Cond := [Cond.code yX1_hasPeriod cX1_hasPeriod 2 (some .boolean), Cond.methodLink RX1 142 yX1_repeatsAfter, Cond.instanceMethod yX1_repeatsAfter, Cond.selects RX1 yX1_repeatsAfter yX1_repeatsAfter, Cond.code yX1_repeatsAfter cX1_repeatsAfter 3 (some .boolean), Cond.methodLink RL 179 yX2_hasPeriod, Cond.instanceMethod yX2_hasPeriod, Cond.selects RX2 yX2_hasPeriod yX2_hasPeriod, Cond.code yX2_hasPeriod cX2_hasPeriod 2 (some .boolean), Cond.methodLink RX2 73 yX2_comesAgain, Cond.instanceMethod yX2_comesAgain, Cond.selects RX2 yX2_comesAgain yX2_comesAgain, Cond.code yX2_comesAgain cX2_comesAgain 4 (some .boolean), Cond.methodLink RL 180 yX1_leastPeriod, Cond.instanceMethod yX1_leastPeriod, Cond.selects RX1 yX1_leastPeriod yX1_leastPeriod, Cond.code yX1_leastPeriod cX1_leastPeriod 2 (some .int), Cond.methodLink RL 183 yX2_leastPeriod, Cond.instanceMethod yX2_leastPeriod, Cond.selects RX2 yX2_leastPeriod yX2_leastPeriod, Cond.code yX2_leastPeriod cX2_leastPeriod 2 (some .int)]
def wsL_law0 : List Cond := (wsL_law0_r1 ++ (wsL_law0_r2 ++ (wsL_law0_r3 ++ (wsL_law0_r4 ++ (wsL_law0_r5 ++ (wsL_law0_r6 ++ (wsL_law0_r7 ++ (wsL_law0_r8 ++ (wsL_law0_r9 ++ (wsL_law0_r10 ++ (wsL_law0_r11 ++ (wsL_law0_r12 ++ (wsL_law0_r13 ++ (wsL_law0_r14 ++ (wsL_law0_r15 ++ (wsL_law0_r16 ++ (wsL_law0_r17 ++ (wsL_law0_r18 ++ (wsL_law0_r19 ++ wsL_law0_r20))))))))))))))))))) ++ wsX10 ++ wsX20 ++ ([] : List Cond)
def wsL_law : List Cond := wsL_law0 ++ (vx_atS RX1 34 "java/lang/IllegalStateException" ["java/lang/RuntimeException", "java/lang/Exception"]).filter goodWord ++ (vx_atS RX1 41 "java/lang/IllegalArgumentException" ["java/lang/RuntimeException", "java/lang/Exception"]).filter goodWord ++ (vx_atS RX1 58 "java/lang/IndexOutOfBoundsException" ["java/lang/RuntimeException", "java/lang/Exception"]).filter goodWord
end
section
set_option maxRecDepth 20000 in
theorem wsL_law_in0_1 : ∀ w ∈ wsL_law0_r1, w ∈ lw_tbl := fun w h => (goodIn_p wsL_law0_r1 [47, 50, 454] (by decide +kernel) (by decide +kernel) w h).1
set_option maxRecDepth 20000 in
theorem wsL_law_in0_2 : ∀ w ∈ wsL_law0_r2, w ∈ lw_tbl := fun w h => (goodIn_p wsL_law0_r2 [161, 164, 479] (by decide +kernel) (by decide +kernel) w h).1
set_option maxRecDepth 20000 in
theorem wsL_law_in0_3 : ∀ w ∈ wsL_law0_r3, w ∈ lw_tbl := fun w h => (goodIn_p wsL_law0_r3 [482, 486, 475, 256] (by decide +kernel) (by decide +kernel) w h).1
set_option maxRecDepth 20000 in
theorem wsL_law_in0_4 : ∀ w ∈ wsL_law0_r4, w ∈ lw_tbl := fun w h => (goodIn_p wsL_law0_r4 [261, 490, 288, 494] (by decide +kernel) (by decide +kernel) w h).1
set_option maxRecDepth 20000 in
theorem wsL_law_in0_5 : ∀ w ∈ wsL_law0_r5, w ∈ lw_tbl := fun w h => (goodIn_p wsL_law0_r5 [296, 498, 304, 308, 502] (by decide +kernel) (by decide +kernel) w h).1
set_option maxRecDepth 20000 in
theorem wsL_law_in0_6 : ∀ w ∈ wsL_law0_r6, w ∈ lw_tbl := fun w h => (goodIn_p wsL_law0_r6 [506, 316, 321, 510, 71] (by decide +kernel) (by decide +kernel) w h).1
set_option maxRecDepth 20000 in
theorem wsL_law_in0_7 : ∀ w ∈ wsL_law0_r7, w ∈ lw_tbl := fun w h => (goodIn_p wsL_law0_r7 [514, 75, 518, 79, 522, 83] (by decide +kernel) (by decide +kernel) w h).1
set_option maxRecDepth 20000 in
theorem wsL_law_in0_8 : ∀ w ∈ wsL_law0_r8, w ∈ lw_tbl := fun w h => (goodIn_p wsL_law0_r8 [526, 87, 530, 534, 328] (by decide +kernel) (by decide +kernel) w h).1
set_option maxRecDepth 20000 in
theorem wsL_law_in0_9 : ∀ w ∈ wsL_law0_r9, w ∈ lw_tbl := fun w h => (goodIn_p wsL_law0_r9 [538, 336, 340, 542, 546] (by decide +kernel) (by decide +kernel) w h).1
set_option maxRecDepth 20000 in
theorem wsL_law_in0_10 : ∀ w ∈ wsL_law0_r10, w ∈ lw_tbl := fun w h => (goodIn_p wsL_law0_r10 [91, 97, 102, 108, 114, 118] (by decide +kernel) (by decide +kernel) w h).1
set_option maxRecDepth 20000 in
theorem wsL_law_in0_11 : ∀ w ∈ wsL_law0_r11, w ∈ lw_tbl := fun w h => (goodIn_p wsL_law0_r11 [122, 126, 129, 550, 554, 558] (by decide +kernel) (by decide +kernel) w h).1
set_option maxRecDepth 20000 in
theorem wsL_law_in0_12 : ∀ w ∈ wsL_law0_r12, w ∈ lw_tbl := fun w h => (goodIn_p wsL_law0_r12 [562, 565, 569, 573, 576, 348] (by decide +kernel) (by decide +kernel) w h).1
set_option maxRecDepth 20000 in
theorem wsL_law_in0_13 : ∀ w ∈ wsL_law0_r13, w ∈ lw_tbl := fun w h => (goodIn_p wsL_law0_r13 [352, 356, 580, 584, 588, 133] (by decide +kernel) (by decide +kernel) w h).1
set_option maxRecDepth 20000 in
theorem wsL_law_in0_14 : ∀ w ∈ wsL_law0_r14, w ∈ lw_tbl := fun w h => (goodIn_p wsL_law0_r14 [136, 592, 364, 368, 596] (by decide +kernel) (by decide +kernel) w h).1
set_option maxRecDepth 20000 in
theorem wsL_law_in0_15 : ∀ w ∈ wsL_law0_r15, w ∈ lw_tbl := fun w h => (goodIn_p wsL_law0_r15 [375, 600, 383, 604] (by decide +kernel) (by decide +kernel) w h).1
set_option maxRecDepth 20000 in
theorem wsL_law_in0_16 : ∀ w ∈ wsL_law0_r16, w ∈ lw_tbl := fun w h => (goodIn_p wsL_law0_r16 [391, 396, 608, 403, 612] (by decide +kernel) (by decide +kernel) w h).1
set_option maxRecDepth 20000 in
theorem wsL_law_in0_17 : ∀ w ∈ wsL_law0_r17, w ∈ lw_tbl := fun w h => (goodIn_p wsL_law0_r17 [411, 416, 616, 423, 427] (by decide +kernel) (by decide +kernel) w h).1
set_option maxRecDepth 20000 in
theorem wsL_law_in0_18 : ∀ w ∈ wsL_law0_r18, w ∈ lw_tbl := fun w h => (goodIn_p wsL_law0_r18 [620, 140, 624, 434, 628] (by decide +kernel) (by decide +kernel) w h).1
set_option maxRecDepth 20000 in
theorem wsL_law_in0_19 : ∀ w ∈ wsL_law0_r19, w ∈ lw_tbl := fun w h => (goodIn_p wsL_law0_r19 [144, 632, 441, 636] (by decide +kernel) (by decide +kernel) w h).1
set_option maxRecDepth 20000 in
theorem wsL_law_in0_20 : ∀ w ∈ wsL_law0_r20, w ∈ lw_tbl := fun w h => (goodIn_p wsL_law0_r20 [448, 152, 640, 644, 148, 648] (by decide +kernel) (by decide +kernel) w h).1
theorem wsX10_inT : ∀ w ∈ wsX10, w ∈ lw_tbl := by decide +kernel
theorem wsX20_inT : ∀ w ∈ wsX20, w ∈ lw_tbl := by decide +kernel
theorem in_app {a b c : List Cond} (ha : ∀ w ∈ a, w ∈ c) (hb : ∀ w ∈ b, w ∈ c) : ∀ w ∈ a ++ b, w ∈ c := fun w h => (List.mem_append.mp h).elim (ha w) (hb w)
theorem wsL_law_in0 : ∀ w ∈ wsL_law0, w ∈ lw_tbl := in_app (in_app (in_app (in_app wsL_law_in0_1 (in_app wsL_law_in0_2 (in_app wsL_law_in0_3 (in_app wsL_law_in0_4 (in_app wsL_law_in0_5 (in_app wsL_law_in0_6 (in_app wsL_law_in0_7 (in_app wsL_law_in0_8 (in_app wsL_law_in0_9 (in_app wsL_law_in0_10 (in_app wsL_law_in0_11 (in_app wsL_law_in0_12 (in_app wsL_law_in0_13 (in_app wsL_law_in0_14 (in_app wsL_law_in0_15 (in_app wsL_law_in0_16 (in_app wsL_law_in0_17 (in_app wsL_law_in0_18 (in_app wsL_law_in0_19 wsL_law_in0_20))))))))))))))))))) wsX10_inT) wsX20_inT) (fun _ h => nomatch h)
theorem wsL_law_x0 : ∀ w ∈ (vx_atS RX1 34 "java/lang/IllegalStateException" ["java/lang/RuntimeException", "java/lang/Exception"]).filter goodWord, w ∈ lw_tbl := by decide +kernel
theorem wsL_law_x1 : ∀ w ∈ (vx_atS RX1 41 "java/lang/IllegalArgumentException" ["java/lang/RuntimeException", "java/lang/Exception"]).filter goodWord, w ∈ lw_tbl := by decide +kernel
theorem wsL_law_x2 : ∀ w ∈ (vx_atS RX1 58 "java/lang/IndexOutOfBoundsException" ["java/lang/RuntimeException", "java/lang/Exception"]).filter goodWord, w ∈ lw_tbl := by decide +kernel
theorem wsL_law_in : ∀ w ∈ wsL_law, w ∈ lw_tbl := fun w h => (List.mem_append.mp h).elim (fun h => (List.mem_append.mp h).elim (fun h => (List.mem_append.mp h).elim (fun h => wsL_law_in0 w h) (fun h => wsL_law_x0 w h)) (fun h => wsL_law_x1 w h)) (fun h => wsL_law_x2 w h)
theorem inX0 : ∀ w ∈ wsX00, w ∈ lw_tbl := by decide +kernel
theorem inlX1 : ∀ w ∈ wsX10, w ∈ wsL_law := fun _ h => List.mem_append_left _ (List.mem_append_left _ (List.mem_append_left _ (List.mem_append_left _ (List.mem_append_left _ (List.mem_append_right _ h)))))
theorem inX1 : ∀ w ∈ wsX10, w ∈ lw_tbl := fun w h => wsL_law_in w (inlX1 w h)
theorem inlX2 : ∀ w ∈ wsX20, w ∈ wsL_law := fun _ h => List.mem_append_left _ (List.mem_append_left _ (List.mem_append_left _ (List.mem_append_left _ (List.mem_append_right _ h))))
theorem inX2 : ∀ w ∈ wsX20, w ∈ lw_tbl := fun w h => wsL_law_in w (inlX2 w h)
theorem inJx29ce0 : ∀ w ∈ wsJx29ce00, w ∈ lw_tbl := by decide +kernel
theorem inJ9 : ∀ w ∈ wsJ90, w ∈ lw_tbl := by decide +kernel
theorem inJ0 : ∀ w ∈ wsJ00, w ∈ lw_tbl := by decide +kernel
theorem inJ10 : ∀ w ∈ wsJ100, w ∈ lw_tbl := by decide +kernel
end
section
theorem dX1_init_0 : decode cX1_init 0 = .ok (.aload_n 0, 1) := by decide +kernel
theorem dX1_init_1 : decode cX1_init 1 = .ok (.invokespecial 1, 3) := by decide +kernel
theorem dX1_init_4 : decode cX1_init 4 = .ok (.aload_n 0, 1) := by decide +kernel
theorem dX1_init_5 : decode cX1_init 5 = .ok (.bipush 64, 2) := by decide +kernel
theorem dX1_init_7 : decode cX1_init 7 = .ok (.newarray .int, 2) := by decide +kernel
theorem dX1_init_9 : decode cX1_init 9 = .ok (.putfield 9, 3) := by decide +kernel
theorem dX1_init_12 : decode cX1_init 12 = .ok (.aload_n 0, 1) := by decide +kernel
theorem dX1_init_13 : decode cX1_init 13 = .ok (.bipush 24, 2) := by decide +kernel
theorem dX1_init_15 : decode cX1_init 15 = .ok (.newarray .int, 2) := by decide +kernel
theorem dX1_init_17 : decode cX1_init 17 = .ok (.putfield 13, 3) := by decide +kernel
theorem dX1_init_20 : decode cX1_init 20 = .ok (.aload_n 0, 1) := by decide +kernel
theorem dX1_init_21 : decode cX1_init 21 = .ok (.bipush 65, 2) := by decide +kernel
theorem dX1_init_23 : decode cX1_init 23 = .ok (.newarray .int, 2) := by decide +kernel
theorem dX1_init_25 : decode cX1_init 25 = .ok (.putfield 16, 3) := by decide +kernel
theorem dX1_init_28 : decode cX1_init 28 = .ok (.aload_n 0, 1) := by decide +kernel
theorem dX1_init_29 : decode cX1_init 29 = .ok (.iconst 0, 1) := by decide +kernel
theorem dX1_init_30 : decode cX1_init 30 = .ok (.putfield 19, 3) := by decide +kernel
theorem dX1_init_33 : decode cX1_init 33 = .ok (.aload_n 0, 1) := by decide +kernel
theorem dX1_init_34 : decode cX1_init 34 = .ok (.iconst 0, 1) := by decide +kernel
theorem dX1_init_35 : decode cX1_init 35 = .ok (.putfield 23, 3) := by decide +kernel
theorem dX1_init_38 : decode cX1_init 38 = .ok (.return_, 1) := by decide +kernel
set_option maxRecDepth 20000 in
theorem ggX1_appendText_X1_requireSymbol : GoodIn wsX1_appendText wsX1_requireSymbol := goodIn_ca (goodIn_r _ [8, 9, 10] (by decide +kernel) (by decide +kernel)) (goodIn_sub (fun _ h => List.mem_cons_of_mem _ (List.mem_append_right _ h)) (by decide +kernel))
set_option maxRecDepth 20000 in
theorem gX1_appendText_X1_requireSymbol : GoodIn wsX1_appendText (va_wsS RX1 26 yX1_requireSymbol wsX1_requireSymbol) := goodIn_app (goodIn_of _ (by decide +kernel)) ggX1_appendText_X1_requireSymbol
theorem dX1_appendText_0 : decode cX1_appendText 0 = .ok (.iload_n 1, 1) := by decide +kernel
theorem dX1_appendText_1 : decode cX1_appendText 1 = .ok (.invokestatic 26, 3) := by decide +kernel
theorem dX1_appendText_4 : decode cX1_appendText 4 = .ok (.aload_n 0, 1) := by decide +kernel
theorem dX1_appendText_5 : decode cX1_appendText 5 = .ok (.getfield 19, 3) := by decide +kernel
theorem dX1_appendText_8 : decode cX1_appendText 8 = .ok (.bipush 64, 2) := by decide +kernel
theorem dX1_appendText_10 : decode cX1_appendText 10 = .ok (.if_icmp .lt 13, 3) := by decide +kernel
theorem dX1_appendText_13 : decode cX1_appendText 13 = .ok (.new 30, 3) := by decide +kernel
theorem dX1_appendText_16 : decode cX1_appendText 16 = .ok (.dup, 1) := by decide +kernel
theorem dX1_appendText_17 : decode cX1_appendText 17 = .ok (.ldc 32, 2) := by decide +kernel
theorem dX1_appendText_19 : decode cX1_appendText 19 = .ok (.invokespecial 34, 3) := by decide +kernel
theorem dX1_appendText_22 : decode cX1_appendText 22 = .ok (.athrow, 1) := by decide +kernel
theorem dX1_appendText_23 : decode cX1_appendText 23 = .ok (.aload_n 0, 1) := by decide +kernel
theorem dX1_appendText_24 : decode cX1_appendText 24 = .ok (.getfield 9, 3) := by decide +kernel
theorem dX1_appendText_27 : decode cX1_appendText 27 = .ok (.aload_n 0, 1) := by decide +kernel
theorem dX1_appendText_28 : decode cX1_appendText 28 = .ok (.getfield 19, 3) := by decide +kernel
theorem dX1_appendText_31 : decode cX1_appendText 31 = .ok (.iload_n 1, 1) := by decide +kernel
theorem dX1_appendText_32 : decode cX1_appendText 32 = .ok (.iastore, 1) := by decide +kernel
theorem dX1_appendText_33 : decode cX1_appendText 33 = .ok (.aload_n 0, 1) := by decide +kernel
theorem dX1_appendText_34 : decode cX1_appendText 34 = .ok (.dup, 1) := by decide +kernel
theorem dX1_appendText_35 : decode cX1_appendText 35 = .ok (.getfield 19, 3) := by decide +kernel
theorem dX1_appendText_38 : decode cX1_appendText 38 = .ok (.iconst 1, 1) := by decide +kernel
theorem dX1_appendText_39 : decode cX1_appendText 39 = .ok (.iadd, 1) := by decide +kernel
theorem dX1_appendText_40 : decode cX1_appendText 40 = .ok (.putfield 19, 3) := by decide +kernel
theorem dX1_appendText_43 : decode cX1_appendText 43 = .ok (.aload_n 0, 1) := by decide +kernel
theorem dX1_appendText_44 : decode cX1_appendText 44 = .ok (.getfield 19, 3) := by decide +kernel
theorem dX1_appendText_47 : decode cX1_appendText 47 = .ok (.ireturn, 1) := by decide +kernel
set_option maxRecDepth 20000 in
theorem ggX1_repeatText_X1_requirePartOfText : GoodIn wsX1_repeatText wsX1_requirePartOfText := goodIn_ca (goodIn_r _ [15, 16, 17, 5, 18, 19, 20, 21, 22] (by decide +kernel) (by decide +kernel)) (goodIn_sub (fun _ h => List.mem_cons_of_mem _ (List.mem_append_right _ h)) (by decide +kernel))
set_option maxRecDepth 20000 in
theorem gX1_repeatText_X1_requirePartOfText : GoodIn wsX1_repeatText (wsV RX1 42 RX1 yX1_requirePartOfText wsX1_requirePartOfText) := goodIn_app (goodIn_of _ (by decide +kernel)) ggX1_repeatText_X1_requirePartOfText
theorem dX1_repeatText_0 : decode cX1_repeatText 0 = .ok (.iload_n 2, 1) := by decide +kernel
theorem dX1_repeatText_1 : decode cX1_repeatText 1 = .ok (.iconst 1, 1) := by decide +kernel
theorem dX1_repeatText_2 : decode cX1_repeatText 2 = .ok (.if_icmp .ge 13, 3) := by decide +kernel
theorem dX1_repeatText_5 : decode cX1_repeatText 5 = .ok (.new 37, 3) := by decide +kernel
theorem dX1_repeatText_8 : decode cX1_repeatText 8 = .ok (.dup, 1) := by decide +kernel
theorem dX1_repeatText_9 : decode cX1_repeatText 9 = .ok (.ldc 39, 2) := by decide +kernel
theorem dX1_repeatText_11 : decode cX1_repeatText 11 = .ok (.invokespecial 41, 3) := by decide +kernel
theorem dX1_repeatText_14 : decode cX1_repeatText 14 = .ok (.athrow, 1) := by decide +kernel
theorem dX1_repeatText_15 : decode cX1_repeatText 15 = .ok (.aload_n 0, 1) := by decide +kernel
theorem dX1_repeatText_16 : decode cX1_repeatText 16 = .ok (.iload_n 1, 1) := by decide +kernel
theorem dX1_repeatText_17 : decode cX1_repeatText 17 = .ok (.iload_n 2, 1) := by decide +kernel
theorem dX1_repeatText_18 : decode cX1_repeatText 18 = .ok (.invokevirtual 42, 3) := by decide +kernel
theorem dX1_repeatText_21 : decode cX1_repeatText 21 = .ok (.iload_n 2, 1) := by decide +kernel
theorem dX1_repeatText_22 : decode cX1_repeatText 22 = .ok (.bipush 64, 2) := by decide +kernel
theorem dX1_repeatText_24 : decode cX1_repeatText 24 = .ok (.aload_n 0, 1) := by decide +kernel
theorem dX1_repeatText_25 : decode cX1_repeatText 25 = .ok (.getfield 19, 3) := by decide +kernel
theorem dX1_repeatText_28 : decode cX1_repeatText 28 = .ok (.isub, 1) := by decide +kernel
theorem dX1_repeatText_29 : decode cX1_repeatText 29 = .ok (.if_icmp .le 13, 3) := by decide +kernel
theorem dX1_repeatText_32 : decode cX1_repeatText 32 = .ok (.new 30, 3) := by decide +kernel
theorem dX1_repeatText_35 : decode cX1_repeatText 35 = .ok (.dup, 1) := by decide +kernel
theorem dX1_repeatText_36 : decode cX1_repeatText 36 = .ok (.ldc 46, 2) := by decide +kernel
theorem dX1_repeatText_38 : decode cX1_repeatText 38 = .ok (.invokespecial 34, 3) := by decide +kernel
theorem dX1_repeatText_41 : decode cX1_repeatText 41 = .ok (.athrow, 1) := by decide +kernel
theorem dX1_repeatText_42 : decode cX1_repeatText 42 = .ok (.aload_n 0, 1) := by decide +kernel
theorem dX1_repeatText_43 : decode cX1_repeatText 43 = .ok (.getfield 9, 3) := by decide +kernel
theorem dX1_repeatText_46 : decode cX1_repeatText 46 = .ok (.iload_n 1, 1) := by decide +kernel
theorem dX1_repeatText_47 : decode cX1_repeatText 47 = .ok (.aload_n 0, 1) := by decide +kernel
theorem dX1_repeatText_48 : decode cX1_repeatText 48 = .ok (.getfield 9, 3) := by decide +kernel
theorem dX1_repeatText_51 : decode cX1_repeatText 51 = .ok (.aload_n 0, 1) := by decide +kernel
theorem dX1_repeatText_52 : decode cX1_repeatText 52 = .ok (.getfield 19, 3) := by decide +kernel
theorem dX1_repeatText_55 : decode cX1_repeatText 55 = .ok (.iload_n 2, 1) := by decide +kernel
theorem dX1_repeatText_56 : decode cX1_repeatText 56 = .ok (.invokestatic 48, 3) := by decide +kernel
theorem dX1_repeatText_59 : decode cX1_repeatText 59 = .ok (.aload_n 0, 1) := by decide +kernel
theorem dX1_repeatText_60 : decode cX1_repeatText 60 = .ok (.dup, 1) := by decide +kernel
theorem dX1_repeatText_61 : decode cX1_repeatText 61 = .ok (.getfield 19, 3) := by decide +kernel
theorem dX1_repeatText_64 : decode cX1_repeatText 64 = .ok (.iload_n 2, 1) := by decide +kernel
theorem dX1_repeatText_65 : decode cX1_repeatText 65 = .ok (.iadd, 1) := by decide +kernel
theorem dX1_repeatText_66 : decode cX1_repeatText 66 = .ok (.putfield 19, 3) := by decide +kernel
theorem dX1_repeatText_69 : decode cX1_repeatText 69 = .ok (.aload_n 0, 1) := by decide +kernel
theorem dX1_repeatText_70 : decode cX1_repeatText 70 = .ok (.getfield 19, 3) := by decide +kernel
theorem dX1_repeatText_73 : decode cX1_repeatText 73 = .ok (.ireturn, 1) := by decide +kernel
set_option maxRecDepth 20000 in
theorem ggX1_setText_X1_requireSymbol : GoodIn wsX1_setText wsX1_requireSymbol := goodIn_ca (goodIn_r _ [8, 9, 10] (by decide +kernel) (by decide +kernel)) (goodIn_sub (fun _ h => List.mem_cons_of_mem _ (List.mem_append_right _ h)) (by decide +kernel))
set_option maxRecDepth 20000 in
theorem gX1_setText_X1_requireSymbol : GoodIn wsX1_setText (va_wsS RX1 26 yX1_requireSymbol wsX1_requireSymbol) := goodIn_app (goodIn_of _ (by decide +kernel)) ggX1_setText_X1_requireSymbol
theorem dX1_setText_0 : decode cX1_setText 0 = .ok (.iload_n 1, 1) := by decide +kernel
theorem dX1_setText_1 : decode cX1_setText 1 = .ok (.ifCond .lt 11, 3) := by decide +kernel
theorem dX1_setText_4 : decode cX1_setText 4 = .ok (.iload_n 1, 1) := by decide +kernel
theorem dX1_setText_5 : decode cX1_setText 5 = .ok (.aload_n 0, 1) := by decide +kernel
theorem dX1_setText_6 : decode cX1_setText 6 = .ok (.getfield 19, 3) := by decide +kernel
theorem dX1_setText_9 : decode cX1_setText 9 = .ok (.if_icmp .lt 13, 3) := by decide +kernel
theorem dX1_setText_12 : decode cX1_setText 12 = .ok (.new 54, 3) := by decide +kernel
theorem dX1_setText_15 : decode cX1_setText 15 = .ok (.dup, 1) := by decide +kernel
theorem dX1_setText_16 : decode cX1_setText 16 = .ok (.ldc 56, 2) := by decide +kernel
theorem dX1_setText_18 : decode cX1_setText 18 = .ok (.invokespecial 58, 3) := by decide +kernel
theorem dX1_setText_21 : decode cX1_setText 21 = .ok (.athrow, 1) := by decide +kernel
theorem dX1_setText_22 : decode cX1_setText 22 = .ok (.iload_n 2, 1) := by decide +kernel
theorem dX1_setText_23 : decode cX1_setText 23 = .ok (.invokestatic 26, 3) := by decide +kernel
theorem dX1_setText_26 : decode cX1_setText 26 = .ok (.aload_n 0, 1) := by decide +kernel
theorem dX1_setText_27 : decode cX1_setText 27 = .ok (.getfield 9, 3) := by decide +kernel
theorem dX1_setText_30 : decode cX1_setText 30 = .ok (.iload_n 1, 1) := by decide +kernel
theorem dX1_setText_31 : decode cX1_setText 31 = .ok (.iaload, 1) := by decide +kernel
theorem dX1_setText_32 : decode cX1_setText 32 = .ok (.istore_n 3, 1) := by decide +kernel
theorem dX1_setText_33 : decode cX1_setText 33 = .ok (.aload_n 0, 1) := by decide +kernel
theorem dX1_setText_34 : decode cX1_setText 34 = .ok (.getfield 9, 3) := by decide +kernel
theorem dX1_setText_37 : decode cX1_setText 37 = .ok (.iload_n 1, 1) := by decide +kernel
theorem dX1_setText_38 : decode cX1_setText 38 = .ok (.iload_n 2, 1) := by decide +kernel
theorem dX1_setText_39 : decode cX1_setText 39 = .ok (.iastore, 1) := by decide +kernel
theorem dX1_setText_40 : decode cX1_setText 40 = .ok (.iload_n 3, 1) := by decide +kernel
theorem dX1_setText_41 : decode cX1_setText 41 = .ok (.ireturn, 1) := by decide +kernel
set_option maxRecDepth 20000 in
theorem ggX1_appendPattern_X1_requireSymbol : GoodIn wsX1_appendPattern wsX1_requireSymbol := goodIn_ca (goodIn_r _ [8, 9, 10] (by decide +kernel) (by decide +kernel)) (goodIn_sub (fun _ h => List.mem_cons_of_mem _ (List.mem_append_right _ h)) (by decide +kernel))
set_option maxRecDepth 20000 in
theorem gX1_appendPattern_X1_requireSymbol : GoodIn wsX1_appendPattern (va_wsS RX1 26 yX1_requireSymbol wsX1_requireSymbol) := goodIn_app (goodIn_of _ (by decide +kernel)) ggX1_appendPattern_X1_requireSymbol
theorem dX1_appendPattern_0 : decode cX1_appendPattern 0 = .ok (.iload_n 1, 1) := by decide +kernel
theorem dX1_appendPattern_1 : decode cX1_appendPattern 1 = .ok (.invokestatic 26, 3) := by decide +kernel
theorem dX1_appendPattern_4 : decode cX1_appendPattern 4 = .ok (.aload_n 0, 1) := by decide +kernel
theorem dX1_appendPattern_5 : decode cX1_appendPattern 5 = .ok (.getfield 23, 3) := by decide +kernel
theorem dX1_appendPattern_8 : decode cX1_appendPattern 8 = .ok (.bipush 24, 2) := by decide +kernel
theorem dX1_appendPattern_10 : decode cX1_appendPattern 10 = .ok (.if_icmp .lt 13, 3) := by decide +kernel
theorem dX1_appendPattern_13 : decode cX1_appendPattern 13 = .ok (.new 30, 3) := by decide +kernel
theorem dX1_appendPattern_16 : decode cX1_appendPattern 16 = .ok (.dup, 1) := by decide +kernel
theorem dX1_appendPattern_17 : decode cX1_appendPattern 17 = .ok (.ldc 59, 2) := by decide +kernel
theorem dX1_appendPattern_19 : decode cX1_appendPattern 19 = .ok (.invokespecial 34, 3) := by decide +kernel
theorem dX1_appendPattern_22 : decode cX1_appendPattern 22 = .ok (.athrow, 1) := by decide +kernel
theorem dX1_appendPattern_23 : decode cX1_appendPattern 23 = .ok (.aload_n 0, 1) := by decide +kernel
theorem dX1_appendPattern_24 : decode cX1_appendPattern 24 = .ok (.getfield 13, 3) := by decide +kernel
theorem dX1_appendPattern_27 : decode cX1_appendPattern 27 = .ok (.aload_n 0, 1) := by decide +kernel
theorem dX1_appendPattern_28 : decode cX1_appendPattern 28 = .ok (.getfield 23, 3) := by decide +kernel
theorem dX1_appendPattern_31 : decode cX1_appendPattern 31 = .ok (.iload_n 1, 1) := by decide +kernel
theorem dX1_appendPattern_32 : decode cX1_appendPattern 32 = .ok (.iastore, 1) := by decide +kernel
theorem dX1_appendPattern_33 : decode cX1_appendPattern 33 = .ok (.aload_n 0, 1) := by decide +kernel
theorem dX1_appendPattern_34 : decode cX1_appendPattern 34 = .ok (.dup, 1) := by decide +kernel
theorem dX1_appendPattern_35 : decode cX1_appendPattern 35 = .ok (.getfield 23, 3) := by decide +kernel
theorem dX1_appendPattern_38 : decode cX1_appendPattern 38 = .ok (.iconst 1, 1) := by decide +kernel
theorem dX1_appendPattern_39 : decode cX1_appendPattern 39 = .ok (.iadd, 1) := by decide +kernel
theorem dX1_appendPattern_40 : decode cX1_appendPattern 40 = .ok (.putfield 23, 3) := by decide +kernel
theorem dX1_appendPattern_43 : decode cX1_appendPattern 43 = .ok (.aload_n 0, 1) := by decide +kernel
theorem dX1_appendPattern_44 : decode cX1_appendPattern 44 = .ok (.getfield 23, 3) := by decide +kernel
theorem dX1_appendPattern_47 : decode cX1_appendPattern 47 = .ok (.ireturn, 1) := by decide +kernel
set_option maxRecDepth 20000 in
theorem ggX1_setPattern_X1_requirePatternIndex : GoodIn wsX1_setPattern wsX1_requirePatternIndex := goodIn_ca (goodIn_r _ [6, 7, 8, 9, 15, 16, 17, 18, 19] (by decide +kernel) (by decide +kernel)) (goodIn_sub (fun _ h => List.mem_cons_of_mem _ (List.mem_append_left _ (List.mem_append_right _ h))) (by decide +kernel))
set_option maxRecDepth 20000 in
theorem gX1_setPattern_X1_requirePatternIndex : GoodIn wsX1_setPattern (wsV RX1 61 RX1 yX1_requirePatternIndex wsX1_requirePatternIndex) := goodIn_app (goodIn_of _ (by decide +kernel)) ggX1_setPattern_X1_requirePatternIndex
set_option maxRecDepth 20000 in
theorem ggX1_setPattern_X1_requireSymbol : GoodIn wsX1_setPattern wsX1_requireSymbol := goodIn_ca (goodIn_r _ [12, 13, 14] (by decide +kernel) (by decide +kernel)) (goodIn_sub (fun _ h => List.mem_cons_of_mem _ (List.mem_append_right _ h)) (by decide +kernel))
set_option maxRecDepth 20000 in
theorem gX1_setPattern_X1_requireSymbol : GoodIn wsX1_setPattern (va_wsS RX1 26 yX1_requireSymbol wsX1_requireSymbol) := goodIn_app (goodIn_of _ (by decide +kernel)) ggX1_setPattern_X1_requireSymbol
theorem dX1_setPattern_0 : decode cX1_setPattern 0 = .ok (.aload_n 0, 1) := by decide +kernel
theorem dX1_setPattern_1 : decode cX1_setPattern 1 = .ok (.iload_n 1, 1) := by decide +kernel
theorem dX1_setPattern_2 : decode cX1_setPattern 2 = .ok (.invokevirtual 61, 3) := by decide +kernel
theorem dX1_setPattern_5 : decode cX1_setPattern 5 = .ok (.iload_n 2, 1) := by decide +kernel
theorem dX1_setPattern_6 : decode cX1_setPattern 6 = .ok (.invokestatic 26, 3) := by decide +kernel
theorem dX1_setPattern_9 : decode cX1_setPattern 9 = .ok (.aload_n 0, 1) := by decide +kernel
theorem dX1_setPattern_10 : decode cX1_setPattern 10 = .ok (.getfield 13, 3) := by decide +kernel
theorem dX1_setPattern_13 : decode cX1_setPattern 13 = .ok (.iload_n 1, 1) := by decide +kernel
theorem dX1_setPattern_14 : decode cX1_setPattern 14 = .ok (.iaload, 1) := by decide +kernel
theorem dX1_setPattern_15 : decode cX1_setPattern 15 = .ok (.istore_n 3, 1) := by decide +kernel
theorem dX1_setPattern_16 : decode cX1_setPattern 16 = .ok (.aload_n 0, 1) := by decide +kernel
theorem dX1_setPattern_17 : decode cX1_setPattern 17 = .ok (.getfield 13, 3) := by decide +kernel
theorem dX1_setPattern_20 : decode cX1_setPattern 20 = .ok (.iload_n 1, 1) := by decide +kernel
theorem dX1_setPattern_21 : decode cX1_setPattern 21 = .ok (.iload_n 2, 1) := by decide +kernel
theorem dX1_setPattern_22 : decode cX1_setPattern 22 = .ok (.iastore, 1) := by decide +kernel
theorem dX1_setPattern_23 : decode cX1_setPattern 23 = .ok (.iload_n 3, 1) := by decide +kernel
theorem dX1_setPattern_24 : decode cX1_setPattern 24 = .ok (.ireturn, 1) := by decide +kernel
set_option maxRecDepth 20000 in
theorem ggX1_takePattern_X1_requirePartOfText : GoodIn wsX1_takePattern wsX1_requirePartOfText := goodIn_ca (goodIn_r _ [14, 15, 16, 17, 22, 23, 24, 25, 26] (by decide +kernel) (by decide +kernel)) (goodIn_sub (fun _ h => List.mem_cons_of_mem _ (List.mem_append_right _ h)) (by decide +kernel))
set_option maxRecDepth 20000 in
theorem gX1_takePattern_X1_requirePartOfText : GoodIn wsX1_takePattern (wsV RX1 42 RX1 yX1_requirePartOfText wsX1_requirePartOfText) := goodIn_app (goodIn_of _ (by decide +kernel)) ggX1_takePattern_X1_requirePartOfText
set_option maxRecDepth 20000 in
theorem ggX1_takePattern_X1_blanksInPattern : GoodIn wsX1_takePattern wsX1_blanksInPattern := goodIn_r _ [21, 9, 4, 22, 23, 24, 25, 26] (by decide +kernel) (by decide +kernel)
set_option maxRecDepth 20000 in
theorem gX1_takePattern_X1_blanksInPattern : GoodIn wsX1_takePattern (wsV RX1 66 RX1 yX1_blanksInPattern wsX1_blanksInPattern) := goodIn_app (goodIn_of _ (by decide +kernel)) ggX1_takePattern_X1_blanksInPattern
theorem dX1_takePattern_0 : decode cX1_takePattern 0 = .ok (.iload_n 2, 1) := by decide +kernel
theorem dX1_takePattern_1 : decode cX1_takePattern 1 = .ok (.ifCond .lt 9, 3) := by decide +kernel
theorem dX1_takePattern_4 : decode cX1_takePattern 4 = .ok (.iload_n 2, 1) := by decide +kernel
theorem dX1_takePattern_5 : decode cX1_takePattern 5 = .ok (.bipush 24, 2) := by decide +kernel
theorem dX1_takePattern_7 : decode cX1_takePattern 7 = .ok (.if_icmp .le 13, 3) := by decide +kernel
theorem dX1_takePattern_10 : decode cX1_takePattern 10 = .ok (.new 37, 3) := by decide +kernel
theorem dX1_takePattern_13 : decode cX1_takePattern 13 = .ok (.dup, 1) := by decide +kernel
theorem dX1_takePattern_14 : decode cX1_takePattern 14 = .ok (.ldc 64, 2) := by decide +kernel
theorem dX1_takePattern_16 : decode cX1_takePattern 16 = .ok (.invokespecial 41, 3) := by decide +kernel
theorem dX1_takePattern_19 : decode cX1_takePattern 19 = .ok (.athrow, 1) := by decide +kernel
theorem dX1_takePattern_20 : decode cX1_takePattern 20 = .ok (.aload_n 0, 1) := by decide +kernel
theorem dX1_takePattern_21 : decode cX1_takePattern 21 = .ok (.iload_n 1, 1) := by decide +kernel
theorem dX1_takePattern_22 : decode cX1_takePattern 22 = .ok (.iload_n 2, 1) := by decide +kernel
theorem dX1_takePattern_23 : decode cX1_takePattern 23 = .ok (.invokevirtual 42, 3) := by decide +kernel
theorem dX1_takePattern_26 : decode cX1_takePattern 26 = .ok (.aload_n 0, 1) := by decide +kernel
theorem dX1_takePattern_27 : decode cX1_takePattern 27 = .ok (.getfield 9, 3) := by decide +kernel
theorem dX1_takePattern_30 : decode cX1_takePattern 30 = .ok (.iload_n 1, 1) := by decide +kernel
theorem dX1_takePattern_31 : decode cX1_takePattern 31 = .ok (.aload_n 0, 1) := by decide +kernel
theorem dX1_takePattern_32 : decode cX1_takePattern 32 = .ok (.getfield 13, 3) := by decide +kernel
theorem dX1_takePattern_35 : decode cX1_takePattern 35 = .ok (.iconst 0, 1) := by decide +kernel
theorem dX1_takePattern_36 : decode cX1_takePattern 36 = .ok (.iload_n 2, 1) := by decide +kernel
theorem dX1_takePattern_37 : decode cX1_takePattern 37 = .ok (.invokestatic 48, 3) := by decide +kernel
theorem dX1_takePattern_40 : decode cX1_takePattern 40 = .ok (.aload_n 0, 1) := by decide +kernel
theorem dX1_takePattern_41 : decode cX1_takePattern 41 = .ok (.iload_n 2, 1) := by decide +kernel
theorem dX1_takePattern_42 : decode cX1_takePattern 42 = .ok (.putfield 23, 3) := by decide +kernel
theorem dX1_takePattern_45 : decode cX1_takePattern 45 = .ok (.aload_n 0, 1) := by decide +kernel
theorem dX1_takePattern_46 : decode cX1_takePattern 46 = .ok (.invokevirtual 66, 3) := by decide +kernel
theorem dX1_takePattern_49 : decode cX1_takePattern 49 = .ok (.ireturn, 1) := by decide +kernel
theorem dX1_clearText_0 : decode cX1_clearText 0 = .ok (.aload_n 0, 1) := by decide +kernel
theorem dX1_clearText_1 : decode cX1_clearText 1 = .ok (.getfield 19, 3) := by decide +kernel
theorem dX1_clearText_4 : decode cX1_clearText 4 = .ok (.istore_n 1, 1) := by decide +kernel
theorem dX1_clearText_5 : decode cX1_clearText 5 = .ok (.aload_n 0, 1) := by decide +kernel
theorem dX1_clearText_6 : decode cX1_clearText 6 = .ok (.iconst 0, 1) := by decide +kernel
theorem dX1_clearText_7 : decode cX1_clearText 7 = .ok (.putfield 19, 3) := by decide +kernel
theorem dX1_clearText_10 : decode cX1_clearText 10 = .ok (.iload_n 1, 1) := by decide +kernel
theorem dX1_clearText_11 : decode cX1_clearText 11 = .ok (.ireturn, 1) := by decide +kernel
theorem dX1_clearPattern_0 : decode cX1_clearPattern 0 = .ok (.aload_n 0, 1) := by decide +kernel
theorem dX1_clearPattern_1 : decode cX1_clearPattern 1 = .ok (.getfield 23, 3) := by decide +kernel
theorem dX1_clearPattern_4 : decode cX1_clearPattern 4 = .ok (.istore_n 1, 1) := by decide +kernel
theorem dX1_clearPattern_5 : decode cX1_clearPattern 5 = .ok (.aload_n 0, 1) := by decide +kernel
theorem dX1_clearPattern_6 : decode cX1_clearPattern 6 = .ok (.iconst 0, 1) := by decide +kernel
theorem dX1_clearPattern_7 : decode cX1_clearPattern 7 = .ok (.putfield 23, 3) := by decide +kernel
theorem dX1_clearPattern_10 : decode cX1_clearPattern 10 = .ok (.iload_n 1, 1) := by decide +kernel
theorem dX1_clearPattern_11 : decode cX1_clearPattern 11 = .ok (.ireturn, 1) := by decide +kernel
theorem dX1_textLength_0 : decode cX1_textLength 0 = .ok (.aload_n 0, 1) := by decide +kernel
theorem dX1_textLength_1 : decode cX1_textLength 1 = .ok (.getfield 19, 3) := by decide +kernel
theorem dX1_textLength_4 : decode cX1_textLength 4 = .ok (.ireturn, 1) := by decide +kernel
theorem dX1_patternLength_0 : decode cX1_patternLength 0 = .ok (.aload_n 0, 1) := by decide +kernel
theorem dX1_patternLength_1 : decode cX1_patternLength 1 = .ok (.getfield 23, 3) := by decide +kernel
theorem dX1_patternLength_4 : decode cX1_patternLength 4 = .ok (.ireturn, 1) := by decide +kernel
theorem dX1_places_0 : decode cX1_places 0 = .ok (.aload_n 0, 1) := by decide +kernel
theorem dX1_places_1 : decode cX1_places 1 = .ok (.getfield 23, 3) := by decide +kernel
theorem dX1_places_4 : decode cX1_places 4 = .ok (.aload_n 0, 1) := by decide +kernel
theorem dX1_places_5 : decode cX1_places 5 = .ok (.getfield 19, 3) := by decide +kernel
theorem dX1_places_8 : decode cX1_places 8 = .ok (.if_icmp .le 7, 3) := by decide +kernel
theorem dX1_places_11 : decode cX1_places 11 = .ok (.iconst 0, 1) := by decide +kernel
theorem dX1_places_12 : decode cX1_places 12 = .ok (.goto 14, 3) := by decide +kernel
theorem dX1_places_15 : decode cX1_places 15 = .ok (.aload_n 0, 1) := by decide +kernel
theorem dX1_places_16 : decode cX1_places 16 = .ok (.getfield 19, 3) := by decide +kernel
theorem dX1_places_19 : decode cX1_places 19 = .ok (.aload_n 0, 1) := by decide +kernel
theorem dX1_places_20 : decode cX1_places 20 = .ok (.getfield 23, 3) := by decide +kernel
theorem dX1_places_23 : decode cX1_places 23 = .ok (.isub, 1) := by decide +kernel
theorem dX1_places_24 : decode cX1_places 24 = .ok (.iconst 1, 1) := by decide +kernel
theorem dX1_places_25 : decode cX1_places 25 = .ok (.iadd, 1) := by decide +kernel
theorem dX1_places_26 : decode cX1_places 26 = .ok (.ireturn, 1) := by decide +kernel
theorem dX1_product_0 : decode cX1_product 0 = .ok (.iload_n 1, 1) := by decide +kernel
theorem dX1_product_1 : decode cX1_product 1 = .ok (.ifCond .ge 13, 3) := by decide +kernel
theorem dX1_product_4 : decode cX1_product 4 = .ok (.new 37, 3) := by decide +kernel
theorem dX1_product_7 : decode cX1_product 7 = .ok (.dup, 1) := by decide +kernel
theorem dX1_product_8 : decode cX1_product 8 = .ok (.ldc 70, 2) := by decide +kernel
theorem dX1_product_10 : decode cX1_product 10 = .ok (.invokespecial 41, 3) := by decide +kernel
theorem dX1_product_13 : decode cX1_product 13 = .ok (.athrow, 1) := by decide +kernel
theorem dX1_product_14 : decode cX1_product 14 = .ok (.iconst 0, 1) := by decide +kernel
theorem dX1_product_15 : decode cX1_product 15 = .ok (.istore_n 2, 1) := by decide +kernel
theorem dX1_product_16 : decode cX1_product 16 = .ok (.iconst 0, 1) := by decide +kernel
theorem dX1_product_17 : decode cX1_product 17 = .ok (.istore_n 3, 1) := by decide +kernel
theorem dX1_product_18 : decode cX1_product 18 = .ok (.iload_n 3, 1) := by decide +kernel
theorem dX1_product_19 : decode cX1_product 19 = .ok (.aload_n 0, 1) := by decide +kernel
theorem dX1_product_20 : decode cX1_product 20 = .ok (.getfield 19, 3) := by decide +kernel
theorem dX1_product_23 : decode cX1_product 23 = .ok (.if_icmp .ge 52, 3) := by decide +kernel
theorem dX1_product_26 : decode cX1_product 26 = .ok (.aload_n 0, 1) := by decide +kernel
theorem dX1_product_27 : decode cX1_product 27 = .ok (.getfield 23, 3) := by decide +kernel
theorem dX1_product_30 : decode cX1_product 30 = .ok (.iconst 1, 1) := by decide +kernel
theorem dX1_product_31 : decode cX1_product 31 = .ok (.isub, 1) := by decide +kernel
theorem dX1_product_32 : decode cX1_product 32 = .ok (.iload_n 1, 1) := by decide +kernel
theorem dX1_product_33 : decode cX1_product 33 = .ok (.iload_n 3, 1) := by decide +kernel
theorem dX1_product_34 : decode cX1_product 34 = .ok (.isub, 1) := by decide +kernel
theorem dX1_product_35 : decode cX1_product 35 = .ok (.isub, 1) := by decide +kernel
theorem dX1_product_36 : decode cX1_product 36 = .ok (.istore 4, 2) := by decide +kernel
theorem dX1_product_38 : decode cX1_product 38 = .ok (.iload 4, 2) := by decide +kernel
theorem dX1_product_40 : decode cX1_product 40 = .ok (.ifCond .lt 29, 3) := by decide +kernel
theorem dX1_product_43 : decode cX1_product 43 = .ok (.iload 4, 2) := by decide +kernel
theorem dX1_product_45 : decode cX1_product 45 = .ok (.aload_n 0, 1) := by decide +kernel
theorem dX1_product_46 : decode cX1_product 46 = .ok (.getfield 23, 3) := by decide +kernel
theorem dX1_product_49 : decode cX1_product 49 = .ok (.if_icmp .ge 20, 3) := by decide +kernel
theorem dX1_product_52 : decode cX1_product 52 = .ok (.iload_n 2, 1) := by decide +kernel
theorem dX1_product_53 : decode cX1_product 53 = .ok (.aload_n 0, 1) := by decide +kernel
theorem dX1_product_54 : decode cX1_product 54 = .ok (.getfield 9, 3) := by decide +kernel
theorem dX1_product_57 : decode cX1_product 57 = .ok (.iload_n 3, 1) := by decide +kernel
theorem dX1_product_58 : decode cX1_product 58 = .ok (.iaload, 1) := by decide +kernel
theorem dX1_product_59 : decode cX1_product 59 = .ok (.aload_n 0, 1) := by decide +kernel
theorem dX1_product_60 : decode cX1_product 60 = .ok (.getfield 13, 3) := by decide +kernel
theorem dX1_product_63 : decode cX1_product 63 = .ok (.iload 4, 2) := by decide +kernel
theorem dX1_product_65 : decode cX1_product 65 = .ok (.iaload, 1) := by decide +kernel
theorem dX1_product_66 : decode cX1_product 66 = .ok (.imul, 1) := by decide +kernel
theorem dX1_product_67 : decode cX1_product 67 = .ok (.iadd, 1) := by decide +kernel
theorem dX1_product_68 : decode cX1_product 68 = .ok (.istore_n 2, 1) := by decide +kernel
theorem dX1_product_69 : decode cX1_product 69 = .ok (.iinc 3 1, 3) := by decide +kernel
theorem dX1_product_72 : decode cX1_product 72 = .ok (.goto (-54), 3) := by decide +kernel
theorem dX1_product_75 : decode cX1_product 75 = .ok (.iload_n 2, 1) := by decide +kernel
theorem dX1_product_76 : decode cX1_product 76 = .ok (.ireturn, 1) := by decide +kernel
set_option maxRecDepth 20000 in
theorem ggX1_difference_X1_requirePlace : GoodIn wsX1_difference wsX1_requirePlace := goodIn_ca (goodIn_r _ [8, 9, 10, 11, 12, 13, 7, 14, 1, 15, 16, 17, 18, 19, 20] (by decide +kernel) (by decide +kernel)) (goodIn_sub (fun _ h => List.mem_cons_of_mem _ (List.mem_append_right _ h)) (by decide +kernel))
set_option maxRecDepth 20000 in
theorem gX1_difference_X1_requirePlace : GoodIn wsX1_difference (wsV RX1 72 RX1 yX1_requirePlace wsX1_requirePlace) := goodIn_app (goodIn_of _ (by decide +kernel)) ggX1_difference_X1_requirePlace
theorem dX1_difference_0 : decode cX1_difference 0 = .ok (.aload_n 0, 1) := by decide +kernel
theorem dX1_difference_1 : decode cX1_difference 1 = .ok (.iload_n 1, 1) := by decide +kernel
theorem dX1_difference_2 : decode cX1_difference 2 = .ok (.invokevirtual 72, 3) := by decide +kernel
theorem dX1_difference_5 : decode cX1_difference 5 = .ok (.iconst 0, 1) := by decide +kernel
theorem dX1_difference_6 : decode cX1_difference 6 = .ok (.istore_n 2, 1) := by decide +kernel
theorem dX1_difference_7 : decode cX1_difference 7 = .ok (.iconst 0, 1) := by decide +kernel
theorem dX1_difference_8 : decode cX1_difference 8 = .ok (.istore_n 3, 1) := by decide +kernel
theorem dX1_difference_9 : decode cX1_difference 9 = .ok (.iload_n 3, 1) := by decide +kernel
theorem dX1_difference_10 : decode cX1_difference 10 = .ok (.aload_n 0, 1) := by decide +kernel
theorem dX1_difference_11 : decode cX1_difference 11 = .ok (.getfield 23, 3) := by decide +kernel
theorem dX1_difference_14 : decode cX1_difference 14 = .ok (.if_icmp .ge 47, 3) := by decide +kernel
theorem dX1_difference_17 : decode cX1_difference 17 = .ok (.aload_n 0, 1) := by decide +kernel
theorem dX1_difference_18 : decode cX1_difference 18 = .ok (.getfield 13, 3) := by decide +kernel
theorem dX1_difference_21 : decode cX1_difference 21 = .ok (.iload_n 3, 1) := by decide +kernel
theorem dX1_difference_22 : decode cX1_difference 22 = .ok (.iaload, 1) := by decide +kernel
theorem dX1_difference_23 : decode cX1_difference 23 = .ok (.istore 4, 2) := by decide +kernel
theorem dX1_difference_25 : decode cX1_difference 25 = .ok (.aload_n 0, 1) := by decide +kernel
theorem dX1_difference_26 : decode cX1_difference 26 = .ok (.getfield 9, 3) := by decide +kernel
theorem dX1_difference_29 : decode cX1_difference 29 = .ok (.iload_n 1, 1) := by decide +kernel
theorem dX1_difference_30 : decode cX1_difference 30 = .ok (.iload_n 3, 1) := by decide +kernel
theorem dX1_difference_31 : decode cX1_difference 31 = .ok (.iadd, 1) := by decide +kernel
theorem dX1_difference_32 : decode cX1_difference 32 = .ok (.iaload, 1) := by decide +kernel
theorem dX1_difference_33 : decode cX1_difference 33 = .ok (.istore 5, 2) := by decide +kernel
theorem dX1_difference_35 : decode cX1_difference 35 = .ok (.iload_n 2, 1) := by decide +kernel
theorem dX1_difference_36 : decode cX1_difference 36 = .ok (.iload 4, 2) := by decide +kernel
theorem dX1_difference_38 : decode cX1_difference 38 = .ok (.iload 5, 2) := by decide +kernel
theorem dX1_difference_40 : decode cX1_difference 40 = .ok (.imul, 1) := by decide +kernel
theorem dX1_difference_41 : decode cX1_difference 41 = .ok (.iload 4, 2) := by decide +kernel
theorem dX1_difference_43 : decode cX1_difference 43 = .ok (.iload 5, 2) := by decide +kernel
theorem dX1_difference_45 : decode cX1_difference 45 = .ok (.isub, 1) := by decide +kernel
theorem dX1_difference_46 : decode cX1_difference 46 = .ok (.imul, 1) := by decide +kernel
theorem dX1_difference_47 : decode cX1_difference 47 = .ok (.iload 4, 2) := by decide +kernel
theorem dX1_difference_49 : decode cX1_difference 49 = .ok (.iload 5, 2) := by decide +kernel
theorem dX1_difference_51 : decode cX1_difference 51 = .ok (.isub, 1) := by decide +kernel
theorem dX1_difference_52 : decode cX1_difference 52 = .ok (.imul, 1) := by decide +kernel
theorem dX1_difference_53 : decode cX1_difference 53 = .ok (.iadd, 1) := by decide +kernel
theorem dX1_difference_54 : decode cX1_difference 54 = .ok (.istore_n 2, 1) := by decide +kernel
theorem dX1_difference_55 : decode cX1_difference 55 = .ok (.iinc 3 1, 3) := by decide +kernel
theorem dX1_difference_58 : decode cX1_difference 58 = .ok (.goto (-49), 3) := by decide +kernel
theorem dX1_difference_61 : decode cX1_difference 61 = .ok (.iload_n 2, 1) := by decide +kernel
theorem dX1_difference_62 : decode cX1_difference 62 = .ok (.ireturn, 1) := by decide +kernel
set_option maxRecDepth 20000 in
theorem ggX1_matches_X1_countLike : GoodIn wsX1_matches wsX1_countLike := goodIn_r _ [6, 7, 8, 9, 5, 10, 11, 12, 13, 14, 15, 16, 17, 18, 19, 20, 21, 22, 23, 24, 25, 26, 27, 28, 29, 30, 31, 32, 33, 34, 35, 36, 37, 38, 39, 40, 41, 42, 43, 44, 45, 46, 47, 48] (by decide +kernel) (by decide +kernel)
set_option maxRecDepth 20000 in
theorem gX1_matches_X1_countLike : GoodIn wsX1_matches (wsV RX1 81 RX1 yX1_countLike wsX1_countLike) := goodIn_app (goodIn_of _ (by decide +kernel)) ggX1_matches_X1_countLike
theorem dX1_matches_0 : decode cX1_matches 0 = .ok (.aload_n 0, 1) := by decide +kernel
theorem dX1_matches_1 : decode cX1_matches 1 = .ok (.getstatic 75, 3) := by decide +kernel
theorem dX1_matches_4 : decode cX1_matches 4 = .ok (.invokevirtual 81, 3) := by decide +kernel
theorem dX1_matches_7 : decode cX1_matches 7 = .ok (.ireturn, 1) := by decide +kernel
set_option maxRecDepth 20000 in
theorem ggX1_match_X1_requireLike : GoodIn wsX1_match wsX1_requireLike := goodIn_ca (goodIn_r _ [6, 7, 8, 9, 10, 11, 5, 12, 13, 14, 15, 16, 17, 18, 19, 20, 21, 22, 23, 24, 25, 26, 27, 28, 29, 30, 31, 32, 33, 34, 35, 36, 37, 38, 39, 40, 41, 42, 43, 44, 45, 46, 47, 48, 49, 50, 51, 52, 53, 54] (by decide +kernel) (by decide +kernel)) (goodIn_sub (fun _ h => List.mem_cons_of_mem _ (List.mem_append_right _ h)) (by decide +kernel))
set_option maxRecDepth 20000 in
theorem gX1_match_X1_requireLike : GoodIn wsX1_match (wsV RX1 85 RX1 yX1_requireLike wsX1_requireLike) := goodIn_app (goodIn_of _ (by decide +kernel)) ggX1_match_X1_requireLike
theorem dX1_match_0 : decode cX1_match 0 = .ok (.aload_n 0, 1) := by decide +kernel
theorem dX1_match_1 : decode cX1_match 1 = .ok (.getstatic 75, 3) := by decide +kernel
theorem dX1_match_4 : decode cX1_match 4 = .ok (.iload_n 1, 1) := by decide +kernel
theorem dX1_match_5 : decode cX1_match 5 = .ok (.invokevirtual 85, 3) := by decide +kernel
theorem dX1_match_8 : decode cX1_match 8 = .ok (.ireturn, 1) := by decide +kernel
set_option maxRecDepth 20000 in
theorem ggX1_apart_X1_places : GoodIn wsX1_apart wsX1_places := goodIn_r _ [10, 1, 11, 25, 26, 27, 28, 29] (by decide +kernel) (by decide +kernel)
set_option maxRecDepth 20000 in
theorem gX1_apart_X1_places : GoodIn wsX1_apart (wsV RX1 89 RX1 yX1_places wsX1_places) := goodIn_app (goodIn_of _ (by decide +kernel)) ggX1_apart_X1_places
set_option maxRecDepth 20000 in
theorem ggX1_apart_X1_hasSymbols : GoodIn wsX1_apart wsX1_hasSymbols := goodIn_r _ [15, 16, 17, 18, 9, 19, 1, 20, 21, 22, 23, 24, 25, 26, 27, 28, 29] (by decide +kernel) (by decide +kernel)
set_option maxRecDepth 20000 in
theorem gX1_apart_X1_hasSymbols : GoodIn wsX1_apart (wsV RX1 98 RX1 yX1_hasSymbols wsX1_hasSymbols) := goodIn_app (goodIn_of _ (by decide +kernel)) ggX1_apart_X1_hasSymbols
theorem dX1_apart_0 : decode cX1_apart 0 = .ok (.aload_n 0, 1) := by decide +kernel
theorem dX1_apart_1 : decode cX1_apart 1 = .ok (.invokevirtual 89, 3) := by decide +kernel
theorem dX1_apart_4 : decode cX1_apart 4 = .ok (.istore_n 1, 1) := by decide +kernel
theorem dX1_apart_5 : decode cX1_apart 5 = .ok (.iconst 1, 1) := by decide +kernel
theorem dX1_apart_6 : decode cX1_apart 6 = .ok (.aload_n 0, 1) := by decide +kernel
theorem dX1_apart_7 : decode cX1_apart 7 = .ok (.getfield 23, 3) := by decide +kernel
theorem dX1_apart_10 : decode cX1_apart 10 = .ok (.invokestatic 92, 3) := by decide +kernel
theorem dX1_apart_13 : decode cX1_apart 13 = .ok (.istore_n 2, 1) := by decide +kernel
theorem dX1_apart_14 : decode cX1_apart 14 = .ok (.iconst 0, 1) := by decide +kernel
theorem dX1_apart_15 : decode cX1_apart 15 = .ok (.istore_n 3, 1) := by decide +kernel
theorem dX1_apart_16 : decode cX1_apart 16 = .ok (.iconst 0, 1) := by decide +kernel
theorem dX1_apart_17 : decode cX1_apart 17 = .ok (.istore 4, 2) := by decide +kernel
theorem dX1_apart_19 : decode cX1_apart 19 = .ok (.iload 4, 2) := by decide +kernel
theorem dX1_apart_21 : decode cX1_apart 21 = .ok (.iload_n 1, 1) := by decide +kernel
theorem dX1_apart_22 : decode cX1_apart 22 = .ok (.if_icmp .ge 30, 3) := by decide +kernel
theorem dX1_apart_25 : decode cX1_apart 25 = .ok (.aload_n 0, 1) := by decide +kernel
theorem dX1_apart_26 : decode cX1_apart 26 = .ok (.iload 4, 2) := by decide +kernel
theorem dX1_apart_28 : decode cX1_apart 28 = .ok (.invokevirtual 98, 3) := by decide +kernel
theorem dX1_apart_31 : decode cX1_apart 31 = .ok (.ifCond .eq 15, 3) := by decide +kernel
theorem dX1_apart_34 : decode cX1_apart 34 = .ok (.iinc 3 1, 3) := by decide +kernel
theorem dX1_apart_37 : decode cX1_apart 37 = .ok (.iload 4, 2) := by decide +kernel
theorem dX1_apart_39 : decode cX1_apart 39 = .ok (.iload_n 2, 1) := by decide +kernel
theorem dX1_apart_40 : decode cX1_apart 40 = .ok (.iadd, 1) := by decide +kernel
theorem dX1_apart_41 : decode cX1_apart 41 = .ok (.istore 4, 2) := by decide +kernel
theorem dX1_apart_43 : decode cX1_apart 43 = .ok (.goto (-24), 3) := by decide +kernel
theorem dX1_apart_46 : decode cX1_apart 46 = .ok (.iinc 4 1, 3) := by decide +kernel
theorem dX1_apart_49 : decode cX1_apart 49 = .ok (.goto (-30), 3) := by decide +kernel
theorem dX1_apart_52 : decode cX1_apart 52 = .ok (.iload_n 3, 1) := by decide +kernel
theorem dX1_apart_53 : decode cX1_apart 53 = .ok (.ireturn, 1) := by decide +kernel
set_option maxRecDepth 20000 in
theorem ggX1_mismatches_X1_requirePlace : GoodIn wsX1_mismatches wsX1_requirePlace := goodIn_ca (goodIn_r _ [5, 6, 7, 8, 9, 10, 4, 11, 12, 13, 23, 24, 25, 26, 27] (by decide +kernel) (by decide +kernel)) (goodIn_sub (fun _ h => List.mem_cons_of_mem _ (List.mem_append_right _ h)) (by decide +kernel))
set_option maxRecDepth 20000 in
theorem gX1_mismatches_X1_requirePlace : GoodIn wsX1_mismatches (wsV RX1 72 RX1 yX1_requirePlace wsX1_requirePlace) := goodIn_app (goodIn_of _ (by decide +kernel)) ggX1_mismatches_X1_requirePlace
set_option maxRecDepth 20000 in
theorem ggX1_mismatches_X1_countMismatches : GoodIn wsX1_mismatches wsX1_countMismatches := goodIn_r _ [17, 12, 18, 19, 20, 21, 4, 22, 23, 24, 25, 26, 27] (by decide +kernel) (by decide +kernel)
set_option maxRecDepth 20000 in
theorem gX1_mismatches_X1_countMismatches : GoodIn wsX1_mismatches (wsV RX1 102 RX1 yX1_countMismatches wsX1_countMismatches) := goodIn_app (goodIn_of _ (by decide +kernel)) ggX1_mismatches_X1_countMismatches
theorem dX1_mismatches_0 : decode cX1_mismatches 0 = .ok (.aload_n 0, 1) := by decide +kernel
theorem dX1_mismatches_1 : decode cX1_mismatches 1 = .ok (.iload_n 1, 1) := by decide +kernel
theorem dX1_mismatches_2 : decode cX1_mismatches 2 = .ok (.invokevirtual 72, 3) := by decide +kernel
theorem dX1_mismatches_5 : decode cX1_mismatches 5 = .ok (.aload_n 0, 1) := by decide +kernel
theorem dX1_mismatches_6 : decode cX1_mismatches 6 = .ok (.iload_n 1, 1) := by decide +kernel
theorem dX1_mismatches_7 : decode cX1_mismatches 7 = .ok (.invokevirtual 102, 3) := by decide +kernel
theorem dX1_mismatches_10 : decode cX1_mismatches 10 = .ok (.ireturn, 1) := by decide +kernel
set_option maxRecDepth 20000 in
theorem ggX1_mismatchesOf_X1_requirePlace : GoodIn wsX1_mismatchesOf wsX1_requirePlace := goodIn_ca (goodIn_r _ [10, 11, 12, 13, 14, 15, 9, 16, 3, 17, 21, 22, 23, 24, 25] (by decide +kernel) (by decide +kernel)) (goodIn_sub (fun _ h => List.mem_cons_of_mem _ (List.mem_append_right _ h)) (by decide +kernel))
set_option maxRecDepth 20000 in
theorem gX1_mismatchesOf_X1_requirePlace : GoodIn wsX1_mismatchesOf (wsV RX1 72 RX1 yX1_requirePlace wsX1_requirePlace) := goodIn_app (goodIn_of _ (by decide +kernel)) ggX1_mismatchesOf_X1_requirePlace
set_option maxRecDepth 20000 in
theorem ggX1_mismatchesOf_X1_agree : GoodIn wsX1_mismatchesOf wsX1_agree := goodIn_r _ [20] (by decide +kernel) (by decide +kernel)
set_option maxRecDepth 20000 in
theorem gX1_mismatchesOf_X1_agree : GoodIn wsX1_mismatchesOf (va_wsS RX1 108 yX1_agree wsX1_agree) := goodIn_app (goodIn_of _ (by decide +kernel)) ggX1_mismatchesOf_X1_agree
theorem dX1_mismatchesOf_0 : decode cX1_mismatchesOf 0 = .ok (.iload_n 2, 1) := by decide +kernel
theorem dX1_mismatchesOf_1 : decode cX1_mismatchesOf 1 = .ok (.iconst 1, 1) := by decide +kernel
theorem dX1_mismatchesOf_2 : decode cX1_mismatchesOf 2 = .ok (.if_icmp .lt 9, 3) := by decide +kernel
theorem dX1_mismatchesOf_5 : decode cX1_mismatchesOf 5 = .ok (.iload_n 2, 1) := by decide +kernel
theorem dX1_mismatchesOf_6 : decode cX1_mismatchesOf 6 = .ok (.bipush 26, 2) := by decide +kernel
theorem dX1_mismatchesOf_8 : decode cX1_mismatchesOf 8 = .ok (.if_icmp .le 13, 3) := by decide +kernel
theorem dX1_mismatchesOf_11 : decode cX1_mismatchesOf 11 = .ok (.new 37, 3) := by decide +kernel
theorem dX1_mismatchesOf_14 : decode cX1_mismatchesOf 14 = .ok (.dup, 1) := by decide +kernel
theorem dX1_mismatchesOf_15 : decode cX1_mismatchesOf 15 = .ok (.ldc 106, 2) := by decide +kernel
theorem dX1_mismatchesOf_17 : decode cX1_mismatchesOf 17 = .ok (.invokespecial 41, 3) := by decide +kernel
theorem dX1_mismatchesOf_20 : decode cX1_mismatchesOf 20 = .ok (.athrow, 1) := by decide +kernel
theorem dX1_mismatchesOf_21 : decode cX1_mismatchesOf 21 = .ok (.aload_n 0, 1) := by decide +kernel
theorem dX1_mismatchesOf_22 : decode cX1_mismatchesOf 22 = .ok (.iload_n 1, 1) := by decide +kernel
theorem dX1_mismatchesOf_23 : decode cX1_mismatchesOf 23 = .ok (.invokevirtual 72, 3) := by decide +kernel
theorem dX1_mismatchesOf_26 : decode cX1_mismatchesOf 26 = .ok (.iconst 0, 1) := by decide +kernel
theorem dX1_mismatchesOf_27 : decode cX1_mismatchesOf 27 = .ok (.istore_n 3, 1) := by decide +kernel
theorem dX1_mismatchesOf_28 : decode cX1_mismatchesOf 28 = .ok (.iconst 0, 1) := by decide +kernel
theorem dX1_mismatchesOf_29 : decode cX1_mismatchesOf 29 = .ok (.istore 4, 2) := by decide +kernel
theorem dX1_mismatchesOf_31 : decode cX1_mismatchesOf 31 = .ok (.iload 4, 2) := by decide +kernel
theorem dX1_mismatchesOf_33 : decode cX1_mismatchesOf 33 = .ok (.aload_n 0, 1) := by decide +kernel
theorem dX1_mismatchesOf_34 : decode cX1_mismatchesOf 34 = .ok (.getfield 23, 3) := by decide +kernel
theorem dX1_mismatchesOf_37 : decode cX1_mismatchesOf 37 = .ok (.if_icmp .ge 45, 3) := by decide +kernel
theorem dX1_mismatchesOf_40 : decode cX1_mismatchesOf 40 = .ok (.aload_n 0, 1) := by decide +kernel
theorem dX1_mismatchesOf_41 : decode cX1_mismatchesOf 41 = .ok (.getfield 13, 3) := by decide +kernel
theorem dX1_mismatchesOf_44 : decode cX1_mismatchesOf 44 = .ok (.iload 4, 2) := by decide +kernel
theorem dX1_mismatchesOf_46 : decode cX1_mismatchesOf 46 = .ok (.iaload, 1) := by decide +kernel
theorem dX1_mismatchesOf_47 : decode cX1_mismatchesOf 47 = .ok (.iload_n 2, 1) := by decide +kernel
theorem dX1_mismatchesOf_48 : decode cX1_mismatchesOf 48 = .ok (.if_icmp .ne 28, 3) := by decide +kernel
theorem dX1_mismatchesOf_51 : decode cX1_mismatchesOf 51 = .ok (.aload_n 0, 1) := by decide +kernel
theorem dX1_mismatchesOf_52 : decode cX1_mismatchesOf 52 = .ok (.getfield 13, 3) := by decide +kernel
theorem dX1_mismatchesOf_55 : decode cX1_mismatchesOf 55 = .ok (.iload 4, 2) := by decide +kernel
theorem dX1_mismatchesOf_57 : decode cX1_mismatchesOf 57 = .ok (.iaload, 1) := by decide +kernel
theorem dX1_mismatchesOf_58 : decode cX1_mismatchesOf 58 = .ok (.aload_n 0, 1) := by decide +kernel
theorem dX1_mismatchesOf_59 : decode cX1_mismatchesOf 59 = .ok (.getfield 9, 3) := by decide +kernel
theorem dX1_mismatchesOf_62 : decode cX1_mismatchesOf 62 = .ok (.iload_n 1, 1) := by decide +kernel
theorem dX1_mismatchesOf_63 : decode cX1_mismatchesOf 63 = .ok (.iload 4, 2) := by decide +kernel
theorem dX1_mismatchesOf_65 : decode cX1_mismatchesOf 65 = .ok (.iadd, 1) := by decide +kernel
theorem dX1_mismatchesOf_66 : decode cX1_mismatchesOf 66 = .ok (.iaload, 1) := by decide +kernel
theorem dX1_mismatchesOf_67 : decode cX1_mismatchesOf 67 = .ok (.invokestatic 108, 3) := by decide +kernel
theorem dX1_mismatchesOf_70 : decode cX1_mismatchesOf 70 = .ok (.ifCond .ne 6, 3) := by decide +kernel
theorem dX1_mismatchesOf_73 : decode cX1_mismatchesOf 73 = .ok (.iinc 3 1, 3) := by decide +kernel
theorem dX1_mismatchesOf_76 : decode cX1_mismatchesOf 76 = .ok (.iinc 4 1, 3) := by decide +kernel
theorem dX1_mismatchesOf_79 : decode cX1_mismatchesOf 79 = .ok (.goto (-48), 3) := by decide +kernel
theorem dX1_mismatchesOf_82 : decode cX1_mismatchesOf 82 = .ok (.iload_n 3, 1) := by decide +kernel
theorem dX1_mismatchesOf_83 : decode cX1_mismatchesOf 83 = .ok (.ireturn, 1) := by decide +kernel
set_option maxRecDepth 20000 in
theorem ggX1_nextMismatch_X1_requirePlace : GoodIn wsX1_nextMismatch wsX1_requirePlace := goodIn_ca (goodIn_r _ [7, 8, 9, 10, 11, 12, 6, 13, 14, 15, 25, 26, 27, 28, 29] (by decide +kernel) (by decide +kernel)) (goodIn_sub (fun _ h => List.mem_cons_of_mem _ (List.mem_append_right _ h)) (by decide +kernel))
set_option maxRecDepth 20000 in
theorem gX1_nextMismatch_X1_requirePlace : GoodIn wsX1_nextMismatch (wsV RX1 72 RX1 yX1_requirePlace wsX1_requirePlace) := goodIn_app (goodIn_of _ (by decide +kernel)) ggX1_nextMismatch_X1_requirePlace
set_option maxRecDepth 20000 in
theorem ggX1_nextMismatch_X1_firstMismatch : GoodIn wsX1_nextMismatch wsX1_firstMismatch := goodIn_r _ [19, 14, 20, 21, 22, 23, 6, 24, 25, 26, 27, 28, 29] (by decide +kernel) (by decide +kernel)
set_option maxRecDepth 20000 in
theorem gX1_nextMismatch_X1_firstMismatch : GoodIn wsX1_nextMismatch (wsV RX1 114 RX1 yX1_firstMismatch wsX1_firstMismatch) := goodIn_app (goodIn_of _ (by decide +kernel)) ggX1_nextMismatch_X1_firstMismatch
theorem dX1_nextMismatch_0 : decode cX1_nextMismatch 0 = .ok (.iload_n 2, 1) := by decide +kernel
theorem dX1_nextMismatch_1 : decode cX1_nextMismatch 1 = .ok (.ifCond .ge 13, 3) := by decide +kernel
theorem dX1_nextMismatch_4 : decode cX1_nextMismatch 4 = .ok (.new 37, 3) := by decide +kernel
theorem dX1_nextMismatch_7 : decode cX1_nextMismatch 7 = .ok (.dup, 1) := by decide +kernel
theorem dX1_nextMismatch_8 : decode cX1_nextMismatch 8 = .ok (.ldc 112, 2) := by decide +kernel
theorem dX1_nextMismatch_10 : decode cX1_nextMismatch 10 = .ok (.invokespecial 41, 3) := by decide +kernel
theorem dX1_nextMismatch_13 : decode cX1_nextMismatch 13 = .ok (.athrow, 1) := by decide +kernel
theorem dX1_nextMismatch_14 : decode cX1_nextMismatch 14 = .ok (.aload_n 0, 1) := by decide +kernel
theorem dX1_nextMismatch_15 : decode cX1_nextMismatch 15 = .ok (.iload_n 1, 1) := by decide +kernel
theorem dX1_nextMismatch_16 : decode cX1_nextMismatch 16 = .ok (.invokevirtual 72, 3) := by decide +kernel
theorem dX1_nextMismatch_19 : decode cX1_nextMismatch 19 = .ok (.aload_n 0, 1) := by decide +kernel
theorem dX1_nextMismatch_20 : decode cX1_nextMismatch 20 = .ok (.iload_n 1, 1) := by decide +kernel
theorem dX1_nextMismatch_21 : decode cX1_nextMismatch 21 = .ok (.iload_n 2, 1) := by decide +kernel
theorem dX1_nextMismatch_22 : decode cX1_nextMismatch 22 = .ok (.invokevirtual 114, 3) := by decide +kernel
theorem dX1_nextMismatch_25 : decode cX1_nextMismatch 25 = .ok (.ireturn, 1) := by decide +kernel
set_option maxRecDepth 20000 in
theorem ggX1_agreement_X1_agree : GoodIn wsX1_agreement wsX1_agree := goodIn_r _ [14] (by decide +kernel) (by decide +kernel)
set_option maxRecDepth 20000 in
theorem gX1_agreement_X1_agree : GoodIn wsX1_agreement (va_wsS RX1 108 yX1_agree wsX1_agree) := goodIn_app (goodIn_of _ (by decide +kernel)) ggX1_agreement_X1_agree
theorem dX1_agreement_0 : decode cX1_agreement 0 = .ok (.iload_n 1, 1) := by decide +kernel
theorem dX1_agreement_1 : decode cX1_agreement 1 = .ok (.ifCond .lt 11, 3) := by decide +kernel
theorem dX1_agreement_4 : decode cX1_agreement 4 = .ok (.iload_n 1, 1) := by decide +kernel
theorem dX1_agreement_5 : decode cX1_agreement 5 = .ok (.aload_n 0, 1) := by decide +kernel
theorem dX1_agreement_6 : decode cX1_agreement 6 = .ok (.getfield 19, 3) := by decide +kernel
theorem dX1_agreement_9 : decode cX1_agreement 9 = .ok (.if_icmp .le 13, 3) := by decide +kernel
theorem dX1_agreement_12 : decode cX1_agreement 12 = .ok (.new 37, 3) := by decide +kernel
theorem dX1_agreement_15 : decode cX1_agreement 15 = .ok (.dup, 1) := by decide +kernel
theorem dX1_agreement_16 : decode cX1_agreement 16 = .ok (.ldc 117, 2) := by decide +kernel
theorem dX1_agreement_18 : decode cX1_agreement 18 = .ok (.invokespecial 41, 3) := by decide +kernel
theorem dX1_agreement_21 : decode cX1_agreement 21 = .ok (.athrow, 1) := by decide +kernel
theorem dX1_agreement_22 : decode cX1_agreement 22 = .ok (.iload_n 2, 1) := by decide +kernel
theorem dX1_agreement_23 : decode cX1_agreement 23 = .ok (.ifCond .lt 11, 3) := by decide +kernel
theorem dX1_agreement_26 : decode cX1_agreement 26 = .ok (.iload_n 2, 1) := by decide +kernel
theorem dX1_agreement_27 : decode cX1_agreement 27 = .ok (.aload_n 0, 1) := by decide +kernel
theorem dX1_agreement_28 : decode cX1_agreement 28 = .ok (.getfield 23, 3) := by decide +kernel
theorem dX1_agreement_31 : decode cX1_agreement 31 = .ok (.if_icmp .le 13, 3) := by decide +kernel
theorem dX1_agreement_34 : decode cX1_agreement 34 = .ok (.new 37, 3) := by decide +kernel
theorem dX1_agreement_37 : decode cX1_agreement 37 = .ok (.dup, 1) := by decide +kernel
theorem dX1_agreement_38 : decode cX1_agreement 38 = .ok (.ldc 119, 2) := by decide +kernel
theorem dX1_agreement_40 : decode cX1_agreement 40 = .ok (.invokespecial 41, 3) := by decide +kernel
theorem dX1_agreement_43 : decode cX1_agreement 43 = .ok (.athrow, 1) := by decide +kernel
theorem dX1_agreement_44 : decode cX1_agreement 44 = .ok (.aload_n 0, 1) := by decide +kernel
theorem dX1_agreement_45 : decode cX1_agreement 45 = .ok (.getfield 19, 3) := by decide +kernel
theorem dX1_agreement_48 : decode cX1_agreement 48 = .ok (.iload_n 1, 1) := by decide +kernel
theorem dX1_agreement_49 : decode cX1_agreement 49 = .ok (.isub, 1) := by decide +kernel
theorem dX1_agreement_50 : decode cX1_agreement 50 = .ok (.aload_n 0, 1) := by decide +kernel
theorem dX1_agreement_51 : decode cX1_agreement 51 = .ok (.getfield 23, 3) := by decide +kernel
theorem dX1_agreement_54 : decode cX1_agreement 54 = .ok (.iload_n 2, 1) := by decide +kernel
theorem dX1_agreement_55 : decode cX1_agreement 55 = .ok (.isub, 1) := by decide +kernel
theorem dX1_agreement_56 : decode cX1_agreement 56 = .ok (.invokestatic 121, 3) := by decide +kernel
theorem dX1_agreement_59 : decode cX1_agreement 59 = .ok (.istore_n 3, 1) := by decide +kernel
theorem dX1_agreement_60 : decode cX1_agreement 60 = .ok (.iconst 0, 1) := by decide +kernel
theorem dX1_agreement_61 : decode cX1_agreement 61 = .ok (.istore 4, 2) := by decide +kernel
theorem dX1_agreement_63 : decode cX1_agreement 63 = .ok (.iload 4, 2) := by decide +kernel
theorem dX1_agreement_65 : decode cX1_agreement 65 = .ok (.iload_n 3, 1) := by decide +kernel
theorem dX1_agreement_66 : decode cX1_agreement 66 = .ok (.if_icmp .ge 33, 3) := by decide +kernel
theorem dX1_agreement_69 : decode cX1_agreement 69 = .ok (.aload_n 0, 1) := by decide +kernel
theorem dX1_agreement_70 : decode cX1_agreement 70 = .ok (.getfield 9, 3) := by decide +kernel
theorem dX1_agreement_73 : decode cX1_agreement 73 = .ok (.iload_n 1, 1) := by decide +kernel
theorem dX1_agreement_74 : decode cX1_agreement 74 = .ok (.iload 4, 2) := by decide +kernel
theorem dX1_agreement_76 : decode cX1_agreement 76 = .ok (.iadd, 1) := by decide +kernel
theorem dX1_agreement_77 : decode cX1_agreement 77 = .ok (.iaload, 1) := by decide +kernel
theorem dX1_agreement_78 : decode cX1_agreement 78 = .ok (.aload_n 0, 1) := by decide +kernel
theorem dX1_agreement_79 : decode cX1_agreement 79 = .ok (.getfield 13, 3) := by decide +kernel
theorem dX1_agreement_82 : decode cX1_agreement 82 = .ok (.iload_n 2, 1) := by decide +kernel
theorem dX1_agreement_83 : decode cX1_agreement 83 = .ok (.iload 4, 2) := by decide +kernel
theorem dX1_agreement_85 : decode cX1_agreement 85 = .ok (.iadd, 1) := by decide +kernel
theorem dX1_agreement_86 : decode cX1_agreement 86 = .ok (.iaload, 1) := by decide +kernel
theorem dX1_agreement_87 : decode cX1_agreement 87 = .ok (.invokestatic 108, 3) := by decide +kernel
theorem dX1_agreement_90 : decode cX1_agreement 90 = .ok (.ifCond .eq 9, 3) := by decide +kernel
theorem dX1_agreement_93 : decode cX1_agreement 93 = .ok (.iinc 4 1, 3) := by decide +kernel
theorem dX1_agreement_96 : decode cX1_agreement 96 = .ok (.goto (-33), 3) := by decide +kernel
theorem dX1_agreement_99 : decode cX1_agreement 99 = .ok (.iload 4, 2) := by decide +kernel
theorem dX1_agreement_101 : decode cX1_agreement 101 = .ok (.ireturn, 1) := by decide +kernel
set_option maxRecDepth 20000 in
theorem ggX1_within_X1_places : GoodIn wsX1_within wsX1_places := goodIn_r _ [7, 8, 9, 19, 20, 21, 22, 23] (by decide +kernel) (by decide +kernel)
set_option maxRecDepth 20000 in
theorem gX1_within_X1_places : GoodIn wsX1_within (wsV RX1 89 RX1 yX1_places wsX1_places) := goodIn_app (goodIn_of _ (by decide +kernel)) ggX1_within_X1_places
set_option maxRecDepth 20000 in
theorem ggX1_within_X1_countMismatches : GoodIn wsX1_within wsX1_countMismatches := goodIn_r _ [13, 8, 14, 15, 16, 17, 6, 18, 19, 20, 21, 22, 23] (by decide +kernel) (by decide +kernel)
set_option maxRecDepth 20000 in
theorem gX1_within_X1_countMismatches : GoodIn wsX1_within (wsV RX1 102 RX1 yX1_countMismatches wsX1_countMismatches) := goodIn_app (goodIn_of _ (by decide +kernel)) ggX1_within_X1_countMismatches
theorem dX1_within_0 : decode cX1_within 0 = .ok (.iload_n 1, 1) := by decide +kernel
theorem dX1_within_1 : decode cX1_within 1 = .ok (.ifCond .ge 13, 3) := by decide +kernel
theorem dX1_within_4 : decode cX1_within 4 = .ok (.new 37, 3) := by decide +kernel
theorem dX1_within_7 : decode cX1_within 7 = .ok (.dup, 1) := by decide +kernel
theorem dX1_within_8 : decode cX1_within 8 = .ok (.ldc 124, 2) := by decide +kernel
theorem dX1_within_10 : decode cX1_within 10 = .ok (.invokespecial 41, 3) := by decide +kernel
theorem dX1_within_13 : decode cX1_within 13 = .ok (.athrow, 1) := by decide +kernel
theorem dX1_within_14 : decode cX1_within 14 = .ok (.aload_n 0, 1) := by decide +kernel
theorem dX1_within_15 : decode cX1_within 15 = .ok (.invokevirtual 89, 3) := by decide +kernel
theorem dX1_within_18 : decode cX1_within 18 = .ok (.istore_n 2, 1) := by decide +kernel
theorem dX1_within_19 : decode cX1_within 19 = .ok (.iconst 0, 1) := by decide +kernel
theorem dX1_within_20 : decode cX1_within 20 = .ok (.istore_n 3, 1) := by decide +kernel
theorem dX1_within_21 : decode cX1_within 21 = .ok (.iconst 0, 1) := by decide +kernel
theorem dX1_within_22 : decode cX1_within 22 = .ok (.istore 4, 2) := by decide +kernel
theorem dX1_within_24 : decode cX1_within 24 = .ok (.iload 4, 2) := by decide +kernel
theorem dX1_within_26 : decode cX1_within 26 = .ok (.iload_n 2, 1) := by decide +kernel
theorem dX1_within_27 : decode cX1_within 27 = .ok (.if_icmp .ge 22, 3) := by decide +kernel
theorem dX1_within_30 : decode cX1_within 30 = .ok (.aload_n 0, 1) := by decide +kernel
theorem dX1_within_31 : decode cX1_within 31 = .ok (.iload 4, 2) := by decide +kernel
theorem dX1_within_33 : decode cX1_within 33 = .ok (.invokevirtual 102, 3) := by decide +kernel
theorem dX1_within_36 : decode cX1_within 36 = .ok (.iload_n 1, 1) := by decide +kernel
theorem dX1_within_37 : decode cX1_within 37 = .ok (.if_icmp .gt 6, 3) := by decide +kernel
theorem dX1_within_40 : decode cX1_within 40 = .ok (.iinc 3 1, 3) := by decide +kernel
theorem dX1_within_43 : decode cX1_within 43 = .ok (.iinc 4 1, 3) := by decide +kernel
theorem dX1_within_46 : decode cX1_within 46 = .ok (.goto (-22), 3) := by decide +kernel
theorem dX1_within_49 : decode cX1_within 49 = .ok (.iload_n 3, 1) := by decide +kernel
theorem dX1_within_50 : decode cX1_within 50 = .ok (.ireturn, 1) := by decide +kernel
set_option maxRecDepth 20000 in
theorem ggX1_ranked_X1_places : GoodIn wsX1_ranked wsX1_places := goodIn_r _ [8, 9, 10, 24, 25, 26, 27, 28] (by decide +kernel) (by decide +kernel)
set_option maxRecDepth 20000 in
theorem gX1_ranked_X1_places : GoodIn wsX1_ranked (wsV RX1 89 RX1 yX1_places wsX1_places) := goodIn_app (goodIn_of _ (by decide +kernel)) ggX1_ranked_X1_places
set_option maxRecDepth 20000 in
theorem ggX1_ranked_X1_countMismatches : GoodIn wsX1_ranked wsX1_countMismatches := goodIn_r _ [14, 9, 15, 16, 17, 18, 7, 19, 24, 25, 26, 27, 28] (by decide +kernel) (by decide +kernel)
set_option maxRecDepth 20000 in
theorem gX1_ranked_X1_countMismatches : GoodIn wsX1_ranked (wsV RX1 102 RX1 yX1_countMismatches wsX1_countMismatches) := goodIn_app (goodIn_of _ (by decide +kernel)) ggX1_ranked_X1_countMismatches
set_option maxRecDepth 20000 in
theorem ggX1_ranked_X1_placeOfRank : GoodIn wsX1_ranked wsX1_placeOfRank := goodIn_r _ [23, 9, 3, 24, 25, 26, 27, 28] (by decide +kernel) (by decide +kernel)
set_option maxRecDepth 20000 in
theorem gX1_ranked_X1_placeOfRank : GoodIn wsX1_ranked (wsV RX1 128 RX1 yX1_placeOfRank wsX1_placeOfRank) := goodIn_app (goodIn_of _ (by decide +kernel)) ggX1_ranked_X1_placeOfRank
theorem dX1_ranked_0 : decode cX1_ranked 0 = .ok (.aload_n 0, 1) := by decide +kernel
theorem dX1_ranked_1 : decode cX1_ranked 1 = .ok (.invokevirtual 89, 3) := by decide +kernel
theorem dX1_ranked_4 : decode cX1_ranked 4 = .ok (.istore_n 2, 1) := by decide +kernel
theorem dX1_ranked_5 : decode cX1_ranked 5 = .ok (.iload_n 1, 1) := by decide +kernel
theorem dX1_ranked_6 : decode cX1_ranked 6 = .ok (.ifCond .lt 8, 3) := by decide +kernel
theorem dX1_ranked_9 : decode cX1_ranked 9 = .ok (.iload_n 1, 1) := by decide +kernel
theorem dX1_ranked_10 : decode cX1_ranked 10 = .ok (.iload_n 2, 1) := by decide +kernel
theorem dX1_ranked_11 : decode cX1_ranked 11 = .ok (.if_icmp .lt 13, 3) := by decide +kernel
theorem dX1_ranked_14 : decode cX1_ranked 14 = .ok (.new 54, 3) := by decide +kernel
theorem dX1_ranked_17 : decode cX1_ranked 17 = .ok (.dup, 1) := by decide +kernel
theorem dX1_ranked_18 : decode cX1_ranked 18 = .ok (.ldc 126, 2) := by decide +kernel
theorem dX1_ranked_20 : decode cX1_ranked 20 = .ok (.invokespecial 58, 3) := by decide +kernel
theorem dX1_ranked_23 : decode cX1_ranked 23 = .ok (.athrow, 1) := by decide +kernel
theorem dX1_ranked_24 : decode cX1_ranked 24 = .ok (.iconst 0, 1) := by decide +kernel
theorem dX1_ranked_25 : decode cX1_ranked 25 = .ok (.istore_n 3, 1) := by decide +kernel
theorem dX1_ranked_26 : decode cX1_ranked 26 = .ok (.iload_n 3, 1) := by decide +kernel
theorem dX1_ranked_27 : decode cX1_ranked 27 = .ok (.iload_n 2, 1) := by decide +kernel
theorem dX1_ranked_28 : decode cX1_ranked 28 = .ok (.if_icmp .ge 20, 3) := by decide +kernel
theorem dX1_ranked_31 : decode cX1_ranked 31 = .ok (.aload_n 0, 1) := by decide +kernel
theorem dX1_ranked_32 : decode cX1_ranked 32 = .ok (.getfield 16, 3) := by decide +kernel
theorem dX1_ranked_35 : decode cX1_ranked 35 = .ok (.iload_n 3, 1) := by decide +kernel
theorem dX1_ranked_36 : decode cX1_ranked 36 = .ok (.aload_n 0, 1) := by decide +kernel
theorem dX1_ranked_37 : decode cX1_ranked 37 = .ok (.iload_n 3, 1) := by decide +kernel
theorem dX1_ranked_38 : decode cX1_ranked 38 = .ok (.invokevirtual 102, 3) := by decide +kernel
theorem dX1_ranked_41 : decode cX1_ranked 41 = .ok (.iastore, 1) := by decide +kernel
theorem dX1_ranked_42 : decode cX1_ranked 42 = .ok (.iinc 3 1, 3) := by decide +kernel
theorem dX1_ranked_45 : decode cX1_ranked 45 = .ok (.goto (-19), 3) := by decide +kernel
theorem dX1_ranked_48 : decode cX1_ranked 48 = .ok (.aload_n 0, 1) := by decide +kernel
theorem dX1_ranked_49 : decode cX1_ranked 49 = .ok (.iload_n 1, 1) := by decide +kernel
theorem dX1_ranked_50 : decode cX1_ranked 50 = .ok (.iload_n 2, 1) := by decide +kernel
theorem dX1_ranked_51 : decode cX1_ranked 51 = .ok (.invokevirtual 128, 3) := by decide +kernel
theorem dX1_ranked_54 : decode cX1_ranked 54 = .ok (.ireturn, 1) := by decide +kernel
set_option maxRecDepth 20000 in
theorem ggX1_bestLetter_X1_requirePatternIndex : GoodIn wsX1_bestLetter wsX1_requirePatternIndex := goodIn_ca (goodIn_r _ [5, 6, 7, 8, 19, 20, 21, 22, 23] (by decide +kernel) (by decide +kernel)) (goodIn_sub (fun _ h => List.mem_cons_of_mem _ (List.mem_append_right _ h)) (by decide +kernel))
set_option maxRecDepth 20000 in
theorem gX1_bestLetter_X1_requirePatternIndex : GoodIn wsX1_bestLetter (wsV RX1 61 RX1 yX1_requirePatternIndex wsX1_requirePatternIndex) := goodIn_app (goodIn_of _ (by decide +kernel)) ggX1_bestLetter_X1_requirePatternIndex
set_option maxRecDepth 20000 in
theorem ggX1_bestLetter_X1_countLetter : GoodIn wsX1_bestLetter wsX1_countLetter := goodIn_r _ [12, 13, 14, 15, 16, 4, 17, 8, 18, 19, 20, 21, 22, 23] (by decide +kernel) (by decide +kernel)
set_option maxRecDepth 20000 in
theorem gX1_bestLetter_X1_countLetter : GoodIn wsX1_bestLetter (wsV RX1 131 RX1 yX1_countLetter wsX1_countLetter) := goodIn_app (goodIn_of _ (by decide +kernel)) ggX1_bestLetter_X1_countLetter
theorem dX1_bestLetter_0 : decode cX1_bestLetter 0 = .ok (.aload_n 0, 1) := by decide +kernel
theorem dX1_bestLetter_1 : decode cX1_bestLetter 1 = .ok (.iload_n 1, 1) := by decide +kernel
theorem dX1_bestLetter_2 : decode cX1_bestLetter 2 = .ok (.invokevirtual 61, 3) := by decide +kernel
theorem dX1_bestLetter_5 : decode cX1_bestLetter 5 = .ok (.iconst 1, 1) := by decide +kernel
theorem dX1_bestLetter_6 : decode cX1_bestLetter 6 = .ok (.istore_n 2, 1) := by decide +kernel
theorem dX1_bestLetter_7 : decode cX1_bestLetter 7 = .ok (.aload_n 0, 1) := by decide +kernel
theorem dX1_bestLetter_8 : decode cX1_bestLetter 8 = .ok (.iload_n 1, 1) := by decide +kernel
theorem dX1_bestLetter_9 : decode cX1_bestLetter 9 = .ok (.iload_n 2, 1) := by decide +kernel
theorem dX1_bestLetter_10 : decode cX1_bestLetter 10 = .ok (.invokevirtual 131, 3) := by decide +kernel
theorem dX1_bestLetter_13 : decode cX1_bestLetter 13 = .ok (.istore_n 3, 1) := by decide +kernel
theorem dX1_bestLetter_14 : decode cX1_bestLetter 14 = .ok (.iconst 2, 1) := by decide +kernel
theorem dX1_bestLetter_15 : decode cX1_bestLetter 15 = .ok (.istore 4, 2) := by decide +kernel
theorem dX1_bestLetter_17 : decode cX1_bestLetter 17 = .ok (.iload 4, 2) := by decide +kernel
theorem dX1_bestLetter_19 : decode cX1_bestLetter 19 = .ok (.bipush 26, 2) := by decide +kernel
theorem dX1_bestLetter_21 : decode cX1_bestLetter 21 = .ok (.if_icmp .gt 30, 3) := by decide +kernel
theorem dX1_bestLetter_24 : decode cX1_bestLetter 24 = .ok (.aload_n 0, 1) := by decide +kernel
theorem dX1_bestLetter_25 : decode cX1_bestLetter 25 = .ok (.iload_n 1, 1) := by decide +kernel
theorem dX1_bestLetter_26 : decode cX1_bestLetter 26 = .ok (.iload 4, 2) := by decide +kernel
theorem dX1_bestLetter_28 : decode cX1_bestLetter 28 = .ok (.invokevirtual 131, 3) := by decide +kernel
theorem dX1_bestLetter_31 : decode cX1_bestLetter 31 = .ok (.istore 5, 2) := by decide +kernel
theorem dX1_bestLetter_33 : decode cX1_bestLetter 33 = .ok (.iload 5, 2) := by decide +kernel
theorem dX1_bestLetter_35 : decode cX1_bestLetter 35 = .ok (.iload_n 3, 1) := by decide +kernel
theorem dX1_bestLetter_36 : decode cX1_bestLetter 36 = .ok (.if_icmp .le 9, 3) := by decide +kernel
theorem dX1_bestLetter_39 : decode cX1_bestLetter 39 = .ok (.iload 4, 2) := by decide +kernel
theorem dX1_bestLetter_41 : decode cX1_bestLetter 41 = .ok (.istore_n 2, 1) := by decide +kernel
theorem dX1_bestLetter_42 : decode cX1_bestLetter 42 = .ok (.iload 5, 2) := by decide +kernel
theorem dX1_bestLetter_44 : decode cX1_bestLetter 44 = .ok (.istore_n 3, 1) := by decide +kernel
theorem dX1_bestLetter_45 : decode cX1_bestLetter 45 = .ok (.iinc 4 1, 3) := by decide +kernel
theorem dX1_bestLetter_48 : decode cX1_bestLetter 48 = .ok (.goto (-31), 3) := by decide +kernel
theorem dX1_bestLetter_51 : decode cX1_bestLetter 51 = .ok (.iload_n 2, 1) := by decide +kernel
theorem dX1_bestLetter_52 : decode cX1_bestLetter 52 = .ok (.ireturn, 1) := by decide +kernel
set_option maxRecDepth 20000 in
theorem ggX1_sumMatches_X1_countLike : GoodIn wsX1_sumMatches wsX1_countLike := goodIn_r _ [6, 7, 8, 9, 5, 10, 11, 12, 13, 14, 15, 16, 1, 17, 18, 19, 20, 21, 22, 23, 24, 25, 26, 27, 28, 29, 30, 31, 32, 33, 34, 35, 36, 37, 38, 39, 40, 41, 42, 43, 44, 45, 46, 47] (by decide +kernel) (by decide +kernel)
set_option maxRecDepth 20000 in
theorem gX1_sumMatches_X1_countLike : GoodIn wsX1_sumMatches (wsV RX1 81 RX1 yX1_countLike wsX1_countLike) := goodIn_app (goodIn_of _ (by decide +kernel)) ggX1_sumMatches_X1_countLike
theorem dX1_sumMatches_0 : decode cX1_sumMatches 0 = .ok (.aload_n 0, 1) := by decide +kernel
theorem dX1_sumMatches_1 : decode cX1_sumMatches 1 = .ok (.getstatic 134, 3) := by decide +kernel
theorem dX1_sumMatches_4 : decode cX1_sumMatches 4 = .ok (.invokevirtual 81, 3) := by decide +kernel
theorem dX1_sumMatches_7 : decode cX1_sumMatches 7 = .ok (.ireturn, 1) := by decide +kernel
set_option maxRecDepth 20000 in
theorem ggX1_sumMatch_X1_requireLike : GoodIn wsX1_sumMatch wsX1_requireLike := goodIn_ca (goodIn_r _ [6, 7, 8, 9, 10, 11, 5, 12, 13, 14, 15, 16, 17, 18, 19, 20, 21, 22, 1, 23, 24, 25, 26, 27, 28, 29, 30, 31, 32, 33, 34, 35, 36, 37, 38, 39, 40, 41, 42, 43, 44, 45, 46, 47, 48, 49, 50, 51, 52, 53] (by decide +kernel) (by decide +kernel)) (goodIn_sub (fun _ h => List.mem_cons_of_mem _ (List.mem_append_right _ h)) (by decide +kernel))
set_option maxRecDepth 20000 in
theorem gX1_sumMatch_X1_requireLike : GoodIn wsX1_sumMatch (wsV RX1 85 RX1 yX1_requireLike wsX1_requireLike) := goodIn_app (goodIn_of _ (by decide +kernel)) ggX1_sumMatch_X1_requireLike
theorem dX1_sumMatch_0 : decode cX1_sumMatch 0 = .ok (.aload_n 0, 1) := by decide +kernel
theorem dX1_sumMatch_1 : decode cX1_sumMatch 1 = .ok (.getstatic 134, 3) := by decide +kernel
theorem dX1_sumMatch_4 : decode cX1_sumMatch 4 = .ok (.iload_n 1, 1) := by decide +kernel
theorem dX1_sumMatch_5 : decode cX1_sumMatch 5 = .ok (.invokevirtual 85, 3) := by decide +kernel
theorem dX1_sumMatch_8 : decode cX1_sumMatch 8 = .ok (.ireturn, 1) := by decide +kernel
set_option maxRecDepth 20000 in
theorem ggX1_orderMatches_X1_countLike : GoodIn wsX1_orderMatches wsX1_countLike := goodIn_r _ [6, 7, 8, 9, 5, 10, 11, 12, 13, 14, 15, 16, 17, 1, 18, 19, 20, 21, 22, 23, 24, 25, 26, 27, 28, 29, 30, 31, 32, 33, 34, 35, 36, 37, 38, 39, 40, 41, 42, 43, 44, 45, 46, 47] (by decide +kernel) (by decide +kernel)
set_option maxRecDepth 20000 in
theorem gX1_orderMatches_X1_countLike : GoodIn wsX1_orderMatches (wsV RX1 81 RX1 yX1_countLike wsX1_countLike) := goodIn_app (goodIn_of _ (by decide +kernel)) ggX1_orderMatches_X1_countLike
theorem dX1_orderMatches_0 : decode cX1_orderMatches 0 = .ok (.aload_n 0, 1) := by decide +kernel
theorem dX1_orderMatches_1 : decode cX1_orderMatches 1 = .ok (.getstatic 137, 3) := by decide +kernel
theorem dX1_orderMatches_4 : decode cX1_orderMatches 4 = .ok (.invokevirtual 81, 3) := by decide +kernel
theorem dX1_orderMatches_7 : decode cX1_orderMatches 7 = .ok (.ireturn, 1) := by decide +kernel
set_option maxRecDepth 20000 in
theorem ggX1_orderMatch_X1_requireLike : GoodIn wsX1_orderMatch wsX1_requireLike := goodIn_ca (goodIn_r _ [6, 7, 8, 9, 10, 11, 5, 12, 13, 14, 15, 16, 17, 18, 19, 20, 21, 22, 23, 1, 24, 25, 26, 27, 28, 29, 30, 31, 32, 33, 34, 35, 36, 37, 38, 39, 40, 41, 42, 43, 44, 45, 46, 47, 48, 49, 50, 51, 52, 53] (by decide +kernel) (by decide +kernel)) (goodIn_sub (fun _ h => List.mem_cons_of_mem _ (List.mem_append_right _ h)) (by decide +kernel))
set_option maxRecDepth 20000 in
theorem gX1_orderMatch_X1_requireLike : GoodIn wsX1_orderMatch (wsV RX1 85 RX1 yX1_requireLike wsX1_requireLike) := goodIn_app (goodIn_of _ (by decide +kernel)) ggX1_orderMatch_X1_requireLike
theorem dX1_orderMatch_0 : decode cX1_orderMatch 0 = .ok (.aload_n 0, 1) := by decide +kernel
theorem dX1_orderMatch_1 : decode cX1_orderMatch 1 = .ok (.getstatic 137, 3) := by decide +kernel
theorem dX1_orderMatch_4 : decode cX1_orderMatch 4 = .ok (.iload_n 1, 1) := by decide +kernel
theorem dX1_orderMatch_5 : decode cX1_orderMatch 5 = .ok (.invokevirtual 85, 3) := by decide +kernel
theorem dX1_orderMatch_8 : decode cX1_orderMatch 8 = .ok (.ireturn, 1) := by decide +kernel
set_option maxRecDepth 20000 in
theorem ggX1_hasPeriod_X1_repeatsAfter : GoodIn wsX1_hasPeriod wsX1_repeatsAfter := goodIn_r _ [7, 8, 9, 10, 11, 6, 12, 13, 14, 15, 16, 17] (by decide +kernel) (by decide +kernel)
set_option maxRecDepth 20000 in
theorem gX1_hasPeriod_X1_repeatsAfter : GoodIn wsX1_hasPeriod (wsV RX1 142 RX1 yX1_repeatsAfter wsX1_repeatsAfter) := goodIn_app (goodIn_of _ (by decide +kernel)) ggX1_hasPeriod_X1_repeatsAfter
theorem dX1_hasPeriod_0 : decode cX1_hasPeriod 0 = .ok (.iload_n 1, 1) := by decide +kernel
theorem dX1_hasPeriod_1 : decode cX1_hasPeriod 1 = .ok (.iconst 1, 1) := by decide +kernel
theorem dX1_hasPeriod_2 : decode cX1_hasPeriod 2 = .ok (.if_icmp .ge 13, 3) := by decide +kernel
theorem dX1_hasPeriod_5 : decode cX1_hasPeriod 5 = .ok (.new 37, 3) := by decide +kernel
theorem dX1_hasPeriod_8 : decode cX1_hasPeriod 8 = .ok (.dup, 1) := by decide +kernel
theorem dX1_hasPeriod_9 : decode cX1_hasPeriod 9 = .ok (.ldc 140, 2) := by decide +kernel
theorem dX1_hasPeriod_11 : decode cX1_hasPeriod 11 = .ok (.invokespecial 41, 3) := by decide +kernel
theorem dX1_hasPeriod_14 : decode cX1_hasPeriod 14 = .ok (.athrow, 1) := by decide +kernel
theorem dX1_hasPeriod_15 : decode cX1_hasPeriod 15 = .ok (.aload_n 0, 1) := by decide +kernel
theorem dX1_hasPeriod_16 : decode cX1_hasPeriod 16 = .ok (.iload_n 1, 1) := by decide +kernel
theorem dX1_hasPeriod_17 : decode cX1_hasPeriod 17 = .ok (.invokevirtual 142, 3) := by decide +kernel
theorem dX1_hasPeriod_20 : decode cX1_hasPeriod 20 = .ok (.ireturn, 1) := by decide +kernel
set_option maxRecDepth 20000 in
theorem ggX1_leastPeriod_X1_repeatsAfter : GoodIn wsX1_leastPeriod wsX1_repeatsAfter := goodIn_r _ [10, 1, 11, 12, 13, 9, 14, 15, 16, 17, 18, 19] (by decide +kernel) (by decide +kernel)
set_option maxRecDepth 20000 in
theorem gX1_leastPeriod_X1_repeatsAfter : GoodIn wsX1_leastPeriod (wsV RX1 142 RX1 yX1_repeatsAfter wsX1_repeatsAfter) := goodIn_app (goodIn_of _ (by decide +kernel)) ggX1_leastPeriod_X1_repeatsAfter
theorem dX1_leastPeriod_0 : decode cX1_leastPeriod 0 = .ok (.iconst 1, 1) := by decide +kernel
theorem dX1_leastPeriod_1 : decode cX1_leastPeriod 1 = .ok (.istore_n 1, 1) := by decide +kernel
theorem dX1_leastPeriod_2 : decode cX1_leastPeriod 2 = .ok (.iload_n 1, 1) := by decide +kernel
theorem dX1_leastPeriod_3 : decode cX1_leastPeriod 3 = .ok (.aload_n 0, 1) := by decide +kernel
theorem dX1_leastPeriod_4 : decode cX1_leastPeriod 4 = .ok (.getfield 19, 3) := by decide +kernel
theorem dX1_leastPeriod_7 : decode cX1_leastPeriod 7 = .ok (.if_icmp .ge 19, 3) := by decide +kernel
theorem dX1_leastPeriod_10 : decode cX1_leastPeriod 10 = .ok (.aload_n 0, 1) := by decide +kernel
theorem dX1_leastPeriod_11 : decode cX1_leastPeriod 11 = .ok (.iload_n 1, 1) := by decide +kernel
theorem dX1_leastPeriod_12 : decode cX1_leastPeriod 12 = .ok (.invokevirtual 142, 3) := by decide +kernel
theorem dX1_leastPeriod_15 : decode cX1_leastPeriod 15 = .ok (.ifCond .eq 5, 3) := by decide +kernel
theorem dX1_leastPeriod_18 : decode cX1_leastPeriod 18 = .ok (.iload_n 1, 1) := by decide +kernel
theorem dX1_leastPeriod_19 : decode cX1_leastPeriod 19 = .ok (.ireturn, 1) := by decide +kernel
theorem dX1_leastPeriod_20 : decode cX1_leastPeriod 20 = .ok (.iinc 1 1, 3) := by decide +kernel
theorem dX1_leastPeriod_23 : decode cX1_leastPeriod 23 = .ok (.goto (-21), 3) := by decide +kernel
theorem dX1_leastPeriod_26 : decode cX1_leastPeriod 26 = .ok (.iconst 1, 1) := by decide +kernel
theorem dX1_leastPeriod_27 : decode cX1_leastPeriod 27 = .ok (.aload_n 0, 1) := by decide +kernel
theorem dX1_leastPeriod_28 : decode cX1_leastPeriod 28 = .ok (.getfield 19, 3) := by decide +kernel
theorem dX1_leastPeriod_31 : decode cX1_leastPeriod 31 = .ok (.invokestatic 92, 3) := by decide +kernel
theorem dX1_leastPeriod_34 : decode cX1_leastPeriod 34 = .ok (.ireturn, 1) := by decide +kernel
theorem dX1_requireSymbol_0 : decode cX1_requireSymbol 0 = .ok (.iload_n 0, 1) := by decide +kernel
theorem dX1_requireSymbol_1 : decode cX1_requireSymbol 1 = .ok (.ifCond .lt 9, 3) := by decide +kernel
theorem dX1_requireSymbol_4 : decode cX1_requireSymbol 4 = .ok (.iload_n 0, 1) := by decide +kernel
theorem dX1_requireSymbol_5 : decode cX1_requireSymbol 5 = .ok (.bipush 26, 2) := by decide +kernel
theorem dX1_requireSymbol_7 : decode cX1_requireSymbol 7 = .ok (.if_icmp .le 13, 3) := by decide +kernel
theorem dX1_requireSymbol_10 : decode cX1_requireSymbol 10 = .ok (.new 37, 3) := by decide +kernel
theorem dX1_requireSymbol_13 : decode cX1_requireSymbol 13 = .ok (.dup, 1) := by decide +kernel
theorem dX1_requireSymbol_14 : decode cX1_requireSymbol 14 = .ok (.ldc 145, 2) := by decide +kernel
theorem dX1_requireSymbol_16 : decode cX1_requireSymbol 16 = .ok (.invokespecial 41, 3) := by decide +kernel
theorem dX1_requireSymbol_19 : decode cX1_requireSymbol 19 = .ok (.athrow, 1) := by decide +kernel
theorem dX1_requireSymbol_20 : decode cX1_requireSymbol 20 = .ok (.return_, 1) := by decide +kernel
theorem dX1_requirePatternIndex_0 : decode cX1_requirePatternIndex 0 = .ok (.iload_n 1, 1) := by decide +kernel
theorem dX1_requirePatternIndex_1 : decode cX1_requirePatternIndex 1 = .ok (.ifCond .lt 11, 3) := by decide +kernel
theorem dX1_requirePatternIndex_4 : decode cX1_requirePatternIndex 4 = .ok (.iload_n 1, 1) := by decide +kernel
theorem dX1_requirePatternIndex_5 : decode cX1_requirePatternIndex 5 = .ok (.aload_n 0, 1) := by decide +kernel
theorem dX1_requirePatternIndex_6 : decode cX1_requirePatternIndex 6 = .ok (.getfield 23, 3) := by decide +kernel
theorem dX1_requirePatternIndex_9 : decode cX1_requirePatternIndex 9 = .ok (.if_icmp .lt 13, 3) := by decide +kernel
theorem dX1_requirePatternIndex_12 : decode cX1_requirePatternIndex 12 = .ok (.new 54, 3) := by decide +kernel
theorem dX1_requirePatternIndex_15 : decode cX1_requirePatternIndex 15 = .ok (.dup, 1) := by decide +kernel
theorem dX1_requirePatternIndex_16 : decode cX1_requirePatternIndex 16 = .ok (.ldc 147, 2) := by decide +kernel
theorem dX1_requirePatternIndex_18 : decode cX1_requirePatternIndex 18 = .ok (.invokespecial 58, 3) := by decide +kernel
theorem dX1_requirePatternIndex_21 : decode cX1_requirePatternIndex 21 = .ok (.athrow, 1) := by decide +kernel
theorem dX1_requirePatternIndex_22 : decode cX1_requirePatternIndex 22 = .ok (.return_, 1) := by decide +kernel
theorem dX1_requirePartOfText_0 : decode cX1_requirePartOfText 0 = .ok (.iload_n 1, 1) := by decide +kernel
theorem dX1_requirePartOfText_1 : decode cX1_requirePartOfText 1 = .ok (.ifCond .lt 13, 3) := by decide +kernel
theorem dX1_requirePartOfText_4 : decode cX1_requirePartOfText 4 = .ok (.iload_n 1, 1) := by decide +kernel
theorem dX1_requirePartOfText_5 : decode cX1_requirePartOfText 5 = .ok (.aload_n 0, 1) := by decide +kernel
theorem dX1_requirePartOfText_6 : decode cX1_requirePartOfText 6 = .ok (.getfield 19, 3) := by decide +kernel
theorem dX1_requirePartOfText_9 : decode cX1_requirePartOfText 9 = .ok (.iload_n 2, 1) := by decide +kernel
theorem dX1_requirePartOfText_10 : decode cX1_requirePartOfText 10 = .ok (.isub, 1) := by decide +kernel
theorem dX1_requirePartOfText_11 : decode cX1_requirePartOfText 11 = .ok (.if_icmp .le 13, 3) := by decide +kernel
theorem dX1_requirePartOfText_14 : decode cX1_requirePartOfText 14 = .ok (.new 54, 3) := by decide +kernel
theorem dX1_requirePartOfText_17 : decode cX1_requirePartOfText 17 = .ok (.dup, 1) := by decide +kernel
theorem dX1_requirePartOfText_18 : decode cX1_requirePartOfText 18 = .ok (.ldc 149, 2) := by decide +kernel
theorem dX1_requirePartOfText_20 : decode cX1_requirePartOfText 20 = .ok (.invokespecial 58, 3) := by decide +kernel
theorem dX1_requirePartOfText_23 : decode cX1_requirePartOfText 23 = .ok (.athrow, 1) := by decide +kernel
theorem dX1_requirePartOfText_24 : decode cX1_requirePartOfText 24 = .ok (.return_, 1) := by decide +kernel
set_option maxRecDepth 20000 in
theorem ggX1_requirePlace_X1_places : GoodIn wsX1_requirePlace wsX1_places := goodIn_r _ [7, 8, 9, 10, 11, 12, 13, 14] (by decide +kernel) (by decide +kernel)
set_option maxRecDepth 20000 in
theorem gX1_requirePlace_X1_places : GoodIn wsX1_requirePlace (wsV RX1 89 RX1 yX1_places wsX1_places) := goodIn_app (goodIn_of _ (by decide +kernel)) ggX1_requirePlace_X1_places
theorem dX1_requirePlace_0 : decode cX1_requirePlace 0 = .ok (.iload_n 1, 1) := by decide +kernel
theorem dX1_requirePlace_1 : decode cX1_requirePlace 1 = .ok (.ifCond .lt 11, 3) := by decide +kernel
theorem dX1_requirePlace_4 : decode cX1_requirePlace 4 = .ok (.iload_n 1, 1) := by decide +kernel
theorem dX1_requirePlace_5 : decode cX1_requirePlace 5 = .ok (.aload_n 0, 1) := by decide +kernel
theorem dX1_requirePlace_6 : decode cX1_requirePlace 6 = .ok (.invokevirtual 89, 3) := by decide +kernel
theorem dX1_requirePlace_9 : decode cX1_requirePlace 9 = .ok (.if_icmp .lt 13, 3) := by decide +kernel
theorem dX1_requirePlace_12 : decode cX1_requirePlace 12 = .ok (.new 54, 3) := by decide +kernel
theorem dX1_requirePlace_15 : decode cX1_requirePlace 15 = .ok (.dup, 1) := by decide +kernel
theorem dX1_requirePlace_16 : decode cX1_requirePlace 16 = .ok (.ldc 151, 2) := by decide +kernel
theorem dX1_requirePlace_18 : decode cX1_requirePlace 18 = .ok (.invokespecial 58, 3) := by decide +kernel
theorem dX1_requirePlace_21 : decode cX1_requirePlace 21 = .ok (.athrow, 1) := by decide +kernel
theorem dX1_requirePlace_22 : decode cX1_requirePlace 22 = .ok (.return_, 1) := by decide +kernel
set_option maxRecDepth 20000 in
theorem ggX1_requireLike_X1_findLike : GoodIn wsX1_requireLike wsX1_findLike := goodIn_r _ [7, 8, 9, 10, 6, 11, 12, 13, 14, 15, 16, 17, 18, 19, 20, 21, 22, 23, 24, 25, 26, 27, 28, 29, 30, 31, 32, 33, 34, 35, 36, 37, 38, 39, 40, 41, 42, 43, 44, 45, 46, 47, 48, 49] (by decide +kernel) (by decide +kernel)
set_option maxRecDepth 20000 in
theorem gX1_requireLike_X1_findLike : GoodIn wsX1_requireLike (wsV RX1 153 RX1 yX1_findLike wsX1_findLike) := goodIn_app (goodIn_of _ (by decide +kernel)) ggX1_requireLike_X1_findLike
theorem dX1_requireLike_0 : decode cX1_requireLike 0 = .ok (.aload_n 0, 1) := by decide +kernel
theorem dX1_requireLike_1 : decode cX1_requireLike 1 = .ok (.aload_n 1, 1) := by decide +kernel
theorem dX1_requireLike_2 : decode cX1_requireLike 2 = .ok (.iload_n 2, 1) := by decide +kernel
theorem dX1_requireLike_3 : decode cX1_requireLike 3 = .ok (.invokevirtual 153, 3) := by decide +kernel
theorem dX1_requireLike_6 : decode cX1_requireLike 6 = .ok (.istore_n 3, 1) := by decide +kernel
theorem dX1_requireLike_7 : decode cX1_requireLike 7 = .ok (.iload_n 3, 1) := by decide +kernel
theorem dX1_requireLike_8 : decode cX1_requireLike 8 = .ok (.iconst (-1), 1) := by decide +kernel
theorem dX1_requireLike_9 : decode cX1_requireLike 9 = .ok (.if_icmp .ne 13, 3) := by decide +kernel
theorem dX1_requireLike_12 : decode cX1_requireLike 12 = .ok (.new 54, 3) := by decide +kernel
theorem dX1_requireLike_15 : decode cX1_requireLike 15 = .ok (.dup, 1) := by decide +kernel
theorem dX1_requireLike_16 : decode cX1_requireLike 16 = .ok (.ldc 156, 2) := by decide +kernel
theorem dX1_requireLike_18 : decode cX1_requireLike 18 = .ok (.invokespecial 58, 3) := by decide +kernel
theorem dX1_requireLike_21 : decode cX1_requireLike 21 = .ok (.athrow, 1) := by decide +kernel
theorem dX1_requireLike_22 : decode cX1_requireLike 22 = .ok (.iload_n 3, 1) := by decide +kernel
theorem dX1_requireLike_23 : decode cX1_requireLike 23 = .ok (.ireturn, 1) := by decide +kernel
set_option maxRecDepth 20000 in
theorem ggX1_countLike_X1_places : GoodIn wsX1_countLike wsX1_places := goodIn_r _ [5, 6, 7, 39, 40, 41, 42, 43] (by decide +kernel) (by decide +kernel)
set_option maxRecDepth 20000 in
theorem gX1_countLike_X1_places : GoodIn wsX1_countLike (wsV RX1 89 RX1 yX1_places wsX1_places) := goodIn_app (goodIn_of _ (by decide +kernel)) ggX1_countLike_X1_places
set_option maxRecDepth 20000 in
theorem ggX1_countLike_X1_isLike : GoodIn wsX1_countLike wsX1_isLike := goodIn_r _ [11, 12, 13, 14, 15, 16, 4, 17, 6, 18, 19, 20, 21, 22, 23, 24, 25, 26, 27, 28, 29, 30, 31, 32, 33, 34, 35, 36, 37, 38, 39, 40, 41, 42, 43] (by decide +kernel) (by decide +kernel)
set_option maxRecDepth 20000 in
theorem gX1_countLike_X1_isLike : GoodIn wsX1_countLike (wsV RX1 158 RX1 yX1_isLike wsX1_isLike) := goodIn_app (goodIn_of _ (by decide +kernel)) ggX1_countLike_X1_isLike
theorem dX1_countLike_0 : decode cX1_countLike 0 = .ok (.aload_n 0, 1) := by decide +kernel
theorem dX1_countLike_1 : decode cX1_countLike 1 = .ok (.invokevirtual 89, 3) := by decide +kernel
theorem dX1_countLike_4 : decode cX1_countLike 4 = .ok (.istore_n 2, 1) := by decide +kernel
theorem dX1_countLike_5 : decode cX1_countLike 5 = .ok (.iconst 0, 1) := by decide +kernel
theorem dX1_countLike_6 : decode cX1_countLike 6 = .ok (.istore_n 3, 1) := by decide +kernel
theorem dX1_countLike_7 : decode cX1_countLike 7 = .ok (.iconst 0, 1) := by decide +kernel
theorem dX1_countLike_8 : decode cX1_countLike 8 = .ok (.istore 4, 2) := by decide +kernel
theorem dX1_countLike_10 : decode cX1_countLike 10 = .ok (.iload 4, 2) := by decide +kernel
theorem dX1_countLike_12 : decode cX1_countLike 12 = .ok (.iload_n 2, 1) := by decide +kernel
theorem dX1_countLike_13 : decode cX1_countLike 13 = .ok (.if_icmp .ge 22, 3) := by decide +kernel
theorem dX1_countLike_16 : decode cX1_countLike 16 = .ok (.aload_n 0, 1) := by decide +kernel
theorem dX1_countLike_17 : decode cX1_countLike 17 = .ok (.aload_n 1, 1) := by decide +kernel
theorem dX1_countLike_18 : decode cX1_countLike 18 = .ok (.iload 4, 2) := by decide +kernel
theorem dX1_countLike_20 : decode cX1_countLike 20 = .ok (.invokevirtual 158, 3) := by decide +kernel
theorem dX1_countLike_23 : decode cX1_countLike 23 = .ok (.ifCond .eq 6, 3) := by decide +kernel
theorem dX1_countLike_26 : decode cX1_countLike 26 = .ok (.iinc 3 1, 3) := by decide +kernel
theorem dX1_countLike_29 : decode cX1_countLike 29 = .ok (.iinc 4 1, 3) := by decide +kernel
theorem dX1_countLike_32 : decode cX1_countLike 32 = .ok (.goto (-22), 3) := by decide +kernel
theorem dX1_countLike_35 : decode cX1_countLike 35 = .ok (.iload_n 3, 1) := by decide +kernel
theorem dX1_countLike_36 : decode cX1_countLike 36 = .ok (.ireturn, 1) := by decide +kernel
set_option maxRecDepth 20000 in
theorem ggX1_findLike_X1_places : GoodIn wsX1_findLike wsX1_places := goodIn_r _ [5, 6, 7, 39, 40, 41, 42, 43] (by decide +kernel) (by decide +kernel)
set_option maxRecDepth 20000 in
theorem gX1_findLike_X1_places : GoodIn wsX1_findLike (wsV RX1 89 RX1 yX1_places wsX1_places) := goodIn_app (goodIn_of _ (by decide +kernel)) ggX1_findLike_X1_places
set_option maxRecDepth 20000 in
theorem ggX1_findLike_X1_isLike : GoodIn wsX1_findLike wsX1_isLike := goodIn_r _ [11, 12, 13, 14, 15, 16, 4, 17, 6, 18, 19, 20, 21, 22, 23, 24, 25, 26, 27, 28, 29, 30, 31, 32, 33, 34, 35, 36, 37, 38, 39, 40, 41, 42, 43] (by decide +kernel) (by decide +kernel)
set_option maxRecDepth 20000 in
theorem gX1_findLike_X1_isLike : GoodIn wsX1_findLike (wsV RX1 158 RX1 yX1_isLike wsX1_isLike) := goodIn_app (goodIn_of _ (by decide +kernel)) ggX1_findLike_X1_isLike
theorem dX1_findLike_0 : decode cX1_findLike 0 = .ok (.aload_n 0, 1) := by decide +kernel
theorem dX1_findLike_1 : decode cX1_findLike 1 = .ok (.invokevirtual 89, 3) := by decide +kernel
theorem dX1_findLike_4 : decode cX1_findLike 4 = .ok (.istore_n 3, 1) := by decide +kernel
theorem dX1_findLike_5 : decode cX1_findLike 5 = .ok (.iconst 0, 1) := by decide +kernel
theorem dX1_findLike_6 : decode cX1_findLike 6 = .ok (.istore 4, 2) := by decide +kernel
theorem dX1_findLike_8 : decode cX1_findLike 8 = .ok (.iconst 0, 1) := by decide +kernel
theorem dX1_findLike_9 : decode cX1_findLike 9 = .ok (.istore 5, 2) := by decide +kernel
theorem dX1_findLike_11 : decode cX1_findLike 11 = .ok (.iload 5, 2) := by decide +kernel
theorem dX1_findLike_13 : decode cX1_findLike 13 = .ok (.iload_n 3, 1) := by decide +kernel
theorem dX1_findLike_14 : decode cX1_findLike 14 = .ok (.if_icmp .ge 31, 3) := by decide +kernel
theorem dX1_findLike_17 : decode cX1_findLike 17 = .ok (.aload_n 0, 1) := by decide +kernel
theorem dX1_findLike_18 : decode cX1_findLike 18 = .ok (.aload_n 1, 1) := by decide +kernel
theorem dX1_findLike_19 : decode cX1_findLike 19 = .ok (.iload 5, 2) := by decide +kernel
theorem dX1_findLike_21 : decode cX1_findLike 21 = .ok (.invokevirtual 158, 3) := by decide +kernel
theorem dX1_findLike_24 : decode cX1_findLike 24 = .ok (.ifCond .eq 15, 3) := by decide +kernel
theorem dX1_findLike_27 : decode cX1_findLike 27 = .ok (.iload 4, 2) := by decide +kernel
theorem dX1_findLike_29 : decode cX1_findLike 29 = .ok (.iload_n 2, 1) := by decide +kernel
theorem dX1_findLike_30 : decode cX1_findLike 30 = .ok (.if_icmp .ne 6, 3) := by decide +kernel
theorem dX1_findLike_33 : decode cX1_findLike 33 = .ok (.iload 5, 2) := by decide +kernel
theorem dX1_findLike_35 : decode cX1_findLike 35 = .ok (.ireturn, 1) := by decide +kernel
theorem dX1_findLike_36 : decode cX1_findLike 36 = .ok (.iinc 4 1, 3) := by decide +kernel
theorem dX1_findLike_39 : decode cX1_findLike 39 = .ok (.iinc 5 1, 3) := by decide +kernel
theorem dX1_findLike_42 : decode cX1_findLike 42 = .ok (.goto (-31), 3) := by decide +kernel
theorem dX1_findLike_45 : decode cX1_findLike 45 = .ok (.iconst (-1), 1) := by decide +kernel
theorem dX1_findLike_46 : decode cX1_findLike 46 = .ok (.ireturn, 1) := by decide +kernel
set_option maxRecDepth 20000 in
theorem ggX1_isLike_X1_hasSum : GoodIn wsX1_isLike wsX1_hasSum := goodIn_r _ [7, 8, 9, 10, 30, 31, 32, 33, 34] (by decide +kernel) (by decide +kernel)
set_option maxRecDepth 20000 in
theorem gX1_isLike_X1_hasSum : GoodIn wsX1_isLike (wsV RX1 162 RX1 yX1_hasSum wsX1_hasSum) := goodIn_app (goodIn_of _ (by decide +kernel)) ggX1_isLike_X1_hasSum
set_option maxRecDepth 20000 in
theorem ggX1_isLike_X1_hasOrder : GoodIn wsX1_isLike wsX1_hasOrder := goodIn_r _ [14, 8, 15, 16, 17, 6, 18, 10, 9, 30, 31, 32, 33, 34] (by decide +kernel) (by decide +kernel)
set_option maxRecDepth 20000 in
theorem gX1_isLike_X1_hasOrder : GoodIn wsX1_isLike (wsV RX1 165 RX1 yX1_hasOrder wsX1_hasOrder) := goodIn_app (goodIn_of _ (by decide +kernel)) ggX1_isLike_X1_hasOrder
set_option maxRecDepth 20000 in
theorem ggX1_isLike_X1_hasSymbols : GoodIn wsX1_isLike wsX1_hasSymbols := goodIn_r _ [22, 23, 24, 25, 6, 26, 8, 10, 9, 27, 28, 29, 30, 31, 32, 33, 34] (by decide +kernel) (by decide +kernel)
set_option maxRecDepth 20000 in
theorem gX1_isLike_X1_hasSymbols : GoodIn wsX1_isLike (wsV RX1 98 RX1 yX1_hasSymbols wsX1_hasSymbols) := goodIn_app (goodIn_of _ (by decide +kernel)) ggX1_isLike_X1_hasSymbols
theorem dX1_isLike_0 : decode cX1_isLike 0 = .ok (.aload_n 1, 1) := by decide +kernel
theorem dX1_isLike_1 : decode cX1_isLike 1 = .ok (.getstatic 134, 3) := by decide +kernel
theorem dX1_isLike_4 : decode cX1_isLike 4 = .ok (.if_acmp .ne 9, 3) := by decide +kernel
theorem dX1_isLike_7 : decode cX1_isLike 7 = .ok (.aload_n 0, 1) := by decide +kernel
theorem dX1_isLike_8 : decode cX1_isLike 8 = .ok (.iload_n 2, 1) := by decide +kernel
theorem dX1_isLike_9 : decode cX1_isLike 9 = .ok (.invokevirtual 162, 3) := by decide +kernel
theorem dX1_isLike_12 : decode cX1_isLike 12 = .ok (.ireturn, 1) := by decide +kernel
theorem dX1_isLike_13 : decode cX1_isLike 13 = .ok (.aload_n 1, 1) := by decide +kernel
theorem dX1_isLike_14 : decode cX1_isLike 14 = .ok (.getstatic 137, 3) := by decide +kernel
theorem dX1_isLike_17 : decode cX1_isLike 17 = .ok (.if_acmp .ne 9, 3) := by decide +kernel
theorem dX1_isLike_20 : decode cX1_isLike 20 = .ok (.aload_n 0, 1) := by decide +kernel
theorem dX1_isLike_21 : decode cX1_isLike 21 = .ok (.iload_n 2, 1) := by decide +kernel
theorem dX1_isLike_22 : decode cX1_isLike 22 = .ok (.invokevirtual 165, 3) := by decide +kernel
theorem dX1_isLike_25 : decode cX1_isLike 25 = .ok (.ireturn, 1) := by decide +kernel
theorem dX1_isLike_26 : decode cX1_isLike 26 = .ok (.aload_n 0, 1) := by decide +kernel
theorem dX1_isLike_27 : decode cX1_isLike 27 = .ok (.iload_n 2, 1) := by decide +kernel
theorem dX1_isLike_28 : decode cX1_isLike 28 = .ok (.invokevirtual 98, 3) := by decide +kernel
theorem dX1_isLike_31 : decode cX1_isLike 31 = .ok (.ireturn, 1) := by decide +kernel
set_option maxRecDepth 20000 in
theorem ggX1_hasSymbols_X1_firstMismatch : GoodIn wsX1_hasSymbols wsX1_firstMismatch := goodIn_r _ [5, 6, 7, 8, 9, 10, 4, 11, 12, 13, 14, 15, 16] (by decide +kernel) (by decide +kernel)
set_option maxRecDepth 20000 in
theorem gX1_hasSymbols_X1_firstMismatch : GoodIn wsX1_hasSymbols (wsV RX1 114 RX1 yX1_firstMismatch wsX1_firstMismatch) := goodIn_app (goodIn_of _ (by decide +kernel)) ggX1_hasSymbols_X1_firstMismatch
theorem dX1_hasSymbols_0 : decode cX1_hasSymbols 0 = .ok (.aload_n 0, 1) := by decide +kernel
theorem dX1_hasSymbols_1 : decode cX1_hasSymbols 1 = .ok (.iload_n 1, 1) := by decide +kernel
theorem dX1_hasSymbols_2 : decode cX1_hasSymbols 2 = .ok (.iconst 0, 1) := by decide +kernel
theorem dX1_hasSymbols_3 : decode cX1_hasSymbols 3 = .ok (.invokevirtual 114, 3) := by decide +kernel
theorem dX1_hasSymbols_6 : decode cX1_hasSymbols 6 = .ok (.iconst (-1), 1) := by decide +kernel
theorem dX1_hasSymbols_7 : decode cX1_hasSymbols 7 = .ok (.if_icmp .ne 7, 3) := by decide +kernel
theorem dX1_hasSymbols_10 : decode cX1_hasSymbols 10 = .ok (.iconst 1, 1) := by decide +kernel
theorem dX1_hasSymbols_11 : decode cX1_hasSymbols 11 = .ok (.goto 4, 3) := by decide +kernel
theorem dX1_hasSymbols_14 : decode cX1_hasSymbols 14 = .ok (.iconst 0, 1) := by decide +kernel
theorem dX1_hasSymbols_15 : decode cX1_hasSymbols 15 = .ok (.ireturn, 1) := by decide +kernel
theorem dX1_hasSum_0 : decode cX1_hasSum 0 = .ok (.iconst 0, 1) := by decide +kernel
theorem dX1_hasSum_1 : decode cX1_hasSum 1 = .ok (.istore_n 2, 1) := by decide +kernel
theorem dX1_hasSum_2 : decode cX1_hasSum 2 = .ok (.iconst 0, 1) := by decide +kernel
theorem dX1_hasSum_3 : decode cX1_hasSum 3 = .ok (.istore_n 3, 1) := by decide +kernel
theorem dX1_hasSum_4 : decode cX1_hasSum 4 = .ok (.iload_n 3, 1) := by decide +kernel
theorem dX1_hasSum_5 : decode cX1_hasSum 5 = .ok (.aload_n 0, 1) := by decide +kernel
theorem dX1_hasSum_6 : decode cX1_hasSum 6 = .ok (.getfield 23, 3) := by decide +kernel
theorem dX1_hasSum_9 : decode cX1_hasSum 9 = .ok (.if_icmp .ge 27, 3) := by decide +kernel
theorem dX1_hasSum_12 : decode cX1_hasSum 12 = .ok (.iload_n 2, 1) := by decide +kernel
theorem dX1_hasSum_13 : decode cX1_hasSum 13 = .ok (.aload_n 0, 1) := by decide +kernel
theorem dX1_hasSum_14 : decode cX1_hasSum 14 = .ok (.getfield 9, 3) := by decide +kernel
theorem dX1_hasSum_17 : decode cX1_hasSum 17 = .ok (.iload_n 1, 1) := by decide +kernel
theorem dX1_hasSum_18 : decode cX1_hasSum 18 = .ok (.iload_n 3, 1) := by decide +kernel
theorem dX1_hasSum_19 : decode cX1_hasSum 19 = .ok (.iadd, 1) := by decide +kernel
theorem dX1_hasSum_20 : decode cX1_hasSum 20 = .ok (.iaload, 1) := by decide +kernel
theorem dX1_hasSum_21 : decode cX1_hasSum 21 = .ok (.aload_n 0, 1) := by decide +kernel
theorem dX1_hasSum_22 : decode cX1_hasSum 22 = .ok (.getfield 13, 3) := by decide +kernel
theorem dX1_hasSum_25 : decode cX1_hasSum 25 = .ok (.iload_n 3, 1) := by decide +kernel
theorem dX1_hasSum_26 : decode cX1_hasSum 26 = .ok (.iaload, 1) := by decide +kernel
theorem dX1_hasSum_27 : decode cX1_hasSum 27 = .ok (.isub, 1) := by decide +kernel
theorem dX1_hasSum_28 : decode cX1_hasSum 28 = .ok (.iadd, 1) := by decide +kernel
theorem dX1_hasSum_29 : decode cX1_hasSum 29 = .ok (.istore_n 2, 1) := by decide +kernel
theorem dX1_hasSum_30 : decode cX1_hasSum 30 = .ok (.iinc 3 1, 3) := by decide +kernel
theorem dX1_hasSum_33 : decode cX1_hasSum 33 = .ok (.goto (-29), 3) := by decide +kernel
theorem dX1_hasSum_36 : decode cX1_hasSum 36 = .ok (.iload_n 2, 1) := by decide +kernel
theorem dX1_hasSum_37 : decode cX1_hasSum 37 = .ok (.ifCond .ne 7, 3) := by decide +kernel
theorem dX1_hasSum_40 : decode cX1_hasSum 40 = .ok (.iconst 1, 1) := by decide +kernel
theorem dX1_hasSum_41 : decode cX1_hasSum 41 = .ok (.goto 4, 3) := by decide +kernel
theorem dX1_hasSum_44 : decode cX1_hasSum 44 = .ok (.iconst 0, 1) := by decide +kernel
theorem dX1_hasSum_45 : decode cX1_hasSum 45 = .ok (.ireturn, 1) := by decide +kernel
set_option maxRecDepth 20000 in
theorem ggX1_hasOrder_X1_hasOrderUpTo : GoodIn wsX1_hasOrder wsX1_hasOrderUpTo := goodIn_r _ [6, 7, 8, 9, 10, 11, 12, 13] (by decide +kernel) (by decide +kernel)
set_option maxRecDepth 20000 in
theorem gX1_hasOrder_X1_hasOrderUpTo : GoodIn wsX1_hasOrder (wsV RX1 168 RX1 yX1_hasOrderUpTo wsX1_hasOrderUpTo) := goodIn_app (goodIn_of _ (by decide +kernel)) ggX1_hasOrder_X1_hasOrderUpTo
theorem dX1_hasOrder_0 : decode cX1_hasOrder 0 = .ok (.iconst 1, 1) := by decide +kernel
theorem dX1_hasOrder_1 : decode cX1_hasOrder 1 = .ok (.istore_n 2, 1) := by decide +kernel
theorem dX1_hasOrder_2 : decode cX1_hasOrder 2 = .ok (.iload_n 2, 1) := by decide +kernel
theorem dX1_hasOrder_3 : decode cX1_hasOrder 3 = .ok (.aload_n 0, 1) := by decide +kernel
theorem dX1_hasOrder_4 : decode cX1_hasOrder 4 = .ok (.getfield 23, 3) := by decide +kernel
theorem dX1_hasOrder_7 : decode cX1_hasOrder 7 = .ok (.if_icmp .ge 20, 3) := by decide +kernel
theorem dX1_hasOrder_10 : decode cX1_hasOrder 10 = .ok (.aload_n 0, 1) := by decide +kernel
theorem dX1_hasOrder_11 : decode cX1_hasOrder 11 = .ok (.iload_n 1, 1) := by decide +kernel
theorem dX1_hasOrder_12 : decode cX1_hasOrder 12 = .ok (.iload_n 2, 1) := by decide +kernel
theorem dX1_hasOrder_13 : decode cX1_hasOrder 13 = .ok (.invokevirtual 168, 3) := by decide +kernel
theorem dX1_hasOrder_16 : decode cX1_hasOrder 16 = .ok (.ifCond .ne 5, 3) := by decide +kernel
theorem dX1_hasOrder_19 : decode cX1_hasOrder 19 = .ok (.iconst 0, 1) := by decide +kernel
theorem dX1_hasOrder_20 : decode cX1_hasOrder 20 = .ok (.ireturn, 1) := by decide +kernel
theorem dX1_hasOrder_21 : decode cX1_hasOrder 21 = .ok (.iinc 2 1, 3) := by decide +kernel
theorem dX1_hasOrder_24 : decode cX1_hasOrder 24 = .ok (.goto (-22), 3) := by decide +kernel
theorem dX1_hasOrder_27 : decode cX1_hasOrder 27 = .ok (.iconst 1, 1) := by decide +kernel
theorem dX1_hasOrder_28 : decode cX1_hasOrder 28 = .ok (.ireturn, 1) := by decide +kernel
theorem dX1_hasOrderUpTo_0 : decode cX1_hasOrderUpTo 0 = .ok (.aload_n 0, 1) := by decide +kernel
theorem dX1_hasOrderUpTo_1 : decode cX1_hasOrderUpTo 1 = .ok (.getfield 13, 3) := by decide +kernel
theorem dX1_hasOrderUpTo_4 : decode cX1_hasOrderUpTo 4 = .ok (.iload_n 2, 1) := by decide +kernel
theorem dX1_hasOrderUpTo_5 : decode cX1_hasOrderUpTo 5 = .ok (.iaload, 1) := by decide +kernel
theorem dX1_hasOrderUpTo_6 : decode cX1_hasOrderUpTo 6 = .ok (.istore_n 3, 1) := by decide +kernel
theorem dX1_hasOrderUpTo_7 : decode cX1_hasOrderUpTo 7 = .ok (.aload_n 0, 1) := by decide +kernel
theorem dX1_hasOrderUpTo_8 : decode cX1_hasOrderUpTo 8 = .ok (.getfield 9, 3) := by decide +kernel
theorem dX1_hasOrderUpTo_11 : decode cX1_hasOrderUpTo 11 = .ok (.iload_n 1, 1) := by decide +kernel
theorem dX1_hasOrderUpTo_12 : decode cX1_hasOrderUpTo 12 = .ok (.iload_n 2, 1) := by decide +kernel
theorem dX1_hasOrderUpTo_13 : decode cX1_hasOrderUpTo 13 = .ok (.iadd, 1) := by decide +kernel
theorem dX1_hasOrderUpTo_14 : decode cX1_hasOrderUpTo 14 = .ok (.iaload, 1) := by decide +kernel
theorem dX1_hasOrderUpTo_15 : decode cX1_hasOrderUpTo 15 = .ok (.istore 4, 2) := by decide +kernel
theorem dX1_hasOrderUpTo_17 : decode cX1_hasOrderUpTo 17 = .ok (.iconst 0, 1) := by decide +kernel
theorem dX1_hasOrderUpTo_18 : decode cX1_hasOrderUpTo 18 = .ok (.istore 5, 2) := by decide +kernel
theorem dX1_hasOrderUpTo_20 : decode cX1_hasOrderUpTo 20 = .ok (.iload 5, 2) := by decide +kernel
theorem dX1_hasOrderUpTo_22 : decode cX1_hasOrderUpTo 22 = .ok (.iload_n 2, 1) := by decide +kernel
theorem dX1_hasOrderUpTo_23 : decode cX1_hasOrderUpTo 23 = .ok (.if_icmp .ge 83, 3) := by decide +kernel
theorem dX1_hasOrderUpTo_26 : decode cX1_hasOrderUpTo 26 = .ok (.aload_n 0, 1) := by decide +kernel
theorem dX1_hasOrderUpTo_27 : decode cX1_hasOrderUpTo 27 = .ok (.getfield 13, 3) := by decide +kernel
theorem dX1_hasOrderUpTo_30 : decode cX1_hasOrderUpTo 30 = .ok (.iload 5, 2) := by decide +kernel
theorem dX1_hasOrderUpTo_32 : decode cX1_hasOrderUpTo 32 = .ok (.iaload, 1) := by decide +kernel
theorem dX1_hasOrderUpTo_33 : decode cX1_hasOrderUpTo 33 = .ok (.istore 6, 2) := by decide +kernel
theorem dX1_hasOrderUpTo_35 : decode cX1_hasOrderUpTo 35 = .ok (.aload_n 0, 1) := by decide +kernel
theorem dX1_hasOrderUpTo_36 : decode cX1_hasOrderUpTo 36 = .ok (.getfield 9, 3) := by decide +kernel
theorem dX1_hasOrderUpTo_39 : decode cX1_hasOrderUpTo 39 = .ok (.iload_n 1, 1) := by decide +kernel
theorem dX1_hasOrderUpTo_40 : decode cX1_hasOrderUpTo 40 = .ok (.iload 5, 2) := by decide +kernel
theorem dX1_hasOrderUpTo_42 : decode cX1_hasOrderUpTo 42 = .ok (.iadd, 1) := by decide +kernel
theorem dX1_hasOrderUpTo_43 : decode cX1_hasOrderUpTo 43 = .ok (.iaload, 1) := by decide +kernel
theorem dX1_hasOrderUpTo_44 : decode cX1_hasOrderUpTo 44 = .ok (.istore 7, 2) := by decide +kernel
theorem dX1_hasOrderUpTo_46 : decode cX1_hasOrderUpTo 46 = .ok (.iload 6, 2) := by decide +kernel
theorem dX1_hasOrderUpTo_48 : decode cX1_hasOrderUpTo 48 = .ok (.iload_n 3, 1) := by decide +kernel
theorem dX1_hasOrderUpTo_49 : decode cX1_hasOrderUpTo 49 = .ok (.if_icmp .ge 7, 3) := by decide +kernel
theorem dX1_hasOrderUpTo_52 : decode cX1_hasOrderUpTo 52 = .ok (.iconst 1, 1) := by decide +kernel
theorem dX1_hasOrderUpTo_53 : decode cX1_hasOrderUpTo 53 = .ok (.goto 4, 3) := by decide +kernel
theorem dX1_hasOrderUpTo_56 : decode cX1_hasOrderUpTo 56 = .ok (.iconst 0, 1) := by decide +kernel
theorem dX1_hasOrderUpTo_57 : decode cX1_hasOrderUpTo 57 = .ok (.iload 7, 2) := by decide +kernel
theorem dX1_hasOrderUpTo_59 : decode cX1_hasOrderUpTo 59 = .ok (.iload 4, 2) := by decide +kernel
theorem dX1_hasOrderUpTo_61 : decode cX1_hasOrderUpTo 61 = .ok (.if_icmp .ge 7, 3) := by decide +kernel
theorem dX1_hasOrderUpTo_64 : decode cX1_hasOrderUpTo 64 = .ok (.iconst 1, 1) := by decide +kernel
theorem dX1_hasOrderUpTo_65 : decode cX1_hasOrderUpTo 65 = .ok (.goto 4, 3) := by decide +kernel
theorem dX1_hasOrderUpTo_68 : decode cX1_hasOrderUpTo 68 = .ok (.iconst 0, 1) := by decide +kernel
theorem dX1_hasOrderUpTo_69 : decode cX1_hasOrderUpTo 69 = .ok (.if_icmp .ne 29, 3) := by decide +kernel
theorem dX1_hasOrderUpTo_72 : decode cX1_hasOrderUpTo 72 = .ok (.iload 6, 2) := by decide +kernel
theorem dX1_hasOrderUpTo_74 : decode cX1_hasOrderUpTo 74 = .ok (.iload_n 3, 1) := by decide +kernel
theorem dX1_hasOrderUpTo_75 : decode cX1_hasOrderUpTo 75 = .ok (.if_icmp .le 7, 3) := by decide +kernel
theorem dX1_hasOrderUpTo_78 : decode cX1_hasOrderUpTo 78 = .ok (.iconst 1, 1) := by decide +kernel
theorem dX1_hasOrderUpTo_79 : decode cX1_hasOrderUpTo 79 = .ok (.goto 4, 3) := by decide +kernel
theorem dX1_hasOrderUpTo_82 : decode cX1_hasOrderUpTo 82 = .ok (.iconst 0, 1) := by decide +kernel
theorem dX1_hasOrderUpTo_83 : decode cX1_hasOrderUpTo 83 = .ok (.iload 7, 2) := by decide +kernel
theorem dX1_hasOrderUpTo_85 : decode cX1_hasOrderUpTo 85 = .ok (.iload 4, 2) := by decide +kernel
theorem dX1_hasOrderUpTo_87 : decode cX1_hasOrderUpTo 87 = .ok (.if_icmp .le 7, 3) := by decide +kernel
theorem dX1_hasOrderUpTo_90 : decode cX1_hasOrderUpTo 90 = .ok (.iconst 1, 1) := by decide +kernel
theorem dX1_hasOrderUpTo_91 : decode cX1_hasOrderUpTo 91 = .ok (.goto 4, 3) := by decide +kernel
theorem dX1_hasOrderUpTo_94 : decode cX1_hasOrderUpTo 94 = .ok (.iconst 0, 1) := by decide +kernel
theorem dX1_hasOrderUpTo_95 : decode cX1_hasOrderUpTo 95 = .ok (.if_icmp .eq 5, 3) := by decide +kernel
theorem dX1_hasOrderUpTo_98 : decode cX1_hasOrderUpTo 98 = .ok (.iconst 0, 1) := by decide +kernel
theorem dX1_hasOrderUpTo_99 : decode cX1_hasOrderUpTo 99 = .ok (.ireturn, 1) := by decide +kernel
theorem dX1_hasOrderUpTo_100 : decode cX1_hasOrderUpTo 100 = .ok (.iinc 5 1, 3) := by decide +kernel
theorem dX1_hasOrderUpTo_103 : decode cX1_hasOrderUpTo 103 = .ok (.goto (-83), 3) := by decide +kernel
theorem dX1_hasOrderUpTo_106 : decode cX1_hasOrderUpTo 106 = .ok (.iconst 1, 1) := by decide +kernel
theorem dX1_hasOrderUpTo_107 : decode cX1_hasOrderUpTo 107 = .ok (.ireturn, 1) := by decide +kernel
theorem dX1_agree_0 : decode cX1_agree 0 = .ok (.iload_n 0, 1) := by decide +kernel
theorem dX1_agree_1 : decode cX1_agree 1 = .ok (.iload_n 1, 1) := by decide +kernel
theorem dX1_agree_2 : decode cX1_agree 2 = .ok (.if_icmp .eq 11, 3) := by decide +kernel
theorem dX1_agree_5 : decode cX1_agree 5 = .ok (.iload_n 0, 1) := by decide +kernel
theorem dX1_agree_6 : decode cX1_agree 6 = .ok (.ifCond .eq 7, 3) := by decide +kernel
theorem dX1_agree_9 : decode cX1_agree 9 = .ok (.iload_n 1, 1) := by decide +kernel
theorem dX1_agree_10 : decode cX1_agree 10 = .ok (.ifCond .ne 7, 3) := by decide +kernel
theorem dX1_agree_13 : decode cX1_agree 13 = .ok (.iconst 1, 1) := by decide +kernel
theorem dX1_agree_14 : decode cX1_agree 14 = .ok (.goto 4, 3) := by decide +kernel
theorem dX1_agree_17 : decode cX1_agree 17 = .ok (.iconst 0, 1) := by decide +kernel
theorem dX1_agree_18 : decode cX1_agree 18 = .ok (.ireturn, 1) := by decide +kernel
set_option maxRecDepth 20000 in
theorem ggX1_countMismatches_X1_agree : GoodIn wsX1_countMismatches wsX1_agree := goodIn_r _ [7] (by decide +kernel) (by decide +kernel)
set_option maxRecDepth 20000 in
theorem gX1_countMismatches_X1_agree : GoodIn wsX1_countMismatches (va_wsS RX1 108 yX1_agree wsX1_agree) := goodIn_app (goodIn_of _ (by decide +kernel)) ggX1_countMismatches_X1_agree
theorem dX1_countMismatches_0 : decode cX1_countMismatches 0 = .ok (.iconst 0, 1) := by decide +kernel
theorem dX1_countMismatches_1 : decode cX1_countMismatches 1 = .ok (.istore_n 2, 1) := by decide +kernel
theorem dX1_countMismatches_2 : decode cX1_countMismatches 2 = .ok (.iconst 0, 1) := by decide +kernel
theorem dX1_countMismatches_3 : decode cX1_countMismatches 3 = .ok (.istore_n 3, 1) := by decide +kernel
theorem dX1_countMismatches_4 : decode cX1_countMismatches 4 = .ok (.iload_n 3, 1) := by decide +kernel
theorem dX1_countMismatches_5 : decode cX1_countMismatches 5 = .ok (.aload_n 0, 1) := by decide +kernel
theorem dX1_countMismatches_6 : decode cX1_countMismatches 6 = .ok (.getfield 23, 3) := by decide +kernel
theorem dX1_countMismatches_9 : decode cX1_countMismatches 9 = .ok (.if_icmp .ge 32, 3) := by decide +kernel
theorem dX1_countMismatches_12 : decode cX1_countMismatches 12 = .ok (.aload_n 0, 1) := by decide +kernel
theorem dX1_countMismatches_13 : decode cX1_countMismatches 13 = .ok (.getfield 13, 3) := by decide +kernel
theorem dX1_countMismatches_16 : decode cX1_countMismatches 16 = .ok (.iload_n 3, 1) := by decide +kernel
theorem dX1_countMismatches_17 : decode cX1_countMismatches 17 = .ok (.iaload, 1) := by decide +kernel
theorem dX1_countMismatches_18 : decode cX1_countMismatches 18 = .ok (.aload_n 0, 1) := by decide +kernel
theorem dX1_countMismatches_19 : decode cX1_countMismatches 19 = .ok (.getfield 9, 3) := by decide +kernel
theorem dX1_countMismatches_22 : decode cX1_countMismatches 22 = .ok (.iload_n 1, 1) := by decide +kernel
theorem dX1_countMismatches_23 : decode cX1_countMismatches 23 = .ok (.iload_n 3, 1) := by decide +kernel
theorem dX1_countMismatches_24 : decode cX1_countMismatches 24 = .ok (.iadd, 1) := by decide +kernel
theorem dX1_countMismatches_25 : decode cX1_countMismatches 25 = .ok (.iaload, 1) := by decide +kernel
theorem dX1_countMismatches_26 : decode cX1_countMismatches 26 = .ok (.invokestatic 108, 3) := by decide +kernel
theorem dX1_countMismatches_29 : decode cX1_countMismatches 29 = .ok (.ifCond .ne 6, 3) := by decide +kernel
theorem dX1_countMismatches_32 : decode cX1_countMismatches 32 = .ok (.iinc 2 1, 3) := by decide +kernel
theorem dX1_countMismatches_35 : decode cX1_countMismatches 35 = .ok (.iinc 3 1, 3) := by decide +kernel
theorem dX1_countMismatches_38 : decode cX1_countMismatches 38 = .ok (.goto (-34), 3) := by decide +kernel
theorem dX1_countMismatches_41 : decode cX1_countMismatches 41 = .ok (.iload_n 2, 1) := by decide +kernel
theorem dX1_countMismatches_42 : decode cX1_countMismatches 42 = .ok (.ireturn, 1) := by decide +kernel
set_option maxRecDepth 20000 in
theorem ggX1_firstMismatch_X1_agree : GoodIn wsX1_firstMismatch wsX1_agree := goodIn_r _ [7] (by decide +kernel) (by decide +kernel)
set_option maxRecDepth 20000 in
theorem gX1_firstMismatch_X1_agree : GoodIn wsX1_firstMismatch (va_wsS RX1 108 yX1_agree wsX1_agree) := goodIn_app (goodIn_of _ (by decide +kernel)) ggX1_firstMismatch_X1_agree
theorem dX1_firstMismatch_0 : decode cX1_firstMismatch 0 = .ok (.iload_n 2, 1) := by decide +kernel
theorem dX1_firstMismatch_1 : decode cX1_firstMismatch 1 = .ok (.istore_n 3, 1) := by decide +kernel
theorem dX1_firstMismatch_2 : decode cX1_firstMismatch 2 = .ok (.iload_n 3, 1) := by decide +kernel
theorem dX1_firstMismatch_3 : decode cX1_firstMismatch 3 = .ok (.aload_n 0, 1) := by decide +kernel
theorem dX1_firstMismatch_4 : decode cX1_firstMismatch 4 = .ok (.getfield 23, 3) := by decide +kernel
theorem dX1_firstMismatch_7 : decode cX1_firstMismatch 7 = .ok (.if_icmp .ge 31, 3) := by decide +kernel
theorem dX1_firstMismatch_10 : decode cX1_firstMismatch 10 = .ok (.aload_n 0, 1) := by decide +kernel
theorem dX1_firstMismatch_11 : decode cX1_firstMismatch 11 = .ok (.getfield 13, 3) := by decide +kernel
theorem dX1_firstMismatch_14 : decode cX1_firstMismatch 14 = .ok (.iload_n 3, 1) := by decide +kernel
theorem dX1_firstMismatch_15 : decode cX1_firstMismatch 15 = .ok (.iaload, 1) := by decide +kernel
theorem dX1_firstMismatch_16 : decode cX1_firstMismatch 16 = .ok (.aload_n 0, 1) := by decide +kernel
theorem dX1_firstMismatch_17 : decode cX1_firstMismatch 17 = .ok (.getfield 9, 3) := by decide +kernel
theorem dX1_firstMismatch_20 : decode cX1_firstMismatch 20 = .ok (.iload_n 1, 1) := by decide +kernel
theorem dX1_firstMismatch_21 : decode cX1_firstMismatch 21 = .ok (.iload_n 3, 1) := by decide +kernel
theorem dX1_firstMismatch_22 : decode cX1_firstMismatch 22 = .ok (.iadd, 1) := by decide +kernel
theorem dX1_firstMismatch_23 : decode cX1_firstMismatch 23 = .ok (.iaload, 1) := by decide +kernel
theorem dX1_firstMismatch_24 : decode cX1_firstMismatch 24 = .ok (.invokestatic 108, 3) := by decide +kernel
theorem dX1_firstMismatch_27 : decode cX1_firstMismatch 27 = .ok (.ifCond .ne 5, 3) := by decide +kernel
theorem dX1_firstMismatch_30 : decode cX1_firstMismatch 30 = .ok (.iload_n 3, 1) := by decide +kernel
theorem dX1_firstMismatch_31 : decode cX1_firstMismatch 31 = .ok (.ireturn, 1) := by decide +kernel
theorem dX1_firstMismatch_32 : decode cX1_firstMismatch 32 = .ok (.iinc 3 1, 3) := by decide +kernel
theorem dX1_firstMismatch_35 : decode cX1_firstMismatch 35 = .ok (.goto (-33), 3) := by decide +kernel
theorem dX1_firstMismatch_38 : decode cX1_firstMismatch 38 = .ok (.iconst (-1), 1) := by decide +kernel
theorem dX1_firstMismatch_39 : decode cX1_firstMismatch 39 = .ok (.ireturn, 1) := by decide +kernel
theorem dX1_placeOfRank_0 : decode cX1_placeOfRank 0 = .ok (.iconst 0, 1) := by decide +kernel
theorem dX1_placeOfRank_1 : decode cX1_placeOfRank 1 = .ok (.istore_n 3, 1) := by decide +kernel
theorem dX1_placeOfRank_2 : decode cX1_placeOfRank 2 = .ok (.iconst 0, 1) := by decide +kernel
theorem dX1_placeOfRank_3 : decode cX1_placeOfRank 3 = .ok (.istore 4, 2) := by decide +kernel
theorem dX1_placeOfRank_5 : decode cX1_placeOfRank 5 = .ok (.iload 4, 2) := by decide +kernel
theorem dX1_placeOfRank_7 : decode cX1_placeOfRank 7 = .ok (.aload_n 0, 1) := by decide +kernel
theorem dX1_placeOfRank_8 : decode cX1_placeOfRank 8 = .ok (.getfield 23, 3) := by decide +kernel
theorem dX1_placeOfRank_11 : decode cX1_placeOfRank 11 = .ok (.if_icmp .gt 47, 3) := by decide +kernel
theorem dX1_placeOfRank_14 : decode cX1_placeOfRank 14 = .ok (.iconst 0, 1) := by decide +kernel
theorem dX1_placeOfRank_15 : decode cX1_placeOfRank 15 = .ok (.istore 5, 2) := by decide +kernel
theorem dX1_placeOfRank_17 : decode cX1_placeOfRank 17 = .ok (.iload 5, 2) := by decide +kernel
theorem dX1_placeOfRank_19 : decode cX1_placeOfRank 19 = .ok (.iload_n 2, 1) := by decide +kernel
theorem dX1_placeOfRank_20 : decode cX1_placeOfRank 20 = .ok (.if_icmp .ge 32, 3) := by decide +kernel
theorem dX1_placeOfRank_23 : decode cX1_placeOfRank 23 = .ok (.aload_n 0, 1) := by decide +kernel
theorem dX1_placeOfRank_24 : decode cX1_placeOfRank 24 = .ok (.getfield 16, 3) := by decide +kernel
theorem dX1_placeOfRank_27 : decode cX1_placeOfRank 27 = .ok (.iload 5, 2) := by decide +kernel
theorem dX1_placeOfRank_29 : decode cX1_placeOfRank 29 = .ok (.iaload, 1) := by decide +kernel
theorem dX1_placeOfRank_30 : decode cX1_placeOfRank 30 = .ok (.iload 4, 2) := by decide +kernel
theorem dX1_placeOfRank_32 : decode cX1_placeOfRank 32 = .ok (.if_icmp .ne 14, 3) := by decide +kernel
theorem dX1_placeOfRank_35 : decode cX1_placeOfRank 35 = .ok (.iload_n 3, 1) := by decide +kernel
theorem dX1_placeOfRank_36 : decode cX1_placeOfRank 36 = .ok (.iload_n 1, 1) := by decide +kernel
theorem dX1_placeOfRank_37 : decode cX1_placeOfRank 37 = .ok (.if_icmp .ne 6, 3) := by decide +kernel
theorem dX1_placeOfRank_40 : decode cX1_placeOfRank 40 = .ok (.iload 5, 2) := by decide +kernel
theorem dX1_placeOfRank_42 : decode cX1_placeOfRank 42 = .ok (.ireturn, 1) := by decide +kernel
theorem dX1_placeOfRank_43 : decode cX1_placeOfRank 43 = .ok (.iinc 3 1, 3) := by decide +kernel
theorem dX1_placeOfRank_46 : decode cX1_placeOfRank 46 = .ok (.iinc 5 1, 3) := by decide +kernel
theorem dX1_placeOfRank_49 : decode cX1_placeOfRank 49 = .ok (.goto (-32), 3) := by decide +kernel
theorem dX1_placeOfRank_52 : decode cX1_placeOfRank 52 = .ok (.iinc 4 1, 3) := by decide +kernel
theorem dX1_placeOfRank_55 : decode cX1_placeOfRank 55 = .ok (.goto (-50), 3) := by decide +kernel
theorem dX1_placeOfRank_58 : decode cX1_placeOfRank 58 = .ok (.iconst (-1), 1) := by decide +kernel
theorem dX1_placeOfRank_59 : decode cX1_placeOfRank 59 = .ok (.ireturn, 1) := by decide +kernel
set_option maxRecDepth 20000 in
theorem ggX1_countLetter_X1_places : GoodIn wsX1_countLetter wsX1_places := goodIn_r _ [6, 7, 8, 9, 10, 11, 12, 13] (by decide +kernel) (by decide +kernel)
set_option maxRecDepth 20000 in
theorem gX1_countLetter_X1_places : GoodIn wsX1_countLetter (wsV RX1 89 RX1 yX1_places wsX1_places) := goodIn_app (goodIn_of _ (by decide +kernel)) ggX1_countLetter_X1_places
theorem dX1_countLetter_0 : decode cX1_countLetter 0 = .ok (.iload_n 1, 1) := by decide +kernel
theorem dX1_countLetter_1 : decode cX1_countLetter 1 = .ok (.aload_n 0, 1) := by decide +kernel
theorem dX1_countLetter_2 : decode cX1_countLetter 2 = .ok (.invokevirtual 89, 3) := by decide +kernel
theorem dX1_countLetter_5 : decode cX1_countLetter 5 = .ok (.iadd, 1) := by decide +kernel
theorem dX1_countLetter_6 : decode cX1_countLetter 6 = .ok (.istore_n 3, 1) := by decide +kernel
theorem dX1_countLetter_7 : decode cX1_countLetter 7 = .ok (.iconst 0, 1) := by decide +kernel
theorem dX1_countLetter_8 : decode cX1_countLetter 8 = .ok (.istore 4, 2) := by decide +kernel
theorem dX1_countLetter_10 : decode cX1_countLetter 10 = .ok (.iload_n 1, 1) := by decide +kernel
theorem dX1_countLetter_11 : decode cX1_countLetter 11 = .ok (.istore 5, 2) := by decide +kernel
theorem dX1_countLetter_13 : decode cX1_countLetter 13 = .ok (.iload 5, 2) := by decide +kernel
theorem dX1_countLetter_15 : decode cX1_countLetter 15 = .ok (.iload_n 3, 1) := by decide +kernel
theorem dX1_countLetter_16 : decode cX1_countLetter 16 = .ok (.if_icmp .ge 23, 3) := by decide +kernel
theorem dX1_countLetter_19 : decode cX1_countLetter 19 = .ok (.aload_n 0, 1) := by decide +kernel
theorem dX1_countLetter_20 : decode cX1_countLetter 20 = .ok (.getfield 9, 3) := by decide +kernel
theorem dX1_countLetter_23 : decode cX1_countLetter 23 = .ok (.iload 5, 2) := by decide +kernel
theorem dX1_countLetter_25 : decode cX1_countLetter 25 = .ok (.iaload, 1) := by decide +kernel
theorem dX1_countLetter_26 : decode cX1_countLetter 26 = .ok (.iload_n 2, 1) := by decide +kernel
theorem dX1_countLetter_27 : decode cX1_countLetter 27 = .ok (.if_icmp .ne 6, 3) := by decide +kernel
theorem dX1_countLetter_30 : decode cX1_countLetter 30 = .ok (.iinc 4 1, 3) := by decide +kernel
theorem dX1_countLetter_33 : decode cX1_countLetter 33 = .ok (.iinc 5 1, 3) := by decide +kernel
theorem dX1_countLetter_36 : decode cX1_countLetter 36 = .ok (.goto (-23), 3) := by decide +kernel
theorem dX1_countLetter_39 : decode cX1_countLetter 39 = .ok (.iload 4, 2) := by decide +kernel
theorem dX1_countLetter_41 : decode cX1_countLetter 41 = .ok (.ireturn, 1) := by decide +kernel
theorem dX1_blanksInPattern_0 : decode cX1_blanksInPattern 0 = .ok (.iconst 0, 1) := by decide +kernel
theorem dX1_blanksInPattern_1 : decode cX1_blanksInPattern 1 = .ok (.istore_n 1, 1) := by decide +kernel
theorem dX1_blanksInPattern_2 : decode cX1_blanksInPattern 2 = .ok (.iconst 0, 1) := by decide +kernel
theorem dX1_blanksInPattern_3 : decode cX1_blanksInPattern 3 = .ok (.istore_n 2, 1) := by decide +kernel
theorem dX1_blanksInPattern_4 : decode cX1_blanksInPattern 4 = .ok (.iload_n 2, 1) := by decide +kernel
theorem dX1_blanksInPattern_5 : decode cX1_blanksInPattern 5 = .ok (.aload_n 0, 1) := by decide +kernel
theorem dX1_blanksInPattern_6 : decode cX1_blanksInPattern 6 = .ok (.getfield 23, 3) := by decide +kernel
theorem dX1_blanksInPattern_9 : decode cX1_blanksInPattern 9 = .ok (.if_icmp .ge 21, 3) := by decide +kernel
theorem dX1_blanksInPattern_12 : decode cX1_blanksInPattern 12 = .ok (.aload_n 0, 1) := by decide +kernel
theorem dX1_blanksInPattern_13 : decode cX1_blanksInPattern 13 = .ok (.getfield 13, 3) := by decide +kernel
theorem dX1_blanksInPattern_16 : decode cX1_blanksInPattern 16 = .ok (.iload_n 2, 1) := by decide +kernel
theorem dX1_blanksInPattern_17 : decode cX1_blanksInPattern 17 = .ok (.iaload, 1) := by decide +kernel
theorem dX1_blanksInPattern_18 : decode cX1_blanksInPattern 18 = .ok (.ifCond .ne 6, 3) := by decide +kernel
theorem dX1_blanksInPattern_21 : decode cX1_blanksInPattern 21 = .ok (.iinc 1 1, 3) := by decide +kernel
theorem dX1_blanksInPattern_24 : decode cX1_blanksInPattern 24 = .ok (.iinc 2 1, 3) := by decide +kernel
theorem dX1_blanksInPattern_27 : decode cX1_blanksInPattern 27 = .ok (.goto (-23), 3) := by decide +kernel
theorem dX1_blanksInPattern_30 : decode cX1_blanksInPattern 30 = .ok (.iload_n 1, 1) := by decide +kernel
theorem dX1_blanksInPattern_31 : decode cX1_blanksInPattern 31 = .ok (.ireturn, 1) := by decide +kernel
set_option maxRecDepth 20000 in
theorem ggX1_repeatsAfter_X1_agree : GoodIn wsX1_repeatsAfter wsX1_agree := goodIn_r _ [6] (by decide +kernel) (by decide +kernel)
set_option maxRecDepth 20000 in
theorem gX1_repeatsAfter_X1_agree : GoodIn wsX1_repeatsAfter (va_wsS RX1 108 yX1_agree wsX1_agree) := goodIn_app (goodIn_of _ (by decide +kernel)) ggX1_repeatsAfter_X1_agree
theorem dX1_repeatsAfter_0 : decode cX1_repeatsAfter 0 = .ok (.iconst 0, 1) := by decide +kernel
theorem dX1_repeatsAfter_1 : decode cX1_repeatsAfter 1 = .ok (.istore_n 2, 1) := by decide +kernel
theorem dX1_repeatsAfter_2 : decode cX1_repeatsAfter 2 = .ok (.iload_n 2, 1) := by decide +kernel
theorem dX1_repeatsAfter_3 : decode cX1_repeatsAfter 3 = .ok (.aload_n 0, 1) := by decide +kernel
theorem dX1_repeatsAfter_4 : decode cX1_repeatsAfter 4 = .ok (.getfield 19, 3) := by decide +kernel
theorem dX1_repeatsAfter_7 : decode cX1_repeatsAfter 7 = .ok (.iload_n 1, 1) := by decide +kernel
theorem dX1_repeatsAfter_8 : decode cX1_repeatsAfter 8 = .ok (.isub, 1) := by decide +kernel
theorem dX1_repeatsAfter_9 : decode cX1_repeatsAfter 9 = .ok (.if_icmp .ge 31, 3) := by decide +kernel
theorem dX1_repeatsAfter_12 : decode cX1_repeatsAfter 12 = .ok (.aload_n 0, 1) := by decide +kernel
theorem dX1_repeatsAfter_13 : decode cX1_repeatsAfter 13 = .ok (.getfield 9, 3) := by decide +kernel
theorem dX1_repeatsAfter_16 : decode cX1_repeatsAfter 16 = .ok (.iload_n 2, 1) := by decide +kernel
theorem dX1_repeatsAfter_17 : decode cX1_repeatsAfter 17 = .ok (.iaload, 1) := by decide +kernel
theorem dX1_repeatsAfter_18 : decode cX1_repeatsAfter 18 = .ok (.aload_n 0, 1) := by decide +kernel
theorem dX1_repeatsAfter_19 : decode cX1_repeatsAfter 19 = .ok (.getfield 9, 3) := by decide +kernel
theorem dX1_repeatsAfter_22 : decode cX1_repeatsAfter 22 = .ok (.iload_n 2, 1) := by decide +kernel
theorem dX1_repeatsAfter_23 : decode cX1_repeatsAfter 23 = .ok (.iload_n 1, 1) := by decide +kernel
theorem dX1_repeatsAfter_24 : decode cX1_repeatsAfter 24 = .ok (.iadd, 1) := by decide +kernel
theorem dX1_repeatsAfter_25 : decode cX1_repeatsAfter 25 = .ok (.iaload, 1) := by decide +kernel
theorem dX1_repeatsAfter_26 : decode cX1_repeatsAfter 26 = .ok (.invokestatic 108, 3) := by decide +kernel
theorem dX1_repeatsAfter_29 : decode cX1_repeatsAfter 29 = .ok (.ifCond .ne 5, 3) := by decide +kernel
theorem dX1_repeatsAfter_32 : decode cX1_repeatsAfter 32 = .ok (.iconst 0, 1) := by decide +kernel
theorem dX1_repeatsAfter_33 : decode cX1_repeatsAfter 33 = .ok (.ireturn, 1) := by decide +kernel
theorem dX1_repeatsAfter_34 : decode cX1_repeatsAfter 34 = .ok (.iinc 2 1, 3) := by decide +kernel
theorem dX1_repeatsAfter_37 : decode cX1_repeatsAfter 37 = .ok (.goto (-35), 3) := by decide +kernel
theorem dX1_repeatsAfter_40 : decode cX1_repeatsAfter 40 = .ok (.iconst 1, 1) := by decide +kernel
theorem dX1_repeatsAfter_41 : decode cX1_repeatsAfter 41 = .ok (.ireturn, 1) := by decide +kernel
theorem dX2_init_0 : decode cX2_init 0 = .ok (.aload_n 0, 1) := by decide +kernel
theorem dX2_init_1 : decode cX2_init 1 = .ok (.invokespecial 1, 3) := by decide +kernel
theorem dX2_init_4 : decode cX2_init 4 = .ok (.aload_n 0, 1) := by decide +kernel
theorem dX2_init_5 : decode cX2_init 5 = .ok (.bipush 64, 2) := by decide +kernel
theorem dX2_init_7 : decode cX2_init 7 = .ok (.newarray .int, 2) := by decide +kernel
theorem dX2_init_9 : decode cX2_init 9 = .ok (.putfield 7, 3) := by decide +kernel
theorem dX2_init_12 : decode cX2_init 12 = .ok (.aload_n 0, 1) := by decide +kernel
theorem dX2_init_13 : decode cX2_init 13 = .ok (.bipush 24, 2) := by decide +kernel
theorem dX2_init_15 : decode cX2_init 15 = .ok (.newarray .int, 2) := by decide +kernel
theorem dX2_init_17 : decode cX2_init 17 = .ok (.putfield 13, 3) := by decide +kernel
theorem dX2_init_20 : decode cX2_init 20 = .ok (.return_, 1) := by decide +kernel
theorem dX2_thrown_0 : decode cX2_thrown 0 = .ok (.aload_n 0, 1) := by decide +kernel
theorem dX2_thrown_1 : decode cX2_thrown 1 = .ok (.getfield 16, 3) := by decide +kernel
theorem dX2_thrown_4 : decode cX2_thrown 4 = .ok (.ireturn, 1) := by decide +kernel
theorem dX2_goesWell_0 : decode cX2_goesWell 0 = .ok (.aload_n 0, 1) := by decide +kernel
theorem dX2_goesWell_1 : decode cX2_goesWell 1 = .ok (.iload_n 1, 1) := by decide +kernel
theorem dX2_goesWell_2 : decode cX2_goesWell 2 = .ok (.putfield 16, 3) := by decide +kernel
theorem dX2_goesWell_5 : decode cX2_goesWell 5 = .ok (.iload_n 1, 1) := by decide +kernel
theorem dX2_goesWell_6 : decode cX2_goesWell 6 = .ok (.ifCond .ne 7, 3) := by decide +kernel
theorem dX2_goesWell_9 : decode cX2_goesWell 9 = .ok (.iconst 1, 1) := by decide +kernel
theorem dX2_goesWell_10 : decode cX2_goesWell 10 = .ok (.goto 4, 3) := by decide +kernel
theorem dX2_goesWell_13 : decode cX2_goesWell 13 = .ok (.iconst 0, 1) := by decide +kernel
theorem dX2_goesWell_14 : decode cX2_goesWell 14 = .ok (.ireturn, 1) := by decide +kernel
theorem dX2_isSymbol_0 : decode cX2_isSymbol 0 = .ok (.iload_n 0, 1) := by decide +kernel
theorem dX2_isSymbol_1 : decode cX2_isSymbol 1 = .ok (.ifCond .lt 13, 3) := by decide +kernel
theorem dX2_isSymbol_4 : decode cX2_isSymbol 4 = .ok (.iload_n 0, 1) := by decide +kernel
theorem dX2_isSymbol_5 : decode cX2_isSymbol 5 = .ok (.bipush 26, 2) := by decide +kernel
theorem dX2_isSymbol_7 : decode cX2_isSymbol 7 = .ok (.if_icmp .gt 7, 3) := by decide +kernel
theorem dX2_isSymbol_10 : decode cX2_isSymbol 10 = .ok (.iconst 1, 1) := by decide +kernel
theorem dX2_isSymbol_11 : decode cX2_isSymbol 11 = .ok (.goto 4, 3) := by decide +kernel
theorem dX2_isSymbol_14 : decode cX2_isSymbol 14 = .ok (.iconst 0, 1) := by decide +kernel
theorem dX2_isSymbol_15 : decode cX2_isSymbol 15 = .ok (.ireturn, 1) := by decide +kernel
set_option maxRecDepth 20000 in
theorem ggX2_appendText_X2_isSymbol : GoodIn wsX2_appendText wsX2_isSymbol := goodIn_r _ [6] (by decide +kernel) (by decide +kernel)
set_option maxRecDepth 20000 in
theorem gX2_appendText_X2_isSymbol : GoodIn wsX2_appendText (va_wsS RX2 20 yX2_isSymbol wsX2_isSymbol) := goodIn_app (goodIn_of _ (by decide +kernel)) ggX2_appendText_X2_isSymbol
set_option maxRecDepth 20000 in
theorem ggX2_appendText_X2_goesWell : GoodIn wsX2_appendText wsX2_goesWell := goodIn_r _ [10, 11, 12, 13, 14, 15, 16] (by decide +kernel) (by decide +kernel)
set_option maxRecDepth 20000 in
theorem gX2_appendText_X2_goesWell : GoodIn wsX2_appendText (wsV RX2 27 RX2 yX2_goesWell wsX2_goesWell) := goodIn_app (goodIn_of _ (by decide +kernel)) ggX2_appendText_X2_goesWell
theorem dX2_appendText_0 : decode cX2_appendText 0 = .ok (.aload_n 0, 1) := by decide +kernel
theorem dX2_appendText_1 : decode cX2_appendText 1 = .ok (.iload_n 1, 1) := by decide +kernel
theorem dX2_appendText_2 : decode cX2_appendText 2 = .ok (.invokestatic 20, 3) := by decide +kernel
theorem dX2_appendText_5 : decode cX2_appendText 5 = .ok (.ifCond .ne 7, 3) := by decide +kernel
theorem dX2_appendText_8 : decode cX2_appendText 8 = .ok (.iconst 1, 1) := by decide +kernel
theorem dX2_appendText_9 : decode cX2_appendText 9 = .ok (.goto 17, 3) := by decide +kernel
theorem dX2_appendText_12 : decode cX2_appendText 12 = .ok (.aload_n 0, 1) := by decide +kernel
theorem dX2_appendText_13 : decode cX2_appendText 13 = .ok (.getfield 24, 3) := by decide +kernel
theorem dX2_appendText_16 : decode cX2_appendText 16 = .ok (.bipush 64, 2) := by decide +kernel
theorem dX2_appendText_18 : decode cX2_appendText 18 = .ok (.if_icmp .ne 7, 3) := by decide +kernel
theorem dX2_appendText_21 : decode cX2_appendText 21 = .ok (.iconst 2, 1) := by decide +kernel
theorem dX2_appendText_22 : decode cX2_appendText 22 = .ok (.goto 4, 3) := by decide +kernel
theorem dX2_appendText_25 : decode cX2_appendText 25 = .ok (.iconst 0, 1) := by decide +kernel
theorem dX2_appendText_26 : decode cX2_appendText 26 = .ok (.invokevirtual 27, 3) := by decide +kernel
theorem dX2_appendText_29 : decode cX2_appendText 29 = .ok (.ifCond .ne 5, 3) := by decide +kernel
theorem dX2_appendText_32 : decode cX2_appendText 32 = .ok (.iconst 0, 1) := by decide +kernel
theorem dX2_appendText_33 : decode cX2_appendText 33 = .ok (.ireturn, 1) := by decide +kernel
theorem dX2_appendText_34 : decode cX2_appendText 34 = .ok (.aload_n 0, 1) := by decide +kernel
theorem dX2_appendText_35 : decode cX2_appendText 35 = .ok (.getfield 7, 3) := by decide +kernel
theorem dX2_appendText_38 : decode cX2_appendText 38 = .ok (.aload_n 0, 1) := by decide +kernel
theorem dX2_appendText_39 : decode cX2_appendText 39 = .ok (.getfield 24, 3) := by decide +kernel
theorem dX2_appendText_42 : decode cX2_appendText 42 = .ok (.iload_n 1, 1) := by decide +kernel
theorem dX2_appendText_43 : decode cX2_appendText 43 = .ok (.iastore, 1) := by decide +kernel
theorem dX2_appendText_44 : decode cX2_appendText 44 = .ok (.aload_n 0, 1) := by decide +kernel
theorem dX2_appendText_45 : decode cX2_appendText 45 = .ok (.dup, 1) := by decide +kernel
theorem dX2_appendText_46 : decode cX2_appendText 46 = .ok (.getfield 24, 3) := by decide +kernel
theorem dX2_appendText_49 : decode cX2_appendText 49 = .ok (.iconst 1, 1) := by decide +kernel
theorem dX2_appendText_50 : decode cX2_appendText 50 = .ok (.iadd, 1) := by decide +kernel
theorem dX2_appendText_51 : decode cX2_appendText 51 = .ok (.putfield 24, 3) := by decide +kernel
theorem dX2_appendText_54 : decode cX2_appendText 54 = .ok (.aload_n 0, 1) := by decide +kernel
theorem dX2_appendText_55 : decode cX2_appendText 55 = .ok (.getfield 24, 3) := by decide +kernel
theorem dX2_appendText_58 : decode cX2_appendText 58 = .ok (.ireturn, 1) := by decide +kernel
set_option maxRecDepth 20000 in
theorem ggX2_repeatText_X2_goesWell : GoodIn wsX2_repeatText wsX2_goesWell := goodIn_r _ [7, 8, 9, 10, 11, 12, 13] (by decide +kernel) (by decide +kernel)
set_option maxRecDepth 20000 in
theorem gX2_repeatText_X2_goesWell : GoodIn wsX2_repeatText (wsV RX2 27 RX2 yX2_goesWell wsX2_goesWell) := goodIn_app (goodIn_of _ (by decide +kernel)) ggX2_repeatText_X2_goesWell
theorem dX2_repeatText_0 : decode cX2_repeatText 0 = .ok (.iload_n 1, 1) := by decide +kernel
theorem dX2_repeatText_1 : decode cX2_repeatText 1 = .ok (.ifCond .lt 21, 3) := by decide +kernel
theorem dX2_repeatText_4 : decode cX2_repeatText 4 = .ok (.iload_n 1, 1) := by decide +kernel
theorem dX2_repeatText_5 : decode cX2_repeatText 5 = .ok (.i2l, 1) := by decide +kernel
theorem dX2_repeatText_6 : decode cX2_repeatText 6 = .ok (.iload_n 2, 1) := by decide +kernel
theorem dX2_repeatText_7 : decode cX2_repeatText 7 = .ok (.i2l, 1) := by decide +kernel
theorem dX2_repeatText_8 : decode cX2_repeatText 8 = .ok (.ladd, 1) := by decide +kernel
theorem dX2_repeatText_9 : decode cX2_repeatText 9 = .ok (.aload_n 0, 1) := by decide +kernel
theorem dX2_repeatText_10 : decode cX2_repeatText 10 = .ok (.getfield 24, 3) := by decide +kernel
theorem dX2_repeatText_13 : decode cX2_repeatText 13 = .ok (.i2l, 1) := by decide +kernel
theorem dX2_repeatText_14 : decode cX2_repeatText 14 = .ok (.lcmp, 1) := by decide +kernel
theorem dX2_repeatText_15 : decode cX2_repeatText 15 = .ok (.ifCond .gt 7, 3) := by decide +kernel
theorem dX2_repeatText_18 : decode cX2_repeatText 18 = .ok (.iconst 1, 1) := by decide +kernel
theorem dX2_repeatText_19 : decode cX2_repeatText 19 = .ok (.goto 4, 3) := by decide +kernel
theorem dX2_repeatText_22 : decode cX2_repeatText 22 = .ok (.iconst 0, 1) := by decide +kernel
theorem dX2_repeatText_23 : decode cX2_repeatText 23 = .ok (.istore_n 3, 1) := by decide +kernel
theorem dX2_repeatText_24 : decode cX2_repeatText 24 = .ok (.aload_n 0, 1) := by decide +kernel
theorem dX2_repeatText_25 : decode cX2_repeatText 25 = .ok (.iload_n 2, 1) := by decide +kernel
theorem dX2_repeatText_26 : decode cX2_repeatText 26 = .ok (.iconst 1, 1) := by decide +kernel
theorem dX2_repeatText_27 : decode cX2_repeatText 27 = .ok (.if_icmp .ge 7, 3) := by decide +kernel
theorem dX2_repeatText_30 : decode cX2_repeatText 30 = .ok (.iconst 1, 1) := by decide +kernel
theorem dX2_repeatText_31 : decode cX2_repeatText 31 = .ok (.goto 27, 3) := by decide +kernel
theorem dX2_repeatText_34 : decode cX2_repeatText 34 = .ok (.iload_n 3, 1) := by decide +kernel
theorem dX2_repeatText_35 : decode cX2_repeatText 35 = .ok (.ifCond .ne 7, 3) := by decide +kernel
theorem dX2_repeatText_38 : decode cX2_repeatText 38 = .ok (.iconst 2, 1) := by decide +kernel
theorem dX2_repeatText_39 : decode cX2_repeatText 39 = .ok (.goto 19, 3) := by decide +kernel
theorem dX2_repeatText_42 : decode cX2_repeatText 42 = .ok (.aload_n 0, 1) := by decide +kernel
theorem dX2_repeatText_43 : decode cX2_repeatText 43 = .ok (.getfield 24, 3) := by decide +kernel
theorem dX2_repeatText_46 : decode cX2_repeatText 46 = .ok (.iload_n 2, 1) := by decide +kernel
theorem dX2_repeatText_47 : decode cX2_repeatText 47 = .ok (.iadd, 1) := by decide +kernel
theorem dX2_repeatText_48 : decode cX2_repeatText 48 = .ok (.bipush 64, 2) := by decide +kernel
theorem dX2_repeatText_50 : decode cX2_repeatText 50 = .ok (.if_icmp .le 7, 3) := by decide +kernel
theorem dX2_repeatText_53 : decode cX2_repeatText 53 = .ok (.iconst 3, 1) := by decide +kernel
theorem dX2_repeatText_54 : decode cX2_repeatText 54 = .ok (.goto 4, 3) := by decide +kernel
theorem dX2_repeatText_57 : decode cX2_repeatText 57 = .ok (.iconst 0, 1) := by decide +kernel
theorem dX2_repeatText_58 : decode cX2_repeatText 58 = .ok (.invokevirtual 27, 3) := by decide +kernel
theorem dX2_repeatText_61 : decode cX2_repeatText 61 = .ok (.ifCond .ne 5, 3) := by decide +kernel
theorem dX2_repeatText_64 : decode cX2_repeatText 64 = .ok (.iconst 0, 1) := by decide +kernel
theorem dX2_repeatText_65 : decode cX2_repeatText 65 = .ok (.ireturn, 1) := by decide +kernel
theorem dX2_repeatText_66 : decode cX2_repeatText 66 = .ok (.iconst 0, 1) := by decide +kernel
theorem dX2_repeatText_67 : decode cX2_repeatText 67 = .ok (.istore 4, 2) := by decide +kernel
theorem dX2_repeatText_69 : decode cX2_repeatText 69 = .ok (.iload 4, 2) := by decide +kernel
theorem dX2_repeatText_71 : decode cX2_repeatText 71 = .ok (.iload_n 2, 1) := by decide +kernel
theorem dX2_repeatText_72 : decode cX2_repeatText 72 = .ok (.if_icmp .ge 37, 3) := by decide +kernel
theorem dX2_repeatText_75 : decode cX2_repeatText 75 = .ok (.aload_n 0, 1) := by decide +kernel
theorem dX2_repeatText_76 : decode cX2_repeatText 76 = .ok (.getfield 7, 3) := by decide +kernel
theorem dX2_repeatText_79 : decode cX2_repeatText 79 = .ok (.aload_n 0, 1) := by decide +kernel
theorem dX2_repeatText_80 : decode cX2_repeatText 80 = .ok (.getfield 24, 3) := by decide +kernel
theorem dX2_repeatText_83 : decode cX2_repeatText 83 = .ok (.aload_n 0, 1) := by decide +kernel
theorem dX2_repeatText_84 : decode cX2_repeatText 84 = .ok (.getfield 7, 3) := by decide +kernel
theorem dX2_repeatText_87 : decode cX2_repeatText 87 = .ok (.iload_n 1, 1) := by decide +kernel
theorem dX2_repeatText_88 : decode cX2_repeatText 88 = .ok (.iload 4, 2) := by decide +kernel
theorem dX2_repeatText_90 : decode cX2_repeatText 90 = .ok (.iadd, 1) := by decide +kernel
theorem dX2_repeatText_91 : decode cX2_repeatText 91 = .ok (.iaload, 1) := by decide +kernel
theorem dX2_repeatText_92 : decode cX2_repeatText 92 = .ok (.iastore, 1) := by decide +kernel
theorem dX2_repeatText_93 : decode cX2_repeatText 93 = .ok (.aload_n 0, 1) := by decide +kernel
theorem dX2_repeatText_94 : decode cX2_repeatText 94 = .ok (.dup, 1) := by decide +kernel
theorem dX2_repeatText_95 : decode cX2_repeatText 95 = .ok (.getfield 24, 3) := by decide +kernel
theorem dX2_repeatText_98 : decode cX2_repeatText 98 = .ok (.iconst 1, 1) := by decide +kernel
theorem dX2_repeatText_99 : decode cX2_repeatText 99 = .ok (.iadd, 1) := by decide +kernel
theorem dX2_repeatText_100 : decode cX2_repeatText 100 = .ok (.putfield 24, 3) := by decide +kernel
theorem dX2_repeatText_103 : decode cX2_repeatText 103 = .ok (.iinc 4 1, 3) := by decide +kernel
theorem dX2_repeatText_106 : decode cX2_repeatText 106 = .ok (.goto (-37), 3) := by decide +kernel
theorem dX2_repeatText_109 : decode cX2_repeatText 109 = .ok (.aload_n 0, 1) := by decide +kernel
theorem dX2_repeatText_110 : decode cX2_repeatText 110 = .ok (.getfield 24, 3) := by decide +kernel
theorem dX2_repeatText_113 : decode cX2_repeatText 113 = .ok (.ireturn, 1) := by decide +kernel
set_option maxRecDepth 20000 in
theorem ggX2_setText_X2_isSymbol : GoodIn wsX2_setText wsX2_isSymbol := goodIn_r _ [6] (by decide +kernel) (by decide +kernel)
set_option maxRecDepth 20000 in
theorem gX2_setText_X2_isSymbol : GoodIn wsX2_setText (va_wsS RX2 20 yX2_isSymbol wsX2_isSymbol) := goodIn_app (goodIn_of _ (by decide +kernel)) ggX2_setText_X2_isSymbol
set_option maxRecDepth 20000 in
theorem ggX2_setText_X2_goesWell : GoodIn wsX2_setText wsX2_goesWell := goodIn_r _ [10, 11, 12, 13, 14, 15, 16] (by decide +kernel) (by decide +kernel)
set_option maxRecDepth 20000 in
theorem gX2_setText_X2_goesWell : GoodIn wsX2_setText (wsV RX2 27 RX2 yX2_goesWell wsX2_goesWell) := goodIn_app (goodIn_of _ (by decide +kernel)) ggX2_setText_X2_goesWell
theorem dX2_setText_0 : decode cX2_setText 0 = .ok (.aload_n 0, 1) := by decide +kernel
theorem dX2_setText_1 : decode cX2_setText 1 = .ok (.iload_n 1, 1) := by decide +kernel
theorem dX2_setText_2 : decode cX2_setText 2 = .ok (.ifCond .lt 11, 3) := by decide +kernel
theorem dX2_setText_5 : decode cX2_setText 5 = .ok (.iload_n 1, 1) := by decide +kernel
theorem dX2_setText_6 : decode cX2_setText 6 = .ok (.aload_n 0, 1) := by decide +kernel
theorem dX2_setText_7 : decode cX2_setText 7 = .ok (.getfield 24, 3) := by decide +kernel
theorem dX2_setText_10 : decode cX2_setText 10 = .ok (.if_icmp .lt 7, 3) := by decide +kernel
theorem dX2_setText_13 : decode cX2_setText 13 = .ok (.iconst 1, 1) := by decide +kernel
theorem dX2_setText_14 : decode cX2_setText 14 = .ok (.goto 15, 3) := by decide +kernel
theorem dX2_setText_17 : decode cX2_setText 17 = .ok (.iload_n 2, 1) := by decide +kernel
theorem dX2_setText_18 : decode cX2_setText 18 = .ok (.invokestatic 20, 3) := by decide +kernel
theorem dX2_setText_21 : decode cX2_setText 21 = .ok (.ifCond .eq 7, 3) := by decide +kernel
theorem dX2_setText_24 : decode cX2_setText 24 = .ok (.iconst 0, 1) := by decide +kernel
theorem dX2_setText_25 : decode cX2_setText 25 = .ok (.goto 4, 3) := by decide +kernel
theorem dX2_setText_28 : decode cX2_setText 28 = .ok (.iconst 2, 1) := by decide +kernel
theorem dX2_setText_29 : decode cX2_setText 29 = .ok (.invokevirtual 27, 3) := by decide +kernel
theorem dX2_setText_32 : decode cX2_setText 32 = .ok (.ifCond .ne 5, 3) := by decide +kernel
theorem dX2_setText_35 : decode cX2_setText 35 = .ok (.iconst 0, 1) := by decide +kernel
theorem dX2_setText_36 : decode cX2_setText 36 = .ok (.ireturn, 1) := by decide +kernel
theorem dX2_setText_37 : decode cX2_setText 37 = .ok (.aload_n 0, 1) := by decide +kernel
theorem dX2_setText_38 : decode cX2_setText 38 = .ok (.getfield 7, 3) := by decide +kernel
theorem dX2_setText_41 : decode cX2_setText 41 = .ok (.iload_n 1, 1) := by decide +kernel
theorem dX2_setText_42 : decode cX2_setText 42 = .ok (.iaload, 1) := by decide +kernel
theorem dX2_setText_43 : decode cX2_setText 43 = .ok (.istore_n 3, 1) := by decide +kernel
theorem dX2_setText_44 : decode cX2_setText 44 = .ok (.aload_n 0, 1) := by decide +kernel
theorem dX2_setText_45 : decode cX2_setText 45 = .ok (.getfield 7, 3) := by decide +kernel
theorem dX2_setText_48 : decode cX2_setText 48 = .ok (.iload_n 1, 1) := by decide +kernel
theorem dX2_setText_49 : decode cX2_setText 49 = .ok (.iload_n 2, 1) := by decide +kernel
theorem dX2_setText_50 : decode cX2_setText 50 = .ok (.iastore, 1) := by decide +kernel
theorem dX2_setText_51 : decode cX2_setText 51 = .ok (.iload_n 3, 1) := by decide +kernel
theorem dX2_setText_52 : decode cX2_setText 52 = .ok (.ireturn, 1) := by decide +kernel
set_option maxRecDepth 20000 in
theorem ggX2_appendPattern_X2_isSymbol : GoodIn wsX2_appendPattern wsX2_isSymbol := goodIn_r _ [6] (by decide +kernel) (by decide +kernel)
set_option maxRecDepth 20000 in
theorem gX2_appendPattern_X2_isSymbol : GoodIn wsX2_appendPattern (va_wsS RX2 20 yX2_isSymbol wsX2_isSymbol) := goodIn_app (goodIn_of _ (by decide +kernel)) ggX2_appendPattern_X2_isSymbol
set_option maxRecDepth 20000 in
theorem ggX2_appendPattern_X2_goesWell : GoodIn wsX2_appendPattern wsX2_goesWell := goodIn_r _ [10, 11, 12, 13, 14, 15, 16] (by decide +kernel) (by decide +kernel)
set_option maxRecDepth 20000 in
theorem gX2_appendPattern_X2_goesWell : GoodIn wsX2_appendPattern (wsV RX2 27 RX2 yX2_goesWell wsX2_goesWell) := goodIn_app (goodIn_of _ (by decide +kernel)) ggX2_appendPattern_X2_goesWell
theorem dX2_appendPattern_0 : decode cX2_appendPattern 0 = .ok (.aload_n 0, 1) := by decide +kernel
theorem dX2_appendPattern_1 : decode cX2_appendPattern 1 = .ok (.iload_n 1, 1) := by decide +kernel
theorem dX2_appendPattern_2 : decode cX2_appendPattern 2 = .ok (.invokestatic 20, 3) := by decide +kernel
theorem dX2_appendPattern_5 : decode cX2_appendPattern 5 = .ok (.ifCond .ne 7, 3) := by decide +kernel
theorem dX2_appendPattern_8 : decode cX2_appendPattern 8 = .ok (.iconst 1, 1) := by decide +kernel
theorem dX2_appendPattern_9 : decode cX2_appendPattern 9 = .ok (.goto 17, 3) := by decide +kernel
theorem dX2_appendPattern_12 : decode cX2_appendPattern 12 = .ok (.aload_n 0, 1) := by decide +kernel
theorem dX2_appendPattern_13 : decode cX2_appendPattern 13 = .ok (.getfield 30, 3) := by decide +kernel
theorem dX2_appendPattern_16 : decode cX2_appendPattern 16 = .ok (.bipush 24, 2) := by decide +kernel
theorem dX2_appendPattern_18 : decode cX2_appendPattern 18 = .ok (.if_icmp .ne 7, 3) := by decide +kernel
theorem dX2_appendPattern_21 : decode cX2_appendPattern 21 = .ok (.iconst 2, 1) := by decide +kernel
theorem dX2_appendPattern_22 : decode cX2_appendPattern 22 = .ok (.goto 4, 3) := by decide +kernel
theorem dX2_appendPattern_25 : decode cX2_appendPattern 25 = .ok (.iconst 0, 1) := by decide +kernel
theorem dX2_appendPattern_26 : decode cX2_appendPattern 26 = .ok (.invokevirtual 27, 3) := by decide +kernel
theorem dX2_appendPattern_29 : decode cX2_appendPattern 29 = .ok (.ifCond .ne 5, 3) := by decide +kernel
theorem dX2_appendPattern_32 : decode cX2_appendPattern 32 = .ok (.iconst 0, 1) := by decide +kernel
theorem dX2_appendPattern_33 : decode cX2_appendPattern 33 = .ok (.ireturn, 1) := by decide +kernel
theorem dX2_appendPattern_34 : decode cX2_appendPattern 34 = .ok (.aload_n 0, 1) := by decide +kernel
theorem dX2_appendPattern_35 : decode cX2_appendPattern 35 = .ok (.getfield 13, 3) := by decide +kernel
theorem dX2_appendPattern_38 : decode cX2_appendPattern 38 = .ok (.aload_n 0, 1) := by decide +kernel
theorem dX2_appendPattern_39 : decode cX2_appendPattern 39 = .ok (.getfield 30, 3) := by decide +kernel
theorem dX2_appendPattern_42 : decode cX2_appendPattern 42 = .ok (.iload_n 1, 1) := by decide +kernel
theorem dX2_appendPattern_43 : decode cX2_appendPattern 43 = .ok (.iastore, 1) := by decide +kernel
theorem dX2_appendPattern_44 : decode cX2_appendPattern 44 = .ok (.aload_n 0, 1) := by decide +kernel
theorem dX2_appendPattern_45 : decode cX2_appendPattern 45 = .ok (.dup, 1) := by decide +kernel
theorem dX2_appendPattern_46 : decode cX2_appendPattern 46 = .ok (.getfield 30, 3) := by decide +kernel
theorem dX2_appendPattern_49 : decode cX2_appendPattern 49 = .ok (.iconst 1, 1) := by decide +kernel
theorem dX2_appendPattern_50 : decode cX2_appendPattern 50 = .ok (.iadd, 1) := by decide +kernel
theorem dX2_appendPattern_51 : decode cX2_appendPattern 51 = .ok (.putfield 30, 3) := by decide +kernel
theorem dX2_appendPattern_54 : decode cX2_appendPattern 54 = .ok (.aload_n 0, 1) := by decide +kernel
theorem dX2_appendPattern_55 : decode cX2_appendPattern 55 = .ok (.getfield 30, 3) := by decide +kernel
theorem dX2_appendPattern_58 : decode cX2_appendPattern 58 = .ok (.ireturn, 1) := by decide +kernel
theorem dX2_isInPattern_0 : decode cX2_isInPattern 0 = .ok (.iload_n 1, 1) := by decide +kernel
theorem dX2_isInPattern_1 : decode cX2_isInPattern 1 = .ok (.ifCond .lt 15, 3) := by decide +kernel
theorem dX2_isInPattern_4 : decode cX2_isInPattern 4 = .ok (.iload_n 1, 1) := by decide +kernel
theorem dX2_isInPattern_5 : decode cX2_isInPattern 5 = .ok (.aload_n 0, 1) := by decide +kernel
theorem dX2_isInPattern_6 : decode cX2_isInPattern 6 = .ok (.getfield 30, 3) := by decide +kernel
theorem dX2_isInPattern_9 : decode cX2_isInPattern 9 = .ok (.if_icmp .ge 7, 3) := by decide +kernel
theorem dX2_isInPattern_12 : decode cX2_isInPattern 12 = .ok (.iconst 1, 1) := by decide +kernel
theorem dX2_isInPattern_13 : decode cX2_isInPattern 13 = .ok (.goto 4, 3) := by decide +kernel
theorem dX2_isInPattern_16 : decode cX2_isInPattern 16 = .ok (.iconst 0, 1) := by decide +kernel
theorem dX2_isInPattern_17 : decode cX2_isInPattern 17 = .ok (.ireturn, 1) := by decide +kernel
set_option maxRecDepth 20000 in
theorem ggX2_setPattern_X2_isInPattern : GoodIn wsX2_setPattern wsX2_isInPattern := goodIn_r _ [6, 7, 16, 17, 18, 19, 20] (by decide +kernel) (by decide +kernel)
set_option maxRecDepth 20000 in
theorem gX2_setPattern_X2_isInPattern : GoodIn wsX2_setPattern (wsV RX2 33 RX2 yX2_isInPattern wsX2_isInPattern) := goodIn_app (goodIn_of _ (by decide +kernel)) ggX2_setPattern_X2_isInPattern
set_option maxRecDepth 20000 in
theorem ggX2_setPattern_X2_isSymbol : GoodIn wsX2_setPattern wsX2_isSymbol := goodIn_r _ [10] (by decide +kernel) (by decide +kernel)
set_option maxRecDepth 20000 in
theorem gX2_setPattern_X2_isSymbol : GoodIn wsX2_setPattern (va_wsS RX2 20 yX2_isSymbol wsX2_isSymbol) := goodIn_app (goodIn_of _ (by decide +kernel)) ggX2_setPattern_X2_isSymbol
set_option maxRecDepth 20000 in
theorem ggX2_setPattern_X2_goesWell : GoodIn wsX2_setPattern wsX2_goesWell := goodIn_r _ [14, 15, 16, 17, 18, 19, 20] (by decide +kernel) (by decide +kernel)
set_option maxRecDepth 20000 in
theorem gX2_setPattern_X2_goesWell : GoodIn wsX2_setPattern (wsV RX2 27 RX2 yX2_goesWell wsX2_goesWell) := goodIn_app (goodIn_of _ (by decide +kernel)) ggX2_setPattern_X2_goesWell
theorem dX2_setPattern_0 : decode cX2_setPattern 0 = .ok (.aload_n 0, 1) := by decide +kernel
theorem dX2_setPattern_1 : decode cX2_setPattern 1 = .ok (.aload_n 0, 1) := by decide +kernel
theorem dX2_setPattern_2 : decode cX2_setPattern 2 = .ok (.iload_n 1, 1) := by decide +kernel
theorem dX2_setPattern_3 : decode cX2_setPattern 3 = .ok (.invokevirtual 33, 3) := by decide +kernel
theorem dX2_setPattern_6 : decode cX2_setPattern 6 = .ok (.ifCond .ne 7, 3) := by decide +kernel
theorem dX2_setPattern_9 : decode cX2_setPattern 9 = .ok (.iconst 1, 1) := by decide +kernel
theorem dX2_setPattern_10 : decode cX2_setPattern 10 = .ok (.goto 15, 3) := by decide +kernel
theorem dX2_setPattern_13 : decode cX2_setPattern 13 = .ok (.iload_n 2, 1) := by decide +kernel
theorem dX2_setPattern_14 : decode cX2_setPattern 14 = .ok (.invokestatic 20, 3) := by decide +kernel
theorem dX2_setPattern_17 : decode cX2_setPattern 17 = .ok (.ifCond .eq 7, 3) := by decide +kernel
theorem dX2_setPattern_20 : decode cX2_setPattern 20 = .ok (.iconst 0, 1) := by decide +kernel
theorem dX2_setPattern_21 : decode cX2_setPattern 21 = .ok (.goto 4, 3) := by decide +kernel
theorem dX2_setPattern_24 : decode cX2_setPattern 24 = .ok (.iconst 2, 1) := by decide +kernel
theorem dX2_setPattern_25 : decode cX2_setPattern 25 = .ok (.invokevirtual 27, 3) := by decide +kernel
theorem dX2_setPattern_28 : decode cX2_setPattern 28 = .ok (.ifCond .ne 5, 3) := by decide +kernel
theorem dX2_setPattern_31 : decode cX2_setPattern 31 = .ok (.iconst 0, 1) := by decide +kernel
theorem dX2_setPattern_32 : decode cX2_setPattern 32 = .ok (.ireturn, 1) := by decide +kernel
theorem dX2_setPattern_33 : decode cX2_setPattern 33 = .ok (.aload_n 0, 1) := by decide +kernel
theorem dX2_setPattern_34 : decode cX2_setPattern 34 = .ok (.getfield 13, 3) := by decide +kernel
theorem dX2_setPattern_37 : decode cX2_setPattern 37 = .ok (.iload_n 1, 1) := by decide +kernel
theorem dX2_setPattern_38 : decode cX2_setPattern 38 = .ok (.iaload, 1) := by decide +kernel
theorem dX2_setPattern_39 : decode cX2_setPattern 39 = .ok (.istore_n 3, 1) := by decide +kernel
theorem dX2_setPattern_40 : decode cX2_setPattern 40 = .ok (.aload_n 0, 1) := by decide +kernel
theorem dX2_setPattern_41 : decode cX2_setPattern 41 = .ok (.getfield 13, 3) := by decide +kernel
theorem dX2_setPattern_44 : decode cX2_setPattern 44 = .ok (.iload_n 1, 1) := by decide +kernel
theorem dX2_setPattern_45 : decode cX2_setPattern 45 = .ok (.iload_n 2, 1) := by decide +kernel
theorem dX2_setPattern_46 : decode cX2_setPattern 46 = .ok (.iastore, 1) := by decide +kernel
theorem dX2_setPattern_47 : decode cX2_setPattern 47 = .ok (.iload_n 3, 1) := by decide +kernel
theorem dX2_setPattern_48 : decode cX2_setPattern 48 = .ok (.ireturn, 1) := by decide +kernel
set_option maxRecDepth 20000 in
theorem ggX2_takePattern_X2_goesWell : GoodIn wsX2_takePattern wsX2_goesWell := goodIn_r _ [9, 10, 11, 12, 13, 14, 15] (by decide +kernel) (by decide +kernel)
set_option maxRecDepth 20000 in
theorem gX2_takePattern_X2_goesWell : GoodIn wsX2_takePattern (wsV RX2 27 RX2 yX2_goesWell wsX2_goesWell) := goodIn_app (goodIn_of _ (by decide +kernel)) ggX2_takePattern_X2_goesWell
theorem dX2_takePattern_0 : decode cX2_takePattern 0 = .ok (.iload_n 1, 1) := by decide +kernel
theorem dX2_takePattern_1 : decode cX2_takePattern 1 = .ok (.ifCond .lt 21, 3) := by decide +kernel
theorem dX2_takePattern_4 : decode cX2_takePattern 4 = .ok (.iload_n 1, 1) := by decide +kernel
theorem dX2_takePattern_5 : decode cX2_takePattern 5 = .ok (.i2l, 1) := by decide +kernel
theorem dX2_takePattern_6 : decode cX2_takePattern 6 = .ok (.iload_n 2, 1) := by decide +kernel
theorem dX2_takePattern_7 : decode cX2_takePattern 7 = .ok (.i2l, 1) := by decide +kernel
theorem dX2_takePattern_8 : decode cX2_takePattern 8 = .ok (.ladd, 1) := by decide +kernel
theorem dX2_takePattern_9 : decode cX2_takePattern 9 = .ok (.aload_n 0, 1) := by decide +kernel
theorem dX2_takePattern_10 : decode cX2_takePattern 10 = .ok (.getfield 24, 3) := by decide +kernel
theorem dX2_takePattern_13 : decode cX2_takePattern 13 = .ok (.i2l, 1) := by decide +kernel
theorem dX2_takePattern_14 : decode cX2_takePattern 14 = .ok (.lcmp, 1) := by decide +kernel
theorem dX2_takePattern_15 : decode cX2_takePattern 15 = .ok (.ifCond .gt 7, 3) := by decide +kernel
theorem dX2_takePattern_18 : decode cX2_takePattern 18 = .ok (.iconst 1, 1) := by decide +kernel
theorem dX2_takePattern_19 : decode cX2_takePattern 19 = .ok (.goto 4, 3) := by decide +kernel
theorem dX2_takePattern_22 : decode cX2_takePattern 22 = .ok (.iconst 0, 1) := by decide +kernel
theorem dX2_takePattern_23 : decode cX2_takePattern 23 = .ok (.istore_n 3, 1) := by decide +kernel
theorem dX2_takePattern_24 : decode cX2_takePattern 24 = .ok (.aload_n 0, 1) := by decide +kernel
theorem dX2_takePattern_25 : decode cX2_takePattern 25 = .ok (.iload_n 2, 1) := by decide +kernel
theorem dX2_takePattern_26 : decode cX2_takePattern 26 = .ok (.ifCond .lt 9, 3) := by decide +kernel
theorem dX2_takePattern_29 : decode cX2_takePattern 29 = .ok (.iload_n 2, 1) := by decide +kernel
theorem dX2_takePattern_30 : decode cX2_takePattern 30 = .ok (.bipush 24, 2) := by decide +kernel
theorem dX2_takePattern_32 : decode cX2_takePattern 32 = .ok (.if_icmp .le 7, 3) := by decide +kernel
theorem dX2_takePattern_35 : decode cX2_takePattern 35 = .ok (.iconst 1, 1) := by decide +kernel
theorem dX2_takePattern_36 : decode cX2_takePattern 36 = .ok (.goto 12, 3) := by decide +kernel
theorem dX2_takePattern_39 : decode cX2_takePattern 39 = .ok (.iload_n 3, 1) := by decide +kernel
theorem dX2_takePattern_40 : decode cX2_takePattern 40 = .ok (.ifCond .eq 7, 3) := by decide +kernel
theorem dX2_takePattern_43 : decode cX2_takePattern 43 = .ok (.iconst 0, 1) := by decide +kernel
theorem dX2_takePattern_44 : decode cX2_takePattern 44 = .ok (.goto 4, 3) := by decide +kernel
theorem dX2_takePattern_47 : decode cX2_takePattern 47 = .ok (.iconst 2, 1) := by decide +kernel
theorem dX2_takePattern_48 : decode cX2_takePattern 48 = .ok (.invokevirtual 27, 3) := by decide +kernel
theorem dX2_takePattern_51 : decode cX2_takePattern 51 = .ok (.ifCond .ne 5, 3) := by decide +kernel
theorem dX2_takePattern_54 : decode cX2_takePattern 54 = .ok (.iconst 0, 1) := by decide +kernel
theorem dX2_takePattern_55 : decode cX2_takePattern 55 = .ok (.ireturn, 1) := by decide +kernel
theorem dX2_takePattern_56 : decode cX2_takePattern 56 = .ok (.aload_n 0, 1) := by decide +kernel
theorem dX2_takePattern_57 : decode cX2_takePattern 57 = .ok (.iload_n 2, 1) := by decide +kernel
theorem dX2_takePattern_58 : decode cX2_takePattern 58 = .ok (.putfield 30, 3) := by decide +kernel
theorem dX2_takePattern_61 : decode cX2_takePattern 61 = .ok (.iconst 0, 1) := by decide +kernel
theorem dX2_takePattern_62 : decode cX2_takePattern 62 = .ok (.istore 4, 2) := by decide +kernel
theorem dX2_takePattern_64 : decode cX2_takePattern 64 = .ok (.iconst 0, 1) := by decide +kernel
theorem dX2_takePattern_65 : decode cX2_takePattern 65 = .ok (.istore 5, 2) := by decide +kernel
end
section
theorem dX2_takePattern_67 : decode cX2_takePattern 67 = .ok (.iload 5, 2) := by decide +kernel
theorem dX2_takePattern_69 : decode cX2_takePattern 69 = .ok (.iload_n 2, 1) := by decide +kernel
theorem dX2_takePattern_70 : decode cX2_takePattern 70 = .ok (.if_icmp .ge 45, 3) := by decide +kernel
theorem dX2_takePattern_73 : decode cX2_takePattern 73 = .ok (.aload_n 0, 1) := by decide +kernel
theorem dX2_takePattern_74 : decode cX2_takePattern 74 = .ok (.getfield 13, 3) := by decide +kernel
theorem dX2_takePattern_77 : decode cX2_takePattern 77 = .ok (.iload 5, 2) := by decide +kernel
theorem dX2_takePattern_79 : decode cX2_takePattern 79 = .ok (.aload_n 0, 1) := by decide +kernel
theorem dX2_takePattern_80 : decode cX2_takePattern 80 = .ok (.getfield 7, 3) := by decide +kernel
theorem dX2_takePattern_83 : decode cX2_takePattern 83 = .ok (.iload_n 1, 1) := by decide +kernel
theorem dX2_takePattern_84 : decode cX2_takePattern 84 = .ok (.iload 5, 2) := by decide +kernel
theorem dX2_takePattern_86 : decode cX2_takePattern 86 = .ok (.iadd, 1) := by decide +kernel
theorem dX2_takePattern_87 : decode cX2_takePattern 87 = .ok (.iaload, 1) := by decide +kernel
theorem dX2_takePattern_88 : decode cX2_takePattern 88 = .ok (.iastore, 1) := by decide +kernel
theorem dX2_takePattern_89 : decode cX2_takePattern 89 = .ok (.iload 4, 2) := by decide +kernel
theorem dX2_takePattern_91 : decode cX2_takePattern 91 = .ok (.aload_n 0, 1) := by decide +kernel
theorem dX2_takePattern_92 : decode cX2_takePattern 92 = .ok (.getfield 13, 3) := by decide +kernel
theorem dX2_takePattern_95 : decode cX2_takePattern 95 = .ok (.iload 5, 2) := by decide +kernel
theorem dX2_takePattern_97 : decode cX2_takePattern 97 = .ok (.iaload, 1) := by decide +kernel
theorem dX2_takePattern_98 : decode cX2_takePattern 98 = .ok (.ifCond .ne 7, 3) := by decide +kernel
theorem dX2_takePattern_101 : decode cX2_takePattern 101 = .ok (.iconst 1, 1) := by decide +kernel
theorem dX2_takePattern_102 : decode cX2_takePattern 102 = .ok (.goto 4, 3) := by decide +kernel
theorem dX2_takePattern_105 : decode cX2_takePattern 105 = .ok (.iconst 0, 1) := by decide +kernel
theorem dX2_takePattern_106 : decode cX2_takePattern 106 = .ok (.iadd, 1) := by decide +kernel
theorem dX2_takePattern_107 : decode cX2_takePattern 107 = .ok (.istore 4, 2) := by decide +kernel
theorem dX2_takePattern_109 : decode cX2_takePattern 109 = .ok (.iinc 5 1, 3) := by decide +kernel
theorem dX2_takePattern_112 : decode cX2_takePattern 112 = .ok (.goto (-45), 3) := by decide +kernel
theorem dX2_takePattern_115 : decode cX2_takePattern 115 = .ok (.iload 4, 2) := by decide +kernel
theorem dX2_takePattern_117 : decode cX2_takePattern 117 = .ok (.ireturn, 1) := by decide +kernel
theorem dX2_clearText_0 : decode cX2_clearText 0 = .ok (.aload_n 0, 1) := by decide +kernel
theorem dX2_clearText_1 : decode cX2_clearText 1 = .ok (.iconst 0, 1) := by decide +kernel
theorem dX2_clearText_2 : decode cX2_clearText 2 = .ok (.putfield 16, 3) := by decide +kernel
theorem dX2_clearText_5 : decode cX2_clearText 5 = .ok (.aload_n 0, 1) := by decide +kernel
theorem dX2_clearText_6 : decode cX2_clearText 6 = .ok (.getfield 24, 3) := by decide +kernel
theorem dX2_clearText_9 : decode cX2_clearText 9 = .ok (.istore_n 1, 1) := by decide +kernel
theorem dX2_clearText_10 : decode cX2_clearText 10 = .ok (.aload_n 0, 1) := by decide +kernel
theorem dX2_clearText_11 : decode cX2_clearText 11 = .ok (.iconst 0, 1) := by decide +kernel
theorem dX2_clearText_12 : decode cX2_clearText 12 = .ok (.putfield 24, 3) := by decide +kernel
theorem dX2_clearText_15 : decode cX2_clearText 15 = .ok (.iload_n 1, 1) := by decide +kernel
theorem dX2_clearText_16 : decode cX2_clearText 16 = .ok (.ireturn, 1) := by decide +kernel
theorem dX2_clearPattern_0 : decode cX2_clearPattern 0 = .ok (.aload_n 0, 1) := by decide +kernel
theorem dX2_clearPattern_1 : decode cX2_clearPattern 1 = .ok (.iconst 0, 1) := by decide +kernel
theorem dX2_clearPattern_2 : decode cX2_clearPattern 2 = .ok (.putfield 16, 3) := by decide +kernel
theorem dX2_clearPattern_5 : decode cX2_clearPattern 5 = .ok (.aload_n 0, 1) := by decide +kernel
theorem dX2_clearPattern_6 : decode cX2_clearPattern 6 = .ok (.getfield 30, 3) := by decide +kernel
theorem dX2_clearPattern_9 : decode cX2_clearPattern 9 = .ok (.istore_n 1, 1) := by decide +kernel
theorem dX2_clearPattern_10 : decode cX2_clearPattern 10 = .ok (.aload_n 0, 1) := by decide +kernel
theorem dX2_clearPattern_11 : decode cX2_clearPattern 11 = .ok (.iconst 0, 1) := by decide +kernel
theorem dX2_clearPattern_12 : decode cX2_clearPattern 12 = .ok (.putfield 30, 3) := by decide +kernel
theorem dX2_clearPattern_15 : decode cX2_clearPattern 15 = .ok (.iload_n 1, 1) := by decide +kernel
theorem dX2_clearPattern_16 : decode cX2_clearPattern 16 = .ok (.ireturn, 1) := by decide +kernel
theorem dX2_textLength_0 : decode cX2_textLength 0 = .ok (.aload_n 0, 1) := by decide +kernel
theorem dX2_textLength_1 : decode cX2_textLength 1 = .ok (.iconst 0, 1) := by decide +kernel
theorem dX2_textLength_2 : decode cX2_textLength 2 = .ok (.putfield 16, 3) := by decide +kernel
theorem dX2_textLength_5 : decode cX2_textLength 5 = .ok (.aload_n 0, 1) := by decide +kernel
theorem dX2_textLength_6 : decode cX2_textLength 6 = .ok (.getfield 24, 3) := by decide +kernel
theorem dX2_textLength_9 : decode cX2_textLength 9 = .ok (.ireturn, 1) := by decide +kernel
theorem dX2_patternLength_0 : decode cX2_patternLength 0 = .ok (.aload_n 0, 1) := by decide +kernel
theorem dX2_patternLength_1 : decode cX2_patternLength 1 = .ok (.iconst 0, 1) := by decide +kernel
theorem dX2_patternLength_2 : decode cX2_patternLength 2 = .ok (.putfield 16, 3) := by decide +kernel
theorem dX2_patternLength_5 : decode cX2_patternLength 5 = .ok (.aload_n 0, 1) := by decide +kernel
theorem dX2_patternLength_6 : decode cX2_patternLength 6 = .ok (.getfield 30, 3) := by decide +kernel
theorem dX2_patternLength_9 : decode cX2_patternLength 9 = .ok (.ireturn, 1) := by decide +kernel
theorem dX2_placeMany_0 : decode cX2_placeMany 0 = .ok (.aload_n 0, 1) := by decide +kernel
theorem dX2_placeMany_1 : decode cX2_placeMany 1 = .ok (.getfield 24, 3) := by decide +kernel
theorem dX2_placeMany_4 : decode cX2_placeMany 4 = .ok (.aload_n 0, 1) := by decide +kernel
theorem dX2_placeMany_5 : decode cX2_placeMany 5 = .ok (.getfield 30, 3) := by decide +kernel
theorem dX2_placeMany_8 : decode cX2_placeMany 8 = .ok (.if_icmp .ge 7, 3) := by decide +kernel
theorem dX2_placeMany_11 : decode cX2_placeMany 11 = .ok (.iconst 0, 1) := by decide +kernel
theorem dX2_placeMany_12 : decode cX2_placeMany 12 = .ok (.goto 14, 3) := by decide +kernel
theorem dX2_placeMany_15 : decode cX2_placeMany 15 = .ok (.aload_n 0, 1) := by decide +kernel
theorem dX2_placeMany_16 : decode cX2_placeMany 16 = .ok (.getfield 24, 3) := by decide +kernel
theorem dX2_placeMany_19 : decode cX2_placeMany 19 = .ok (.aload_n 0, 1) := by decide +kernel
theorem dX2_placeMany_20 : decode cX2_placeMany 20 = .ok (.getfield 30, 3) := by decide +kernel
theorem dX2_placeMany_23 : decode cX2_placeMany 23 = .ok (.isub, 1) := by decide +kernel
theorem dX2_placeMany_24 : decode cX2_placeMany 24 = .ok (.iconst 1, 1) := by decide +kernel
theorem dX2_placeMany_25 : decode cX2_placeMany 25 = .ok (.iadd, 1) := by decide +kernel
theorem dX2_placeMany_26 : decode cX2_placeMany 26 = .ok (.ireturn, 1) := by decide +kernel
set_option maxRecDepth 20000 in
theorem ggX2_isPlace_X2_placeMany : GoodIn wsX2_isPlace wsX2_placeMany := goodIn_r _ [5, 6, 7, 8, 9, 10, 11, 12] (by decide +kernel) (by decide +kernel)
set_option maxRecDepth 20000 in
theorem gX2_isPlace_X2_placeMany : GoodIn wsX2_isPlace (wsV RX2 36 RX2 yX2_placeMany wsX2_placeMany) := goodIn_app (goodIn_of _ (by decide +kernel)) ggX2_isPlace_X2_placeMany
theorem dX2_isPlace_0 : decode cX2_isPlace 0 = .ok (.iload_n 1, 1) := by decide +kernel
theorem dX2_isPlace_1 : decode cX2_isPlace 1 = .ok (.ifCond .lt 15, 3) := by decide +kernel
theorem dX2_isPlace_4 : decode cX2_isPlace 4 = .ok (.iload_n 1, 1) := by decide +kernel
theorem dX2_isPlace_5 : decode cX2_isPlace 5 = .ok (.aload_n 0, 1) := by decide +kernel
theorem dX2_isPlace_6 : decode cX2_isPlace 6 = .ok (.invokevirtual 36, 3) := by decide +kernel
theorem dX2_isPlace_9 : decode cX2_isPlace 9 = .ok (.if_icmp .ge 7, 3) := by decide +kernel
theorem dX2_isPlace_12 : decode cX2_isPlace 12 = .ok (.iconst 1, 1) := by decide +kernel
theorem dX2_isPlace_13 : decode cX2_isPlace 13 = .ok (.goto 4, 3) := by decide +kernel
theorem dX2_isPlace_16 : decode cX2_isPlace 16 = .ok (.iconst 0, 1) := by decide +kernel
theorem dX2_isPlace_17 : decode cX2_isPlace 17 = .ok (.ireturn, 1) := by decide +kernel
set_option maxRecDepth 20000 in
theorem ggX2_places_X2_placeMany : GoodIn wsX2_places wsX2_placeMany := goodIn_r _ [6, 7, 8, 9, 10, 11, 12, 13] (by decide +kernel) (by decide +kernel)
set_option maxRecDepth 20000 in
theorem gX2_places_X2_placeMany : GoodIn wsX2_places (wsV RX2 36 RX2 yX2_placeMany wsX2_placeMany) := goodIn_app (goodIn_of _ (by decide +kernel)) ggX2_places_X2_placeMany
theorem dX2_places_0 : decode cX2_places 0 = .ok (.aload_n 0, 1) := by decide +kernel
theorem dX2_places_1 : decode cX2_places 1 = .ok (.iconst 0, 1) := by decide +kernel
theorem dX2_places_2 : decode cX2_places 2 = .ok (.putfield 16, 3) := by decide +kernel
theorem dX2_places_5 : decode cX2_places 5 = .ok (.aload_n 0, 1) := by decide +kernel
theorem dX2_places_6 : decode cX2_places 6 = .ok (.invokevirtual 36, 3) := by decide +kernel
theorem dX2_places_9 : decode cX2_places 9 = .ok (.ireturn, 1) := by decide +kernel
set_option maxRecDepth 20000 in
theorem ggX2_product_X2_goesWell : GoodIn wsX2_product wsX2_goesWell := goodIn_r _ [9, 10, 11, 12, 13, 14, 15] (by decide +kernel) (by decide +kernel)
set_option maxRecDepth 20000 in
theorem gX2_product_X2_goesWell : GoodIn wsX2_product (wsV RX2 27 RX2 yX2_goesWell wsX2_goesWell) := goodIn_app (goodIn_of _ (by decide +kernel)) ggX2_product_X2_goesWell
theorem dX2_product_0 : decode cX2_product 0 = .ok (.aload_n 0, 1) := by decide +kernel
theorem dX2_product_1 : decode cX2_product 1 = .ok (.iload_n 1, 1) := by decide +kernel
theorem dX2_product_2 : decode cX2_product 2 = .ok (.ifCond .ge 7, 3) := by decide +kernel
theorem dX2_product_5 : decode cX2_product 5 = .ok (.iconst 1, 1) := by decide +kernel
theorem dX2_product_6 : decode cX2_product 6 = .ok (.goto 4, 3) := by decide +kernel
theorem dX2_product_9 : decode cX2_product 9 = .ok (.iconst 0, 1) := by decide +kernel
theorem dX2_product_10 : decode cX2_product 10 = .ok (.invokevirtual 27, 3) := by decide +kernel
theorem dX2_product_13 : decode cX2_product 13 = .ok (.ifCond .ne 5, 3) := by decide +kernel
theorem dX2_product_16 : decode cX2_product 16 = .ok (.iconst 0, 1) := by decide +kernel
theorem dX2_product_17 : decode cX2_product 17 = .ok (.ireturn, 1) := by decide +kernel
theorem dX2_product_18 : decode cX2_product 18 = .ok (.iconst 0, 1) := by decide +kernel
theorem dX2_product_19 : decode cX2_product 19 = .ok (.istore_n 2, 1) := by decide +kernel
theorem dX2_product_20 : decode cX2_product 20 = .ok (.iconst 0, 1) := by decide +kernel
theorem dX2_product_21 : decode cX2_product 21 = .ok (.istore_n 3, 1) := by decide +kernel
theorem dX2_product_22 : decode cX2_product 22 = .ok (.iload_n 3, 1) := by decide +kernel
theorem dX2_product_23 : decode cX2_product 23 = .ok (.aload_n 0, 1) := by decide +kernel
theorem dX2_product_24 : decode cX2_product 24 = .ok (.getfield 30, 3) := by decide +kernel
theorem dX2_product_27 : decode cX2_product 27 = .ok (.if_icmp .ge 56, 3) := by decide +kernel
theorem dX2_product_30 : decode cX2_product 30 = .ok (.iload_n 1, 1) := by decide +kernel
theorem dX2_product_31 : decode cX2_product 31 = .ok (.aload_n 0, 1) := by decide +kernel
theorem dX2_product_32 : decode cX2_product 32 = .ok (.getfield 30, 3) := by decide +kernel
theorem dX2_product_35 : decode cX2_product 35 = .ok (.iconst 1, 1) := by decide +kernel
theorem dX2_product_36 : decode cX2_product 36 = .ok (.isub, 1) := by decide +kernel
theorem dX2_product_37 : decode cX2_product 37 = .ok (.iload_n 3, 1) := by decide +kernel
theorem dX2_product_38 : decode cX2_product 38 = .ok (.isub, 1) := by decide +kernel
theorem dX2_product_39 : decode cX2_product 39 = .ok (.isub, 1) := by decide +kernel
theorem dX2_product_40 : decode cX2_product 40 = .ok (.istore 4, 2) := by decide +kernel
theorem dX2_product_42 : decode cX2_product 42 = .ok (.iload_n 2, 1) := by decide +kernel
theorem dX2_product_43 : decode cX2_product 43 = .ok (.iload 4, 2) := by decide +kernel
theorem dX2_product_45 : decode cX2_product 45 = .ok (.ifCond .lt 29, 3) := by decide +kernel
theorem dX2_product_48 : decode cX2_product 48 = .ok (.iload 4, 2) := by decide +kernel
theorem dX2_product_50 : decode cX2_product 50 = .ok (.aload_n 0, 1) := by decide +kernel
theorem dX2_product_51 : decode cX2_product 51 = .ok (.getfield 24, 3) := by decide +kernel
theorem dX2_product_54 : decode cX2_product 54 = .ok (.if_icmp .ge 20, 3) := by decide +kernel
theorem dX2_product_57 : decode cX2_product 57 = .ok (.aload_n 0, 1) := by decide +kernel
theorem dX2_product_58 : decode cX2_product 58 = .ok (.getfield 7, 3) := by decide +kernel
theorem dX2_product_61 : decode cX2_product 61 = .ok (.iload 4, 2) := by decide +kernel
theorem dX2_product_63 : decode cX2_product 63 = .ok (.iaload, 1) := by decide +kernel
theorem dX2_product_64 : decode cX2_product 64 = .ok (.aload_n 0, 1) := by decide +kernel
theorem dX2_product_65 : decode cX2_product 65 = .ok (.getfield 13, 3) := by decide +kernel
theorem dX2_product_68 : decode cX2_product 68 = .ok (.iload_n 3, 1) := by decide +kernel
theorem dX2_product_69 : decode cX2_product 69 = .ok (.iaload, 1) := by decide +kernel
theorem dX2_product_70 : decode cX2_product 70 = .ok (.imul, 1) := by decide +kernel
theorem dX2_product_71 : decode cX2_product 71 = .ok (.goto 4, 3) := by decide +kernel
theorem dX2_product_74 : decode cX2_product 74 = .ok (.iconst 0, 1) := by decide +kernel
theorem dX2_product_75 : decode cX2_product 75 = .ok (.iadd, 1) := by decide +kernel
theorem dX2_product_76 : decode cX2_product 76 = .ok (.istore_n 2, 1) := by decide +kernel
theorem dX2_product_77 : decode cX2_product 77 = .ok (.iinc 3 1, 3) := by decide +kernel
theorem dX2_product_80 : decode cX2_product 80 = .ok (.goto (-58), 3) := by decide +kernel
theorem dX2_product_83 : decode cX2_product 83 = .ok (.iload_n 2, 1) := by decide +kernel
theorem dX2_product_84 : decode cX2_product 84 = .ok (.ireturn, 1) := by decide +kernel
set_option maxRecDepth 20000 in
theorem ggX2_difference_X2_isPlace : GoodIn wsX2_difference wsX2_isPlace := goodIn_r _ [8, 9, 10, 11, 7, 12, 13, 1, 19, 20, 21, 22, 23] (by decide +kernel) (by decide +kernel)
set_option maxRecDepth 20000 in
theorem gX2_difference_X2_isPlace : GoodIn wsX2_difference (wsV RX2 40 RX2 yX2_isPlace wsX2_isPlace) := goodIn_app (goodIn_of _ (by decide +kernel)) ggX2_difference_X2_isPlace
set_option maxRecDepth 20000 in
theorem ggX2_difference_X2_goesWell : GoodIn wsX2_difference wsX2_goesWell := goodIn_r _ [17, 18, 19, 20, 21, 22, 23] (by decide +kernel) (by decide +kernel)
set_option maxRecDepth 20000 in
theorem gX2_difference_X2_goesWell : GoodIn wsX2_difference (wsV RX2 27 RX2 yX2_goesWell wsX2_goesWell) := goodIn_app (goodIn_of _ (by decide +kernel)) ggX2_difference_X2_goesWell
theorem dX2_difference_0 : decode cX2_difference 0 = .ok (.aload_n 0, 1) := by decide +kernel
theorem dX2_difference_1 : decode cX2_difference 1 = .ok (.aload_n 0, 1) := by decide +kernel
theorem dX2_difference_2 : decode cX2_difference 2 = .ok (.iload_n 1, 1) := by decide +kernel
theorem dX2_difference_3 : decode cX2_difference 3 = .ok (.invokevirtual 40, 3) := by decide +kernel
theorem dX2_difference_6 : decode cX2_difference 6 = .ok (.ifCond .eq 7, 3) := by decide +kernel
theorem dX2_difference_9 : decode cX2_difference 9 = .ok (.iconst 0, 1) := by decide +kernel
theorem dX2_difference_10 : decode cX2_difference 10 = .ok (.goto 4, 3) := by decide +kernel
theorem dX2_difference_13 : decode cX2_difference 13 = .ok (.iconst 1, 1) := by decide +kernel
theorem dX2_difference_14 : decode cX2_difference 14 = .ok (.invokevirtual 27, 3) := by decide +kernel
theorem dX2_difference_17 : decode cX2_difference 17 = .ok (.ifCond .ne 5, 3) := by decide +kernel
theorem dX2_difference_20 : decode cX2_difference 20 = .ok (.iconst 0, 1) := by decide +kernel
theorem dX2_difference_21 : decode cX2_difference 21 = .ok (.ireturn, 1) := by decide +kernel
theorem dX2_difference_22 : decode cX2_difference 22 = .ok (.iconst 0, 1) := by decide +kernel
theorem dX2_difference_23 : decode cX2_difference 23 = .ok (.istore_n 2, 1) := by decide +kernel
theorem dX2_difference_24 : decode cX2_difference 24 = .ok (.iconst 0, 1) := by decide +kernel
theorem dX2_difference_25 : decode cX2_difference 25 = .ok (.istore_n 3, 1) := by decide +kernel
theorem dX2_difference_26 : decode cX2_difference 26 = .ok (.iload_n 3, 1) := by decide +kernel
theorem dX2_difference_27 : decode cX2_difference 27 = .ok (.aload_n 0, 1) := by decide +kernel
theorem dX2_difference_28 : decode cX2_difference 28 = .ok (.getfield 30, 3) := by decide +kernel
theorem dX2_difference_31 : decode cX2_difference 31 = .ok (.if_icmp .ge 50, 3) := by decide +kernel
theorem dX2_difference_34 : decode cX2_difference 34 = .ok (.aload_n 0, 1) := by decide +kernel
theorem dX2_difference_35 : decode cX2_difference 35 = .ok (.getfield 13, 3) := by decide +kernel
theorem dX2_difference_38 : decode cX2_difference 38 = .ok (.iload_n 3, 1) := by decide +kernel
theorem dX2_difference_39 : decode cX2_difference 39 = .ok (.iaload, 1) := by decide +kernel
theorem dX2_difference_40 : decode cX2_difference 40 = .ok (.aload_n 0, 1) := by decide +kernel
theorem dX2_difference_41 : decode cX2_difference 41 = .ok (.getfield 7, 3) := by decide +kernel
theorem dX2_difference_44 : decode cX2_difference 44 = .ok (.iload_n 1, 1) := by decide +kernel
theorem dX2_difference_45 : decode cX2_difference 45 = .ok (.iload_n 3, 1) := by decide +kernel
theorem dX2_difference_46 : decode cX2_difference 46 = .ok (.iadd, 1) := by decide +kernel
theorem dX2_difference_47 : decode cX2_difference 47 = .ok (.iaload, 1) := by decide +kernel
theorem dX2_difference_48 : decode cX2_difference 48 = .ok (.isub, 1) := by decide +kernel
theorem dX2_difference_49 : decode cX2_difference 49 = .ok (.istore 4, 2) := by decide +kernel
theorem dX2_difference_51 : decode cX2_difference 51 = .ok (.iload_n 2, 1) := by decide +kernel
theorem dX2_difference_52 : decode cX2_difference 52 = .ok (.aload_n 0, 1) := by decide +kernel
theorem dX2_difference_53 : decode cX2_difference 53 = .ok (.getfield 13, 3) := by decide +kernel
theorem dX2_difference_56 : decode cX2_difference 56 = .ok (.iload_n 3, 1) := by decide +kernel
theorem dX2_difference_57 : decode cX2_difference 57 = .ok (.iaload, 1) := by decide +kernel
theorem dX2_difference_58 : decode cX2_difference 58 = .ok (.aload_n 0, 1) := by decide +kernel
theorem dX2_difference_59 : decode cX2_difference 59 = .ok (.getfield 7, 3) := by decide +kernel
theorem dX2_difference_62 : decode cX2_difference 62 = .ok (.iload_n 1, 1) := by decide +kernel
theorem dX2_difference_63 : decode cX2_difference 63 = .ok (.iload_n 3, 1) := by decide +kernel
theorem dX2_difference_64 : decode cX2_difference 64 = .ok (.iadd, 1) := by decide +kernel
theorem dX2_difference_65 : decode cX2_difference 65 = .ok (.iaload, 1) := by decide +kernel
theorem dX2_difference_66 : decode cX2_difference 66 = .ok (.imul, 1) := by decide +kernel
theorem dX2_difference_67 : decode cX2_difference 67 = .ok (.iload 4, 2) := by decide +kernel
theorem dX2_difference_69 : decode cX2_difference 69 = .ok (.imul, 1) := by decide +kernel
theorem dX2_difference_70 : decode cX2_difference 70 = .ok (.iload 4, 2) := by decide +kernel
theorem dX2_difference_72 : decode cX2_difference 72 = .ok (.imul, 1) := by decide +kernel
theorem dX2_difference_73 : decode cX2_difference 73 = .ok (.iadd, 1) := by decide +kernel
theorem dX2_difference_74 : decode cX2_difference 74 = .ok (.istore_n 2, 1) := by decide +kernel
theorem dX2_difference_75 : decode cX2_difference 75 = .ok (.iinc 3 1, 3) := by decide +kernel
theorem dX2_difference_78 : decode cX2_difference 78 = .ok (.goto (-52), 3) := by decide +kernel
theorem dX2_difference_81 : decode cX2_difference 81 = .ok (.iload_n 2, 1) := by decide +kernel
theorem dX2_difference_82 : decode cX2_difference 82 = .ok (.ireturn, 1) := by decide +kernel
theorem dX2_agree_0 : decode cX2_agree 0 = .ok (.iload_n 0, 1) := by decide +kernel
theorem dX2_agree_1 : decode cX2_agree 1 = .ok (.iload_n 1, 1) := by decide +kernel
theorem dX2_agree_2 : decode cX2_agree 2 = .ok (.if_icmp .eq 11, 3) := by decide +kernel
theorem dX2_agree_5 : decode cX2_agree 5 = .ok (.iload_n 0, 1) := by decide +kernel
theorem dX2_agree_6 : decode cX2_agree 6 = .ok (.ifCond .eq 7, 3) := by decide +kernel
theorem dX2_agree_9 : decode cX2_agree 9 = .ok (.iload_n 1, 1) := by decide +kernel
theorem dX2_agree_10 : decode cX2_agree 10 = .ok (.ifCond .ne 7, 3) := by decide +kernel
theorem dX2_agree_13 : decode cX2_agree 13 = .ok (.iconst 1, 1) := by decide +kernel
theorem dX2_agree_14 : decode cX2_agree 14 = .ok (.goto 4, 3) := by decide +kernel
theorem dX2_agree_17 : decode cX2_agree 17 = .ok (.iconst 0, 1) := by decide +kernel
theorem dX2_agree_18 : decode cX2_agree 18 = .ok (.ireturn, 1) := by decide +kernel
set_option maxRecDepth 20000 in
theorem ggX2_countAt_X2_agree : GoodIn wsX2_countAt wsX2_agree := goodIn_r _ [7] (by decide +kernel) (by decide +kernel)
set_option maxRecDepth 20000 in
theorem gX2_countAt_X2_agree : GoodIn wsX2_countAt (va_wsS RX2 43 yX2_agree wsX2_agree) := goodIn_app (goodIn_of _ (by decide +kernel)) ggX2_countAt_X2_agree
theorem dX2_countAt_0 : decode cX2_countAt 0 = .ok (.iconst 0, 1) := by decide +kernel
theorem dX2_countAt_1 : decode cX2_countAt 1 = .ok (.istore_n 2, 1) := by decide +kernel
theorem dX2_countAt_2 : decode cX2_countAt 2 = .ok (.iconst 0, 1) := by decide +kernel
theorem dX2_countAt_3 : decode cX2_countAt 3 = .ok (.istore_n 3, 1) := by decide +kernel
theorem dX2_countAt_4 : decode cX2_countAt 4 = .ok (.iload_n 3, 1) := by decide +kernel
theorem dX2_countAt_5 : decode cX2_countAt 5 = .ok (.aload_n 0, 1) := by decide +kernel
theorem dX2_countAt_6 : decode cX2_countAt 6 = .ok (.getfield 30, 3) := by decide +kernel
theorem dX2_countAt_9 : decode cX2_countAt 9 = .ok (.if_icmp .ge 37, 3) := by decide +kernel
theorem dX2_countAt_12 : decode cX2_countAt 12 = .ok (.iload_n 2, 1) := by decide +kernel
theorem dX2_countAt_13 : decode cX2_countAt 13 = .ok (.aload_n 0, 1) := by decide +kernel
theorem dX2_countAt_14 : decode cX2_countAt 14 = .ok (.getfield 13, 3) := by decide +kernel
theorem dX2_countAt_17 : decode cX2_countAt 17 = .ok (.iload_n 3, 1) := by decide +kernel
theorem dX2_countAt_18 : decode cX2_countAt 18 = .ok (.iaload, 1) := by decide +kernel
theorem dX2_countAt_19 : decode cX2_countAt 19 = .ok (.aload_n 0, 1) := by decide +kernel
theorem dX2_countAt_20 : decode cX2_countAt 20 = .ok (.getfield 7, 3) := by decide +kernel
theorem dX2_countAt_23 : decode cX2_countAt 23 = .ok (.iload_n 1, 1) := by decide +kernel
theorem dX2_countAt_24 : decode cX2_countAt 24 = .ok (.iload_n 3, 1) := by decide +kernel
theorem dX2_countAt_25 : decode cX2_countAt 25 = .ok (.iadd, 1) := by decide +kernel
theorem dX2_countAt_26 : decode cX2_countAt 26 = .ok (.iaload, 1) := by decide +kernel
theorem dX2_countAt_27 : decode cX2_countAt 27 = .ok (.invokestatic 43, 3) := by decide +kernel
theorem dX2_countAt_30 : decode cX2_countAt 30 = .ok (.ifCond .eq 7, 3) := by decide +kernel
theorem dX2_countAt_33 : decode cX2_countAt 33 = .ok (.iconst 0, 1) := by decide +kernel
theorem dX2_countAt_34 : decode cX2_countAt 34 = .ok (.goto 4, 3) := by decide +kernel
theorem dX2_countAt_37 : decode cX2_countAt 37 = .ok (.iconst 1, 1) := by decide +kernel
theorem dX2_countAt_38 : decode cX2_countAt 38 = .ok (.iadd, 1) := by decide +kernel
theorem dX2_countAt_39 : decode cX2_countAt 39 = .ok (.istore_n 2, 1) := by decide +kernel
theorem dX2_countAt_40 : decode cX2_countAt 40 = .ok (.iinc 3 1, 3) := by decide +kernel
theorem dX2_countAt_43 : decode cX2_countAt 43 = .ok (.goto (-39), 3) := by decide +kernel
theorem dX2_countAt_46 : decode cX2_countAt 46 = .ok (.iload_n 2, 1) := by decide +kernel
theorem dX2_countAt_47 : decode cX2_countAt 47 = .ok (.ireturn, 1) := by decide +kernel
theorem dX2_sumOf_0 : decode cX2_sumOf 0 = .ok (.iconst 0, 1) := by decide +kernel
theorem dX2_sumOf_1 : decode cX2_sumOf 1 = .ok (.istore_n 2, 1) := by decide +kernel
theorem dX2_sumOf_2 : decode cX2_sumOf 2 = .ok (.iconst 0, 1) := by decide +kernel
theorem dX2_sumOf_3 : decode cX2_sumOf 3 = .ok (.istore_n 3, 1) := by decide +kernel
theorem dX2_sumOf_4 : decode cX2_sumOf 4 = .ok (.iload_n 3, 1) := by decide +kernel
theorem dX2_sumOf_5 : decode cX2_sumOf 5 = .ok (.aload_n 0, 1) := by decide +kernel
theorem dX2_sumOf_6 : decode cX2_sumOf 6 = .ok (.getfield 30, 3) := by decide +kernel
theorem dX2_sumOf_9 : decode cX2_sumOf 9 = .ok (.if_icmp .ge 27, 3) := by decide +kernel
theorem dX2_sumOf_12 : decode cX2_sumOf 12 = .ok (.iload_n 2, 1) := by decide +kernel
theorem dX2_sumOf_13 : decode cX2_sumOf 13 = .ok (.aload_n 0, 1) := by decide +kernel
theorem dX2_sumOf_14 : decode cX2_sumOf 14 = .ok (.getfield 7, 3) := by decide +kernel
theorem dX2_sumOf_17 : decode cX2_sumOf 17 = .ok (.iload_n 1, 1) := by decide +kernel
theorem dX2_sumOf_18 : decode cX2_sumOf 18 = .ok (.iload_n 3, 1) := by decide +kernel
theorem dX2_sumOf_19 : decode cX2_sumOf 19 = .ok (.iadd, 1) := by decide +kernel
theorem dX2_sumOf_20 : decode cX2_sumOf 20 = .ok (.iaload, 1) := by decide +kernel
theorem dX2_sumOf_21 : decode cX2_sumOf 21 = .ok (.aload_n 0, 1) := by decide +kernel
theorem dX2_sumOf_22 : decode cX2_sumOf 22 = .ok (.getfield 13, 3) := by decide +kernel
theorem dX2_sumOf_25 : decode cX2_sumOf 25 = .ok (.iload_n 3, 1) := by decide +kernel
theorem dX2_sumOf_26 : decode cX2_sumOf 26 = .ok (.iaload, 1) := by decide +kernel
theorem dX2_sumOf_27 : decode cX2_sumOf 27 = .ok (.isub, 1) := by decide +kernel
theorem dX2_sumOf_28 : decode cX2_sumOf 28 = .ok (.iadd, 1) := by decide +kernel
theorem dX2_sumOf_29 : decode cX2_sumOf 29 = .ok (.istore_n 2, 1) := by decide +kernel
theorem dX2_sumOf_30 : decode cX2_sumOf 30 = .ok (.iinc 3 1, 3) := by decide +kernel
theorem dX2_sumOf_33 : decode cX2_sumOf 33 = .ok (.goto (-29), 3) := by decide +kernel
theorem dX2_sumOf_36 : decode cX2_sumOf 36 = .ok (.iload_n 2, 1) := by decide +kernel
theorem dX2_sumOf_37 : decode cX2_sumOf 37 = .ok (.ireturn, 1) := by decide +kernel
theorem dX2_sign_0 : decode cX2_sign 0 = .ok (.iload_n 0, 1) := by decide +kernel
theorem dX2_sign_1 : decode cX2_sign 1 = .ok (.ifCond .ge 7, 3) := by decide +kernel
theorem dX2_sign_4 : decode cX2_sign 4 = .ok (.iconst (-1), 1) := by decide +kernel
theorem dX2_sign_5 : decode cX2_sign 5 = .ok (.goto 12, 3) := by decide +kernel
theorem dX2_sign_8 : decode cX2_sign 8 = .ok (.iload_n 0, 1) := by decide +kernel
theorem dX2_sign_9 : decode cX2_sign 9 = .ok (.ifCond .le 7, 3) := by decide +kernel
theorem dX2_sign_12 : decode cX2_sign 12 = .ok (.iconst 1, 1) := by decide +kernel
theorem dX2_sign_13 : decode cX2_sign 13 = .ok (.goto 4, 3) := by decide +kernel
theorem dX2_sign_16 : decode cX2_sign 16 = .ok (.iconst 0, 1) := by decide +kernel
theorem dX2_sign_17 : decode cX2_sign 17 = .ok (.ireturn, 1) := by decide +kernel
set_option maxRecDepth 20000 in
theorem ggX2_isOrdered_X2_sign : GoodIn wsX2_isOrdered wsX2_sign := goodIn_r _ [7] (by decide +kernel) (by decide +kernel)
set_option maxRecDepth 20000 in
theorem gX2_isOrdered_X2_sign : GoodIn wsX2_isOrdered (va_wsS RX2 47 yX2_sign wsX2_sign) := goodIn_app (goodIn_of _ (by decide +kernel)) ggX2_isOrdered_X2_sign
theorem dX2_isOrdered_0 : decode cX2_isOrdered 0 = .ok (.iconst 1, 1) := by decide +kernel
theorem dX2_isOrdered_1 : decode cX2_isOrdered 1 = .ok (.istore_n 2, 1) := by decide +kernel
theorem dX2_isOrdered_2 : decode cX2_isOrdered 2 = .ok (.iconst 0, 1) := by decide +kernel
theorem dX2_isOrdered_3 : decode cX2_isOrdered 3 = .ok (.istore_n 3, 1) := by decide +kernel
theorem dX2_isOrdered_4 : decode cX2_isOrdered 4 = .ok (.iload_n 3, 1) := by decide +kernel
theorem dX2_isOrdered_5 : decode cX2_isOrdered 5 = .ok (.aload_n 0, 1) := by decide +kernel
theorem dX2_isOrdered_6 : decode cX2_isOrdered 6 = .ok (.getfield 30, 3) := by decide +kernel
theorem dX2_isOrdered_9 : decode cX2_isOrdered 9 = .ok (.if_icmp .ge 75, 3) := by decide +kernel
theorem dX2_isOrdered_12 : decode cX2_isOrdered 12 = .ok (.iconst 0, 1) := by decide +kernel
theorem dX2_isOrdered_13 : decode cX2_isOrdered 13 = .ok (.istore 4, 2) := by decide +kernel
theorem dX2_isOrdered_15 : decode cX2_isOrdered 15 = .ok (.iload 4, 2) := by decide +kernel
theorem dX2_isOrdered_17 : decode cX2_isOrdered 17 = .ok (.iload_n 3, 1) := by decide +kernel
theorem dX2_isOrdered_18 : decode cX2_isOrdered 18 = .ok (.if_icmp .ge 60, 3) := by decide +kernel
theorem dX2_isOrdered_21 : decode cX2_isOrdered 21 = .ok (.iload_n 2, 1) := by decide +kernel
theorem dX2_isOrdered_22 : decode cX2_isOrdered 22 = .ok (.ifCond .eq 48, 3) := by decide +kernel
theorem dX2_isOrdered_25 : decode cX2_isOrdered 25 = .ok (.aload_n 0, 1) := by decide +kernel
theorem dX2_isOrdered_26 : decode cX2_isOrdered 26 = .ok (.getfield 13, 3) := by decide +kernel
theorem dX2_isOrdered_29 : decode cX2_isOrdered 29 = .ok (.iload_n 3, 1) := by decide +kernel
theorem dX2_isOrdered_30 : decode cX2_isOrdered 30 = .ok (.iaload, 1) := by decide +kernel
theorem dX2_isOrdered_31 : decode cX2_isOrdered 31 = .ok (.aload_n 0, 1) := by decide +kernel
theorem dX2_isOrdered_32 : decode cX2_isOrdered 32 = .ok (.getfield 13, 3) := by decide +kernel
theorem dX2_isOrdered_35 : decode cX2_isOrdered 35 = .ok (.iload 4, 2) := by decide +kernel
theorem dX2_isOrdered_37 : decode cX2_isOrdered 37 = .ok (.iaload, 1) := by decide +kernel
theorem dX2_isOrdered_38 : decode cX2_isOrdered 38 = .ok (.isub, 1) := by decide +kernel
theorem dX2_isOrdered_39 : decode cX2_isOrdered 39 = .ok (.invokestatic 47, 3) := by decide +kernel
theorem dX2_isOrdered_42 : decode cX2_isOrdered 42 = .ok (.aload_n 0, 1) := by decide +kernel
theorem dX2_isOrdered_43 : decode cX2_isOrdered 43 = .ok (.getfield 7, 3) := by decide +kernel
theorem dX2_isOrdered_46 : decode cX2_isOrdered 46 = .ok (.iload_n 1, 1) := by decide +kernel
theorem dX2_isOrdered_47 : decode cX2_isOrdered 47 = .ok (.iload_n 3, 1) := by decide +kernel
theorem dX2_isOrdered_48 : decode cX2_isOrdered 48 = .ok (.iadd, 1) := by decide +kernel
theorem dX2_isOrdered_49 : decode cX2_isOrdered 49 = .ok (.iaload, 1) := by decide +kernel
theorem dX2_isOrdered_50 : decode cX2_isOrdered 50 = .ok (.aload_n 0, 1) := by decide +kernel
theorem dX2_isOrdered_51 : decode cX2_isOrdered 51 = .ok (.getfield 7, 3) := by decide +kernel
theorem dX2_isOrdered_54 : decode cX2_isOrdered 54 = .ok (.iload_n 1, 1) := by decide +kernel
theorem dX2_isOrdered_55 : decode cX2_isOrdered 55 = .ok (.iload 4, 2) := by decide +kernel
theorem dX2_isOrdered_57 : decode cX2_isOrdered 57 = .ok (.iadd, 1) := by decide +kernel
theorem dX2_isOrdered_58 : decode cX2_isOrdered 58 = .ok (.iaload, 1) := by decide +kernel
theorem dX2_isOrdered_59 : decode cX2_isOrdered 59 = .ok (.isub, 1) := by decide +kernel
theorem dX2_isOrdered_60 : decode cX2_isOrdered 60 = .ok (.invokestatic 47, 3) := by decide +kernel
theorem dX2_isOrdered_63 : decode cX2_isOrdered 63 = .ok (.if_icmp .ne 7, 3) := by decide +kernel
theorem dX2_isOrdered_66 : decode cX2_isOrdered 66 = .ok (.iconst 1, 1) := by decide +kernel
theorem dX2_isOrdered_67 : decode cX2_isOrdered 67 = .ok (.goto 4, 3) := by decide +kernel
theorem dX2_isOrdered_70 : decode cX2_isOrdered 70 = .ok (.iconst 0, 1) := by decide +kernel
theorem dX2_isOrdered_71 : decode cX2_isOrdered 71 = .ok (.istore_n 2, 1) := by decide +kernel
theorem dX2_isOrdered_72 : decode cX2_isOrdered 72 = .ok (.iinc 4 1, 3) := by decide +kernel
theorem dX2_isOrdered_75 : decode cX2_isOrdered 75 = .ok (.goto (-60), 3) := by decide +kernel
theorem dX2_isOrdered_78 : decode cX2_isOrdered 78 = .ok (.iinc 3 1, 3) := by decide +kernel
theorem dX2_isOrdered_81 : decode cX2_isOrdered 81 = .ok (.goto (-77), 3) := by decide +kernel
theorem dX2_isOrdered_84 : decode cX2_isOrdered 84 = .ok (.iload_n 2, 1) := by decide +kernel
theorem dX2_isOrdered_85 : decode cX2_isOrdered 85 = .ok (.ireturn, 1) := by decide +kernel
set_option maxRecDepth 20000 in
theorem ggX2_isWanted_X2_countAt : GoodIn wsX2_isWanted wsX2_countAt := goodIn_r _ [5, 6, 7, 8, 9, 10, 4, 11, 23, 24, 25, 26, 27] (by decide +kernel) (by decide +kernel)
set_option maxRecDepth 20000 in
theorem gX2_isWanted_X2_countAt : GoodIn wsX2_isWanted (wsV RX2 51 RX2 yX2_countAt wsX2_countAt) := goodIn_app (goodIn_of _ (by decide +kernel)) ggX2_isWanted_X2_countAt
set_option maxRecDepth 20000 in
theorem ggX2_isWanted_X2_sumOf : GoodIn wsX2_isWanted wsX2_sumOf := goodIn_r _ [15, 6, 8, 7, 23, 24, 25, 26, 27] (by decide +kernel) (by decide +kernel)
set_option maxRecDepth 20000 in
theorem gX2_isWanted_X2_sumOf : GoodIn wsX2_isWanted (wsV RX2 54 RX2 yX2_sumOf wsX2_sumOf) := goodIn_app (goodIn_of _ (by decide +kernel)) ggX2_isWanted_X2_sumOf
set_option maxRecDepth 20000 in
theorem ggX2_isWanted_X2_isOrdered : GoodIn wsX2_isWanted wsX2_isOrdered := goodIn_r _ [19, 6, 7, 8, 20, 21, 4, 22, 23, 24, 25, 26, 27] (by decide +kernel) (by decide +kernel)
set_option maxRecDepth 20000 in
theorem gX2_isWanted_X2_isOrdered : GoodIn wsX2_isWanted (wsV RX2 57 RX2 yX2_isOrdered wsX2_isOrdered) := goodIn_app (goodIn_of _ (by decide +kernel)) ggX2_isWanted_X2_isOrdered
theorem dX2_isWanted_0 : decode cX2_isWanted 0 = .ok (.iload_n 1, 1) := by decide +kernel
theorem dX2_isWanted_1 : decode cX2_isWanted 1 = .ok (.ifCond .ne 19, 3) := by decide +kernel
theorem dX2_isWanted_4 : decode cX2_isWanted 4 = .ok (.aload_n 0, 1) := by decide +kernel
theorem dX2_isWanted_5 : decode cX2_isWanted 5 = .ok (.iload_n 2, 1) := by decide +kernel
theorem dX2_isWanted_6 : decode cX2_isWanted 6 = .ok (.invokevirtual 51, 3) := by decide +kernel
theorem dX2_isWanted_9 : decode cX2_isWanted 9 = .ok (.ifCond .ne 7, 3) := by decide +kernel
theorem dX2_isWanted_12 : decode cX2_isWanted 12 = .ok (.iconst 1, 1) := by decide +kernel
theorem dX2_isWanted_13 : decode cX2_isWanted 13 = .ok (.goto 33, 3) := by decide +kernel
theorem dX2_isWanted_16 : decode cX2_isWanted 16 = .ok (.iconst 0, 1) := by decide +kernel
theorem dX2_isWanted_17 : decode cX2_isWanted 17 = .ok (.goto 29, 3) := by decide +kernel
theorem dX2_isWanted_20 : decode cX2_isWanted 20 = .ok (.iload_n 1, 1) := by decide +kernel
theorem dX2_isWanted_21 : decode cX2_isWanted 21 = .ok (.iconst 1, 1) := by decide +kernel
theorem dX2_isWanted_22 : decode cX2_isWanted 22 = .ok (.if_icmp .ne 19, 3) := by decide +kernel
theorem dX2_isWanted_25 : decode cX2_isWanted 25 = .ok (.aload_n 0, 1) := by decide +kernel
theorem dX2_isWanted_26 : decode cX2_isWanted 26 = .ok (.iload_n 2, 1) := by decide +kernel
theorem dX2_isWanted_27 : decode cX2_isWanted 27 = .ok (.invokevirtual 54, 3) := by decide +kernel
theorem dX2_isWanted_30 : decode cX2_isWanted 30 = .ok (.ifCond .ne 7, 3) := by decide +kernel
theorem dX2_isWanted_33 : decode cX2_isWanted 33 = .ok (.iconst 1, 1) := by decide +kernel
theorem dX2_isWanted_34 : decode cX2_isWanted 34 = .ok (.goto 12, 3) := by decide +kernel
theorem dX2_isWanted_37 : decode cX2_isWanted 37 = .ok (.iconst 0, 1) := by decide +kernel
theorem dX2_isWanted_38 : decode cX2_isWanted 38 = .ok (.goto 8, 3) := by decide +kernel
theorem dX2_isWanted_41 : decode cX2_isWanted 41 = .ok (.aload_n 0, 1) := by decide +kernel
theorem dX2_isWanted_42 : decode cX2_isWanted 42 = .ok (.iload_n 2, 1) := by decide +kernel
theorem dX2_isWanted_43 : decode cX2_isWanted 43 = .ok (.invokevirtual 57, 3) := by decide +kernel
theorem dX2_isWanted_46 : decode cX2_isWanted 46 = .ok (.ireturn, 1) := by decide +kernel
set_option maxRecDepth 20000 in
theorem ggX2_wanted_X2_placeMany : GoodIn wsX2_wanted wsX2_placeMany := goodIn_r _ [5, 6, 7, 32, 33, 34, 35, 36] (by decide +kernel) (by decide +kernel)
set_option maxRecDepth 20000 in
theorem gX2_wanted_X2_placeMany : GoodIn wsX2_wanted (wsV RX2 36 RX2 yX2_placeMany wsX2_placeMany) := goodIn_app (goodIn_of _ (by decide +kernel)) ggX2_wanted_X2_placeMany
set_option maxRecDepth 20000 in
theorem ggX2_wanted_X2_isWanted : GoodIn wsX2_wanted wsX2_isWanted := goodIn_r _ [11, 12, 13, 14, 4, 15, 7, 16, 17, 18, 19, 20, 21, 22, 23, 24, 25, 26, 27, 28, 29, 30, 31, 32, 33, 34, 35, 36] (by decide +kernel) (by decide +kernel)
set_option maxRecDepth 20000 in
theorem gX2_wanted_X2_isWanted : GoodIn wsX2_wanted (wsV RX2 60 RX2 yX2_isWanted wsX2_isWanted) := goodIn_app (goodIn_of _ (by decide +kernel)) ggX2_wanted_X2_isWanted
theorem dX2_wanted_0 : decode cX2_wanted 0 = .ok (.iconst 0, 1) := by decide +kernel
theorem dX2_wanted_1 : decode cX2_wanted 1 = .ok (.istore_n 2, 1) := by decide +kernel
theorem dX2_wanted_2 : decode cX2_wanted 2 = .ok (.iconst 0, 1) := by decide +kernel
theorem dX2_wanted_3 : decode cX2_wanted 3 = .ok (.istore_n 3, 1) := by decide +kernel
theorem dX2_wanted_4 : decode cX2_wanted 4 = .ok (.iload_n 3, 1) := by decide +kernel
theorem dX2_wanted_5 : decode cX2_wanted 5 = .ok (.aload_n 0, 1) := by decide +kernel
theorem dX2_wanted_6 : decode cX2_wanted 6 = .ok (.invokevirtual 36, 3) := by decide +kernel
theorem dX2_wanted_9 : decode cX2_wanted 9 = .ok (.if_icmp .ge 26, 3) := by decide +kernel
theorem dX2_wanted_12 : decode cX2_wanted 12 = .ok (.iload_n 2, 1) := by decide +kernel
theorem dX2_wanted_13 : decode cX2_wanted 13 = .ok (.aload_n 0, 1) := by decide +kernel
theorem dX2_wanted_14 : decode cX2_wanted 14 = .ok (.iload_n 1, 1) := by decide +kernel
theorem dX2_wanted_15 : decode cX2_wanted 15 = .ok (.iload_n 3, 1) := by decide +kernel
theorem dX2_wanted_16 : decode cX2_wanted 16 = .ok (.invokevirtual 60, 3) := by decide +kernel
theorem dX2_wanted_19 : decode cX2_wanted 19 = .ok (.ifCond .eq 7, 3) := by decide +kernel
theorem dX2_wanted_22 : decode cX2_wanted 22 = .ok (.iconst 1, 1) := by decide +kernel
theorem dX2_wanted_23 : decode cX2_wanted 23 = .ok (.goto 4, 3) := by decide +kernel
theorem dX2_wanted_26 : decode cX2_wanted 26 = .ok (.iconst 0, 1) := by decide +kernel
theorem dX2_wanted_27 : decode cX2_wanted 27 = .ok (.iadd, 1) := by decide +kernel
theorem dX2_wanted_28 : decode cX2_wanted 28 = .ok (.istore_n 2, 1) := by decide +kernel
theorem dX2_wanted_29 : decode cX2_wanted 29 = .ok (.iinc 3 1, 3) := by decide +kernel
theorem dX2_wanted_32 : decode cX2_wanted 32 = .ok (.goto (-28), 3) := by decide +kernel
theorem dX2_wanted_35 : decode cX2_wanted 35 = .ok (.iload_n 2, 1) := by decide +kernel
theorem dX2_wanted_36 : decode cX2_wanted 36 = .ok (.ireturn, 1) := by decide +kernel
set_option maxRecDepth 20000 in
theorem ggX2_find_X2_isWanted : GoodIn wsX2_find wsX2_isWanted := goodIn_r _ [5, 6, 7, 8, 4, 9, 10, 11, 12, 13, 14, 15, 16, 17, 18, 19, 20, 21, 22, 23, 24, 25, 26, 27, 28, 29, 30, 31] (by decide +kernel) (by decide +kernel)
set_option maxRecDepth 20000 in
theorem gX2_find_X2_isWanted : GoodIn wsX2_find (wsV RX2 60 RX2 yX2_isWanted wsX2_isWanted) := goodIn_app (goodIn_of _ (by decide +kernel)) ggX2_find_X2_isWanted
theorem dX2_find_0 : decode cX2_find 0 = .ok (.iload_n 2, 1) := by decide +kernel
theorem dX2_find_1 : decode cX2_find 1 = .ok (.istore_n 3, 1) := by decide +kernel
theorem dX2_find_2 : decode cX2_find 2 = .ok (.iconst 0, 1) := by decide +kernel
theorem dX2_find_3 : decode cX2_find 3 = .ok (.istore 4, 2) := by decide +kernel
theorem dX2_find_5 : decode cX2_find 5 = .ok (.iload_n 3, 1) := by decide +kernel
theorem dX2_find_6 : decode cX2_find 6 = .ok (.ifCond .gt 13, 3) := by decide +kernel
theorem dX2_find_9 : decode cX2_find 9 = .ok (.aload_n 0, 1) := by decide +kernel
theorem dX2_find_10 : decode cX2_find 10 = .ok (.iload_n 1, 1) := by decide +kernel
theorem dX2_find_11 : decode cX2_find 11 = .ok (.iload 4, 2) := by decide +kernel
theorem dX2_find_13 : decode cX2_find 13 = .ok (.invokevirtual 60, 3) := by decide +kernel
theorem dX2_find_16 : decode cX2_find 16 = .ok (.ifCond .ne 27, 3) := by decide +kernel
theorem dX2_find_19 : decode cX2_find 19 = .ok (.iload_n 3, 1) := by decide +kernel
theorem dX2_find_20 : decode cX2_find 20 = .ok (.aload_n 0, 1) := by decide +kernel
theorem dX2_find_21 : decode cX2_find 21 = .ok (.iload_n 1, 1) := by decide +kernel
theorem dX2_find_22 : decode cX2_find 22 = .ok (.iload 4, 2) := by decide +kernel
theorem dX2_find_24 : decode cX2_find 24 = .ok (.invokevirtual 60, 3) := by decide +kernel
theorem dX2_find_27 : decode cX2_find 27 = .ok (.ifCond .eq 7, 3) := by decide +kernel
theorem dX2_find_30 : decode cX2_find 30 = .ok (.iconst 1, 1) := by decide +kernel
theorem dX2_find_31 : decode cX2_find 31 = .ok (.goto 4, 3) := by decide +kernel
theorem dX2_find_34 : decode cX2_find 34 = .ok (.iconst 0, 1) := by decide +kernel
theorem dX2_find_35 : decode cX2_find 35 = .ok (.isub, 1) := by decide +kernel
theorem dX2_find_36 : decode cX2_find 36 = .ok (.istore_n 3, 1) := by decide +kernel
theorem dX2_find_37 : decode cX2_find 37 = .ok (.iinc 4 1, 3) := by decide +kernel
theorem dX2_find_40 : decode cX2_find 40 = .ok (.goto (-35), 3) := by decide +kernel
theorem dX2_find_43 : decode cX2_find 43 = .ok (.iload 4, 2) := by decide +kernel
theorem dX2_find_45 : decode cX2_find 45 = .ok (.ireturn, 1) := by decide +kernel
set_option maxRecDepth 20000 in
theorem ggX2_isNumber_X2_wanted : GoodIn wsX2_isNumber wsX2_wanted := goodIn_r _ [5, 6, 7, 8, 4, 9, 10, 11, 12, 13, 14, 15, 16, 17, 18, 19, 20, 21, 22, 23, 24, 25, 26, 27, 28, 29, 30, 31, 32, 33, 34, 35, 36, 37, 38, 39, 40] (by decide +kernel) (by decide +kernel)
set_option maxRecDepth 20000 in
theorem gX2_isNumber_X2_wanted : GoodIn wsX2_isNumber (wsV RX2 63 RX2 yX2_wanted wsX2_wanted) := goodIn_app (goodIn_of _ (by decide +kernel)) ggX2_isNumber_X2_wanted
theorem dX2_isNumber_0 : decode cX2_isNumber 0 = .ok (.iload_n 2, 1) := by decide +kernel
theorem dX2_isNumber_1 : decode cX2_isNumber 1 = .ok (.ifCond .lt 16, 3) := by decide +kernel
theorem dX2_isNumber_4 : decode cX2_isNumber 4 = .ok (.iload_n 2, 1) := by decide +kernel
theorem dX2_isNumber_5 : decode cX2_isNumber 5 = .ok (.aload_n 0, 1) := by decide +kernel
theorem dX2_isNumber_6 : decode cX2_isNumber 6 = .ok (.iload_n 1, 1) := by decide +kernel
theorem dX2_isNumber_7 : decode cX2_isNumber 7 = .ok (.invokevirtual 63, 3) := by decide +kernel
theorem dX2_isNumber_10 : decode cX2_isNumber 10 = .ok (.if_icmp .ge 7, 3) := by decide +kernel
theorem dX2_isNumber_13 : decode cX2_isNumber 13 = .ok (.iconst 1, 1) := by decide +kernel
theorem dX2_isNumber_14 : decode cX2_isNumber 14 = .ok (.goto 4, 3) := by decide +kernel
theorem dX2_isNumber_17 : decode cX2_isNumber 17 = .ok (.iconst 0, 1) := by decide +kernel
theorem dX2_isNumber_18 : decode cX2_isNumber 18 = .ok (.ireturn, 1) := by decide +kernel
set_option maxRecDepth 20000 in
theorem ggX2_matches_X2_wanted : GoodIn wsX2_matches wsX2_wanted := goodIn_r _ [6, 7, 8, 9, 5, 10, 11, 12, 13, 14, 15, 16, 17, 18, 19, 20, 21, 22, 23, 24, 25, 26, 27, 28, 29, 30, 31, 32, 33, 34, 35, 36, 37, 38, 39, 40, 41] (by decide +kernel) (by decide +kernel)
set_option maxRecDepth 20000 in
theorem gX2_matches_X2_wanted : GoodIn wsX2_matches (wsV RX2 63 RX2 yX2_wanted wsX2_wanted) := goodIn_app (goodIn_of _ (by decide +kernel)) ggX2_matches_X2_wanted
theorem dX2_matches_0 : decode cX2_matches 0 = .ok (.aload_n 0, 1) := by decide +kernel
theorem dX2_matches_1 : decode cX2_matches 1 = .ok (.iconst 0, 1) := by decide +kernel
theorem dX2_matches_2 : decode cX2_matches 2 = .ok (.putfield 16, 3) := by decide +kernel
theorem dX2_matches_5 : decode cX2_matches 5 = .ok (.aload_n 0, 1) := by decide +kernel
theorem dX2_matches_6 : decode cX2_matches 6 = .ok (.iconst 0, 1) := by decide +kernel
theorem dX2_matches_7 : decode cX2_matches 7 = .ok (.invokevirtual 63, 3) := by decide +kernel
theorem dX2_matches_10 : decode cX2_matches 10 = .ok (.ireturn, 1) := by decide +kernel
set_option maxRecDepth 20000 in
theorem ggX2_match_X2_isNumber : GoodIn wsX2_match wsX2_isNumber := goodIn_r _ [5, 6, 7, 8, 4, 9, 10, 11, 12, 13, 14, 15, 16, 17, 18, 19, 20, 21, 22, 23, 24, 25, 26, 27, 28, 29, 30, 31, 32, 33, 34, 35, 36, 37, 38, 39, 49, 50, 51, 52, 53] (by decide +kernel) (by decide +kernel)
set_option maxRecDepth 20000 in
theorem gX2_match_X2_isNumber : GoodIn wsX2_match (wsV RX2 66 RX2 yX2_isNumber wsX2_isNumber) := goodIn_app (goodIn_of _ (by decide +kernel)) ggX2_match_X2_isNumber
set_option maxRecDepth 20000 in
theorem ggX2_match_X2_goesWell : GoodIn wsX2_match wsX2_goesWell := goodIn_r _ [43, 44, 49, 50, 51, 52, 53] (by decide +kernel) (by decide +kernel)
set_option maxRecDepth 20000 in
theorem gX2_match_X2_goesWell : GoodIn wsX2_match (wsV RX2 27 RX2 yX2_goesWell wsX2_goesWell) := goodIn_app (goodIn_of _ (by decide +kernel)) ggX2_match_X2_goesWell
set_option maxRecDepth 20000 in
theorem ggX2_match_X2_find : GoodIn wsX2_match wsX2_find := goodIn_r _ [48, 16, 17, 18, 4, 19, 20, 21, 22, 23, 15, 24, 25, 26, 27, 28, 29, 30, 31, 32, 33, 34, 35, 36, 37, 38, 39, 49, 50, 51, 52, 53] (by decide +kernel) (by decide +kernel)
set_option maxRecDepth 20000 in
theorem gX2_match_X2_find : GoodIn wsX2_match (wsV RX2 69 RX2 yX2_find wsX2_find) := goodIn_app (goodIn_of _ (by decide +kernel)) ggX2_match_X2_find
theorem dX2_match_0 : decode cX2_match 0 = .ok (.aload_n 0, 1) := by decide +kernel
theorem dX2_match_1 : decode cX2_match 1 = .ok (.aload_n 0, 1) := by decide +kernel
theorem dX2_match_2 : decode cX2_match 2 = .ok (.iconst 0, 1) := by decide +kernel
theorem dX2_match_3 : decode cX2_match 3 = .ok (.iload_n 1, 1) := by decide +kernel
theorem dX2_match_4 : decode cX2_match 4 = .ok (.invokevirtual 66, 3) := by decide +kernel
theorem dX2_match_7 : decode cX2_match 7 = .ok (.ifCond .eq 7, 3) := by decide +kernel
theorem dX2_match_10 : decode cX2_match 10 = .ok (.iconst 0, 1) := by decide +kernel
theorem dX2_match_11 : decode cX2_match 11 = .ok (.goto 4, 3) := by decide +kernel
theorem dX2_match_14 : decode cX2_match 14 = .ok (.iconst 1, 1) := by decide +kernel
theorem dX2_match_15 : decode cX2_match 15 = .ok (.invokevirtual 27, 3) := by decide +kernel
theorem dX2_match_18 : decode cX2_match 18 = .ok (.ifCond .eq 12, 3) := by decide +kernel
theorem dX2_match_21 : decode cX2_match 21 = .ok (.aload_n 0, 1) := by decide +kernel
theorem dX2_match_22 : decode cX2_match 22 = .ok (.iconst 0, 1) := by decide +kernel
theorem dX2_match_23 : decode cX2_match 23 = .ok (.iload_n 1, 1) := by decide +kernel
theorem dX2_match_24 : decode cX2_match 24 = .ok (.invokevirtual 69, 3) := by decide +kernel
theorem dX2_match_27 : decode cX2_match 27 = .ok (.goto 4, 3) := by decide +kernel
theorem dX2_match_30 : decode cX2_match 30 = .ok (.iconst 0, 1) := by decide +kernel
theorem dX2_match_31 : decode cX2_match 31 = .ok (.ireturn, 1) := by decide +kernel
set_option maxRecDepth 20000 in
theorem ggX2_apart_X2_placeMany : GoodIn wsX2_apart wsX2_placeMany := goodIn_r _ [7, 8, 2, 33, 34, 35, 36, 37] (by decide +kernel) (by decide +kernel)
set_option maxRecDepth 20000 in
theorem gX2_apart_X2_placeMany : GoodIn wsX2_apart (wsV RX2 36 RX2 yX2_placeMany wsX2_placeMany) := goodIn_app (goodIn_of _ (by decide +kernel)) ggX2_apart_X2_placeMany
set_option maxRecDepth 20000 in
theorem ggX2_apart_X2_isWanted : GoodIn wsX2_apart wsX2_isWanted := goodIn_r _ [12, 13, 14, 15, 6, 16, 2, 17, 18, 19, 20, 21, 22, 23, 24, 25, 26, 27, 28, 29, 30, 31, 32, 33, 34, 35, 36, 37] (by decide +kernel) (by decide +kernel)
set_option maxRecDepth 20000 in
theorem gX2_apart_X2_isWanted : GoodIn wsX2_apart (wsV RX2 60 RX2 yX2_isWanted wsX2_isWanted) := goodIn_app (goodIn_of _ (by decide +kernel)) ggX2_apart_X2_isWanted
theorem dX2_apart_0 : decode cX2_apart 0 = .ok (.aload_n 0, 1) := by decide +kernel
theorem dX2_apart_1 : decode cX2_apart 1 = .ok (.iconst 0, 1) := by decide +kernel
theorem dX2_apart_2 : decode cX2_apart 2 = .ok (.putfield 16, 3) := by decide +kernel
theorem dX2_apart_5 : decode cX2_apart 5 = .ok (.iconst 0, 1) := by decide +kernel
theorem dX2_apart_6 : decode cX2_apart 6 = .ok (.istore_n 1, 1) := by decide +kernel
theorem dX2_apart_7 : decode cX2_apart 7 = .ok (.iconst 0, 1) := by decide +kernel
theorem dX2_apart_8 : decode cX2_apart 8 = .ok (.istore_n 2, 1) := by decide +kernel
theorem dX2_apart_9 : decode cX2_apart 9 = .ok (.iconst 0, 1) := by decide +kernel
theorem dX2_apart_10 : decode cX2_apart 10 = .ok (.istore_n 3, 1) := by decide +kernel
theorem dX2_apart_11 : decode cX2_apart 11 = .ok (.iload_n 3, 1) := by decide +kernel
theorem dX2_apart_12 : decode cX2_apart 12 = .ok (.aload_n 0, 1) := by decide +kernel
theorem dX2_apart_13 : decode cX2_apart 13 = .ok (.invokevirtual 36, 3) := by decide +kernel
theorem dX2_apart_16 : decode cX2_apart 16 = .ok (.if_icmp .ge 33, 3) := by decide +kernel
theorem dX2_apart_19 : decode cX2_apart 19 = .ok (.iload_n 3, 1) := by decide +kernel
theorem dX2_apart_20 : decode cX2_apart 20 = .ok (.iload_n 2, 1) := by decide +kernel
theorem dX2_apart_21 : decode cX2_apart 21 = .ok (.if_icmp .lt 22, 3) := by decide +kernel
theorem dX2_apart_24 : decode cX2_apart 24 = .ok (.aload_n 0, 1) := by decide +kernel
theorem dX2_apart_25 : decode cX2_apart 25 = .ok (.iconst 0, 1) := by decide +kernel
theorem dX2_apart_26 : decode cX2_apart 26 = .ok (.iload_n 3, 1) := by decide +kernel
theorem dX2_apart_27 : decode cX2_apart 27 = .ok (.invokevirtual 60, 3) := by decide +kernel
theorem dX2_apart_30 : decode cX2_apart 30 = .ok (.ifCond .eq 13, 3) := by decide +kernel
theorem dX2_apart_33 : decode cX2_apart 33 = .ok (.iinc 1 1, 3) := by decide +kernel
theorem dX2_apart_36 : decode cX2_apart 36 = .ok (.iload_n 3, 1) := by decide +kernel
theorem dX2_apart_37 : decode cX2_apart 37 = .ok (.aload_n 0, 1) := by decide +kernel
theorem dX2_apart_38 : decode cX2_apart 38 = .ok (.getfield 30, 3) := by decide +kernel
theorem dX2_apart_41 : decode cX2_apart 41 = .ok (.iadd, 1) := by decide +kernel
theorem dX2_apart_42 : decode cX2_apart 42 = .ok (.istore_n 2, 1) := by decide +kernel
theorem dX2_apart_43 : decode cX2_apart 43 = .ok (.iinc 3 1, 3) := by decide +kernel
theorem dX2_apart_46 : decode cX2_apart 46 = .ok (.goto (-35), 3) := by decide +kernel
theorem dX2_apart_49 : decode cX2_apart 49 = .ok (.iload_n 1, 1) := by decide +kernel
theorem dX2_apart_50 : decode cX2_apart 50 = .ok (.ireturn, 1) := by decide +kernel
set_option maxRecDepth 20000 in
theorem ggX2_mismatches_X2_isPlace : GoodIn wsX2_mismatches wsX2_isPlace := goodIn_r _ [5, 6, 7, 8, 4, 9, 10, 11, 26, 27, 28, 29, 30] (by decide +kernel) (by decide +kernel)
set_option maxRecDepth 20000 in
theorem gX2_mismatches_X2_isPlace : GoodIn wsX2_mismatches (wsV RX2 40 RX2 yX2_isPlace wsX2_isPlace) := goodIn_app (goodIn_of _ (by decide +kernel)) ggX2_mismatches_X2_isPlace
set_option maxRecDepth 20000 in
theorem ggX2_mismatches_X2_goesWell : GoodIn wsX2_mismatches wsX2_goesWell := goodIn_r _ [15, 16, 26, 27, 28, 29, 30] (by decide +kernel) (by decide +kernel)
set_option maxRecDepth 20000 in
theorem gX2_mismatches_X2_goesWell : GoodIn wsX2_mismatches (wsV RX2 27 RX2 yX2_goesWell wsX2_goesWell) := goodIn_app (goodIn_of _ (by decide +kernel)) ggX2_mismatches_X2_goesWell
set_option maxRecDepth 20000 in
theorem ggX2_mismatches_X2_countAt : GoodIn wsX2_mismatches wsX2_countAt := goodIn_r _ [20, 11, 21, 22, 23, 24, 4, 25, 26, 27, 28, 29, 30] (by decide +kernel) (by decide +kernel)
set_option maxRecDepth 20000 in
theorem gX2_mismatches_X2_countAt : GoodIn wsX2_mismatches (wsV RX2 51 RX2 yX2_countAt wsX2_countAt) := goodIn_app (goodIn_of _ (by decide +kernel)) ggX2_mismatches_X2_countAt
theorem dX2_mismatches_0 : decode cX2_mismatches 0 = .ok (.aload_n 0, 1) := by decide +kernel
theorem dX2_mismatches_1 : decode cX2_mismatches 1 = .ok (.aload_n 0, 1) := by decide +kernel
theorem dX2_mismatches_2 : decode cX2_mismatches 2 = .ok (.iload_n 1, 1) := by decide +kernel
theorem dX2_mismatches_3 : decode cX2_mismatches 3 = .ok (.invokevirtual 40, 3) := by decide +kernel
theorem dX2_mismatches_6 : decode cX2_mismatches 6 = .ok (.ifCond .eq 7, 3) := by decide +kernel
theorem dX2_mismatches_9 : decode cX2_mismatches 9 = .ok (.iconst 0, 1) := by decide +kernel
theorem dX2_mismatches_10 : decode cX2_mismatches 10 = .ok (.goto 4, 3) := by decide +kernel
theorem dX2_mismatches_13 : decode cX2_mismatches 13 = .ok (.iconst 1, 1) := by decide +kernel
theorem dX2_mismatches_14 : decode cX2_mismatches 14 = .ok (.invokevirtual 27, 3) := by decide +kernel
theorem dX2_mismatches_17 : decode cX2_mismatches 17 = .ok (.ifCond .eq 11, 3) := by decide +kernel
theorem dX2_mismatches_20 : decode cX2_mismatches 20 = .ok (.aload_n 0, 1) := by decide +kernel
theorem dX2_mismatches_21 : decode cX2_mismatches 21 = .ok (.iload_n 1, 1) := by decide +kernel
theorem dX2_mismatches_22 : decode cX2_mismatches 22 = .ok (.invokevirtual 51, 3) := by decide +kernel
theorem dX2_mismatches_25 : decode cX2_mismatches 25 = .ok (.goto 4, 3) := by decide +kernel
theorem dX2_mismatches_28 : decode cX2_mismatches 28 = .ok (.iconst 0, 1) := by decide +kernel
theorem dX2_mismatches_29 : decode cX2_mismatches 29 = .ok (.ireturn, 1) := by decide +kernel
set_option maxRecDepth 20000 in
theorem ggX2_mismatchesOf_X2_isPlace : GoodIn wsX2_mismatchesOf wsX2_isPlace := goodIn_r _ [8, 9, 10, 11, 7, 12, 13, 1, 22, 23, 24, 25, 26] (by decide +kernel) (by decide +kernel)
set_option maxRecDepth 20000 in
theorem gX2_mismatchesOf_X2_isPlace : GoodIn wsX2_mismatchesOf (wsV RX2 40 RX2 yX2_isPlace wsX2_isPlace) := goodIn_app (goodIn_of _ (by decide +kernel)) ggX2_mismatchesOf_X2_isPlace
set_option maxRecDepth 20000 in
theorem ggX2_mismatchesOf_X2_goesWell : GoodIn wsX2_mismatchesOf wsX2_goesWell := goodIn_r _ [17, 18, 22, 23, 24, 25, 26] (by decide +kernel) (by decide +kernel)
set_option maxRecDepth 20000 in
theorem gX2_mismatchesOf_X2_goesWell : GoodIn wsX2_mismatchesOf (wsV RX2 27 RX2 yX2_goesWell wsX2_goesWell) := goodIn_app (goodIn_of _ (by decide +kernel)) ggX2_mismatchesOf_X2_goesWell
set_option maxRecDepth 20000 in
theorem ggX2_mismatchesOf_X2_agree : GoodIn wsX2_mismatchesOf wsX2_agree := goodIn_r _ [21] (by decide +kernel) (by decide +kernel)
set_option maxRecDepth 20000 in
theorem gX2_mismatchesOf_X2_agree : GoodIn wsX2_mismatchesOf (va_wsS RX2 43 yX2_agree wsX2_agree) := goodIn_app (goodIn_of _ (by decide +kernel)) ggX2_mismatchesOf_X2_agree
theorem dX2_mismatchesOf_0 : decode cX2_mismatchesOf 0 = .ok (.aload_n 0, 1) := by decide +kernel
theorem dX2_mismatchesOf_1 : decode cX2_mismatchesOf 1 = .ok (.iload_n 2, 1) := by decide +kernel
theorem dX2_mismatchesOf_2 : decode cX2_mismatchesOf 2 = .ok (.iconst 1, 1) := by decide +kernel
theorem dX2_mismatchesOf_3 : decode cX2_mismatchesOf 3 = .ok (.if_icmp .lt 9, 3) := by decide +kernel
theorem dX2_mismatchesOf_6 : decode cX2_mismatchesOf 6 = .ok (.iload_n 2, 1) := by decide +kernel
theorem dX2_mismatchesOf_7 : decode cX2_mismatchesOf 7 = .ok (.bipush 26, 2) := by decide +kernel
theorem dX2_mismatchesOf_9 : decode cX2_mismatchesOf 9 = .ok (.if_icmp .le 7, 3) := by decide +kernel
theorem dX2_mismatchesOf_12 : decode cX2_mismatchesOf 12 = .ok (.iconst 1, 1) := by decide +kernel
theorem dX2_mismatchesOf_13 : decode cX2_mismatchesOf 13 = .ok (.goto 16, 3) := by decide +kernel
theorem dX2_mismatchesOf_16 : decode cX2_mismatchesOf 16 = .ok (.aload_n 0, 1) := by decide +kernel
theorem dX2_mismatchesOf_17 : decode cX2_mismatchesOf 17 = .ok (.iload_n 1, 1) := by decide +kernel
theorem dX2_mismatchesOf_18 : decode cX2_mismatchesOf 18 = .ok (.invokevirtual 40, 3) := by decide +kernel
theorem dX2_mismatchesOf_21 : decode cX2_mismatchesOf 21 = .ok (.ifCond .eq 7, 3) := by decide +kernel
theorem dX2_mismatchesOf_24 : decode cX2_mismatchesOf 24 = .ok (.iconst 0, 1) := by decide +kernel
theorem dX2_mismatchesOf_25 : decode cX2_mismatchesOf 25 = .ok (.goto 4, 3) := by decide +kernel
theorem dX2_mismatchesOf_28 : decode cX2_mismatchesOf 28 = .ok (.iconst 2, 1) := by decide +kernel
theorem dX2_mismatchesOf_29 : decode cX2_mismatchesOf 29 = .ok (.invokevirtual 27, 3) := by decide +kernel
theorem dX2_mismatchesOf_32 : decode cX2_mismatchesOf 32 = .ok (.ifCond .ne 5, 3) := by decide +kernel
theorem dX2_mismatchesOf_35 : decode cX2_mismatchesOf 35 = .ok (.iconst 0, 1) := by decide +kernel
theorem dX2_mismatchesOf_36 : decode cX2_mismatchesOf 36 = .ok (.ireturn, 1) := by decide +kernel
theorem dX2_mismatchesOf_37 : decode cX2_mismatchesOf 37 = .ok (.iconst 0, 1) := by decide +kernel
theorem dX2_mismatchesOf_38 : decode cX2_mismatchesOf 38 = .ok (.istore_n 3, 1) := by decide +kernel
theorem dX2_mismatchesOf_39 : decode cX2_mismatchesOf 39 = .ok (.iconst 0, 1) := by decide +kernel
theorem dX2_mismatchesOf_40 : decode cX2_mismatchesOf 40 = .ok (.istore 4, 2) := by decide +kernel
theorem dX2_mismatchesOf_42 : decode cX2_mismatchesOf 42 = .ok (.iload 4, 2) := by decide +kernel
theorem dX2_mismatchesOf_44 : decode cX2_mismatchesOf 44 = .ok (.aload_n 0, 1) := by decide +kernel
theorem dX2_mismatchesOf_45 : decode cX2_mismatchesOf 45 = .ok (.getfield 30, 3) := by decide +kernel
theorem dX2_mismatchesOf_48 : decode cX2_mismatchesOf 48 = .ok (.if_icmp .ge 44, 3) := by decide +kernel
theorem dX2_mismatchesOf_51 : decode cX2_mismatchesOf 51 = .ok (.iload_n 3, 1) := by decide +kernel
theorem dX2_mismatchesOf_52 : decode cX2_mismatchesOf 52 = .ok (.aload_n 0, 1) := by decide +kernel
theorem dX2_mismatchesOf_53 : decode cX2_mismatchesOf 53 = .ok (.getfield 13, 3) := by decide +kernel
theorem dX2_mismatchesOf_56 : decode cX2_mismatchesOf 56 = .ok (.iload 4, 2) := by decide +kernel
theorem dX2_mismatchesOf_58 : decode cX2_mismatchesOf 58 = .ok (.iaload, 1) := by decide +kernel
theorem dX2_mismatchesOf_59 : decode cX2_mismatchesOf 59 = .ok (.iload_n 2, 1) := by decide +kernel
theorem dX2_mismatchesOf_60 : decode cX2_mismatchesOf 60 = .ok (.if_icmp .ne 23, 3) := by decide +kernel
theorem dX2_mismatchesOf_63 : decode cX2_mismatchesOf 63 = .ok (.iload_n 2, 1) := by decide +kernel
theorem dX2_mismatchesOf_64 : decode cX2_mismatchesOf 64 = .ok (.aload_n 0, 1) := by decide +kernel
theorem dX2_mismatchesOf_65 : decode cX2_mismatchesOf 65 = .ok (.getfield 7, 3) := by decide +kernel
theorem dX2_mismatchesOf_68 : decode cX2_mismatchesOf 68 = .ok (.iload_n 1, 1) := by decide +kernel
theorem dX2_mismatchesOf_69 : decode cX2_mismatchesOf 69 = .ok (.iload 4, 2) := by decide +kernel
theorem dX2_mismatchesOf_71 : decode cX2_mismatchesOf 71 = .ok (.iadd, 1) := by decide +kernel
theorem dX2_mismatchesOf_72 : decode cX2_mismatchesOf 72 = .ok (.iaload, 1) := by decide +kernel
theorem dX2_mismatchesOf_73 : decode cX2_mismatchesOf 73 = .ok (.invokestatic 43, 3) := by decide +kernel
theorem dX2_mismatchesOf_76 : decode cX2_mismatchesOf 76 = .ok (.ifCond .ne 7, 3) := by decide +kernel
theorem dX2_mismatchesOf_79 : decode cX2_mismatchesOf 79 = .ok (.iconst 1, 1) := by decide +kernel
theorem dX2_mismatchesOf_80 : decode cX2_mismatchesOf 80 = .ok (.goto 4, 3) := by decide +kernel
theorem dX2_mismatchesOf_83 : decode cX2_mismatchesOf 83 = .ok (.iconst 0, 1) := by decide +kernel
theorem dX2_mismatchesOf_84 : decode cX2_mismatchesOf 84 = .ok (.iadd, 1) := by decide +kernel
theorem dX2_mismatchesOf_85 : decode cX2_mismatchesOf 85 = .ok (.istore_n 3, 1) := by decide +kernel
theorem dX2_mismatchesOf_86 : decode cX2_mismatchesOf 86 = .ok (.iinc 4 1, 3) := by decide +kernel
theorem dX2_mismatchesOf_89 : decode cX2_mismatchesOf 89 = .ok (.goto (-47), 3) := by decide +kernel
theorem dX2_mismatchesOf_92 : decode cX2_mismatchesOf 92 = .ok (.iload_n 3, 1) := by decide +kernel
theorem dX2_mismatchesOf_93 : decode cX2_mismatchesOf 93 = .ok (.ireturn, 1) := by decide +kernel
set_option maxRecDepth 20000 in
theorem ggX2_nextMismatch_X2_isPlace : GoodIn wsX2_nextMismatch wsX2_isPlace := goodIn_r _ [8, 9, 10, 11, 7, 12, 13, 1, 22, 23, 24, 25, 26] (by decide +kernel) (by decide +kernel)
set_option maxRecDepth 20000 in
theorem gX2_nextMismatch_X2_isPlace : GoodIn wsX2_nextMismatch (wsV RX2 40 RX2 yX2_isPlace wsX2_isPlace) := goodIn_app (goodIn_of _ (by decide +kernel)) ggX2_nextMismatch_X2_isPlace
set_option maxRecDepth 20000 in
theorem ggX2_nextMismatch_X2_goesWell : GoodIn wsX2_nextMismatch wsX2_goesWell := goodIn_r _ [17, 18, 22, 23, 24, 25, 26] (by decide +kernel) (by decide +kernel)
set_option maxRecDepth 20000 in
theorem gX2_nextMismatch_X2_goesWell : GoodIn wsX2_nextMismatch (wsV RX2 27 RX2 yX2_goesWell wsX2_goesWell) := goodIn_app (goodIn_of _ (by decide +kernel)) ggX2_nextMismatch_X2_goesWell
set_option maxRecDepth 20000 in
theorem ggX2_nextMismatch_X2_agree : GoodIn wsX2_nextMismatch wsX2_agree := goodIn_r _ [21] (by decide +kernel) (by decide +kernel)
set_option maxRecDepth 20000 in
theorem gX2_nextMismatch_X2_agree : GoodIn wsX2_nextMismatch (va_wsS RX2 43 yX2_agree wsX2_agree) := goodIn_app (goodIn_of _ (by decide +kernel)) ggX2_nextMismatch_X2_agree
theorem dX2_nextMismatch_0 : decode cX2_nextMismatch 0 = .ok (.aload_n 0, 1) := by decide +kernel
theorem dX2_nextMismatch_1 : decode cX2_nextMismatch 1 = .ok (.iload_n 2, 1) := by decide +kernel
theorem dX2_nextMismatch_2 : decode cX2_nextMismatch 2 = .ok (.ifCond .ge 7, 3) := by decide +kernel
theorem dX2_nextMismatch_5 : decode cX2_nextMismatch 5 = .ok (.iconst 1, 1) := by decide +kernel
theorem dX2_nextMismatch_6 : decode cX2_nextMismatch 6 = .ok (.goto 16, 3) := by decide +kernel
theorem dX2_nextMismatch_9 : decode cX2_nextMismatch 9 = .ok (.aload_n 0, 1) := by decide +kernel
theorem dX2_nextMismatch_10 : decode cX2_nextMismatch 10 = .ok (.iload_n 1, 1) := by decide +kernel
theorem dX2_nextMismatch_11 : decode cX2_nextMismatch 11 = .ok (.invokevirtual 40, 3) := by decide +kernel
theorem dX2_nextMismatch_14 : decode cX2_nextMismatch 14 = .ok (.ifCond .eq 7, 3) := by decide +kernel
theorem dX2_nextMismatch_17 : decode cX2_nextMismatch 17 = .ok (.iconst 0, 1) := by decide +kernel
theorem dX2_nextMismatch_18 : decode cX2_nextMismatch 18 = .ok (.goto 4, 3) := by decide +kernel
theorem dX2_nextMismatch_21 : decode cX2_nextMismatch 21 = .ok (.iconst 2, 1) := by decide +kernel
theorem dX2_nextMismatch_22 : decode cX2_nextMismatch 22 = .ok (.invokevirtual 27, 3) := by decide +kernel
theorem dX2_nextMismatch_25 : decode cX2_nextMismatch 25 = .ok (.ifCond .ne 5, 3) := by decide +kernel
theorem dX2_nextMismatch_28 : decode cX2_nextMismatch 28 = .ok (.iconst 0, 1) := by decide +kernel
theorem dX2_nextMismatch_29 : decode cX2_nextMismatch 29 = .ok (.ireturn, 1) := by decide +kernel
theorem dX2_nextMismatch_30 : decode cX2_nextMismatch 30 = .ok (.iload_n 2, 1) := by decide +kernel
theorem dX2_nextMismatch_31 : decode cX2_nextMismatch 31 = .ok (.istore_n 3, 1) := by decide +kernel
theorem dX2_nextMismatch_32 : decode cX2_nextMismatch 32 = .ok (.iload_n 3, 1) := by decide +kernel
theorem dX2_nextMismatch_33 : decode cX2_nextMismatch 33 = .ok (.aload_n 0, 1) := by decide +kernel
theorem dX2_nextMismatch_34 : decode cX2_nextMismatch 34 = .ok (.getfield 30, 3) := by decide +kernel
theorem dX2_nextMismatch_37 : decode cX2_nextMismatch 37 = .ok (.if_icmp .ge 31, 3) := by decide +kernel
theorem dX2_nextMismatch_40 : decode cX2_nextMismatch 40 = .ok (.aload_n 0, 1) := by decide +kernel
theorem dX2_nextMismatch_41 : decode cX2_nextMismatch 41 = .ok (.getfield 13, 3) := by decide +kernel
theorem dX2_nextMismatch_44 : decode cX2_nextMismatch 44 = .ok (.iload_n 3, 1) := by decide +kernel
theorem dX2_nextMismatch_45 : decode cX2_nextMismatch 45 = .ok (.iaload, 1) := by decide +kernel
theorem dX2_nextMismatch_46 : decode cX2_nextMismatch 46 = .ok (.aload_n 0, 1) := by decide +kernel
theorem dX2_nextMismatch_47 : decode cX2_nextMismatch 47 = .ok (.getfield 7, 3) := by decide +kernel
theorem dX2_nextMismatch_50 : decode cX2_nextMismatch 50 = .ok (.iload_n 1, 1) := by decide +kernel
theorem dX2_nextMismatch_51 : decode cX2_nextMismatch 51 = .ok (.iload_n 3, 1) := by decide +kernel
theorem dX2_nextMismatch_52 : decode cX2_nextMismatch 52 = .ok (.iadd, 1) := by decide +kernel
theorem dX2_nextMismatch_53 : decode cX2_nextMismatch 53 = .ok (.iaload, 1) := by decide +kernel
theorem dX2_nextMismatch_54 : decode cX2_nextMismatch 54 = .ok (.invokestatic 43, 3) := by decide +kernel
theorem dX2_nextMismatch_57 : decode cX2_nextMismatch 57 = .ok (.ifCond .ne 5, 3) := by decide +kernel
theorem dX2_nextMismatch_60 : decode cX2_nextMismatch 60 = .ok (.iload_n 3, 1) := by decide +kernel
theorem dX2_nextMismatch_61 : decode cX2_nextMismatch 61 = .ok (.ireturn, 1) := by decide +kernel
theorem dX2_nextMismatch_62 : decode cX2_nextMismatch 62 = .ok (.iinc 3 1, 3) := by decide +kernel
theorem dX2_nextMismatch_65 : decode cX2_nextMismatch 65 = .ok (.goto (-33), 3) := by decide +kernel
theorem dX2_nextMismatch_68 : decode cX2_nextMismatch 68 = .ok (.iconst (-1), 1) := by decide +kernel
theorem dX2_nextMismatch_69 : decode cX2_nextMismatch 69 = .ok (.ireturn, 1) := by decide +kernel
set_option maxRecDepth 20000 in
theorem ggX2_agreement_X2_goesWell : GoodIn wsX2_agreement wsX2_goesWell := goodIn_r _ [9, 10, 14, 15, 16, 17, 18] (by decide +kernel) (by decide +kernel)
set_option maxRecDepth 20000 in
theorem gX2_agreement_X2_goesWell : GoodIn wsX2_agreement (wsV RX2 27 RX2 yX2_goesWell wsX2_goesWell) := goodIn_app (goodIn_of _ (by decide +kernel)) ggX2_agreement_X2_goesWell
set_option maxRecDepth 20000 in
theorem ggX2_agreement_X2_agree : GoodIn wsX2_agreement wsX2_agree := goodIn_r _ [13] (by decide +kernel) (by decide +kernel)
set_option maxRecDepth 20000 in
theorem gX2_agreement_X2_agree : GoodIn wsX2_agreement (va_wsS RX2 43 yX2_agree wsX2_agree) := goodIn_app (goodIn_of _ (by decide +kernel)) ggX2_agreement_X2_agree
theorem dX2_agreement_0 : decode cX2_agreement 0 = .ok (.iload_n 1, 1) := by decide +kernel
theorem dX2_agreement_1 : decode cX2_agreement 1 = .ok (.ifCond .lt 27, 3) := by decide +kernel
theorem dX2_agreement_4 : decode cX2_agreement 4 = .ok (.iload_n 1, 1) := by decide +kernel
theorem dX2_agreement_5 : decode cX2_agreement 5 = .ok (.aload_n 0, 1) := by decide +kernel
theorem dX2_agreement_6 : decode cX2_agreement 6 = .ok (.getfield 24, 3) := by decide +kernel
theorem dX2_agreement_9 : decode cX2_agreement 9 = .ok (.if_icmp .gt 19, 3) := by decide +kernel
theorem dX2_agreement_12 : decode cX2_agreement 12 = .ok (.iload_n 2, 1) := by decide +kernel
theorem dX2_agreement_13 : decode cX2_agreement 13 = .ok (.ifCond .lt 15, 3) := by decide +kernel
theorem dX2_agreement_16 : decode cX2_agreement 16 = .ok (.iload_n 2, 1) := by decide +kernel
theorem dX2_agreement_17 : decode cX2_agreement 17 = .ok (.aload_n 0, 1) := by decide +kernel
theorem dX2_agreement_18 : decode cX2_agreement 18 = .ok (.getfield 30, 3) := by decide +kernel
theorem dX2_agreement_21 : decode cX2_agreement 21 = .ok (.if_icmp .gt 7, 3) := by decide +kernel
theorem dX2_agreement_24 : decode cX2_agreement 24 = .ok (.iconst 1, 1) := by decide +kernel
theorem dX2_agreement_25 : decode cX2_agreement 25 = .ok (.goto 4, 3) := by decide +kernel
theorem dX2_agreement_28 : decode cX2_agreement 28 = .ok (.iconst 0, 1) := by decide +kernel
theorem dX2_agreement_29 : decode cX2_agreement 29 = .ok (.istore_n 3, 1) := by decide +kernel
theorem dX2_agreement_30 : decode cX2_agreement 30 = .ok (.aload_n 0, 1) := by decide +kernel
theorem dX2_agreement_31 : decode cX2_agreement 31 = .ok (.iload_n 3, 1) := by decide +kernel
theorem dX2_agreement_32 : decode cX2_agreement 32 = .ok (.ifCond .eq 7, 3) := by decide +kernel
theorem dX2_agreement_35 : decode cX2_agreement 35 = .ok (.iconst 0, 1) := by decide +kernel
theorem dX2_agreement_36 : decode cX2_agreement 36 = .ok (.goto 4, 3) := by decide +kernel
theorem dX2_agreement_39 : decode cX2_agreement 39 = .ok (.iconst 1, 1) := by decide +kernel
theorem dX2_agreement_40 : decode cX2_agreement 40 = .ok (.invokevirtual 27, 3) := by decide +kernel
theorem dX2_agreement_43 : decode cX2_agreement 43 = .ok (.ifCond .ne 5, 3) := by decide +kernel
theorem dX2_agreement_46 : decode cX2_agreement 46 = .ok (.iconst 0, 1) := by decide +kernel
theorem dX2_agreement_47 : decode cX2_agreement 47 = .ok (.ireturn, 1) := by decide +kernel
theorem dX2_agreement_48 : decode cX2_agreement 48 = .ok (.iconst 0, 1) := by decide +kernel
theorem dX2_agreement_49 : decode cX2_agreement 49 = .ok (.istore 4, 2) := by decide +kernel
theorem dX2_agreement_51 : decode cX2_agreement 51 = .ok (.iload_n 1, 1) := by decide +kernel
theorem dX2_agreement_52 : decode cX2_agreement 52 = .ok (.iload 4, 2) := by decide +kernel
theorem dX2_agreement_54 : decode cX2_agreement 54 = .ok (.iadd, 1) := by decide +kernel
theorem dX2_agreement_55 : decode cX2_agreement 55 = .ok (.aload_n 0, 1) := by decide +kernel
theorem dX2_agreement_56 : decode cX2_agreement 56 = .ok (.getfield 24, 3) := by decide +kernel
theorem dX2_agreement_59 : decode cX2_agreement 59 = .ok (.if_icmp .ge 44, 3) := by decide +kernel
theorem dX2_agreement_62 : decode cX2_agreement 62 = .ok (.iload_n 2, 1) := by decide +kernel
theorem dX2_agreement_63 : decode cX2_agreement 63 = .ok (.iload 4, 2) := by decide +kernel
theorem dX2_agreement_65 : decode cX2_agreement 65 = .ok (.iadd, 1) := by decide +kernel
theorem dX2_agreement_66 : decode cX2_agreement 66 = .ok (.aload_n 0, 1) := by decide +kernel
theorem dX2_agreement_67 : decode cX2_agreement 67 = .ok (.getfield 30, 3) := by decide +kernel
theorem dX2_agreement_70 : decode cX2_agreement 70 = .ok (.if_icmp .ge 33, 3) := by decide +kernel
theorem dX2_agreement_73 : decode cX2_agreement 73 = .ok (.aload_n 0, 1) := by decide +kernel
theorem dX2_agreement_74 : decode cX2_agreement 74 = .ok (.getfield 7, 3) := by decide +kernel
theorem dX2_agreement_77 : decode cX2_agreement 77 = .ok (.iload_n 1, 1) := by decide +kernel
theorem dX2_agreement_78 : decode cX2_agreement 78 = .ok (.iload 4, 2) := by decide +kernel
theorem dX2_agreement_80 : decode cX2_agreement 80 = .ok (.iadd, 1) := by decide +kernel
theorem dX2_agreement_81 : decode cX2_agreement 81 = .ok (.iaload, 1) := by decide +kernel
theorem dX2_agreement_82 : decode cX2_agreement 82 = .ok (.aload_n 0, 1) := by decide +kernel
theorem dX2_agreement_83 : decode cX2_agreement 83 = .ok (.getfield 13, 3) := by decide +kernel
theorem dX2_agreement_86 : decode cX2_agreement 86 = .ok (.iload_n 2, 1) := by decide +kernel
theorem dX2_agreement_87 : decode cX2_agreement 87 = .ok (.iload 4, 2) := by decide +kernel
theorem dX2_agreement_89 : decode cX2_agreement 89 = .ok (.iadd, 1) := by decide +kernel
theorem dX2_agreement_90 : decode cX2_agreement 90 = .ok (.iaload, 1) := by decide +kernel
theorem dX2_agreement_91 : decode cX2_agreement 91 = .ok (.invokestatic 43, 3) := by decide +kernel
theorem dX2_agreement_94 : decode cX2_agreement 94 = .ok (.ifCond .eq 9, 3) := by decide +kernel
theorem dX2_agreement_97 : decode cX2_agreement 97 = .ok (.iinc 4 1, 3) := by decide +kernel
theorem dX2_agreement_100 : decode cX2_agreement 100 = .ok (.goto (-49), 3) := by decide +kernel
theorem dX2_agreement_103 : decode cX2_agreement 103 = .ok (.iload 4, 2) := by decide +kernel
theorem dX2_agreement_105 : decode cX2_agreement 105 = .ok (.ireturn, 1) := by decide +kernel
set_option maxRecDepth 20000 in
theorem ggX2_within_X2_goesWell : GoodIn wsX2_within wsX2_goesWell := goodIn_r _ [5, 6, 22, 23, 24, 25, 26] (by decide +kernel) (by decide +kernel)
set_option maxRecDepth 20000 in
theorem gX2_within_X2_goesWell : GoodIn wsX2_within (wsV RX2 27 RX2 yX2_goesWell wsX2_goesWell) := goodIn_app (goodIn_of _ (by decide +kernel)) ggX2_within_X2_goesWell
set_option maxRecDepth 20000 in
theorem ggX2_within_X2_placeMany : GoodIn wsX2_within wsX2_placeMany := goodIn_r _ [10, 11, 12, 22, 23, 24, 25, 26] (by decide +kernel) (by decide +kernel)
set_option maxRecDepth 20000 in
theorem gX2_within_X2_placeMany : GoodIn wsX2_within (wsV RX2 36 RX2 yX2_placeMany wsX2_placeMany) := goodIn_app (goodIn_of _ (by decide +kernel)) ggX2_within_X2_placeMany
set_option maxRecDepth 20000 in
theorem ggX2_within_X2_countAt : GoodIn wsX2_within wsX2_countAt := goodIn_r _ [16, 12, 17, 18, 19, 20, 4, 21, 22, 23, 24, 25, 26] (by decide +kernel) (by decide +kernel)
set_option maxRecDepth 20000 in
theorem gX2_within_X2_countAt : GoodIn wsX2_within (wsV RX2 51 RX2 yX2_countAt wsX2_countAt) := goodIn_app (goodIn_of _ (by decide +kernel)) ggX2_within_X2_countAt
theorem dX2_within_0 : decode cX2_within 0 = .ok (.aload_n 0, 1) := by decide +kernel
theorem dX2_within_1 : decode cX2_within 1 = .ok (.iload_n 1, 1) := by decide +kernel
theorem dX2_within_2 : decode cX2_within 2 = .ok (.ifCond .ge 7, 3) := by decide +kernel
theorem dX2_within_5 : decode cX2_within 5 = .ok (.iconst 1, 1) := by decide +kernel
theorem dX2_within_6 : decode cX2_within 6 = .ok (.goto 4, 3) := by decide +kernel
theorem dX2_within_9 : decode cX2_within 9 = .ok (.iconst 0, 1) := by decide +kernel
theorem dX2_within_10 : decode cX2_within 10 = .ok (.invokevirtual 27, 3) := by decide +kernel
theorem dX2_within_13 : decode cX2_within 13 = .ok (.ifCond .ne 5, 3) := by decide +kernel
theorem dX2_within_16 : decode cX2_within 16 = .ok (.iconst 0, 1) := by decide +kernel
theorem dX2_within_17 : decode cX2_within 17 = .ok (.ireturn, 1) := by decide +kernel
theorem dX2_within_18 : decode cX2_within 18 = .ok (.iconst 0, 1) := by decide +kernel
theorem dX2_within_19 : decode cX2_within 19 = .ok (.istore_n 2, 1) := by decide +kernel
theorem dX2_within_20 : decode cX2_within 20 = .ok (.iconst 0, 1) := by decide +kernel
theorem dX2_within_21 : decode cX2_within 21 = .ok (.istore_n 3, 1) := by decide +kernel
theorem dX2_within_22 : decode cX2_within 22 = .ok (.iload_n 3, 1) := by decide +kernel
theorem dX2_within_23 : decode cX2_within 23 = .ok (.aload_n 0, 1) := by decide +kernel
theorem dX2_within_24 : decode cX2_within 24 = .ok (.invokevirtual 36, 3) := by decide +kernel
theorem dX2_within_27 : decode cX2_within 27 = .ok (.if_icmp .ge 26, 3) := by decide +kernel
theorem dX2_within_30 : decode cX2_within 30 = .ok (.iload_n 2, 1) := by decide +kernel
theorem dX2_within_31 : decode cX2_within 31 = .ok (.aload_n 0, 1) := by decide +kernel
theorem dX2_within_32 : decode cX2_within 32 = .ok (.iload_n 3, 1) := by decide +kernel
theorem dX2_within_33 : decode cX2_within 33 = .ok (.invokevirtual 51, 3) := by decide +kernel
theorem dX2_within_36 : decode cX2_within 36 = .ok (.iload_n 1, 1) := by decide +kernel
theorem dX2_within_37 : decode cX2_within 37 = .ok (.if_icmp .gt 7, 3) := by decide +kernel
theorem dX2_within_40 : decode cX2_within 40 = .ok (.iconst 1, 1) := by decide +kernel
theorem dX2_within_41 : decode cX2_within 41 = .ok (.goto 4, 3) := by decide +kernel
theorem dX2_within_44 : decode cX2_within 44 = .ok (.iconst 0, 1) := by decide +kernel
theorem dX2_within_45 : decode cX2_within 45 = .ok (.iadd, 1) := by decide +kernel
theorem dX2_within_46 : decode cX2_within 46 = .ok (.istore_n 2, 1) := by decide +kernel
theorem dX2_within_47 : decode cX2_within 47 = .ok (.iinc 3 1, 3) := by decide +kernel
theorem dX2_within_50 : decode cX2_within 50 = .ok (.goto (-28), 3) := by decide +kernel
theorem dX2_within_53 : decode cX2_within 53 = .ok (.iload_n 2, 1) := by decide +kernel
theorem dX2_within_54 : decode cX2_within 54 = .ok (.ireturn, 1) := by decide +kernel
set_option maxRecDepth 20000 in
theorem ggX2_ranked_X2_isPlace : GoodIn wsX2_ranked wsX2_isPlace := goodIn_r _ [5, 6, 7, 8, 4, 9, 10, 11, 26, 27, 28, 29, 30] (by decide +kernel) (by decide +kernel)
set_option maxRecDepth 20000 in
theorem gX2_ranked_X2_isPlace : GoodIn wsX2_ranked (wsV RX2 40 RX2 yX2_isPlace wsX2_isPlace) := goodIn_app (goodIn_of _ (by decide +kernel)) ggX2_ranked_X2_isPlace
set_option maxRecDepth 20000 in
theorem ggX2_ranked_X2_goesWell : GoodIn wsX2_ranked wsX2_goesWell := goodIn_r _ [15, 16, 26, 27, 28, 29, 30] (by decide +kernel) (by decide +kernel)
set_option maxRecDepth 20000 in
theorem gX2_ranked_X2_goesWell : GoodIn wsX2_ranked (wsV RX2 27 RX2 yX2_goesWell wsX2_goesWell) := goodIn_app (goodIn_of _ (by decide +kernel)) ggX2_ranked_X2_goesWell
set_option maxRecDepth 20000 in
theorem ggX2_ranked_X2_placeMany : GoodIn wsX2_ranked wsX2_placeMany := goodIn_r _ [9, 10, 11, 26, 27, 28, 29, 30] (by decide +kernel) (by decide +kernel)
set_option maxRecDepth 20000 in
theorem gX2_ranked_X2_placeMany : GoodIn wsX2_ranked (wsV RX2 36 RX2 yX2_placeMany wsX2_placeMany) := goodIn_app (goodIn_of _ (by decide +kernel)) ggX2_ranked_X2_placeMany
set_option maxRecDepth 20000 in
theorem ggX2_ranked_X2_countAt : GoodIn wsX2_ranked wsX2_countAt := goodIn_r _ [20, 11, 21, 22, 23, 24, 4, 25, 26, 27, 28, 29, 30] (by decide +kernel) (by decide +kernel)
set_option maxRecDepth 20000 in
theorem gX2_ranked_X2_countAt : GoodIn wsX2_ranked (wsV RX2 51 RX2 yX2_countAt wsX2_countAt) := goodIn_app (goodIn_of _ (by decide +kernel)) ggX2_ranked_X2_countAt
theorem dX2_ranked_0 : decode cX2_ranked 0 = .ok (.aload_n 0, 1) := by decide +kernel
theorem dX2_ranked_1 : decode cX2_ranked 1 = .ok (.aload_n 0, 1) := by decide +kernel
theorem dX2_ranked_2 : decode cX2_ranked 2 = .ok (.iload_n 1, 1) := by decide +kernel
theorem dX2_ranked_3 : decode cX2_ranked 3 = .ok (.invokevirtual 40, 3) := by decide +kernel
theorem dX2_ranked_6 : decode cX2_ranked 6 = .ok (.ifCond .eq 7, 3) := by decide +kernel
theorem dX2_ranked_9 : decode cX2_ranked 9 = .ok (.iconst 0, 1) := by decide +kernel
theorem dX2_ranked_10 : decode cX2_ranked 10 = .ok (.goto 4, 3) := by decide +kernel
theorem dX2_ranked_13 : decode cX2_ranked 13 = .ok (.iconst 1, 1) := by decide +kernel
theorem dX2_ranked_14 : decode cX2_ranked 14 = .ok (.invokevirtual 27, 3) := by decide +kernel
theorem dX2_ranked_17 : decode cX2_ranked 17 = .ok (.ifCond .ne 5, 3) := by decide +kernel
theorem dX2_ranked_20 : decode cX2_ranked 20 = .ok (.iconst 0, 1) := by decide +kernel
theorem dX2_ranked_21 : decode cX2_ranked 21 = .ok (.ireturn, 1) := by decide +kernel
theorem dX2_ranked_22 : decode cX2_ranked 22 = .ok (.iconst 0, 1) := by decide +kernel
theorem dX2_ranked_23 : decode cX2_ranked 23 = .ok (.istore_n 2, 1) := by decide +kernel
theorem dX2_ranked_24 : decode cX2_ranked 24 = .ok (.iload_n 2, 1) := by decide +kernel
theorem dX2_ranked_25 : decode cX2_ranked 25 = .ok (.aload_n 0, 1) := by decide +kernel
theorem dX2_ranked_26 : decode cX2_ranked 26 = .ok (.invokevirtual 36, 3) := by decide +kernel
theorem dX2_ranked_29 : decode cX2_ranked 29 = .ok (.if_icmp .ge 78, 3) := by decide +kernel
theorem dX2_ranked_32 : decode cX2_ranked 32 = .ok (.iconst 0, 1) := by decide +kernel
theorem dX2_ranked_33 : decode cX2_ranked 33 = .ok (.istore_n 3, 1) := by decide +kernel
theorem dX2_ranked_34 : decode cX2_ranked 34 = .ok (.iconst 0, 1) := by decide +kernel
theorem dX2_ranked_35 : decode cX2_ranked 35 = .ok (.istore 4, 2) := by decide +kernel
theorem dX2_ranked_37 : decode cX2_ranked 37 = .ok (.iload 4, 2) := by decide +kernel
theorem dX2_ranked_39 : decode cX2_ranked 39 = .ok (.aload_n 0, 1) := by decide +kernel
theorem dX2_ranked_40 : decode cX2_ranked 40 = .ok (.invokevirtual 36, 3) := by decide +kernel
theorem dX2_ranked_43 : decode cX2_ranked 43 = .ok (.if_icmp .ge 51, 3) := by decide +kernel
theorem dX2_ranked_46 : decode cX2_ranked 46 = .ok (.iload_n 3, 1) := by decide +kernel
theorem dX2_ranked_47 : decode cX2_ranked 47 = .ok (.aload_n 0, 1) := by decide +kernel
theorem dX2_ranked_48 : decode cX2_ranked 48 = .ok (.iload 4, 2) := by decide +kernel
theorem dX2_ranked_50 : decode cX2_ranked 50 = .ok (.invokevirtual 51, 3) := by decide +kernel
theorem dX2_ranked_53 : decode cX2_ranked 53 = .ok (.aload_n 0, 1) := by decide +kernel
theorem dX2_ranked_54 : decode cX2_ranked 54 = .ok (.iload_n 2, 1) := by decide +kernel
theorem dX2_ranked_55 : decode cX2_ranked 55 = .ok (.invokevirtual 51, 3) := by decide +kernel
theorem dX2_ranked_58 : decode cX2_ranked 58 = .ok (.if_icmp .lt 23, 3) := by decide +kernel
theorem dX2_ranked_61 : decode cX2_ranked 61 = .ok (.aload_n 0, 1) := by decide +kernel
theorem dX2_ranked_62 : decode cX2_ranked 62 = .ok (.iload 4, 2) := by decide +kernel
theorem dX2_ranked_64 : decode cX2_ranked 64 = .ok (.invokevirtual 51, 3) := by decide +kernel
theorem dX2_ranked_67 : decode cX2_ranked 67 = .ok (.aload_n 0, 1) := by decide +kernel
theorem dX2_ranked_68 : decode cX2_ranked 68 = .ok (.iload_n 2, 1) := by decide +kernel
theorem dX2_ranked_69 : decode cX2_ranked 69 = .ok (.invokevirtual 51, 3) := by decide +kernel
theorem dX2_ranked_72 : decode cX2_ranked 72 = .ok (.if_icmp .ne 13, 3) := by decide +kernel
theorem dX2_ranked_75 : decode cX2_ranked 75 = .ok (.iload 4, 2) := by decide +kernel
theorem dX2_ranked_77 : decode cX2_ranked 77 = .ok (.iload_n 2, 1) := by decide +kernel
theorem dX2_ranked_78 : decode cX2_ranked 78 = .ok (.if_icmp .ge 7, 3) := by decide +kernel
theorem dX2_ranked_81 : decode cX2_ranked 81 = .ok (.iconst 1, 1) := by decide +kernel
theorem dX2_ranked_82 : decode cX2_ranked 82 = .ok (.goto 4, 3) := by decide +kernel
theorem dX2_ranked_85 : decode cX2_ranked 85 = .ok (.iconst 0, 1) := by decide +kernel
theorem dX2_ranked_86 : decode cX2_ranked 86 = .ok (.iadd, 1) := by decide +kernel
theorem dX2_ranked_87 : decode cX2_ranked 87 = .ok (.istore_n 3, 1) := by decide +kernel
theorem dX2_ranked_88 : decode cX2_ranked 88 = .ok (.iinc 4 1, 3) := by decide +kernel
theorem dX2_ranked_91 : decode cX2_ranked 91 = .ok (.goto (-54), 3) := by decide +kernel
theorem dX2_ranked_94 : decode cX2_ranked 94 = .ok (.iload_n 3, 1) := by decide +kernel
theorem dX2_ranked_95 : decode cX2_ranked 95 = .ok (.iload_n 1, 1) := by decide +kernel
theorem dX2_ranked_96 : decode cX2_ranked 96 = .ok (.if_icmp .ne 5, 3) := by decide +kernel
theorem dX2_ranked_99 : decode cX2_ranked 99 = .ok (.iload_n 2, 1) := by decide +kernel
theorem dX2_ranked_100 : decode cX2_ranked 100 = .ok (.ireturn, 1) := by decide +kernel
theorem dX2_ranked_101 : decode cX2_ranked 101 = .ok (.iinc 2 1, 3) := by decide +kernel
theorem dX2_ranked_104 : decode cX2_ranked 104 = .ok (.goto (-80), 3) := by decide +kernel
theorem dX2_ranked_107 : decode cX2_ranked 107 = .ok (.iconst (-1), 1) := by decide +kernel
theorem dX2_ranked_108 : decode cX2_ranked 108 = .ok (.ireturn, 1) := by decide +kernel
set_option maxRecDepth 20000 in
theorem ggX2_bestLetter_X2_isInPattern : GoodIn wsX2_bestLetter wsX2_isInPattern := goodIn_r _ [6, 7, 21, 22, 23, 24, 25] (by decide +kernel) (by decide +kernel)
set_option maxRecDepth 20000 in
theorem gX2_bestLetter_X2_isInPattern : GoodIn wsX2_bestLetter (wsV RX2 33 RX2 yX2_isInPattern wsX2_isInPattern) := goodIn_app (goodIn_of _ (by decide +kernel)) ggX2_bestLetter_X2_isInPattern
set_option maxRecDepth 20000 in
theorem ggX2_bestLetter_X2_goesWell : GoodIn wsX2_bestLetter wsX2_goesWell := goodIn_r _ [11, 12, 21, 22, 23, 24, 25] (by decide +kernel) (by decide +kernel)
set_option maxRecDepth 20000 in
theorem gX2_bestLetter_X2_goesWell : GoodIn wsX2_bestLetter (wsV RX2 27 RX2 yX2_goesWell wsX2_goesWell) := goodIn_app (goodIn_of _ (by decide +kernel)) ggX2_bestLetter_X2_goesWell
set_option maxRecDepth 20000 in
theorem ggX2_bestLetter_X2_placeMany : GoodIn wsX2_bestLetter wsX2_placeMany := goodIn_r _ [16, 17, 7, 21, 22, 23, 24, 25] (by decide +kernel) (by decide +kernel)
set_option maxRecDepth 20000 in
theorem gX2_bestLetter_X2_placeMany : GoodIn wsX2_bestLetter (wsV RX2 36 RX2 yX2_placeMany wsX2_placeMany) := goodIn_app (goodIn_of _ (by decide +kernel)) ggX2_bestLetter_X2_placeMany
set_option maxRecDepth 20000 in
theorem ggX2_bestLetter_X2_agree : GoodIn wsX2_bestLetter wsX2_agree := goodIn_r _ [20] (by decide +kernel) (by decide +kernel)
set_option maxRecDepth 20000 in
theorem gX2_bestLetter_X2_agree : GoodIn wsX2_bestLetter (va_wsS RX2 43 yX2_agree wsX2_agree) := goodIn_app (goodIn_of _ (by decide +kernel)) ggX2_bestLetter_X2_agree
theorem dX2_bestLetter_0 : decode cX2_bestLetter 0 = .ok (.aload_n 0, 1) := by decide +kernel
theorem dX2_bestLetter_1 : decode cX2_bestLetter 1 = .ok (.aload_n 0, 1) := by decide +kernel
theorem dX2_bestLetter_2 : decode cX2_bestLetter 2 = .ok (.iload_n 1, 1) := by decide +kernel
theorem dX2_bestLetter_3 : decode cX2_bestLetter 3 = .ok (.invokevirtual 33, 3) := by decide +kernel
theorem dX2_bestLetter_6 : decode cX2_bestLetter 6 = .ok (.ifCond .eq 7, 3) := by decide +kernel
theorem dX2_bestLetter_9 : decode cX2_bestLetter 9 = .ok (.iconst 0, 1) := by decide +kernel
theorem dX2_bestLetter_10 : decode cX2_bestLetter 10 = .ok (.goto 4, 3) := by decide +kernel
theorem dX2_bestLetter_13 : decode cX2_bestLetter 13 = .ok (.iconst 1, 1) := by decide +kernel
theorem dX2_bestLetter_14 : decode cX2_bestLetter 14 = .ok (.invokevirtual 27, 3) := by decide +kernel
theorem dX2_bestLetter_17 : decode cX2_bestLetter 17 = .ok (.ifCond .ne 5, 3) := by decide +kernel
theorem dX2_bestLetter_20 : decode cX2_bestLetter 20 = .ok (.iconst 0, 1) := by decide +kernel
theorem dX2_bestLetter_21 : decode cX2_bestLetter 21 = .ok (.ireturn, 1) := by decide +kernel
theorem dX2_bestLetter_22 : decode cX2_bestLetter 22 = .ok (.iconst 0, 1) := by decide +kernel
theorem dX2_bestLetter_23 : decode cX2_bestLetter 23 = .ok (.istore_n 2, 1) := by decide +kernel
theorem dX2_bestLetter_24 : decode cX2_bestLetter 24 = .ok (.iconst 0, 1) := by decide +kernel
theorem dX2_bestLetter_25 : decode cX2_bestLetter 25 = .ok (.istore_n 3, 1) := by decide +kernel
theorem dX2_bestLetter_26 : decode cX2_bestLetter 26 = .ok (.iconst 1, 1) := by decide +kernel
theorem dX2_bestLetter_27 : decode cX2_bestLetter 27 = .ok (.istore 4, 2) := by decide +kernel
theorem dX2_bestLetter_29 : decode cX2_bestLetter 29 = .ok (.iload 4, 2) := by decide +kernel
theorem dX2_bestLetter_31 : decode cX2_bestLetter 31 = .ok (.bipush 26, 2) := by decide +kernel
theorem dX2_bestLetter_33 : decode cX2_bestLetter 33 = .ok (.if_icmp .gt 73, 3) := by decide +kernel
theorem dX2_bestLetter_36 : decode cX2_bestLetter 36 = .ok (.iconst 0, 1) := by decide +kernel
theorem dX2_bestLetter_37 : decode cX2_bestLetter 37 = .ok (.istore 5, 2) := by decide +kernel
theorem dX2_bestLetter_39 : decode cX2_bestLetter 39 = .ok (.iconst 0, 1) := by decide +kernel
theorem dX2_bestLetter_40 : decode cX2_bestLetter 40 = .ok (.istore 6, 2) := by decide +kernel
theorem dX2_bestLetter_42 : decode cX2_bestLetter 42 = .ok (.iload 6, 2) := by decide +kernel
theorem dX2_bestLetter_44 : decode cX2_bestLetter 44 = .ok (.aload_n 0, 1) := by decide +kernel
theorem dX2_bestLetter_45 : decode cX2_bestLetter 45 = .ok (.invokevirtual 36, 3) := by decide +kernel
theorem dX2_bestLetter_48 : decode cX2_bestLetter 48 = .ok (.if_icmp .ge 36, 3) := by decide +kernel
theorem dX2_bestLetter_51 : decode cX2_bestLetter 51 = .ok (.iload 5, 2) := by decide +kernel
theorem dX2_bestLetter_53 : decode cX2_bestLetter 53 = .ok (.iload 4, 2) := by decide +kernel
theorem dX2_bestLetter_55 : decode cX2_bestLetter 55 = .ok (.aload_n 0, 1) := by decide +kernel
theorem dX2_bestLetter_56 : decode cX2_bestLetter 56 = .ok (.getfield 7, 3) := by decide +kernel
theorem dX2_bestLetter_59 : decode cX2_bestLetter 59 = .ok (.iload 6, 2) := by decide +kernel
theorem dX2_bestLetter_61 : decode cX2_bestLetter 61 = .ok (.iload_n 1, 1) := by decide +kernel
theorem dX2_bestLetter_62 : decode cX2_bestLetter 62 = .ok (.iadd, 1) := by decide +kernel
theorem dX2_bestLetter_63 : decode cX2_bestLetter 63 = .ok (.iaload, 1) := by decide +kernel
theorem dX2_bestLetter_64 : decode cX2_bestLetter 64 = .ok (.invokestatic 43, 3) := by decide +kernel
theorem dX2_bestLetter_67 : decode cX2_bestLetter 67 = .ok (.ifCond .eq 7, 3) := by decide +kernel
theorem dX2_bestLetter_70 : decode cX2_bestLetter 70 = .ok (.iconst 0, 1) := by decide +kernel
theorem dX2_bestLetter_71 : decode cX2_bestLetter 71 = .ok (.goto 4, 3) := by decide +kernel
theorem dX2_bestLetter_74 : decode cX2_bestLetter 74 = .ok (.iconst 1, 1) := by decide +kernel
theorem dX2_bestLetter_75 : decode cX2_bestLetter 75 = .ok (.iadd, 1) := by decide +kernel
theorem dX2_bestLetter_76 : decode cX2_bestLetter 76 = .ok (.istore 5, 2) := by decide +kernel
theorem dX2_bestLetter_78 : decode cX2_bestLetter 78 = .ok (.iinc 6 1, 3) := by decide +kernel
theorem dX2_bestLetter_81 : decode cX2_bestLetter 81 = .ok (.goto (-39), 3) := by decide +kernel
theorem dX2_bestLetter_84 : decode cX2_bestLetter 84 = .ok (.iload_n 2, 1) := by decide +kernel
theorem dX2_bestLetter_85 : decode cX2_bestLetter 85 = .ok (.ifCond .eq 9, 3) := by decide +kernel
theorem dX2_bestLetter_88 : decode cX2_bestLetter 88 = .ok (.iload 5, 2) := by decide +kernel
theorem dX2_bestLetter_90 : decode cX2_bestLetter 90 = .ok (.iload_n 3, 1) := by decide +kernel
theorem dX2_bestLetter_91 : decode cX2_bestLetter 91 = .ok (.if_icmp .ge 9, 3) := by decide +kernel
theorem dX2_bestLetter_94 : decode cX2_bestLetter 94 = .ok (.iload 4, 2) := by decide +kernel
theorem dX2_bestLetter_96 : decode cX2_bestLetter 96 = .ok (.istore_n 2, 1) := by decide +kernel
theorem dX2_bestLetter_97 : decode cX2_bestLetter 97 = .ok (.iload 5, 2) := by decide +kernel
theorem dX2_bestLetter_99 : decode cX2_bestLetter 99 = .ok (.istore_n 3, 1) := by decide +kernel
theorem dX2_bestLetter_100 : decode cX2_bestLetter 100 = .ok (.iinc 4 1, 3) := by decide +kernel
theorem dX2_bestLetter_103 : decode cX2_bestLetter 103 = .ok (.goto (-74), 3) := by decide +kernel
theorem dX2_bestLetter_106 : decode cX2_bestLetter 106 = .ok (.iload_n 2, 1) := by decide +kernel
theorem dX2_bestLetter_107 : decode cX2_bestLetter 107 = .ok (.ireturn, 1) := by decide +kernel
set_option maxRecDepth 20000 in
theorem ggX2_sumMatches_X2_wanted : GoodIn wsX2_sumMatches wsX2_wanted := goodIn_r _ [6, 7, 8, 9, 5, 10, 11, 12, 13, 14, 15, 16, 17, 18, 19, 20, 21, 22, 23, 24, 25, 26, 27, 28, 29, 30, 31, 32, 33, 34, 35, 36, 37, 38, 39, 40, 41] (by decide +kernel) (by decide +kernel)
set_option maxRecDepth 20000 in
theorem gX2_sumMatches_X2_wanted : GoodIn wsX2_sumMatches (wsV RX2 63 RX2 yX2_wanted wsX2_wanted) := goodIn_app (goodIn_of _ (by decide +kernel)) ggX2_sumMatches_X2_wanted
theorem dX2_sumMatches_0 : decode cX2_sumMatches 0 = .ok (.aload_n 0, 1) := by decide +kernel
theorem dX2_sumMatches_1 : decode cX2_sumMatches 1 = .ok (.iconst 0, 1) := by decide +kernel
theorem dX2_sumMatches_2 : decode cX2_sumMatches 2 = .ok (.putfield 16, 3) := by decide +kernel
theorem dX2_sumMatches_5 : decode cX2_sumMatches 5 = .ok (.aload_n 0, 1) := by decide +kernel
theorem dX2_sumMatches_6 : decode cX2_sumMatches 6 = .ok (.iconst 1, 1) := by decide +kernel
theorem dX2_sumMatches_7 : decode cX2_sumMatches 7 = .ok (.invokevirtual 63, 3) := by decide +kernel
theorem dX2_sumMatches_10 : decode cX2_sumMatches 10 = .ok (.ireturn, 1) := by decide +kernel
set_option maxRecDepth 20000 in
theorem ggX2_sumMatch_X2_isNumber : GoodIn wsX2_sumMatch wsX2_isNumber := goodIn_r _ [5, 6, 7, 8, 4, 9, 10, 11, 12, 13, 14, 15, 16, 17, 18, 19, 20, 21, 22, 23, 24, 25, 26, 27, 28, 29, 30, 31, 32, 33, 34, 35, 36, 37, 38, 39, 49, 50, 51, 52, 53] (by decide +kernel) (by decide +kernel)
set_option maxRecDepth 20000 in
theorem gX2_sumMatch_X2_isNumber : GoodIn wsX2_sumMatch (wsV RX2 66 RX2 yX2_isNumber wsX2_isNumber) := goodIn_app (goodIn_of _ (by decide +kernel)) ggX2_sumMatch_X2_isNumber
set_option maxRecDepth 20000 in
theorem ggX2_sumMatch_X2_goesWell : GoodIn wsX2_sumMatch wsX2_goesWell := goodIn_r _ [43, 44, 49, 50, 51, 52, 53] (by decide +kernel) (by decide +kernel)
set_option maxRecDepth 20000 in
theorem gX2_sumMatch_X2_goesWell : GoodIn wsX2_sumMatch (wsV RX2 27 RX2 yX2_goesWell wsX2_goesWell) := goodIn_app (goodIn_of _ (by decide +kernel)) ggX2_sumMatch_X2_goesWell
set_option maxRecDepth 20000 in
theorem ggX2_sumMatch_X2_find : GoodIn wsX2_sumMatch wsX2_find := goodIn_r _ [48, 16, 17, 18, 4, 19, 20, 21, 22, 23, 15, 24, 25, 26, 27, 28, 29, 30, 31, 32, 33, 34, 35, 36, 37, 38, 39, 49, 50, 51, 52, 53] (by decide +kernel) (by decide +kernel)
set_option maxRecDepth 20000 in
theorem gX2_sumMatch_X2_find : GoodIn wsX2_sumMatch (wsV RX2 69 RX2 yX2_find wsX2_find) := goodIn_app (goodIn_of _ (by decide +kernel)) ggX2_sumMatch_X2_find
theorem dX2_sumMatch_0 : decode cX2_sumMatch 0 = .ok (.aload_n 0, 1) := by decide +kernel
theorem dX2_sumMatch_1 : decode cX2_sumMatch 1 = .ok (.aload_n 0, 1) := by decide +kernel
theorem dX2_sumMatch_2 : decode cX2_sumMatch 2 = .ok (.iconst 1, 1) := by decide +kernel
theorem dX2_sumMatch_3 : decode cX2_sumMatch 3 = .ok (.iload_n 1, 1) := by decide +kernel
theorem dX2_sumMatch_4 : decode cX2_sumMatch 4 = .ok (.invokevirtual 66, 3) := by decide +kernel
theorem dX2_sumMatch_7 : decode cX2_sumMatch 7 = .ok (.ifCond .eq 7, 3) := by decide +kernel
theorem dX2_sumMatch_10 : decode cX2_sumMatch 10 = .ok (.iconst 0, 1) := by decide +kernel
theorem dX2_sumMatch_11 : decode cX2_sumMatch 11 = .ok (.goto 4, 3) := by decide +kernel
theorem dX2_sumMatch_14 : decode cX2_sumMatch 14 = .ok (.iconst 1, 1) := by decide +kernel
theorem dX2_sumMatch_15 : decode cX2_sumMatch 15 = .ok (.invokevirtual 27, 3) := by decide +kernel
theorem dX2_sumMatch_18 : decode cX2_sumMatch 18 = .ok (.ifCond .eq 12, 3) := by decide +kernel
theorem dX2_sumMatch_21 : decode cX2_sumMatch 21 = .ok (.aload_n 0, 1) := by decide +kernel
theorem dX2_sumMatch_22 : decode cX2_sumMatch 22 = .ok (.iconst 1, 1) := by decide +kernel
theorem dX2_sumMatch_23 : decode cX2_sumMatch 23 = .ok (.iload_n 1, 1) := by decide +kernel
theorem dX2_sumMatch_24 : decode cX2_sumMatch 24 = .ok (.invokevirtual 69, 3) := by decide +kernel
theorem dX2_sumMatch_27 : decode cX2_sumMatch 27 = .ok (.goto 4, 3) := by decide +kernel
theorem dX2_sumMatch_30 : decode cX2_sumMatch 30 = .ok (.iconst 0, 1) := by decide +kernel
theorem dX2_sumMatch_31 : decode cX2_sumMatch 31 = .ok (.ireturn, 1) := by decide +kernel
set_option maxRecDepth 20000 in
theorem ggX2_orderMatches_X2_wanted : GoodIn wsX2_orderMatches wsX2_wanted := goodIn_r _ [6, 7, 8, 9, 5, 10, 11, 12, 13, 14, 15, 16, 17, 18, 19, 20, 21, 22, 23, 24, 25, 26, 27, 28, 29, 30, 31, 32, 33, 34, 35, 36, 37, 38, 39, 40, 41] (by decide +kernel) (by decide +kernel)
set_option maxRecDepth 20000 in
theorem gX2_orderMatches_X2_wanted : GoodIn wsX2_orderMatches (wsV RX2 63 RX2 yX2_wanted wsX2_wanted) := goodIn_app (goodIn_of _ (by decide +kernel)) ggX2_orderMatches_X2_wanted
theorem dX2_orderMatches_0 : decode cX2_orderMatches 0 = .ok (.aload_n 0, 1) := by decide +kernel
theorem dX2_orderMatches_1 : decode cX2_orderMatches 1 = .ok (.iconst 0, 1) := by decide +kernel
theorem dX2_orderMatches_2 : decode cX2_orderMatches 2 = .ok (.putfield 16, 3) := by decide +kernel
theorem dX2_orderMatches_5 : decode cX2_orderMatches 5 = .ok (.aload_n 0, 1) := by decide +kernel
theorem dX2_orderMatches_6 : decode cX2_orderMatches 6 = .ok (.iconst 2, 1) := by decide +kernel
theorem dX2_orderMatches_7 : decode cX2_orderMatches 7 = .ok (.invokevirtual 63, 3) := by decide +kernel
theorem dX2_orderMatches_10 : decode cX2_orderMatches 10 = .ok (.ireturn, 1) := by decide +kernel
set_option maxRecDepth 20000 in
theorem ggX2_orderMatch_X2_isNumber : GoodIn wsX2_orderMatch wsX2_isNumber := goodIn_r _ [5, 6, 7, 8, 4, 9, 10, 11, 12, 13, 14, 15, 16, 17, 18, 19, 20, 21, 22, 23, 24, 25, 26, 27, 28, 29, 30, 31, 32, 33, 34, 35, 36, 37, 38, 39, 49, 50, 51, 52, 53] (by decide +kernel) (by decide +kernel)
set_option maxRecDepth 20000 in
theorem gX2_orderMatch_X2_isNumber : GoodIn wsX2_orderMatch (wsV RX2 66 RX2 yX2_isNumber wsX2_isNumber) := goodIn_app (goodIn_of _ (by decide +kernel)) ggX2_orderMatch_X2_isNumber
set_option maxRecDepth 20000 in
theorem ggX2_orderMatch_X2_goesWell : GoodIn wsX2_orderMatch wsX2_goesWell := goodIn_r _ [43, 44, 49, 50, 51, 52, 53] (by decide +kernel) (by decide +kernel)
set_option maxRecDepth 20000 in
theorem gX2_orderMatch_X2_goesWell : GoodIn wsX2_orderMatch (wsV RX2 27 RX2 yX2_goesWell wsX2_goesWell) := goodIn_app (goodIn_of _ (by decide +kernel)) ggX2_orderMatch_X2_goesWell
set_option maxRecDepth 20000 in
theorem ggX2_orderMatch_X2_find : GoodIn wsX2_orderMatch wsX2_find := goodIn_r _ [48, 16, 17, 18, 4, 19, 20, 21, 22, 23, 15, 24, 25, 26, 27, 28, 29, 30, 31, 32, 33, 34, 35, 36, 37, 38, 39, 49, 50, 51, 52, 53] (by decide +kernel) (by decide +kernel)
set_option maxRecDepth 20000 in
theorem gX2_orderMatch_X2_find : GoodIn wsX2_orderMatch (wsV RX2 69 RX2 yX2_find wsX2_find) := goodIn_app (goodIn_of _ (by decide +kernel)) ggX2_orderMatch_X2_find
theorem dX2_orderMatch_0 : decode cX2_orderMatch 0 = .ok (.aload_n 0, 1) := by decide +kernel
theorem dX2_orderMatch_1 : decode cX2_orderMatch 1 = .ok (.aload_n 0, 1) := by decide +kernel
theorem dX2_orderMatch_2 : decode cX2_orderMatch 2 = .ok (.iconst 2, 1) := by decide +kernel
theorem dX2_orderMatch_3 : decode cX2_orderMatch 3 = .ok (.iload_n 1, 1) := by decide +kernel
theorem dX2_orderMatch_4 : decode cX2_orderMatch 4 = .ok (.invokevirtual 66, 3) := by decide +kernel
theorem dX2_orderMatch_7 : decode cX2_orderMatch 7 = .ok (.ifCond .eq 7, 3) := by decide +kernel
theorem dX2_orderMatch_10 : decode cX2_orderMatch 10 = .ok (.iconst 0, 1) := by decide +kernel
theorem dX2_orderMatch_11 : decode cX2_orderMatch 11 = .ok (.goto 4, 3) := by decide +kernel
theorem dX2_orderMatch_14 : decode cX2_orderMatch 14 = .ok (.iconst 1, 1) := by decide +kernel
theorem dX2_orderMatch_15 : decode cX2_orderMatch 15 = .ok (.invokevirtual 27, 3) := by decide +kernel
theorem dX2_orderMatch_18 : decode cX2_orderMatch 18 = .ok (.ifCond .eq 12, 3) := by decide +kernel
theorem dX2_orderMatch_21 : decode cX2_orderMatch 21 = .ok (.aload_n 0, 1) := by decide +kernel
theorem dX2_orderMatch_22 : decode cX2_orderMatch 22 = .ok (.iconst 2, 1) := by decide +kernel
theorem dX2_orderMatch_23 : decode cX2_orderMatch 23 = .ok (.iload_n 1, 1) := by decide +kernel
theorem dX2_orderMatch_24 : decode cX2_orderMatch 24 = .ok (.invokevirtual 69, 3) := by decide +kernel
theorem dX2_orderMatch_27 : decode cX2_orderMatch 27 = .ok (.goto 4, 3) := by decide +kernel
theorem dX2_orderMatch_30 : decode cX2_orderMatch 30 = .ok (.iconst 0, 1) := by decide +kernel
theorem dX2_orderMatch_31 : decode cX2_orderMatch 31 = .ok (.ireturn, 1) := by decide +kernel
set_option maxRecDepth 20000 in
theorem ggX2_comesAgain_X2_agree : GoodIn wsX2_comesAgain wsX2_agree := goodIn_r _ [6] (by decide +kernel) (by decide +kernel)
set_option maxRecDepth 20000 in
theorem gX2_comesAgain_X2_agree : GoodIn wsX2_comesAgain (va_wsS RX2 43 yX2_agree wsX2_agree) := goodIn_app (goodIn_of _ (by decide +kernel)) ggX2_comesAgain_X2_agree
theorem dX2_comesAgain_0 : decode cX2_comesAgain 0 = .ok (.iconst 1, 1) := by decide +kernel
theorem dX2_comesAgain_1 : decode cX2_comesAgain 1 = .ok (.istore_n 2, 1) := by decide +kernel
theorem dX2_comesAgain_2 : decode cX2_comesAgain 2 = .ok (.iconst 0, 1) := by decide +kernel
theorem dX2_comesAgain_3 : decode cX2_comesAgain 3 = .ok (.istore_n 3, 1) := by decide +kernel
theorem dX2_comesAgain_4 : decode cX2_comesAgain 4 = .ok (.iload_n 3, 1) := by decide +kernel
theorem dX2_comesAgain_5 : decode cX2_comesAgain 5 = .ok (.aload_n 0, 1) := by decide +kernel
theorem dX2_comesAgain_6 : decode cX2_comesAgain 6 = .ok (.getfield 24, 3) := by decide +kernel
theorem dX2_comesAgain_9 : decode cX2_comesAgain 9 = .ok (.iload_n 1, 1) := by decide +kernel
theorem dX2_comesAgain_10 : decode cX2_comesAgain 10 = .ok (.isub, 1) := by decide +kernel
theorem dX2_comesAgain_11 : decode cX2_comesAgain 11 = .ok (.if_icmp .ge 39, 3) := by decide +kernel
theorem dX2_comesAgain_14 : decode cX2_comesAgain 14 = .ok (.iload_n 2, 1) := by decide +kernel
theorem dX2_comesAgain_15 : decode cX2_comesAgain 15 = .ok (.ifCond .eq 27, 3) := by decide +kernel
theorem dX2_comesAgain_18 : decode cX2_comesAgain 18 = .ok (.aload_n 0, 1) := by decide +kernel
theorem dX2_comesAgain_19 : decode cX2_comesAgain 19 = .ok (.getfield 7, 3) := by decide +kernel
theorem dX2_comesAgain_22 : decode cX2_comesAgain 22 = .ok (.iload_n 3, 1) := by decide +kernel
theorem dX2_comesAgain_23 : decode cX2_comesAgain 23 = .ok (.iaload, 1) := by decide +kernel
theorem dX2_comesAgain_24 : decode cX2_comesAgain 24 = .ok (.aload_n 0, 1) := by decide +kernel
theorem dX2_comesAgain_25 : decode cX2_comesAgain 25 = .ok (.getfield 7, 3) := by decide +kernel
theorem dX2_comesAgain_28 : decode cX2_comesAgain 28 = .ok (.iload_n 3, 1) := by decide +kernel
theorem dX2_comesAgain_29 : decode cX2_comesAgain 29 = .ok (.iload_n 1, 1) := by decide +kernel
theorem dX2_comesAgain_30 : decode cX2_comesAgain 30 = .ok (.iadd, 1) := by decide +kernel
theorem dX2_comesAgain_31 : decode cX2_comesAgain 31 = .ok (.iaload, 1) := by decide +kernel
theorem dX2_comesAgain_32 : decode cX2_comesAgain 32 = .ok (.invokestatic 43, 3) := by decide +kernel
theorem dX2_comesAgain_35 : decode cX2_comesAgain 35 = .ok (.ifCond .eq 7, 3) := by decide +kernel
theorem dX2_comesAgain_38 : decode cX2_comesAgain 38 = .ok (.iconst 1, 1) := by decide +kernel
theorem dX2_comesAgain_39 : decode cX2_comesAgain 39 = .ok (.goto 4, 3) := by decide +kernel
theorem dX2_comesAgain_42 : decode cX2_comesAgain 42 = .ok (.iconst 0, 1) := by decide +kernel
theorem dX2_comesAgain_43 : decode cX2_comesAgain 43 = .ok (.istore_n 2, 1) := by decide +kernel
theorem dX2_comesAgain_44 : decode cX2_comesAgain 44 = .ok (.iinc 3 1, 3) := by decide +kernel
theorem dX2_comesAgain_47 : decode cX2_comesAgain 47 = .ok (.goto (-43), 3) := by decide +kernel
theorem dX2_comesAgain_50 : decode cX2_comesAgain 50 = .ok (.iload_n 2, 1) := by decide +kernel
theorem dX2_comesAgain_51 : decode cX2_comesAgain 51 = .ok (.ireturn, 1) := by decide +kernel
set_option maxRecDepth 20000 in
theorem ggX2_hasPeriod_X2_goesWell : GoodIn wsX2_hasPeriod wsX2_goesWell := goodIn_r _ [5, 6, 16, 17, 18, 19, 20] (by decide +kernel) (by decide +kernel)
set_option maxRecDepth 20000 in
theorem gX2_hasPeriod_X2_goesWell : GoodIn wsX2_hasPeriod (wsV RX2 27 RX2 yX2_goesWell wsX2_goesWell) := goodIn_app (goodIn_of _ (by decide +kernel)) ggX2_hasPeriod_X2_goesWell
set_option maxRecDepth 20000 in
theorem ggX2_hasPeriod_X2_comesAgain : GoodIn wsX2_hasPeriod wsX2_comesAgain := goodIn_r _ [10, 11, 12, 13, 14, 4, 15, 16, 17, 18, 19, 20] (by decide +kernel) (by decide +kernel)
set_option maxRecDepth 20000 in
theorem gX2_hasPeriod_X2_comesAgain : GoodIn wsX2_hasPeriod (wsV RX2 73 RX2 yX2_comesAgain wsX2_comesAgain) := goodIn_app (goodIn_of _ (by decide +kernel)) ggX2_hasPeriod_X2_comesAgain
theorem dX2_hasPeriod_0 : decode cX2_hasPeriod 0 = .ok (.aload_n 0, 1) := by decide +kernel
theorem dX2_hasPeriod_1 : decode cX2_hasPeriod 1 = .ok (.iload_n 1, 1) := by decide +kernel
theorem dX2_hasPeriod_2 : decode cX2_hasPeriod 2 = .ok (.iconst 1, 1) := by decide +kernel
theorem dX2_hasPeriod_3 : decode cX2_hasPeriod 3 = .ok (.if_icmp .ge 7, 3) := by decide +kernel
theorem dX2_hasPeriod_6 : decode cX2_hasPeriod 6 = .ok (.iconst 1, 1) := by decide +kernel
theorem dX2_hasPeriod_7 : decode cX2_hasPeriod 7 = .ok (.goto 4, 3) := by decide +kernel
theorem dX2_hasPeriod_10 : decode cX2_hasPeriod 10 = .ok (.iconst 0, 1) := by decide +kernel
theorem dX2_hasPeriod_11 : decode cX2_hasPeriod 11 = .ok (.invokevirtual 27, 3) := by decide +kernel
theorem dX2_hasPeriod_14 : decode cX2_hasPeriod 14 = .ok (.ifCond .eq 15, 3) := by decide +kernel
theorem dX2_hasPeriod_17 : decode cX2_hasPeriod 17 = .ok (.aload_n 0, 1) := by decide +kernel
theorem dX2_hasPeriod_18 : decode cX2_hasPeriod 18 = .ok (.iload_n 1, 1) := by decide +kernel
theorem dX2_hasPeriod_19 : decode cX2_hasPeriod 19 = .ok (.invokevirtual 73, 3) := by decide +kernel
theorem dX2_hasPeriod_22 : decode cX2_hasPeriod 22 = .ok (.ifCond .eq 7, 3) := by decide +kernel
theorem dX2_hasPeriod_25 : decode cX2_hasPeriod 25 = .ok (.iconst 1, 1) := by decide +kernel
theorem dX2_hasPeriod_26 : decode cX2_hasPeriod 26 = .ok (.goto 4, 3) := by decide +kernel
theorem dX2_hasPeriod_29 : decode cX2_hasPeriod 29 = .ok (.iconst 0, 1) := by decide +kernel
theorem dX2_hasPeriod_30 : decode cX2_hasPeriod 30 = .ok (.ireturn, 1) := by decide +kernel
set_option maxRecDepth 20000 in
theorem ggX2_leastPeriod_X2_comesAgain : GoodIn wsX2_leastPeriod wsX2_comesAgain := goodIn_r _ [6, 7, 8, 9, 10, 5, 11, 12, 13, 14, 15, 16] (by decide +kernel) (by decide +kernel)
set_option maxRecDepth 20000 in
theorem gX2_leastPeriod_X2_comesAgain : GoodIn wsX2_leastPeriod (wsV RX2 73 RX2 yX2_comesAgain wsX2_comesAgain) := goodIn_app (goodIn_of _ (by decide +kernel)) ggX2_leastPeriod_X2_comesAgain
theorem dX2_leastPeriod_0 : decode cX2_leastPeriod 0 = .ok (.aload_n 0, 1) := by decide +kernel
theorem dX2_leastPeriod_1 : decode cX2_leastPeriod 1 = .ok (.iconst 0, 1) := by decide +kernel
theorem dX2_leastPeriod_2 : decode cX2_leastPeriod 2 = .ok (.putfield 16, 3) := by decide +kernel
theorem dX2_leastPeriod_5 : decode cX2_leastPeriod 5 = .ok (.iconst 1, 1) := by decide +kernel
theorem dX2_leastPeriod_6 : decode cX2_leastPeriod 6 = .ok (.istore_n 1, 1) := by decide +kernel
theorem dX2_leastPeriod_7 : decode cX2_leastPeriod 7 = .ok (.aload_n 0, 1) := by decide +kernel
theorem dX2_leastPeriod_8 : decode cX2_leastPeriod 8 = .ok (.iload_n 1, 1) := by decide +kernel
theorem dX2_leastPeriod_9 : decode cX2_leastPeriod 9 = .ok (.invokevirtual 73, 3) := by decide +kernel
theorem dX2_leastPeriod_12 : decode cX2_leastPeriod 12 = .ok (.ifCond .ne 9, 3) := by decide +kernel
theorem dX2_leastPeriod_15 : decode cX2_leastPeriod 15 = .ok (.iinc 1 1, 3) := by decide +kernel
theorem dX2_leastPeriod_18 : decode cX2_leastPeriod 18 = .ok (.goto (-11), 3) := by decide +kernel
theorem dX2_leastPeriod_21 : decode cX2_leastPeriod 21 = .ok (.iload_n 1, 1) := by decide +kernel
theorem dX2_leastPeriod_22 : decode cX2_leastPeriod 22 = .ok (.ireturn, 1) := by decide +kernel
end
section
theorem dJ9_max_7cf53_0 : decode cJ9_max_7cf53 0 = .ok (.iload_n 0, 1) := by decide +kernel
theorem dJ9_max_7cf53_1 : decode cJ9_max_7cf53 1 = .ok (.iload_n 1, 1) := by decide +kernel
theorem dJ9_max_7cf53_2 : decode cJ9_max_7cf53 2 = .ok (.if_icmp .lt 7, 3) := by decide +kernel
theorem dJ9_max_7cf53_5 : decode cJ9_max_7cf53 5 = .ok (.iload_n 0, 1) := by decide +kernel
theorem dJ9_max_7cf53_6 : decode cJ9_max_7cf53 6 = .ok (.goto 4, 3) := by decide +kernel
theorem dJ9_max_7cf53_9 : decode cJ9_max_7cf53 9 = .ok (.iload_n 1, 1) := by decide +kernel
theorem dJ9_max_7cf53_10 : decode cJ9_max_7cf53 10 = .ok (.ireturn, 1) := by decide +kernel
theorem dJ9_min_7cf53_0 : decode cJ9_min_7cf53 0 = .ok (.iload_n 0, 1) := by decide +kernel
theorem dJ9_min_7cf53_1 : decode cJ9_min_7cf53 1 = .ok (.iload_n 1, 1) := by decide +kernel
theorem dJ9_min_7cf53_2 : decode cJ9_min_7cf53 2 = .ok (.if_icmp .gt 7, 3) := by decide +kernel
theorem dJ9_min_7cf53_5 : decode cJ9_min_7cf53 5 = .ok (.iload_n 0, 1) := by decide +kernel
theorem dJ9_min_7cf53_6 : decode cJ9_min_7cf53 6 = .ok (.goto 4, 3) := by decide +kernel
theorem dJ9_min_7cf53_9 : decode cJ9_min_7cf53 9 = .ok (.iload_n 1, 1) := by decide +kernel
theorem dJ9_min_7cf53_10 : decode cJ9_min_7cf53 10 = .ok (.ireturn, 1) := by decide +kernel
set_option maxRecDepth 20000 in
theorem ggL_appendText_X1_appendText : GoodIn wsL_appendText wsX1_appendText := goodIn_ca (goodIn_ca (goodIn_r _ [7, 8, 9, 10, 11, 12, 13, 6, 14, 15, 16, 17, 18, 19, 20, 21] (by decide +kernel) (by decide +kernel)) (goodIn_sub (fun _ h => List.mem_cons_of_mem _ (List.mem_append_left _ (List.mem_append_right _ h))) (by decide +kernel))) (goodIn_sub (fun _ h => List.mem_cons_of_mem _ (List.mem_append_right _ h)) (by decide +kernel))
set_option maxRecDepth 20000 in
theorem gL_appendText_X1_appendText : GoodIn wsL_appendText (wsV RL 7 RX1 yX1_appendText wsX1_appendText) := goodIn_app (goodIn_of _ (by decide +kernel)) ggL_appendText_X1_appendText
theorem dL_appendText_0 : decode cL_appendText 0 = .ok (.aload_n 2, 1) := by decide +kernel
theorem dL_appendText_1 : decode cL_appendText 1 = .ok (.iconst 0, 1) := by decide +kernel
theorem dL_appendText_2 : decode cL_appendText 2 = .ok (.aload_n 0, 1) := by decide +kernel
theorem dL_appendText_3 : decode cL_appendText 3 = .ok (.iload_n 1, 1) := by decide +kernel
theorem dL_appendText_4 : decode cL_appendText 4 = .ok (.invokevirtual 7, 3) := by decide +kernel
theorem dL_appendText_7 : decode cL_appendText 7 = .ok (.i2l, 1) := by decide +kernel
theorem dL_appendText_8 : decode cL_appendText 8 = .ok (.lastore, 1) := by decide +kernel
theorem dL_appendText_9 : decode cL_appendText 9 = .ok (.goto 9, 3) := by decide +kernel
theorem dL_appendText_12 : decode cL_appendText 12 = .ok (.astore_n 3, 1) := by decide +kernel
theorem dL_appendText_13 : decode cL_appendText 13 = .ok (.iconst 1, 1) := by decide +kernel
theorem dL_appendText_14 : decode cL_appendText 14 = .ok (.ireturn, 1) := by decide +kernel
theorem dL_appendText_15 : decode cL_appendText 15 = .ok (.astore_n 3, 1) := by decide +kernel
theorem dL_appendText_16 : decode cL_appendText 16 = .ok (.iconst 2, 1) := by decide +kernel
theorem dL_appendText_17 : decode cL_appendText 17 = .ok (.ireturn, 1) := by decide +kernel
theorem dL_appendText_18 : decode cL_appendText 18 = .ok (.iconst 0, 1) := by decide +kernel
theorem dL_appendText_19 : decode cL_appendText 19 = .ok (.ireturn, 1) := by decide +kernel
set_option maxRecDepth 20000 in
theorem ggL_repeatText_X1_repeatText : GoodIn wsL_repeatText wsX1_repeatText := goodIn_ca (goodIn_ca (goodIn_ca (goodIn_r _ [8, 9, 10, 11, 12, 13, 14, 15, 16, 17, 18, 19, 20, 21, 7, 22, 23, 24, 25, 26, 27, 28, 29] (by decide +kernel) (by decide +kernel)) (goodIn_sub (fun _ h => List.mem_cons_of_mem _ (List.mem_append_left _ (List.mem_append_left _ (List.mem_append_right _ h)))) (by decide +kernel))) (goodIn_sub (fun _ h => List.mem_cons_of_mem _ (List.mem_append_left _ (List.mem_append_right _ h))) (by decide +kernel))) (goodIn_sub (fun _ h => List.mem_cons_of_mem _ (List.mem_append_right _ h)) (by decide +kernel))
set_option maxRecDepth 20000 in
theorem gL_repeatText_X1_repeatText : GoodIn wsL_repeatText (wsV RL 17 RX1 yX1_repeatText wsX1_repeatText) := goodIn_app (goodIn_of _ (by decide +kernel)) ggL_repeatText_X1_repeatText
theorem dL_repeatText_0 : decode cL_repeatText 0 = .ok (.aload_n 3, 1) := by decide +kernel
theorem dL_repeatText_1 : decode cL_repeatText 1 = .ok (.iconst 0, 1) := by decide +kernel
theorem dL_repeatText_2 : decode cL_repeatText 2 = .ok (.aload_n 0, 1) := by decide +kernel
theorem dL_repeatText_3 : decode cL_repeatText 3 = .ok (.iload_n 1, 1) := by decide +kernel
theorem dL_repeatText_4 : decode cL_repeatText 4 = .ok (.iload_n 2, 1) := by decide +kernel
theorem dL_repeatText_5 : decode cL_repeatText 5 = .ok (.invokevirtual 17, 3) := by decide +kernel
theorem dL_repeatText_8 : decode cL_repeatText 8 = .ok (.i2l, 1) := by decide +kernel
theorem dL_repeatText_9 : decode cL_repeatText 9 = .ok (.lastore, 1) := by decide +kernel
theorem dL_repeatText_10 : decode cL_repeatText 10 = .ok (.goto 15, 3) := by decide +kernel
theorem dL_repeatText_13 : decode cL_repeatText 13 = .ok (.astore 4, 2) := by decide +kernel
theorem dL_repeatText_15 : decode cL_repeatText 15 = .ok (.iconst 1, 1) := by decide +kernel
theorem dL_repeatText_16 : decode cL_repeatText 16 = .ok (.ireturn, 1) := by decide +kernel
theorem dL_repeatText_17 : decode cL_repeatText 17 = .ok (.astore 4, 2) := by decide +kernel
theorem dL_repeatText_19 : decode cL_repeatText 19 = .ok (.iconst 2, 1) := by decide +kernel
theorem dL_repeatText_20 : decode cL_repeatText 20 = .ok (.ireturn, 1) := by decide +kernel
theorem dL_repeatText_21 : decode cL_repeatText 21 = .ok (.astore 4, 2) := by decide +kernel
theorem dL_repeatText_23 : decode cL_repeatText 23 = .ok (.iconst 3, 1) := by decide +kernel
theorem dL_repeatText_24 : decode cL_repeatText 24 = .ok (.ireturn, 1) := by decide +kernel
theorem dL_repeatText_25 : decode cL_repeatText 25 = .ok (.iconst 0, 1) := by decide +kernel
theorem dL_repeatText_26 : decode cL_repeatText 26 = .ok (.ireturn, 1) := by decide +kernel
set_option maxRecDepth 20000 in
theorem ggL_setText_X1_setText : GoodIn wsL_setText wsX1_setText := goodIn_ca (goodIn_ca (goodIn_r _ [7, 8, 9, 10, 11, 12, 13, 6, 14, 15, 16, 17, 18, 19, 20, 21] (by decide +kernel) (by decide +kernel)) (goodIn_sub (fun _ h => List.mem_cons_of_mem _ (List.mem_append_left _ (List.mem_append_right _ h))) (by decide +kernel))) (goodIn_sub (fun _ h => List.mem_cons_of_mem _ (List.mem_append_right _ h)) (by decide +kernel))
set_option maxRecDepth 20000 in
theorem gL_setText_X1_setText : GoodIn wsL_setText (wsV RL 23 RX1 yX1_setText wsX1_setText) := goodIn_app (goodIn_of _ (by decide +kernel)) ggL_setText_X1_setText
theorem dL_setText_0 : decode cL_setText 0 = .ok (.aload_n 3, 1) := by decide +kernel
theorem dL_setText_1 : decode cL_setText 1 = .ok (.iconst 0, 1) := by decide +kernel
theorem dL_setText_2 : decode cL_setText 2 = .ok (.aload_n 0, 1) := by decide +kernel
theorem dL_setText_3 : decode cL_setText 3 = .ok (.iload_n 1, 1) := by decide +kernel
theorem dL_setText_4 : decode cL_setText 4 = .ok (.iload_n 2, 1) := by decide +kernel
theorem dL_setText_5 : decode cL_setText 5 = .ok (.invokevirtual 23, 3) := by decide +kernel
theorem dL_setText_8 : decode cL_setText 8 = .ok (.i2l, 1) := by decide +kernel
theorem dL_setText_9 : decode cL_setText 9 = .ok (.lastore, 1) := by decide +kernel
theorem dL_setText_10 : decode cL_setText 10 = .ok (.goto 11, 3) := by decide +kernel
theorem dL_setText_13 : decode cL_setText 13 = .ok (.astore 4, 2) := by decide +kernel
theorem dL_setText_15 : decode cL_setText 15 = .ok (.iconst 1, 1) := by decide +kernel
theorem dL_setText_16 : decode cL_setText 16 = .ok (.ireturn, 1) := by decide +kernel
theorem dL_setText_17 : decode cL_setText 17 = .ok (.astore 4, 2) := by decide +kernel
theorem dL_setText_19 : decode cL_setText 19 = .ok (.iconst 2, 1) := by decide +kernel
theorem dL_setText_20 : decode cL_setText 20 = .ok (.ireturn, 1) := by decide +kernel
theorem dL_setText_21 : decode cL_setText 21 = .ok (.iconst 0, 1) := by decide +kernel
theorem dL_setText_22 : decode cL_setText 22 = .ok (.ireturn, 1) := by decide +kernel
set_option maxRecDepth 20000 in
theorem ggL_appendPattern_X1_appendPattern : GoodIn wsL_appendPattern wsX1_appendPattern := goodIn_ca (goodIn_ca (goodIn_r _ [7, 8, 9, 10, 11, 12, 13, 6, 14, 15, 16, 17, 18, 19, 20, 21] (by decide +kernel) (by decide +kernel)) (goodIn_sub (fun _ h => List.mem_cons_of_mem _ (List.mem_append_left _ (List.mem_append_right _ h))) (by decide +kernel))) (goodIn_sub (fun _ h => List.mem_cons_of_mem _ (List.mem_append_right _ h)) (by decide +kernel))
set_option maxRecDepth 20000 in
theorem gL_appendPattern_X1_appendPattern : GoodIn wsL_appendPattern (wsV RL 26 RX1 yX1_appendPattern wsX1_appendPattern) := goodIn_app (goodIn_of _ (by decide +kernel)) ggL_appendPattern_X1_appendPattern
theorem dL_appendPattern_0 : decode cL_appendPattern 0 = .ok (.aload_n 2, 1) := by decide +kernel
theorem dL_appendPattern_1 : decode cL_appendPattern 1 = .ok (.iconst 0, 1) := by decide +kernel
theorem dL_appendPattern_2 : decode cL_appendPattern 2 = .ok (.aload_n 0, 1) := by decide +kernel
theorem dL_appendPattern_3 : decode cL_appendPattern 3 = .ok (.iload_n 1, 1) := by decide +kernel
theorem dL_appendPattern_4 : decode cL_appendPattern 4 = .ok (.invokevirtual 26, 3) := by decide +kernel
theorem dL_appendPattern_7 : decode cL_appendPattern 7 = .ok (.i2l, 1) := by decide +kernel
theorem dL_appendPattern_8 : decode cL_appendPattern 8 = .ok (.lastore, 1) := by decide +kernel
theorem dL_appendPattern_9 : decode cL_appendPattern 9 = .ok (.goto 9, 3) := by decide +kernel
theorem dL_appendPattern_12 : decode cL_appendPattern 12 = .ok (.astore_n 3, 1) := by decide +kernel
theorem dL_appendPattern_13 : decode cL_appendPattern 13 = .ok (.iconst 1, 1) := by decide +kernel
theorem dL_appendPattern_14 : decode cL_appendPattern 14 = .ok (.ireturn, 1) := by decide +kernel
theorem dL_appendPattern_15 : decode cL_appendPattern 15 = .ok (.astore_n 3, 1) := by decide +kernel
theorem dL_appendPattern_16 : decode cL_appendPattern 16 = .ok (.iconst 2, 1) := by decide +kernel
theorem dL_appendPattern_17 : decode cL_appendPattern 17 = .ok (.ireturn, 1) := by decide +kernel
theorem dL_appendPattern_18 : decode cL_appendPattern 18 = .ok (.iconst 0, 1) := by decide +kernel
theorem dL_appendPattern_19 : decode cL_appendPattern 19 = .ok (.ireturn, 1) := by decide +kernel
set_option maxRecDepth 20000 in
theorem ggL_setPattern_X1_setPattern : GoodIn wsL_setPattern wsX1_setPattern := goodIn_ca (goodIn_ca (goodIn_r _ [7, 8, 9, 10, 11, 6, 12, 13, 14, 15, 16, 17, 18, 19, 20, 21, 22, 23, 24, 25] (by decide +kernel) (by decide +kernel)) (goodIn_sub (fun _ h => List.mem_cons_of_mem _ (List.mem_append_left _ (List.mem_append_right _ h))) (by decide +kernel))) (goodIn_sub (fun _ h => List.mem_cons_of_mem _ (List.mem_append_right _ h)) (by decide +kernel))
set_option maxRecDepth 20000 in
theorem gL_setPattern_X1_setPattern : GoodIn wsL_setPattern (wsV RL 29 RX1 yX1_setPattern wsX1_setPattern) := goodIn_app (goodIn_of _ (by decide +kernel)) ggL_setPattern_X1_setPattern
theorem dL_setPattern_0 : decode cL_setPattern 0 = .ok (.aload_n 3, 1) := by decide +kernel
theorem dL_setPattern_1 : decode cL_setPattern 1 = .ok (.iconst 0, 1) := by decide +kernel
theorem dL_setPattern_2 : decode cL_setPattern 2 = .ok (.aload_n 0, 1) := by decide +kernel
theorem dL_setPattern_3 : decode cL_setPattern 3 = .ok (.iload_n 1, 1) := by decide +kernel
theorem dL_setPattern_4 : decode cL_setPattern 4 = .ok (.iload_n 2, 1) := by decide +kernel
theorem dL_setPattern_5 : decode cL_setPattern 5 = .ok (.invokevirtual 29, 3) := by decide +kernel
theorem dL_setPattern_8 : decode cL_setPattern 8 = .ok (.i2l, 1) := by decide +kernel
theorem dL_setPattern_9 : decode cL_setPattern 9 = .ok (.lastore, 1) := by decide +kernel
theorem dL_setPattern_10 : decode cL_setPattern 10 = .ok (.goto 11, 3) := by decide +kernel
theorem dL_setPattern_13 : decode cL_setPattern 13 = .ok (.astore 4, 2) := by decide +kernel
theorem dL_setPattern_15 : decode cL_setPattern 15 = .ok (.iconst 1, 1) := by decide +kernel
theorem dL_setPattern_16 : decode cL_setPattern 16 = .ok (.ireturn, 1) := by decide +kernel
theorem dL_setPattern_17 : decode cL_setPattern 17 = .ok (.astore 4, 2) := by decide +kernel
theorem dL_setPattern_19 : decode cL_setPattern 19 = .ok (.iconst 2, 1) := by decide +kernel
theorem dL_setPattern_20 : decode cL_setPattern 20 = .ok (.ireturn, 1) := by decide +kernel
theorem dL_setPattern_21 : decode cL_setPattern 21 = .ok (.iconst 0, 1) := by decide +kernel
theorem dL_setPattern_22 : decode cL_setPattern 22 = .ok (.ireturn, 1) := by decide +kernel
set_option maxRecDepth 20000 in
theorem ggL_takePattern_X1_takePattern : GoodIn wsL_takePattern wsX1_takePattern := goodIn_ca (goodIn_ca (goodIn_r _ [7, 8, 9, 10, 11, 12, 13, 14, 15, 16, 17, 18, 19, 6, 20, 21, 22, 23, 24, 25, 26, 27, 28, 29, 30, 31, 32] (by decide +kernel) (by decide +kernel)) (goodIn_sub (fun _ h => List.mem_cons_of_mem _ (List.mem_append_left _ (List.mem_append_right _ h))) (by decide +kernel))) (goodIn_sub (fun _ h => List.mem_cons_of_mem _ (List.mem_append_right _ h)) (by decide +kernel))
set_option maxRecDepth 20000 in
theorem gL_takePattern_X1_takePattern : GoodIn wsL_takePattern (wsV RL 32 RX1 yX1_takePattern wsX1_takePattern) := goodIn_app (goodIn_of _ (by decide +kernel)) ggL_takePattern_X1_takePattern
theorem dL_takePattern_0 : decode cL_takePattern 0 = .ok (.aload_n 3, 1) := by decide +kernel
theorem dL_takePattern_1 : decode cL_takePattern 1 = .ok (.iconst 0, 1) := by decide +kernel
theorem dL_takePattern_2 : decode cL_takePattern 2 = .ok (.aload_n 0, 1) := by decide +kernel
theorem dL_takePattern_3 : decode cL_takePattern 3 = .ok (.iload_n 1, 1) := by decide +kernel
theorem dL_takePattern_4 : decode cL_takePattern 4 = .ok (.iload_n 2, 1) := by decide +kernel
theorem dL_takePattern_5 : decode cL_takePattern 5 = .ok (.invokevirtual 32, 3) := by decide +kernel
theorem dL_takePattern_8 : decode cL_takePattern 8 = .ok (.i2l, 1) := by decide +kernel
theorem dL_takePattern_9 : decode cL_takePattern 9 = .ok (.lastore, 1) := by decide +kernel
theorem dL_takePattern_10 : decode cL_takePattern 10 = .ok (.goto 11, 3) := by decide +kernel
theorem dL_takePattern_13 : decode cL_takePattern 13 = .ok (.astore 4, 2) := by decide +kernel
theorem dL_takePattern_15 : decode cL_takePattern 15 = .ok (.iconst 1, 1) := by decide +kernel
theorem dL_takePattern_16 : decode cL_takePattern 16 = .ok (.ireturn, 1) := by decide +kernel
theorem dL_takePattern_17 : decode cL_takePattern 17 = .ok (.astore 4, 2) := by decide +kernel
theorem dL_takePattern_19 : decode cL_takePattern 19 = .ok (.iconst 2, 1) := by decide +kernel
theorem dL_takePattern_20 : decode cL_takePattern 20 = .ok (.ireturn, 1) := by decide +kernel
theorem dL_takePattern_21 : decode cL_takePattern 21 = .ok (.iconst 0, 1) := by decide +kernel
theorem dL_takePattern_22 : decode cL_takePattern 22 = .ok (.ireturn, 1) := by decide +kernel
set_option maxRecDepth 20000 in
theorem ggL_product_X1_product : GoodIn wsL_product wsX1_product := goodIn_ca (goodIn_r _ [6, 7, 8, 9, 10, 11, 12, 13, 14, 15, 16, 17] (by decide +kernel) (by decide +kernel)) (goodIn_sub (fun _ h => List.mem_cons_of_mem _ (List.mem_append_right _ h)) (by decide +kernel))
set_option maxRecDepth 20000 in
theorem gL_product_X1_product : GoodIn wsL_product (wsV RL 35 RX1 yX1_product wsX1_product) := goodIn_app (goodIn_of _ (by decide +kernel)) ggL_product_X1_product
theorem dL_product_0 : decode cL_product 0 = .ok (.aload_n 2, 1) := by decide +kernel
theorem dL_product_1 : decode cL_product 1 = .ok (.iconst 0, 1) := by decide +kernel
theorem dL_product_2 : decode cL_product 2 = .ok (.aload_n 0, 1) := by decide +kernel
theorem dL_product_3 : decode cL_product 3 = .ok (.iload_n 1, 1) := by decide +kernel
theorem dL_product_4 : decode cL_product 4 = .ok (.invokevirtual 35, 3) := by decide +kernel
theorem dL_product_7 : decode cL_product 7 = .ok (.i2l, 1) := by decide +kernel
theorem dL_product_8 : decode cL_product 8 = .ok (.lastore, 1) := by decide +kernel
theorem dL_product_9 : decode cL_product 9 = .ok (.goto 6, 3) := by decide +kernel
theorem dL_product_12 : decode cL_product 12 = .ok (.astore_n 3, 1) := by decide +kernel
theorem dL_product_13 : decode cL_product 13 = .ok (.iconst 1, 1) := by decide +kernel
theorem dL_product_14 : decode cL_product 14 = .ok (.ireturn, 1) := by decide +kernel
theorem dL_product_15 : decode cL_product 15 = .ok (.iconst 0, 1) := by decide +kernel
theorem dL_product_16 : decode cL_product 16 = .ok (.ireturn, 1) := by decide +kernel
set_option maxRecDepth 20000 in
theorem ggL_difference_X1_difference : GoodIn wsL_difference wsX1_difference := goodIn_ca (goodIn_r _ [6, 7, 8, 9, 10, 11, 12, 5, 13, 14, 15, 16, 17, 18, 19, 20, 21, 22, 23, 24, 25] (by decide +kernel) (by decide +kernel)) (goodIn_sub (fun _ h => List.mem_cons_of_mem _ (List.mem_append_right _ h)) (by decide +kernel))
set_option maxRecDepth 20000 in
theorem gL_difference_X1_difference : GoodIn wsL_difference (wsV RL 38 RX1 yX1_difference wsX1_difference) := goodIn_app (goodIn_of _ (by decide +kernel)) ggL_difference_X1_difference
theorem dL_difference_0 : decode cL_difference 0 = .ok (.aload_n 2, 1) := by decide +kernel
theorem dL_difference_1 : decode cL_difference 1 = .ok (.iconst 0, 1) := by decide +kernel
theorem dL_difference_2 : decode cL_difference 2 = .ok (.aload_n 0, 1) := by decide +kernel
theorem dL_difference_3 : decode cL_difference 3 = .ok (.iload_n 1, 1) := by decide +kernel
theorem dL_difference_4 : decode cL_difference 4 = .ok (.invokevirtual 38, 3) := by decide +kernel
theorem dL_difference_7 : decode cL_difference 7 = .ok (.i2l, 1) := by decide +kernel
theorem dL_difference_8 : decode cL_difference 8 = .ok (.lastore, 1) := by decide +kernel
theorem dL_difference_9 : decode cL_difference 9 = .ok (.goto 6, 3) := by decide +kernel
theorem dL_difference_12 : decode cL_difference 12 = .ok (.astore_n 3, 1) := by decide +kernel
theorem dL_difference_13 : decode cL_difference 13 = .ok (.iconst 1, 1) := by decide +kernel
theorem dL_difference_14 : decode cL_difference 14 = .ok (.ireturn, 1) := by decide +kernel
theorem dL_difference_15 : decode cL_difference 15 = .ok (.iconst 0, 1) := by decide +kernel
theorem dL_difference_16 : decode cL_difference 16 = .ok (.ireturn, 1) := by decide +kernel
set_option maxRecDepth 20000 in
theorem ggL_match_X1_match : GoodIn wsL_match wsX1_match := goodIn_ca (goodIn_r _ [6, 7, 8, 9, 10, 5, 11, 12, 13, 14, 15, 16, 17, 18, 19, 20, 21, 22, 23, 24, 25, 26, 27, 28, 29, 30, 31, 32, 33, 34, 35, 36, 37, 38, 39, 40, 41, 42, 43, 44, 45, 46, 47, 48, 49, 50, 51, 52, 53, 54, 55, 56, 57, 58, 59] (by decide +kernel) (by decide +kernel)) (goodIn_sub (fun _ h => List.mem_cons_of_mem _ (List.mem_append_right _ h)) (by decide +kernel))
set_option maxRecDepth 20000 in
theorem gL_match_X1_match : GoodIn wsL_match (wsV RL 41 RX1 yX1_match wsX1_match) := goodIn_app (goodIn_of _ (by decide +kernel)) ggL_match_X1_match
theorem dL_match_0 : decode cL_match 0 = .ok (.aload_n 2, 1) := by decide +kernel
theorem dL_match_1 : decode cL_match 1 = .ok (.iconst 0, 1) := by decide +kernel
theorem dL_match_2 : decode cL_match 2 = .ok (.aload_n 0, 1) := by decide +kernel
theorem dL_match_3 : decode cL_match 3 = .ok (.iload_n 1, 1) := by decide +kernel
theorem dL_match_4 : decode cL_match 4 = .ok (.invokevirtual 41, 3) := by decide +kernel
theorem dL_match_7 : decode cL_match 7 = .ok (.i2l, 1) := by decide +kernel
theorem dL_match_8 : decode cL_match 8 = .ok (.lastore, 1) := by decide +kernel
theorem dL_match_9 : decode cL_match 9 = .ok (.goto 6, 3) := by decide +kernel
theorem dL_match_12 : decode cL_match 12 = .ok (.astore_n 3, 1) := by decide +kernel
theorem dL_match_13 : decode cL_match 13 = .ok (.iconst 1, 1) := by decide +kernel
theorem dL_match_14 : decode cL_match 14 = .ok (.ireturn, 1) := by decide +kernel
theorem dL_match_15 : decode cL_match 15 = .ok (.iconst 0, 1) := by decide +kernel
theorem dL_match_16 : decode cL_match 16 = .ok (.ireturn, 1) := by decide +kernel
set_option maxRecDepth 20000 in
theorem ggL_mismatches_X1_mismatches : GoodIn wsL_mismatches wsX1_mismatches := goodIn_ca (goodIn_r _ [6, 7, 8, 9, 5, 10, 11, 12, 13, 14, 15, 16, 17, 18, 19, 20, 21, 22, 23, 24, 25, 26, 27, 28, 29, 30, 31, 32] (by decide +kernel) (by decide +kernel)) (goodIn_sub (fun _ h => List.mem_cons_of_mem _ (List.mem_append_right _ h)) (by decide +kernel))
set_option maxRecDepth 20000 in
theorem gL_mismatches_X1_mismatches : GoodIn wsL_mismatches (wsV RL 44 RX1 yX1_mismatches wsX1_mismatches) := goodIn_app (goodIn_of _ (by decide +kernel)) ggL_mismatches_X1_mismatches
theorem dL_mismatches_0 : decode cL_mismatches 0 = .ok (.aload_n 2, 1) := by decide +kernel
theorem dL_mismatches_1 : decode cL_mismatches 1 = .ok (.iconst 0, 1) := by decide +kernel
theorem dL_mismatches_2 : decode cL_mismatches 2 = .ok (.aload_n 0, 1) := by decide +kernel
theorem dL_mismatches_3 : decode cL_mismatches 3 = .ok (.iload_n 1, 1) := by decide +kernel
theorem dL_mismatches_4 : decode cL_mismatches 4 = .ok (.invokevirtual 44, 3) := by decide +kernel
theorem dL_mismatches_7 : decode cL_mismatches 7 = .ok (.i2l, 1) := by decide +kernel
theorem dL_mismatches_8 : decode cL_mismatches 8 = .ok (.lastore, 1) := by decide +kernel
theorem dL_mismatches_9 : decode cL_mismatches 9 = .ok (.goto 6, 3) := by decide +kernel
theorem dL_mismatches_12 : decode cL_mismatches 12 = .ok (.astore_n 3, 1) := by decide +kernel
theorem dL_mismatches_13 : decode cL_mismatches 13 = .ok (.iconst 1, 1) := by decide +kernel
theorem dL_mismatches_14 : decode cL_mismatches 14 = .ok (.ireturn, 1) := by decide +kernel
theorem dL_mismatches_15 : decode cL_mismatches 15 = .ok (.iconst 0, 1) := by decide +kernel
theorem dL_mismatches_16 : decode cL_mismatches 16 = .ok (.ireturn, 1) := by decide +kernel
set_option maxRecDepth 20000 in
theorem ggL_mismatchesOf_X1_mismatchesOf : GoodIn wsL_mismatchesOf wsX1_mismatchesOf := goodIn_ca (goodIn_ca (goodIn_r _ [7, 8, 9, 10, 11, 12, 13, 14, 15, 6, 16, 17, 18, 19, 20, 21, 22, 23, 24, 25, 26, 27, 28, 29, 30, 31] (by decide +kernel) (by decide +kernel)) (goodIn_sub (fun _ h => List.mem_cons_of_mem _ (List.mem_append_left _ (List.mem_append_right _ h))) (by decide +kernel))) (goodIn_sub (fun _ h => List.mem_cons_of_mem _ (List.mem_append_right _ h)) (by decide +kernel))
set_option maxRecDepth 20000 in
theorem gL_mismatchesOf_X1_mismatchesOf : GoodIn wsL_mismatchesOf (wsV RL 47 RX1 yX1_mismatchesOf wsX1_mismatchesOf) := goodIn_app (goodIn_of _ (by decide +kernel)) ggL_mismatchesOf_X1_mismatchesOf
theorem dL_mismatchesOf_0 : decode cL_mismatchesOf 0 = .ok (.aload_n 3, 1) := by decide +kernel
theorem dL_mismatchesOf_1 : decode cL_mismatchesOf 1 = .ok (.iconst 0, 1) := by decide +kernel
theorem dL_mismatchesOf_2 : decode cL_mismatchesOf 2 = .ok (.aload_n 0, 1) := by decide +kernel
theorem dL_mismatchesOf_3 : decode cL_mismatchesOf 3 = .ok (.iload_n 1, 1) := by decide +kernel
theorem dL_mismatchesOf_4 : decode cL_mismatchesOf 4 = .ok (.iload_n 2, 1) := by decide +kernel
theorem dL_mismatchesOf_5 : decode cL_mismatchesOf 5 = .ok (.invokevirtual 47, 3) := by decide +kernel
theorem dL_mismatchesOf_8 : decode cL_mismatchesOf 8 = .ok (.i2l, 1) := by decide +kernel
theorem dL_mismatchesOf_9 : decode cL_mismatchesOf 9 = .ok (.lastore, 1) := by decide +kernel
theorem dL_mismatchesOf_10 : decode cL_mismatchesOf 10 = .ok (.goto 11, 3) := by decide +kernel
theorem dL_mismatchesOf_13 : decode cL_mismatchesOf 13 = .ok (.astore 4, 2) := by decide +kernel
theorem dL_mismatchesOf_15 : decode cL_mismatchesOf 15 = .ok (.iconst 1, 1) := by decide +kernel
theorem dL_mismatchesOf_16 : decode cL_mismatchesOf 16 = .ok (.ireturn, 1) := by decide +kernel
theorem dL_mismatchesOf_17 : decode cL_mismatchesOf 17 = .ok (.astore 4, 2) := by decide +kernel
theorem dL_mismatchesOf_19 : decode cL_mismatchesOf 19 = .ok (.iconst 2, 1) := by decide +kernel
theorem dL_mismatchesOf_20 : decode cL_mismatchesOf 20 = .ok (.ireturn, 1) := by decide +kernel
theorem dL_mismatchesOf_21 : decode cL_mismatchesOf 21 = .ok (.iconst 0, 1) := by decide +kernel
theorem dL_mismatchesOf_22 : decode cL_mismatchesOf 22 = .ok (.ireturn, 1) := by decide +kernel
set_option maxRecDepth 20000 in
theorem ggL_nextMismatch_X1_nextMismatch : GoodIn wsL_nextMismatch wsX1_nextMismatch := goodIn_ca (goodIn_ca (goodIn_r _ [7, 8, 9, 10, 11, 12, 6, 13, 14, 15, 16, 17, 18, 19, 20, 21, 22, 23, 24, 25, 26, 27, 28, 29, 30, 31, 32, 33, 34, 35] (by decide +kernel) (by decide +kernel)) (goodIn_sub (fun _ h => List.mem_cons_of_mem _ (List.mem_append_left _ (List.mem_append_right _ h))) (by decide +kernel))) (goodIn_sub (fun _ h => List.mem_cons_of_mem _ (List.mem_append_right _ h)) (by decide +kernel))
set_option maxRecDepth 20000 in
theorem gL_nextMismatch_X1_nextMismatch : GoodIn wsL_nextMismatch (wsV RL 50 RX1 yX1_nextMismatch wsX1_nextMismatch) := goodIn_app (goodIn_of _ (by decide +kernel)) ggL_nextMismatch_X1_nextMismatch
theorem dL_nextMismatch_0 : decode cL_nextMismatch 0 = .ok (.aload_n 3, 1) := by decide +kernel
theorem dL_nextMismatch_1 : decode cL_nextMismatch 1 = .ok (.iconst 0, 1) := by decide +kernel
theorem dL_nextMismatch_2 : decode cL_nextMismatch 2 = .ok (.aload_n 0, 1) := by decide +kernel
theorem dL_nextMismatch_3 : decode cL_nextMismatch 3 = .ok (.iload_n 1, 1) := by decide +kernel
theorem dL_nextMismatch_4 : decode cL_nextMismatch 4 = .ok (.iload_n 2, 1) := by decide +kernel
theorem dL_nextMismatch_5 : decode cL_nextMismatch 5 = .ok (.invokevirtual 50, 3) := by decide +kernel
theorem dL_nextMismatch_8 : decode cL_nextMismatch 8 = .ok (.i2l, 1) := by decide +kernel
theorem dL_nextMismatch_9 : decode cL_nextMismatch 9 = .ok (.lastore, 1) := by decide +kernel
theorem dL_nextMismatch_10 : decode cL_nextMismatch 10 = .ok (.goto 11, 3) := by decide +kernel
theorem dL_nextMismatch_13 : decode cL_nextMismatch 13 = .ok (.astore 4, 2) := by decide +kernel
theorem dL_nextMismatch_15 : decode cL_nextMismatch 15 = .ok (.iconst 1, 1) := by decide +kernel
theorem dL_nextMismatch_16 : decode cL_nextMismatch 16 = .ok (.ireturn, 1) := by decide +kernel
theorem dL_nextMismatch_17 : decode cL_nextMismatch 17 = .ok (.astore 4, 2) := by decide +kernel
theorem dL_nextMismatch_19 : decode cL_nextMismatch 19 = .ok (.iconst 2, 1) := by decide +kernel
theorem dL_nextMismatch_20 : decode cL_nextMismatch 20 = .ok (.ireturn, 1) := by decide +kernel
theorem dL_nextMismatch_21 : decode cL_nextMismatch 21 = .ok (.iconst 0, 1) := by decide +kernel
theorem dL_nextMismatch_22 : decode cL_nextMismatch 22 = .ok (.ireturn, 1) := by decide +kernel
set_option maxRecDepth 20000 in
theorem ggL_agreement_X1_agreement : GoodIn wsL_agreement wsX1_agreement := goodIn_ca (goodIn_r _ [6, 7, 8, 9, 10, 11, 12, 13, 14, 15, 16, 17, 18, 5, 19, 20, 21, 22, 23, 24] (by decide +kernel) (by decide +kernel)) (goodIn_sub (fun _ h => List.mem_cons_of_mem _ (List.mem_append_right _ h)) (by decide +kernel))
set_option maxRecDepth 20000 in
theorem gL_agreement_X1_agreement : GoodIn wsL_agreement (wsV RL 53 RX1 yX1_agreement wsX1_agreement) := goodIn_app (goodIn_of _ (by decide +kernel)) ggL_agreement_X1_agreement
theorem dL_agreement_0 : decode cL_agreement 0 = .ok (.aload_n 3, 1) := by decide +kernel
theorem dL_agreement_1 : decode cL_agreement 1 = .ok (.iconst 0, 1) := by decide +kernel
theorem dL_agreement_2 : decode cL_agreement 2 = .ok (.aload_n 0, 1) := by decide +kernel
theorem dL_agreement_3 : decode cL_agreement 3 = .ok (.iload_n 1, 1) := by decide +kernel
theorem dL_agreement_4 : decode cL_agreement 4 = .ok (.iload_n 2, 1) := by decide +kernel
theorem dL_agreement_5 : decode cL_agreement 5 = .ok (.invokevirtual 53, 3) := by decide +kernel
theorem dL_agreement_8 : decode cL_agreement 8 = .ok (.i2l, 1) := by decide +kernel
theorem dL_agreement_9 : decode cL_agreement 9 = .ok (.lastore, 1) := by decide +kernel
theorem dL_agreement_10 : decode cL_agreement 10 = .ok (.goto 7, 3) := by decide +kernel
theorem dL_agreement_13 : decode cL_agreement 13 = .ok (.astore 4, 2) := by decide +kernel
theorem dL_agreement_15 : decode cL_agreement 15 = .ok (.iconst 1, 1) := by decide +kernel
theorem dL_agreement_16 : decode cL_agreement 16 = .ok (.ireturn, 1) := by decide +kernel
theorem dL_agreement_17 : decode cL_agreement 17 = .ok (.iconst 0, 1) := by decide +kernel
theorem dL_agreement_18 : decode cL_agreement 18 = .ok (.ireturn, 1) := by decide +kernel
set_option maxRecDepth 20000 in
theorem ggL_within_X1_within : GoodIn wsL_within wsX1_within := goodIn_ca (goodIn_r _ [6, 7, 8, 9, 10, 11, 5, 12, 13, 14, 15, 16, 17, 18, 19, 20, 21, 22, 23, 24, 25, 26, 27, 28] (by decide +kernel) (by decide +kernel)) (goodIn_sub (fun _ h => List.mem_cons_of_mem _ (List.mem_append_right _ h)) (by decide +kernel))
set_option maxRecDepth 20000 in
theorem gL_within_X1_within : GoodIn wsL_within (wsV RL 56 RX1 yX1_within wsX1_within) := goodIn_app (goodIn_of _ (by decide +kernel)) ggL_within_X1_within
theorem dL_within_0 : decode cL_within 0 = .ok (.aload_n 2, 1) := by decide +kernel
theorem dL_within_1 : decode cL_within 1 = .ok (.iconst 0, 1) := by decide +kernel
theorem dL_within_2 : decode cL_within 2 = .ok (.aload_n 0, 1) := by decide +kernel
theorem dL_within_3 : decode cL_within 3 = .ok (.iload_n 1, 1) := by decide +kernel
theorem dL_within_4 : decode cL_within 4 = .ok (.invokevirtual 56, 3) := by decide +kernel
theorem dL_within_7 : decode cL_within 7 = .ok (.i2l, 1) := by decide +kernel
theorem dL_within_8 : decode cL_within 8 = .ok (.lastore, 1) := by decide +kernel
theorem dL_within_9 : decode cL_within 9 = .ok (.goto 6, 3) := by decide +kernel
theorem dL_within_12 : decode cL_within 12 = .ok (.astore_n 3, 1) := by decide +kernel
theorem dL_within_13 : decode cL_within 13 = .ok (.iconst 1, 1) := by decide +kernel
theorem dL_within_14 : decode cL_within 14 = .ok (.ireturn, 1) := by decide +kernel
theorem dL_within_15 : decode cL_within 15 = .ok (.iconst 0, 1) := by decide +kernel
theorem dL_within_16 : decode cL_within 16 = .ok (.ireturn, 1) := by decide +kernel
set_option maxRecDepth 20000 in
theorem ggL_ranked_X1_ranked : GoodIn wsL_ranked wsX1_ranked := goodIn_ca (goodIn_r _ [6, 7, 8, 9, 10, 11, 12, 5, 13, 14, 15, 16, 17, 18, 19, 20, 21, 22, 23, 24, 25, 26, 27, 28, 29, 30, 31, 32, 33] (by decide +kernel) (by decide +kernel)) (goodIn_sub (fun _ h => List.mem_cons_of_mem _ (List.mem_append_right _ h)) (by decide +kernel))
set_option maxRecDepth 20000 in
theorem gL_ranked_X1_ranked : GoodIn wsL_ranked (wsV RL 59 RX1 yX1_ranked wsX1_ranked) := goodIn_app (goodIn_of _ (by decide +kernel)) ggL_ranked_X1_ranked
theorem dL_ranked_0 : decode cL_ranked 0 = .ok (.aload_n 2, 1) := by decide +kernel
theorem dL_ranked_1 : decode cL_ranked 1 = .ok (.iconst 0, 1) := by decide +kernel
theorem dL_ranked_2 : decode cL_ranked 2 = .ok (.aload_n 0, 1) := by decide +kernel
theorem dL_ranked_3 : decode cL_ranked 3 = .ok (.iload_n 1, 1) := by decide +kernel
theorem dL_ranked_4 : decode cL_ranked 4 = .ok (.invokevirtual 59, 3) := by decide +kernel
theorem dL_ranked_7 : decode cL_ranked 7 = .ok (.i2l, 1) := by decide +kernel
theorem dL_ranked_8 : decode cL_ranked 8 = .ok (.lastore, 1) := by decide +kernel
theorem dL_ranked_9 : decode cL_ranked 9 = .ok (.goto 6, 3) := by decide +kernel
theorem dL_ranked_12 : decode cL_ranked 12 = .ok (.astore_n 3, 1) := by decide +kernel
theorem dL_ranked_13 : decode cL_ranked 13 = .ok (.iconst 1, 1) := by decide +kernel
theorem dL_ranked_14 : decode cL_ranked 14 = .ok (.ireturn, 1) := by decide +kernel
theorem dL_ranked_15 : decode cL_ranked 15 = .ok (.iconst 0, 1) := by decide +kernel
theorem dL_ranked_16 : decode cL_ranked 16 = .ok (.ireturn, 1) := by decide +kernel
set_option maxRecDepth 20000 in
theorem ggL_bestLetter_X1_bestLetter : GoodIn wsL_bestLetter wsX1_bestLetter := goodIn_ca (goodIn_r _ [6, 7, 8, 9, 5, 10, 11, 12, 13, 14, 15, 16, 17, 18, 19, 20, 21, 22, 23, 24, 25, 26, 27, 28] (by decide +kernel) (by decide +kernel)) (goodIn_sub (fun _ h => List.mem_cons_of_mem _ (List.mem_append_right _ h)) (by decide +kernel))
set_option maxRecDepth 20000 in
theorem gL_bestLetter_X1_bestLetter : GoodIn wsL_bestLetter (wsV RL 62 RX1 yX1_bestLetter wsX1_bestLetter) := goodIn_app (goodIn_of _ (by decide +kernel)) ggL_bestLetter_X1_bestLetter
theorem dL_bestLetter_0 : decode cL_bestLetter 0 = .ok (.aload_n 2, 1) := by decide +kernel
theorem dL_bestLetter_1 : decode cL_bestLetter 1 = .ok (.iconst 0, 1) := by decide +kernel
theorem dL_bestLetter_2 : decode cL_bestLetter 2 = .ok (.aload_n 0, 1) := by decide +kernel
theorem dL_bestLetter_3 : decode cL_bestLetter 3 = .ok (.iload_n 1, 1) := by decide +kernel
theorem dL_bestLetter_4 : decode cL_bestLetter 4 = .ok (.invokevirtual 62, 3) := by decide +kernel
theorem dL_bestLetter_7 : decode cL_bestLetter 7 = .ok (.i2l, 1) := by decide +kernel
theorem dL_bestLetter_8 : decode cL_bestLetter 8 = .ok (.lastore, 1) := by decide +kernel
theorem dL_bestLetter_9 : decode cL_bestLetter 9 = .ok (.goto 6, 3) := by decide +kernel
theorem dL_bestLetter_12 : decode cL_bestLetter 12 = .ok (.astore_n 3, 1) := by decide +kernel
theorem dL_bestLetter_13 : decode cL_bestLetter 13 = .ok (.iconst 1, 1) := by decide +kernel
theorem dL_bestLetter_14 : decode cL_bestLetter 14 = .ok (.ireturn, 1) := by decide +kernel
theorem dL_bestLetter_15 : decode cL_bestLetter 15 = .ok (.iconst 0, 1) := by decide +kernel
theorem dL_bestLetter_16 : decode cL_bestLetter 16 = .ok (.ireturn, 1) := by decide +kernel
set_option maxRecDepth 20000 in
theorem ggL_sumMatch_X1_sumMatch : GoodIn wsL_sumMatch wsX1_sumMatch := goodIn_ca (goodIn_r _ [6, 7, 8, 9, 10, 5, 11, 12, 13, 14, 15, 16, 17, 18, 19, 20, 21, 22, 23, 24, 25, 26, 27, 28, 29, 30, 31, 32, 33, 34, 35, 36, 37, 38, 39, 40, 41, 42, 43, 44, 45, 46, 47, 48, 49, 50, 51, 52, 53, 54, 55, 56, 57, 58] (by decide +kernel) (by decide +kernel)) (goodIn_sub (fun _ h => List.mem_cons_of_mem _ (List.mem_append_right _ h)) (by decide +kernel))
set_option maxRecDepth 20000 in
theorem gL_sumMatch_X1_sumMatch : GoodIn wsL_sumMatch (wsV RL 65 RX1 yX1_sumMatch wsX1_sumMatch) := goodIn_app (goodIn_of _ (by decide +kernel)) ggL_sumMatch_X1_sumMatch
theorem dL_sumMatch_0 : decode cL_sumMatch 0 = .ok (.aload_n 2, 1) := by decide +kernel
theorem dL_sumMatch_1 : decode cL_sumMatch 1 = .ok (.iconst 0, 1) := by decide +kernel
theorem dL_sumMatch_2 : decode cL_sumMatch 2 = .ok (.aload_n 0, 1) := by decide +kernel
theorem dL_sumMatch_3 : decode cL_sumMatch 3 = .ok (.iload_n 1, 1) := by decide +kernel
theorem dL_sumMatch_4 : decode cL_sumMatch 4 = .ok (.invokevirtual 65, 3) := by decide +kernel
theorem dL_sumMatch_7 : decode cL_sumMatch 7 = .ok (.i2l, 1) := by decide +kernel
theorem dL_sumMatch_8 : decode cL_sumMatch 8 = .ok (.lastore, 1) := by decide +kernel
theorem dL_sumMatch_9 : decode cL_sumMatch 9 = .ok (.goto 6, 3) := by decide +kernel
theorem dL_sumMatch_12 : decode cL_sumMatch 12 = .ok (.astore_n 3, 1) := by decide +kernel
theorem dL_sumMatch_13 : decode cL_sumMatch 13 = .ok (.iconst 1, 1) := by decide +kernel
theorem dL_sumMatch_14 : decode cL_sumMatch 14 = .ok (.ireturn, 1) := by decide +kernel
theorem dL_sumMatch_15 : decode cL_sumMatch 15 = .ok (.iconst 0, 1) := by decide +kernel
theorem dL_sumMatch_16 : decode cL_sumMatch 16 = .ok (.ireturn, 1) := by decide +kernel
set_option maxRecDepth 20000 in
theorem ggL_orderMatch_X1_orderMatch : GoodIn wsL_orderMatch wsX1_orderMatch := goodIn_ca (goodIn_r _ [6, 7, 8, 9, 10, 5, 11, 12, 13, 14, 15, 16, 17, 18, 19, 20, 21, 22, 23, 24, 25, 26, 27, 28, 29, 30, 31, 32, 33, 34, 35, 36, 37, 38, 39, 40, 41, 42, 43, 44, 45, 46, 47, 48, 49, 50, 51, 52, 53, 54, 55, 56, 57, 58] (by decide +kernel) (by decide +kernel)) (goodIn_sub (fun _ h => List.mem_cons_of_mem _ (List.mem_append_right _ h)) (by decide +kernel))
set_option maxRecDepth 20000 in
theorem gL_orderMatch_X1_orderMatch : GoodIn wsL_orderMatch (wsV RL 68 RX1 yX1_orderMatch wsX1_orderMatch) := goodIn_app (goodIn_of _ (by decide +kernel)) ggL_orderMatch_X1_orderMatch
theorem dL_orderMatch_0 : decode cL_orderMatch 0 = .ok (.aload_n 2, 1) := by decide +kernel
theorem dL_orderMatch_1 : decode cL_orderMatch 1 = .ok (.iconst 0, 1) := by decide +kernel
theorem dL_orderMatch_2 : decode cL_orderMatch 2 = .ok (.aload_n 0, 1) := by decide +kernel
theorem dL_orderMatch_3 : decode cL_orderMatch 3 = .ok (.iload_n 1, 1) := by decide +kernel
theorem dL_orderMatch_4 : decode cL_orderMatch 4 = .ok (.invokevirtual 68, 3) := by decide +kernel
theorem dL_orderMatch_7 : decode cL_orderMatch 7 = .ok (.i2l, 1) := by decide +kernel
theorem dL_orderMatch_8 : decode cL_orderMatch 8 = .ok (.lastore, 1) := by decide +kernel
theorem dL_orderMatch_9 : decode cL_orderMatch 9 = .ok (.goto 6, 3) := by decide +kernel
theorem dL_orderMatch_12 : decode cL_orderMatch 12 = .ok (.astore_n 3, 1) := by decide +kernel
theorem dL_orderMatch_13 : decode cL_orderMatch 13 = .ok (.iconst 1, 1) := by decide +kernel
theorem dL_orderMatch_14 : decode cL_orderMatch 14 = .ok (.ireturn, 1) := by decide +kernel
theorem dL_orderMatch_15 : decode cL_orderMatch 15 = .ok (.iconst 0, 1) := by decide +kernel
theorem dL_orderMatch_16 : decode cL_orderMatch 16 = .ok (.ireturn, 1) := by decide +kernel
set_option maxRecDepth 20000 in
theorem ggL_hasPeriod_X1_hasPeriod : GoodIn wsL_hasPeriod wsX1_hasPeriod := goodIn_ca (goodIn_r _ [6, 7, 8, 9, 10, 11, 5, 12, 13, 14, 15, 16, 17, 18, 19, 20, 21, 22] (by decide +kernel) (by decide +kernel)) (goodIn_sub (fun _ h => List.mem_cons_of_mem _ (List.mem_append_right _ h)) (by decide +kernel))
set_option maxRecDepth 20000 in
theorem gL_hasPeriod_X1_hasPeriod : GoodIn wsL_hasPeriod (wsV RL 71 RX1 yX1_hasPeriod wsX1_hasPeriod) := goodIn_app (goodIn_of _ (by decide +kernel)) ggL_hasPeriod_X1_hasPeriod
theorem dL_hasPeriod_0 : decode cL_hasPeriod 0 = .ok (.aload_n 2, 1) := by decide +kernel
theorem dL_hasPeriod_1 : decode cL_hasPeriod 1 = .ok (.iconst 0, 1) := by decide +kernel
theorem dL_hasPeriod_2 : decode cL_hasPeriod 2 = .ok (.aload_n 0, 1) := by decide +kernel
theorem dL_hasPeriod_3 : decode cL_hasPeriod 3 = .ok (.iload_n 1, 1) := by decide +kernel
theorem dL_hasPeriod_4 : decode cL_hasPeriod 4 = .ok (.invokevirtual 71, 3) := by decide +kernel
theorem dL_hasPeriod_7 : decode cL_hasPeriod 7 = .ok (.ifCond .eq 7, 3) := by decide +kernel
theorem dL_hasPeriod_10 : decode cL_hasPeriod 10 = .ok (.lconst 1, 1) := by decide +kernel
theorem dL_hasPeriod_11 : decode cL_hasPeriod 11 = .ok (.goto 4, 3) := by decide +kernel
theorem dL_hasPeriod_14 : decode cL_hasPeriod 14 = .ok (.lconst 0, 1) := by decide +kernel
theorem dL_hasPeriod_15 : decode cL_hasPeriod 15 = .ok (.lastore, 1) := by decide +kernel
theorem dL_hasPeriod_16 : decode cL_hasPeriod 16 = .ok (.goto 6, 3) := by decide +kernel
theorem dL_hasPeriod_19 : decode cL_hasPeriod 19 = .ok (.astore_n 3, 1) := by decide +kernel
theorem dL_hasPeriod_20 : decode cL_hasPeriod 20 = .ok (.iconst 1, 1) := by decide +kernel
theorem dL_hasPeriod_21 : decode cL_hasPeriod 21 = .ok (.ireturn, 1) := by decide +kernel
theorem dL_hasPeriod_22 : decode cL_hasPeriod 22 = .ok (.iconst 0, 1) := by decide +kernel
theorem dL_hasPeriod_23 : decode cL_hasPeriod 23 = .ok (.ireturn, 1) := by decide +kernel
set_option maxRecDepth 20000 in
theorem ggL_law_X1_init : GoodIn wsL_law wsX1_init := goodIn_r _ [9, 10, 11, 12, 13, 14, 15, 16, 17, 18, 477, 478, 479, 480, 481] (by decide +kernel) (by decide +kernel)
set_option maxRecDepth 20000 in
theorem gL_law_X1_init : GoodIn wsL_law (wsX1_init) := ggL_law_X1_init
set_option maxRecDepth 20000 in
theorem ggL_law_X2_init : GoodIn wsL_law wsX2_init := goodIn_r _ [21, 22, 11, 12, 13, 23, 24, 482, 483, 484, 485, 486] (by decide +kernel) (by decide +kernel)
set_option maxRecDepth 20000 in
theorem gL_law_X2_init : GoodIn wsL_law (wsX2_init) := ggL_law_X2_init
set_option maxRecDepth 20000 in
theorem ggL_law_L_appendText : GoodIn wsL_law wsL_appendText := goodIn_ca (goodIn_ca (goodIn_r _ [28, 29, 30, 31, 32, 33, 2, 34, 35, 36, 17, 14, 37, 38, 39, 40, 41, 477, 478, 479, 480, 481] (by decide +kernel) (by decide +kernel)) (goodIn_sub (fun _ h => List.mem_append_left _ (List.mem_append_left _ (List.mem_append_right _ h))) (by decide +kernel))) (goodIn_sub (fun _ h => List.mem_append_left _ (List.mem_append_right _ h)) (by decide +kernel))
set_option maxRecDepth 20000 in
theorem gL_law_L_appendText : GoodIn wsL_law (va_wsS RL 79 yL_appendText wsL_appendText) := goodIn_app (goodIn_of _ (by decide +kernel)) ggL_law_L_appendText
set_option maxRecDepth 20000 in
theorem ggL_law_X2_appendText : GoodIn wsL_law wsX2_appendText := goodIn_r _ [45, 46, 23, 47, 48, 5, 49, 50, 51, 52, 53, 54, 482, 483, 484, 485, 486] (by decide +kernel) (by decide +kernel)
set_option maxRecDepth 20000 in
theorem gL_law_X2_appendText : GoodIn wsL_law (wsV RL 84 RX2 yX2_appendText wsX2_appendText) := goodIn_app (goodIn_of _ (by decide +kernel)) ggL_law_X2_appendText
set_option maxRecDepth 20000 in
theorem ggL_law_X2_thrown : GoodIn wsL_law wsX2_thrown := goodIn_r _ [58, 54, 482, 483, 484, 485, 486] (by decide +kernel) (by decide +kernel)
set_option maxRecDepth 20000 in
theorem gL_law_X2_thrown : GoodIn wsL_law (wsV RL 85 RX2 yX2_thrown wsX2_thrown) := goodIn_app (goodIn_of _ (by decide +kernel)) ggL_law_X2_thrown
set_option maxRecDepth 20000 in
theorem ggL_law_L_repeatText : GoodIn wsL_law wsL_repeatText := goodIn_ca (goodIn_ca (goodIn_ca (goodIn_r _ [61, 29, 62, 30, 63, 64, 65, 2, 66, 40, 41, 35, 36, 17, 14, 67, 68, 69, 70, 71, 72, 73, 74, 75, 76, 477, 478, 479, 480, 481] (by decide +kernel) (by decide +kernel)) (goodIn_sub (fun _ h => List.mem_append_left _ (List.mem_append_right _ h)) (by decide +kernel))) (goodIn_sub (fun _ h => List.mem_append_left _ (List.mem_append_left _ (List.mem_append_right _ h))) (by decide +kernel))) (goodIn_sub (fun _ h => List.mem_append_right _ h) (by decide +kernel))
set_option maxRecDepth 20000 in
theorem gL_law_L_repeatText : GoodIn wsL_law (va_wsS RL 89 yL_repeatText wsL_repeatText) := goodIn_app (goodIn_of _ (by decide +kernel)) ggL_law_L_repeatText
set_option maxRecDepth 20000 in
theorem ggL_law_X2_repeatText : GoodIn wsL_law wsX2_repeatText := goodIn_r _ [80, 46, 23, 50, 51, 52, 5, 53, 54, 482, 483, 484, 485, 486] (by decide +kernel) (by decide +kernel)
set_option maxRecDepth 20000 in
theorem gL_law_X2_repeatText : GoodIn wsL_law (wsV RL 92 RX2 yX2_repeatText wsX2_repeatText) := goodIn_app (goodIn_of _ (by decide +kernel)) ggL_law_X2_repeatText
set_option maxRecDepth 20000 in
theorem ggL_law_L_setText : GoodIn wsL_law wsL_setText := goodIn_ca (goodIn_ca (goodIn_r _ [83, 62, 29, 84, 85, 86, 2, 87, 75, 76, 17, 14, 37, 38, 39, 40, 41, 477, 478, 479, 480, 481] (by decide +kernel) (by decide +kernel)) (goodIn_sub (fun _ h => List.mem_append_right _ h) (by decide +kernel))) (goodIn_sub (fun _ h => List.mem_append_left _ (List.mem_append_right _ h)) (by decide +kernel))
set_option maxRecDepth 20000 in
theorem gL_law_L_setText : GoodIn wsL_law (va_wsS RL 93 yL_setText wsL_setText) := goodIn_app (goodIn_of _ (by decide +kernel)) ggL_law_L_setText
set_option maxRecDepth 20000 in
theorem ggL_law_X2_setText : GoodIn wsL_law wsX2_setText := goodIn_r _ [91, 46, 23, 47, 48, 5, 49, 50, 51, 52, 53, 54, 482, 483, 484, 485, 486] (by decide +kernel) (by decide +kernel)
set_option maxRecDepth 20000 in
theorem gL_law_X2_setText : GoodIn wsL_law (wsV RL 95 RX2 yX2_setText wsX2_setText) := goodIn_app (goodIn_of _ (by decide +kernel)) ggL_law_X2_setText
set_option maxRecDepth 20000 in
theorem ggL_law_L_appendPattern : GoodIn wsL_law wsL_appendPattern := goodIn_ca (goodIn_ca (goodIn_r _ [94, 29, 30, 95, 96, 97, 2, 98, 35, 36, 18, 15, 37, 38, 39, 40, 41, 477, 478, 479, 480, 481] (by decide +kernel) (by decide +kernel)) (goodIn_sub (fun _ h => List.mem_append_left _ (List.mem_append_left _ (List.mem_append_right _ h))) (by decide +kernel))) (goodIn_sub (fun _ h => List.mem_append_left _ (List.mem_append_right _ h)) (by decide +kernel))
set_option maxRecDepth 20000 in
theorem gL_law_L_appendPattern : GoodIn wsL_law (va_wsS RL 96 yL_appendPattern wsL_appendPattern) := goodIn_app (goodIn_of _ (by decide +kernel)) ggL_law_L_appendPattern
set_option maxRecDepth 20000 in
theorem ggL_law_X2_appendPattern : GoodIn wsL_law wsX2_appendPattern := goodIn_r _ [102, 103, 24, 47, 48, 5, 49, 50, 51, 52, 53, 54, 482, 483, 484, 485, 486] (by decide +kernel) (by decide +kernel)
set_option maxRecDepth 20000 in
theorem gL_law_X2_appendPattern : GoodIn wsL_law (wsV RL 98 RX2 yX2_appendPattern wsX2_appendPattern) := goodIn_app (goodIn_of _ (by decide +kernel)) ggL_law_X2_appendPattern
set_option maxRecDepth 20000 in
theorem ggL_law_L_setPattern : GoodIn wsL_law wsL_setPattern := goodIn_ca (goodIn_ca (goodIn_r _ [106, 62, 29, 107, 108, 109, 2, 110, 15, 111, 112, 113, 114, 75, 76, 18, 37, 38, 39, 40, 41, 477, 478, 479, 480, 481] (by decide +kernel) (by decide +kernel)) (goodIn_sub (fun _ h => List.mem_append_right _ h) (by decide +kernel))) (goodIn_sub (fun _ h => List.mem_append_left _ (List.mem_append_right _ h)) (by decide +kernel))
set_option maxRecDepth 20000 in
theorem gL_law_L_setPattern : GoodIn wsL_law (va_wsS RL 99 yL_setPattern wsL_setPattern) := goodIn_app (goodIn_of _ (by decide +kernel)) ggL_law_L_setPattern
set_option maxRecDepth 20000 in
theorem ggL_law_X2_setPattern : GoodIn wsL_law wsX2_setPattern := goodIn_r _ [118, 24, 119, 120, 121, 5, 122, 103, 47, 48, 49, 50, 51, 52, 53, 54, 482, 483, 484, 485, 486] (by decide +kernel) (by decide +kernel)
set_option maxRecDepth 20000 in
theorem gL_law_X2_setPattern : GoodIn wsL_law (wsV RL 101 RX2 yX2_setPattern wsX2_setPattern) := goodIn_app (goodIn_of _ (by decide +kernel)) ggL_law_X2_setPattern
set_option maxRecDepth 20000 in
theorem ggL_law_L_takePattern : GoodIn wsL_law wsL_takePattern := goodIn_ca (goodIn_ca (goodIn_r _ [125, 29, 62, 126, 127, 128, 2, 129, 40, 41, 14, 15, 67, 68, 69, 70, 18, 71, 72, 73, 74, 75, 76, 17, 130, 131, 132, 133, 477, 478, 479, 480, 481] (by decide +kernel) (by decide +kernel)) (goodIn_sub (fun _ h => List.mem_append_left _ (List.mem_append_right _ h)) (by decide +kernel))) (goodIn_sub (fun _ h => List.mem_append_right _ h) (by decide +kernel))
set_option maxRecDepth 20000 in
theorem gL_law_L_takePattern : GoodIn wsL_law (va_wsS RL 102 yL_takePattern wsL_takePattern) := goodIn_app (goodIn_of _ (by decide +kernel)) ggL_law_L_takePattern
set_option maxRecDepth 20000 in
theorem ggL_law_X2_takePattern : GoodIn wsL_law wsX2_takePattern := goodIn_r _ [137, 46, 103, 24, 23, 50, 51, 52, 5, 53, 54, 482, 483, 484, 485, 486] (by decide +kernel) (by decide +kernel)
set_option maxRecDepth 20000 in
theorem gL_law_X2_takePattern : GoodIn wsL_law (wsV RL 104 RX2 yX2_takePattern wsX2_takePattern) := goodIn_app (goodIn_of _ (by decide +kernel)) ggL_law_X2_takePattern
set_option maxRecDepth 20000 in
theorem ggL_law_X1_clearText : GoodIn wsL_law wsX1_clearText := goodIn_r _ [141, 17, 477, 478, 479, 480, 481] (by decide +kernel) (by decide +kernel)
set_option maxRecDepth 20000 in
theorem gL_law_X1_clearText : GoodIn wsL_law (wsV RL 105 RX1 yX1_clearText wsX1_clearText) := goodIn_app (goodIn_of _ (by decide +kernel)) ggL_law_X1_clearText
set_option maxRecDepth 20000 in
theorem ggL_law_X2_clearText : GoodIn wsL_law wsX2_clearText := goodIn_r _ [145, 54, 46, 482, 483, 484, 485, 486] (by decide +kernel) (by decide +kernel)
set_option maxRecDepth 20000 in
theorem gL_law_X2_clearText : GoodIn wsL_law (wsV RL 108 RX2 yX2_clearText wsX2_clearText) := goodIn_app (goodIn_of _ (by decide +kernel)) ggL_law_X2_clearText
set_option maxRecDepth 20000 in
theorem ggL_law_X1_clearPattern : GoodIn wsL_law wsX1_clearPattern := goodIn_r _ [149, 18, 477, 478, 479, 480, 481] (by decide +kernel) (by decide +kernel)
set_option maxRecDepth 20000 in
theorem gL_law_X1_clearPattern : GoodIn wsL_law (wsV RL 109 RX1 yX1_clearPattern wsX1_clearPattern) := goodIn_app (goodIn_of _ (by decide +kernel)) ggL_law_X1_clearPattern
set_option maxRecDepth 20000 in
theorem ggL_law_X2_clearPattern : GoodIn wsL_law wsX2_clearPattern := goodIn_r _ [153, 54, 103, 482, 483, 484, 485, 486] (by decide +kernel) (by decide +kernel)
set_option maxRecDepth 20000 in
theorem gL_law_X2_clearPattern : GoodIn wsL_law (wsV RL 112 RX2 yX2_clearPattern wsX2_clearPattern) := goodIn_app (goodIn_of _ (by decide +kernel)) ggL_law_X2_clearPattern
set_option maxRecDepth 20000 in
theorem ggL_law_X1_textLength : GoodIn wsL_law wsX1_textLength := goodIn_r _ [157, 17, 477, 478, 479, 480, 481] (by decide +kernel) (by decide +kernel)
set_option maxRecDepth 20000 in
theorem gL_law_X1_textLength : GoodIn wsL_law (wsV RL 113 RX1 yX1_textLength wsX1_textLength) := goodIn_app (goodIn_of _ (by decide +kernel)) ggL_law_X1_textLength
set_option maxRecDepth 20000 in
theorem ggL_law_X2_textLength : GoodIn wsL_law wsX2_textLength := goodIn_r _ [161, 54, 46, 482, 483, 484, 485, 486] (by decide +kernel) (by decide +kernel)
set_option maxRecDepth 20000 in
theorem gL_law_X2_textLength : GoodIn wsL_law (wsV RL 116 RX2 yX2_textLength wsX2_textLength) := goodIn_app (goodIn_of _ (by decide +kernel)) ggL_law_X2_textLength
set_option maxRecDepth 20000 in
theorem ggL_law_X1_patternLength : GoodIn wsL_law wsX1_patternLength := goodIn_r _ [165, 18, 477, 478, 479, 480, 481] (by decide +kernel) (by decide +kernel)
set_option maxRecDepth 20000 in
theorem gL_law_X1_patternLength : GoodIn wsL_law (wsV RL 117 RX1 yX1_patternLength wsX1_patternLength) := goodIn_app (goodIn_of _ (by decide +kernel)) ggL_law_X1_patternLength
set_option maxRecDepth 20000 in
theorem ggL_law_X2_patternLength : GoodIn wsL_law wsX2_patternLength := goodIn_r _ [169, 54, 103, 482, 483, 484, 485, 486] (by decide +kernel) (by decide +kernel)
set_option maxRecDepth 20000 in
theorem gL_law_X2_patternLength : GoodIn wsL_law (wsV RL 120 RX2 yX2_patternLength wsX2_patternLength) := goodIn_app (goodIn_of _ (by decide +kernel)) ggL_law_X2_patternLength
set_option maxRecDepth 20000 in
theorem ggL_law_X1_places : GoodIn wsL_law wsX1_places := goodIn_r _ [173, 18, 17, 477, 478, 479, 480, 481] (by decide +kernel) (by decide +kernel)
set_option maxRecDepth 20000 in
theorem gL_law_X1_places : GoodIn wsL_law (wsV RL 121 RX1 yX1_places wsX1_places) := goodIn_app (goodIn_of _ (by decide +kernel)) ggL_law_X1_places
set_option maxRecDepth 20000 in
theorem ggL_law_X2_places : GoodIn wsL_law wsX2_places := goodIn_r _ [177, 54, 178, 179, 180, 5, 181, 46, 103, 482, 483, 484, 485, 486] (by decide +kernel) (by decide +kernel)
set_option maxRecDepth 20000 in
theorem gL_law_X2_places : GoodIn wsL_law (wsV RL 124 RX2 yX2_places wsX2_places) := goodIn_app (goodIn_of _ (by decide +kernel)) ggL_law_X2_places
set_option maxRecDepth 20000 in
theorem ggL_law_L_product : GoodIn wsL_law wsL_product := goodIn_ca (goodIn_r _ [184, 29, 185, 186, 187, 2, 188, 40, 41, 17, 18, 14, 15, 477, 478, 479, 480, 481] (by decide +kernel) (by decide +kernel)) (goodIn_sub (fun _ h => List.mem_append_left _ (List.mem_append_right _ h)) (by decide +kernel))
set_option maxRecDepth 20000 in
theorem gL_law_L_product : GoodIn wsL_law (va_wsS RL 125 yL_product wsL_product) := goodIn_app (goodIn_of _ (by decide +kernel)) ggL_law_L_product
set_option maxRecDepth 20000 in
theorem ggL_law_X2_product : GoodIn wsL_law wsX2_product := goodIn_r _ [192, 103, 46, 23, 24, 50, 51, 52, 5, 53, 54, 482, 483, 484, 485, 486] (by decide +kernel) (by decide +kernel)
set_option maxRecDepth 20000 in
theorem gL_law_X2_product : GoodIn wsL_law (wsV RL 127 RX2 yX2_product wsX2_product) := goodIn_app (goodIn_of _ (by decide +kernel)) ggL_law_X2_product
set_option maxRecDepth 20000 in
theorem ggL_law_L_difference : GoodIn wsL_law wsL_difference := goodIn_ca (goodIn_r _ [195, 62, 196, 197, 198, 2, 199, 18, 15, 14, 200, 201, 202, 203, 75, 76, 204, 171, 172, 173, 17, 477, 478, 479, 480, 481] (by decide +kernel) (by decide +kernel)) (goodIn_sub (fun _ h => List.mem_append_right _ h) (by decide +kernel))
set_option maxRecDepth 20000 in
theorem gL_law_L_difference : GoodIn wsL_law (va_wsS RL 128 yL_difference wsL_difference) := goodIn_app (goodIn_of _ (by decide +kernel)) ggL_law_L_difference
set_option maxRecDepth 20000 in
theorem ggL_law_X2_difference : GoodIn wsL_law wsX2_difference := goodIn_r _ [208, 103, 24, 23, 209, 210, 211, 5, 212, 178, 179, 180, 181, 46, 50, 51, 52, 53, 54, 482, 483, 484, 485, 486] (by decide +kernel) (by decide +kernel)
set_option maxRecDepth 20000 in
theorem gL_law_X2_difference : GoodIn wsL_law (wsV RL 130 RX2 yX2_difference wsX2_difference) := goodIn_app (goodIn_of _ (by decide +kernel)) ggL_law_X2_difference
set_option maxRecDepth 20000 in
theorem ggL_law_X1_matches : GoodIn wsL_law wsX1_matches := goodIn_r _ [216, 217, 218, 219, 220, 2, 221, 204, 171, 172, 173, 18, 17, 222, 223, 224, 225, 226, 227, 228, 229, 230, 231, 14, 15, 232, 233, 234, 235, 236, 237, 238, 239, 240, 241, 242, 243, 244, 245, 246, 247, 248, 249, 250, 477, 478, 479, 480, 481] (by decide +kernel) (by decide +kernel)
set_option maxRecDepth 20000 in
theorem gL_law_X1_matches : GoodIn wsL_law (wsV RL 131 RX1 yX1_matches wsX1_matches) := goodIn_app (goodIn_of _ (by decide +kernel)) ggL_law_X1_matches
set_option maxRecDepth 20000 in
theorem ggL_law_X2_matches : GoodIn wsL_law wsX2_matches := goodIn_r _ [254, 54, 255, 256, 257, 5, 258, 178, 179, 180, 181, 46, 103, 259, 260, 261, 262, 263, 264, 265, 266, 24, 23, 267, 268, 269, 270, 271, 272, 273, 274, 275, 276, 277, 278, 279, 280, 482, 483, 484, 485, 486] (by decide +kernel) (by decide +kernel)
set_option maxRecDepth 20000 in
theorem gL_law_X2_matches : GoodIn wsL_law (wsV RL 134 RX2 yX2_matches wsX2_matches) := goodIn_app (goodIn_of _ (by decide +kernel)) ggL_law_X2_matches
set_option maxRecDepth 20000 in
theorem ggL_law_L_match : GoodIn wsL_law wsL_match := goodIn_ca (goodIn_r _ [283, 62, 284, 285, 286, 2, 287, 217, 288, 289, 290, 291, 75, 76, 292, 293, 294, 295, 204, 171, 172, 173, 18, 17, 222, 223, 224, 225, 226, 227, 228, 229, 230, 231, 14, 15, 232, 233, 234, 235, 236, 237, 238, 239, 240, 241, 242, 243, 244, 245, 246, 247, 248, 249, 250, 477, 478, 479, 480, 481] (by decide +kernel) (by decide +kernel)) (goodIn_sub (fun _ h => List.mem_append_right _ h) (by decide +kernel))
set_option maxRecDepth 20000 in
theorem gL_law_L_match : GoodIn wsL_law (va_wsS RL 135 yL_match wsL_match) := goodIn_app (goodIn_of _ (by decide +kernel)) ggL_law_L_match
set_option maxRecDepth 20000 in
theorem ggL_law_X2_match : GoodIn wsL_law wsX2_match := goodIn_r _ [299, 300, 301, 302, 5, 303, 255, 256, 257, 258, 178, 179, 180, 181, 46, 103, 259, 260, 261, 262, 263, 264, 265, 266, 24, 23, 267, 268, 269, 270, 271, 272, 273, 274, 275, 276, 277, 278, 279, 280, 50, 51, 52, 53, 54, 304, 305, 306, 307, 482, 483, 484, 485, 486] (by decide +kernel) (by decide +kernel)
set_option maxRecDepth 20000 in
theorem gL_law_X2_match : GoodIn wsL_law (wsV RL 137 RX2 yX2_match wsX2_match) := goodIn_app (goodIn_of _ (by decide +kernel)) ggL_law_X2_match
set_option maxRecDepth 20000 in
theorem ggL_law_X1_apart : GoodIn wsL_law wsX1_apart := goodIn_r _ [311, 18, 312, 313, 314, 315, 204, 171, 172, 2, 173, 17, 240, 241, 242, 243, 244, 245, 246, 247, 15, 14, 248, 249, 250, 477, 478, 479, 480, 481] (by decide +kernel) (by decide +kernel)
set_option maxRecDepth 20000 in
theorem gL_law_X1_apart : GoodIn wsL_law (wsV RL 138 RX1 yX1_apart wsX1_apart) := goodIn_app (goodIn_of _ (by decide +kernel)) ggL_law_X1_apart
set_option maxRecDepth 20000 in
theorem ggL_law_X2_apart : GoodIn wsL_law wsX2_apart := goodIn_r _ [319, 54, 103, 178, 179, 180, 5, 181, 46, 259, 260, 261, 262, 263, 264, 265, 266, 24, 23, 267, 268, 269, 270, 271, 272, 273, 274, 275, 276, 277, 278, 279, 280, 482, 483, 484, 485, 486] (by decide +kernel) (by decide +kernel)
set_option maxRecDepth 20000 in
theorem gL_law_X2_apart : GoodIn wsL_law (wsV RL 141 RX2 yX2_apart wsX2_apart) := goodIn_app (goodIn_of _ (by decide +kernel)) ggL_law_X2_apart
set_option maxRecDepth 20000 in
theorem ggL_law_L_mismatches : GoodIn wsL_law wsL_mismatches := goodIn_ca (goodIn_r _ [322, 62, 323, 324, 325, 2, 326, 200, 201, 202, 203, 75, 76, 204, 171, 172, 173, 18, 17, 327, 328, 329, 330, 15, 14, 248, 249, 250, 477, 478, 479, 480, 481] (by decide +kernel) (by decide +kernel)) (goodIn_sub (fun _ h => List.mem_append_right _ h) (by decide +kernel))
set_option maxRecDepth 20000 in
theorem gL_law_L_mismatches : GoodIn wsL_law (va_wsS RL 142 yL_mismatches wsL_mismatches) := goodIn_app (goodIn_of _ (by decide +kernel)) ggL_law_L_mismatches
set_option maxRecDepth 20000 in
theorem ggL_law_X2_mismatches : GoodIn wsL_law wsX2_mismatches := goodIn_r _ [334, 209, 210, 211, 5, 212, 178, 179, 180, 181, 46, 103, 50, 51, 52, 53, 54, 263, 264, 265, 266, 24, 23, 267, 268, 269, 482, 483, 484, 485, 486] (by decide +kernel) (by decide +kernel)
set_option maxRecDepth 20000 in
theorem gL_law_X2_mismatches : GoodIn wsL_law (wsV RL 144 RX2 yX2_mismatches wsX2_mismatches) := goodIn_app (goodIn_of _ (by decide +kernel)) ggL_law_X2_mismatches
set_option maxRecDepth 20000 in
theorem ggL_law_L_mismatchesOf : GoodIn wsL_law wsL_mismatchesOf := goodIn_ca (goodIn_ca (goodIn_r _ [337, 29, 62, 338, 339, 340, 2, 341, 40, 41, 18, 15, 14, 200, 201, 202, 203, 75, 76, 204, 171, 172, 173, 17, 248, 249, 250, 477, 478, 479, 480, 481] (by decide +kernel) (by decide +kernel)) (goodIn_sub (fun _ h => List.mem_append_left _ (List.mem_append_right _ h)) (by decide +kernel))) (goodIn_sub (fun _ h => List.mem_append_right _ h) (by decide +kernel))
set_option maxRecDepth 20000 in
theorem gL_law_L_mismatchesOf : GoodIn wsL_law (va_wsS RL 145 yL_mismatchesOf wsL_mismatchesOf) := goodIn_app (goodIn_of _ (by decide +kernel)) ggL_law_L_mismatchesOf
set_option maxRecDepth 20000 in
theorem ggL_law_X2_mismatchesOf : GoodIn wsL_law wsX2_mismatchesOf := goodIn_r _ [345, 103, 24, 23, 209, 210, 211, 5, 212, 178, 179, 180, 181, 46, 50, 51, 52, 53, 54, 267, 268, 269, 482, 483, 484, 485, 486] (by decide +kernel) (by decide +kernel)
set_option maxRecDepth 20000 in
theorem gL_law_X2_mismatchesOf : GoodIn wsL_law (wsV RL 147 RX2 yX2_mismatchesOf wsX2_mismatchesOf) := goodIn_app (goodIn_of _ (by decide +kernel)) ggL_law_X2_mismatchesOf
set_option maxRecDepth 20000 in
theorem ggL_law_L_nextMismatch : GoodIn wsL_law wsL_nextMismatch := goodIn_ca (goodIn_ca (goodIn_r _ [348, 29, 62, 349, 350, 351, 2, 352, 40, 41, 200, 201, 202, 203, 75, 76, 204, 171, 172, 173, 18, 17, 244, 245, 246, 247, 15, 14, 248, 249, 250, 477, 478, 479, 480, 481] (by decide +kernel) (by decide +kernel)) (goodIn_sub (fun _ h => List.mem_append_left _ (List.mem_append_right _ h)) (by decide +kernel))) (goodIn_sub (fun _ h => List.mem_append_right _ h) (by decide +kernel))
set_option maxRecDepth 20000 in
theorem gL_law_L_nextMismatch : GoodIn wsL_law (va_wsS RL 148 yL_nextMismatch wsL_nextMismatch) := goodIn_app (goodIn_of _ (by decide +kernel)) ggL_law_L_nextMismatch
set_option maxRecDepth 20000 in
theorem ggL_law_X2_nextMismatch : GoodIn wsL_law wsX2_nextMismatch := goodIn_r _ [356, 103, 24, 23, 209, 210, 211, 5, 212, 178, 179, 180, 181, 46, 50, 51, 52, 53, 54, 267, 268, 269, 482, 483, 484, 485, 486] (by decide +kernel) (by decide +kernel)
set_option maxRecDepth 20000 in
theorem gL_law_X2_nextMismatch : GoodIn wsL_law (wsV RL 150 RX2 yX2_nextMismatch wsX2_nextMismatch) := goodIn_app (goodIn_of _ (by decide +kernel)) ggL_law_X2_nextMismatch
set_option maxRecDepth 20000 in
theorem ggL_law_L_agreement : GoodIn wsL_law wsL_agreement := goodIn_ca (goodIn_r _ [359, 29, 360, 361, 362, 2, 363, 40, 41, 17, 18, 364, 365, 314, 366, 14, 15, 248, 249, 250, 477, 478, 479, 480, 481] (by decide +kernel) (by decide +kernel)) (goodIn_sub (fun _ h => List.mem_append_left _ (List.mem_append_right _ h)) (by decide +kernel))
set_option maxRecDepth 20000 in
theorem gL_law_L_agreement : GoodIn wsL_law (va_wsS RL 151 yL_agreement wsL_agreement) := goodIn_app (goodIn_of _ (by decide +kernel)) ggL_law_L_agreement
set_option maxRecDepth 20000 in
theorem ggL_law_X2_agreement : GoodIn wsL_law wsX2_agreement := goodIn_r _ [370, 46, 103, 23, 24, 50, 51, 52, 5, 53, 54, 267, 268, 269, 482, 483, 484, 485, 486] (by decide +kernel) (by decide +kernel)
set_option maxRecDepth 20000 in
theorem gL_law_X2_agreement : GoodIn wsL_law (wsV RL 153 RX2 yX2_agreement wsX2_agreement) := goodIn_app (goodIn_of _ (by decide +kernel)) ggL_law_X2_agreement
set_option maxRecDepth 20000 in
theorem ggL_law_L_within : GoodIn wsL_law wsL_within := goodIn_ca (goodIn_r _ [373, 29, 374, 375, 376, 2, 377, 40, 41, 204, 171, 172, 173, 18, 17, 327, 328, 329, 330, 15, 14, 248, 249, 250, 477, 478, 479, 480, 481] (by decide +kernel) (by decide +kernel)) (goodIn_sub (fun _ h => List.mem_append_left _ (List.mem_append_right _ h)) (by decide +kernel))
set_option maxRecDepth 20000 in
theorem gL_law_L_within : GoodIn wsL_law (va_wsS RL 154 yL_within wsL_within) := goodIn_app (goodIn_of _ (by decide +kernel)) ggL_law_L_within
set_option maxRecDepth 20000 in
theorem ggL_law_X2_within : GoodIn wsL_law wsX2_within := goodIn_r _ [381, 50, 51, 52, 5, 53, 54, 178, 179, 180, 181, 46, 103, 263, 264, 265, 266, 24, 23, 267, 268, 269, 482, 483, 484, 485, 486] (by decide +kernel) (by decide +kernel)
set_option maxRecDepth 20000 in
theorem gL_law_X2_within : GoodIn wsL_law (wsV RL 156 RX2 yX2_within wsX2_within) := goodIn_app (goodIn_of _ (by decide +kernel)) ggL_law_X2_within
set_option maxRecDepth 20000 in
theorem ggL_law_L_ranked : GoodIn wsL_law wsL_ranked := goodIn_ca (goodIn_r _ [384, 62, 385, 386, 387, 2, 388, 75, 76, 16, 204, 171, 172, 173, 18, 17, 327, 328, 329, 330, 15, 14, 248, 249, 250, 389, 390, 391, 392, 477, 478, 479, 480, 481] (by decide +kernel) (by decide +kernel)) (goodIn_sub (fun _ h => List.mem_append_right _ h) (by decide +kernel))
set_option maxRecDepth 20000 in
theorem gL_law_L_ranked : GoodIn wsL_law (va_wsS RL 157 yL_ranked wsL_ranked) := goodIn_app (goodIn_of _ (by decide +kernel)) ggL_law_L_ranked
set_option maxRecDepth 20000 in
theorem ggL_law_X2_ranked : GoodIn wsL_law wsX2_ranked := goodIn_r _ [396, 209, 210, 211, 5, 212, 178, 179, 180, 181, 46, 103, 50, 51, 52, 53, 54, 263, 264, 265, 266, 24, 23, 267, 268, 269, 482, 483, 484, 485, 486] (by decide +kernel) (by decide +kernel)
set_option maxRecDepth 20000 in
theorem gL_law_X2_ranked : GoodIn wsL_law (wsV RL 159 RX2 yX2_ranked wsX2_ranked) := goodIn_app (goodIn_of _ (by decide +kernel)) ggL_law_X2_ranked
set_option maxRecDepth 20000 in
theorem ggL_law_L_bestLetter : GoodIn wsL_law wsL_bestLetter := goodIn_ca (goodIn_r _ [399, 62, 400, 401, 402, 2, 403, 111, 112, 113, 114, 75, 76, 18, 404, 405, 406, 407, 14, 204, 171, 172, 173, 17, 477, 478, 479, 480, 481] (by decide +kernel) (by decide +kernel)) (goodIn_sub (fun _ h => List.mem_append_right _ h) (by decide +kernel))
set_option maxRecDepth 20000 in
theorem gL_law_L_bestLetter : GoodIn wsL_law (va_wsS RL 160 yL_bestLetter wsL_bestLetter) := goodIn_app (goodIn_of _ (by decide +kernel)) ggL_law_L_bestLetter
set_option maxRecDepth 20000 in
theorem ggL_law_X2_bestLetter : GoodIn wsL_law wsX2_bestLetter := goodIn_r _ [411, 23, 119, 120, 121, 5, 122, 103, 50, 51, 52, 53, 54, 178, 179, 180, 181, 46, 267, 268, 269, 482, 483, 484, 485, 486] (by decide +kernel) (by decide +kernel)
set_option maxRecDepth 20000 in
theorem gL_law_X2_bestLetter : GoodIn wsL_law (wsV RL 162 RX2 yX2_bestLetter wsX2_bestLetter) := goodIn_app (goodIn_of _ (by decide +kernel)) ggL_law_X2_bestLetter
set_option maxRecDepth 20000 in
theorem ggL_law_X1_sumMatches : GoodIn wsL_law wsX1_sumMatches := goodIn_r _ [415, 226, 218, 219, 220, 2, 221, 204, 171, 172, 173, 18, 17, 222, 223, 224, 225, 227, 228, 229, 230, 231, 14, 15, 232, 233, 234, 235, 236, 237, 238, 239, 240, 241, 242, 243, 244, 245, 246, 247, 248, 249, 250, 477, 478, 479, 480, 481] (by decide +kernel) (by decide +kernel)
set_option maxRecDepth 20000 in
theorem gL_law_X1_sumMatches : GoodIn wsL_law (wsV RL 163 RX1 yX1_sumMatches wsX1_sumMatches) := goodIn_app (goodIn_of _ (by decide +kernel)) ggL_law_X1_sumMatches
set_option maxRecDepth 20000 in
theorem ggL_law_X2_sumMatches : GoodIn wsL_law wsX2_sumMatches := goodIn_r _ [419, 54, 255, 256, 257, 5, 258, 178, 179, 180, 181, 46, 103, 259, 260, 261, 262, 263, 264, 265, 266, 24, 23, 267, 268, 269, 270, 271, 272, 273, 274, 275, 276, 277, 278, 279, 280, 482, 483, 484, 485, 486] (by decide +kernel) (by decide +kernel)
set_option maxRecDepth 20000 in
theorem gL_law_X2_sumMatches : GoodIn wsL_law (wsV RL 166 RX2 yX2_sumMatches wsX2_sumMatches) := goodIn_app (goodIn_of _ (by decide +kernel)) ggL_law_X2_sumMatches
set_option maxRecDepth 20000 in
theorem ggL_law_L_sumMatch : GoodIn wsL_law wsL_sumMatch := goodIn_ca (goodIn_r _ [422, 62, 423, 424, 425, 2, 426, 226, 288, 289, 290, 291, 75, 76, 292, 293, 294, 295, 204, 171, 172, 173, 18, 17, 222, 223, 224, 225, 227, 228, 229, 230, 231, 14, 15, 232, 233, 234, 235, 236, 237, 238, 239, 240, 241, 242, 243, 244, 245, 246, 247, 248, 249, 250, 477, 478, 479, 480, 481] (by decide +kernel) (by decide +kernel)) (goodIn_sub (fun _ h => List.mem_append_right _ h) (by decide +kernel))
set_option maxRecDepth 20000 in
theorem gL_law_L_sumMatch : GoodIn wsL_law (va_wsS RL 167 yL_sumMatch wsL_sumMatch) := goodIn_app (goodIn_of _ (by decide +kernel)) ggL_law_L_sumMatch
set_option maxRecDepth 20000 in
theorem ggL_law_X2_sumMatch : GoodIn wsL_law wsX2_sumMatch := goodIn_r _ [430, 300, 301, 302, 5, 303, 255, 256, 257, 258, 178, 179, 180, 181, 46, 103, 259, 260, 261, 262, 263, 264, 265, 266, 24, 23, 267, 268, 269, 270, 271, 272, 273, 274, 275, 276, 277, 278, 279, 280, 50, 51, 52, 53, 54, 304, 305, 306, 307, 482, 483, 484, 485, 486] (by decide +kernel) (by decide +kernel)
set_option maxRecDepth 20000 in
theorem gL_law_X2_sumMatch : GoodIn wsL_law (wsV RL 169 RX2 yX2_sumMatch wsX2_sumMatch) := goodIn_app (goodIn_of _ (by decide +kernel)) ggL_law_X2_sumMatch
set_option maxRecDepth 20000 in
theorem ggL_law_X1_orderMatches : GoodIn wsL_law wsX1_orderMatches := goodIn_r _ [434, 227, 218, 219, 220, 2, 221, 204, 171, 172, 173, 18, 17, 222, 223, 224, 225, 226, 228, 229, 230, 231, 14, 15, 232, 233, 234, 235, 236, 237, 238, 239, 240, 241, 242, 243, 244, 245, 246, 247, 248, 249, 250, 477, 478, 479, 480, 481] (by decide +kernel) (by decide +kernel)
set_option maxRecDepth 20000 in
theorem gL_law_X1_orderMatches : GoodIn wsL_law (wsV RL 170 RX1 yX1_orderMatches wsX1_orderMatches) := goodIn_app (goodIn_of _ (by decide +kernel)) ggL_law_X1_orderMatches
set_option maxRecDepth 20000 in
theorem ggL_law_X2_orderMatches : GoodIn wsL_law wsX2_orderMatches := goodIn_r _ [438, 54, 255, 256, 257, 5, 258, 178, 179, 180, 181, 46, 103, 259, 260, 261, 262, 263, 264, 265, 266, 24, 23, 267, 268, 269, 270, 271, 272, 273, 274, 275, 276, 277, 278, 279, 280, 482, 483, 484, 485, 486] (by decide +kernel) (by decide +kernel)
set_option maxRecDepth 20000 in
theorem gL_law_X2_orderMatches : GoodIn wsL_law (wsV RL 173 RX2 yX2_orderMatches wsX2_orderMatches) := goodIn_app (goodIn_of _ (by decide +kernel)) ggL_law_X2_orderMatches
set_option maxRecDepth 20000 in
theorem ggL_law_L_orderMatch : GoodIn wsL_law wsL_orderMatch := goodIn_ca (goodIn_r _ [441, 62, 442, 443, 444, 2, 445, 227, 288, 289, 290, 291, 75, 76, 292, 293, 294, 295, 204, 171, 172, 173, 18, 17, 222, 223, 224, 225, 226, 228, 229, 230, 231, 14, 15, 232, 233, 234, 235, 236, 237, 238, 239, 240, 241, 242, 243, 244, 245, 246, 247, 248, 249, 250, 477, 478, 479, 480, 481] (by decide +kernel) (by decide +kernel)) (goodIn_sub (fun _ h => List.mem_append_right _ h) (by decide +kernel))
set_option maxRecDepth 20000 in
theorem gL_law_L_orderMatch : GoodIn wsL_law (va_wsS RL 174 yL_orderMatch wsL_orderMatch) := goodIn_app (goodIn_of _ (by decide +kernel)) ggL_law_L_orderMatch
set_option maxRecDepth 20000 in
theorem ggL_law_X2_orderMatch : GoodIn wsL_law wsX2_orderMatch := goodIn_r _ [449, 300, 301, 302, 5, 303, 255, 256, 257, 258, 178, 179, 180, 181, 46, 103, 259, 260, 261, 262, 263, 264, 265, 266, 24, 23, 267, 268, 269, 270, 271, 272, 273, 274, 275, 276, 277, 278, 279, 280, 50, 51, 52, 53, 54, 304, 305, 306, 307, 482, 483, 484, 485, 486] (by decide +kernel) (by decide +kernel)
set_option maxRecDepth 20000 in
theorem gL_law_X2_orderMatch : GoodIn wsL_law (wsV RL 176 RX2 yX2_orderMatch wsX2_orderMatch) := goodIn_app (goodIn_of _ (by decide +kernel)) ggL_law_X2_orderMatch
set_option maxRecDepth 20000 in
theorem ggL_law_L_hasPeriod : GoodIn wsL_law wsL_hasPeriod := goodIn_ca (goodIn_r _ [452, 29, 453, 454, 455, 2, 456, 40, 41, 457, 458, 459, 460, 17, 14, 248, 249, 250, 477, 478, 479, 480, 481] (by decide +kernel) (by decide +kernel)) (goodIn_sub (fun _ h => List.mem_append_left _ (List.mem_append_right _ h)) (by decide +kernel))
set_option maxRecDepth 20000 in
theorem gL_law_L_hasPeriod : GoodIn wsL_law (va_wsS RL 177 yL_hasPeriod wsL_hasPeriod) := goodIn_app (goodIn_of _ (by decide +kernel)) ggL_law_L_hasPeriod
set_option maxRecDepth 20000 in
theorem ggL_law_X2_hasPeriod : GoodIn wsL_law wsX2_hasPeriod := goodIn_r _ [464, 50, 51, 52, 5, 53, 54, 465, 466, 467, 468, 46, 23, 267, 268, 269, 482, 483, 484, 485, 486] (by decide +kernel) (by decide +kernel)
set_option maxRecDepth 20000 in
theorem gL_law_X2_hasPeriod : GoodIn wsL_law (wsV RL 179 RX2 yX2_hasPeriod wsX2_hasPeriod) := goodIn_app (goodIn_of _ (by decide +kernel)) ggL_law_X2_hasPeriod
set_option maxRecDepth 20000 in
theorem ggL_law_X1_leastPeriod : GoodIn wsL_law wsX1_leastPeriod := goodIn_r _ [472, 17, 312, 313, 314, 315, 457, 458, 459, 2, 460, 14, 248, 249, 250, 477, 478, 479, 480, 481] (by decide +kernel) (by decide +kernel)
set_option maxRecDepth 20000 in
theorem gL_law_X1_leastPeriod : GoodIn wsL_law (wsV RL 180 RX1 yX1_leastPeriod wsX1_leastPeriod) := goodIn_app (goodIn_of _ (by decide +kernel)) ggL_law_X1_leastPeriod
set_option maxRecDepth 20000 in
theorem ggL_law_X2_leastPeriod : GoodIn wsL_law wsX2_leastPeriod := goodIn_r _ [476, 54, 465, 466, 467, 5, 468, 46, 23, 267, 268, 269, 482, 483, 484, 485, 486] (by decide +kernel) (by decide +kernel)
set_option maxRecDepth 20000 in
theorem gL_law_X2_leastPeriod : GoodIn wsL_law (wsV RL 183 RX2 yX2_leastPeriod wsX2_leastPeriod) := goodIn_app (goodIn_of _ (by decide +kernel)) ggL_law_X2_leastPeriod
theorem dL_law_0 : decode cL_law 0 = .ok (.new 8, 3) := by decide +kernel
theorem dL_law_3 : decode cL_law 3 = .ok (.dup, 1) := by decide +kernel
theorem dL_law_4 : decode cL_law 4 = .ok (.invokespecial 75, 3) := by decide +kernel
theorem dL_law_7 : decode cL_law 7 = .ok (.astore_n 1, 1) := by decide +kernel
theorem dL_law_8 : decode cL_law 8 = .ok (.new 76, 3) := by decide +kernel
theorem dL_law_11 : decode cL_law 11 = .ok (.dup, 1) := by decide +kernel
theorem dL_law_12 : decode cL_law 12 = .ok (.invokespecial 78, 3) := by decide +kernel
theorem dL_law_15 : decode cL_law 15 = .ok (.astore_n 2, 1) := by decide +kernel
theorem dL_law_16 : decode cL_law 16 = .ok (.iconst 1, 1) := by decide +kernel
theorem dL_law_17 : decode cL_law 17 = .ok (.newarray .long, 2) := by decide +kernel
theorem dL_law_19 : decode cL_law 19 = .ok (.astore_n 3, 1) := by decide +kernel
theorem dL_law_20 : decode cL_law 20 = .ok (.iconst 0, 1) := by decide +kernel
theorem dL_law_21 : decode cL_law 21 = .ok (.istore 4, 2) := by decide +kernel
theorem dL_law_23 : decode cL_law 23 = .ok (.iload 4, 2) := by decide +kernel
theorem dL_law_25 : decode cL_law 25 = .ok (.aload_n 0, 1) := by decide +kernel
theorem dL_law_26 : decode cL_law 26 = .ok (.arraylength, 1) := by decide +kernel
theorem dL_law_27 : decode cL_law 27 = .ok (.iconst 3, 1) := by decide +kernel
theorem dL_law_28 : decode cL_law 28 = .ok (.isub, 1) := by decide +kernel
theorem dL_law_29 : decode cL_law 29 = .ok (.if_icmp .gt 1430, 3) := by decide +kernel
theorem dL_law_32 : decode cL_law 32 = .ok (.aload_n 0, 1) := by decide +kernel
theorem dL_law_33 : decode cL_law 33 = .ok (.iload 4, 2) := by decide +kernel
theorem dL_law_35 : decode cL_law 35 = .ok (.iaload, 1) := by decide +kernel
theorem dL_law_36 : decode cL_law 36 = .ok (.bipush 31, 2) := by decide +kernel
theorem dL_law_38 : decode cL_law 38 = .ok (.iand, 1) := by decide +kernel
theorem dL_law_39 : decode cL_law 39 = .ok (.tableswitch 1414 0 28 #[129, 185, 253, 321, 377, 445, 513, 526, 539, 552, 565, 578, 634, 690, 703, 759, 772, 828, 896, 964, 1032, 1088, 1144, 1200, 1213, 1269, 1282, 1338, 1401], 129) := by decide +kernel
theorem dL_law_168 : decode cL_law 168 = .ok (.aload_n 1, 1) := by decide +kernel
theorem dL_law_169 : decode cL_law 169 = .ok (.aload_n 0, 1) := by decide +kernel
theorem dL_law_170 : decode cL_law 170 = .ok (.iload 4, 2) := by decide +kernel
theorem dL_law_172 : decode cL_law 172 = .ok (.iconst 1, 1) := by decide +kernel
theorem dL_law_173 : decode cL_law 173 = .ok (.iadd, 1) := by decide +kernel
theorem dL_law_174 : decode cL_law 174 = .ok (.iaload, 1) := by decide +kernel
theorem dL_law_175 : decode cL_law 175 = .ok (.aload_n 3, 1) := by decide +kernel
theorem dL_law_176 : decode cL_law 176 = .ok (.invokestatic 79, 3) := by decide +kernel
theorem dL_law_179 : decode cL_law 179 = .ok (.istore 5, 2) := by decide +kernel
theorem dL_law_181 : decode cL_law 181 = .ok (.aload_n 2, 1) := by decide +kernel
theorem dL_law_182 : decode cL_law 182 = .ok (.aload_n 0, 1) := by decide +kernel
theorem dL_law_183 : decode cL_law 183 = .ok (.iload 4, 2) := by decide +kernel
theorem dL_law_185 : decode cL_law 185 = .ok (.iconst 1, 1) := by decide +kernel
theorem dL_law_186 : decode cL_law 186 = .ok (.iadd, 1) := by decide +kernel
theorem dL_law_187 : decode cL_law 187 = .ok (.iaload, 1) := by decide +kernel
theorem dL_law_188 : decode cL_law 188 = .ok (.invokevirtual 84, 3) := by decide +kernel
theorem dL_law_191 : decode cL_law 191 = .ok (.istore 6, 2) := by decide +kernel
theorem dL_law_193 : decode cL_law 193 = .ok (.aload_n 2, 1) := by decide +kernel
theorem dL_law_194 : decode cL_law 194 = .ok (.invokevirtual 85, 3) := by decide +kernel
theorem dL_law_197 : decode cL_law 197 = .ok (.iload 5, 2) := by decide +kernel
theorem dL_law_199 : decode cL_law 199 = .ok (.if_icmp .eq 5, 3) := by decide +kernel
theorem dL_law_202 : decode cL_law 202 = .ok (.iconst 0, 1) := by decide +kernel
theorem dL_law_203 : decode cL_law 203 = .ok (.ireturn, 1) := by decide +kernel
theorem dL_law_204 : decode cL_law 204 = .ok (.iload 5, 2) := by decide +kernel
theorem dL_law_206 : decode cL_law 206 = .ok (.ifCond .ne 15, 3) := by decide +kernel
theorem dL_law_209 : decode cL_law 209 = .ok (.aload_n 3, 1) := by decide +kernel
theorem dL_law_210 : decode cL_law 210 = .ok (.iconst 0, 1) := by decide +kernel
theorem dL_law_211 : decode cL_law 211 = .ok (.laload, 1) := by decide +kernel
theorem dL_law_212 : decode cL_law 212 = .ok (.iload 6, 2) := by decide +kernel
theorem dL_law_214 : decode cL_law 214 = .ok (.i2l, 1) := by decide +kernel
theorem dL_law_215 : decode cL_law 215 = .ok (.lcmp, 1) := by decide +kernel
theorem dL_law_216 : decode cL_law 216 = .ok (.ifCond .eq 5, 3) := by decide +kernel
theorem dL_law_219 : decode cL_law 219 = .ok (.iconst 0, 1) := by decide +kernel
theorem dL_law_220 : decode cL_law 220 = .ok (.ireturn, 1) := by decide +kernel
theorem dL_law_221 : decode cL_law 221 = .ok (.goto 1232, 3) := by decide +kernel
theorem dL_law_224 : decode cL_law 224 = .ok (.aload_n 1, 1) := by decide +kernel
theorem dL_law_225 : decode cL_law 225 = .ok (.aload_n 0, 1) := by decide +kernel
theorem dL_law_226 : decode cL_law 226 = .ok (.iload 4, 2) := by decide +kernel
theorem dL_law_228 : decode cL_law 228 = .ok (.iconst 1, 1) := by decide +kernel
theorem dL_law_229 : decode cL_law 229 = .ok (.iadd, 1) := by decide +kernel
theorem dL_law_230 : decode cL_law 230 = .ok (.iaload, 1) := by decide +kernel
theorem dL_law_231 : decode cL_law 231 = .ok (.aload_n 0, 1) := by decide +kernel
theorem dL_law_232 : decode cL_law 232 = .ok (.iload 4, 2) := by decide +kernel
theorem dL_law_234 : decode cL_law 234 = .ok (.iconst 2, 1) := by decide +kernel
theorem dL_law_235 : decode cL_law 235 = .ok (.iadd, 1) := by decide +kernel
theorem dL_law_236 : decode cL_law 236 = .ok (.iaload, 1) := by decide +kernel
theorem dL_law_237 : decode cL_law 237 = .ok (.aload_n 3, 1) := by decide +kernel
theorem dL_law_238 : decode cL_law 238 = .ok (.invokestatic 89, 3) := by decide +kernel
theorem dL_law_241 : decode cL_law 241 = .ok (.istore 5, 2) := by decide +kernel
theorem dL_law_243 : decode cL_law 243 = .ok (.aload_n 2, 1) := by decide +kernel
theorem dL_law_244 : decode cL_law 244 = .ok (.aload_n 0, 1) := by decide +kernel
theorem dL_law_245 : decode cL_law 245 = .ok (.iload 4, 2) := by decide +kernel
theorem dL_law_247 : decode cL_law 247 = .ok (.iconst 1, 1) := by decide +kernel
theorem dL_law_248 : decode cL_law 248 = .ok (.iadd, 1) := by decide +kernel
theorem dL_law_249 : decode cL_law 249 = .ok (.iaload, 1) := by decide +kernel
theorem dL_law_250 : decode cL_law 250 = .ok (.aload_n 0, 1) := by decide +kernel
theorem dL_law_251 : decode cL_law 251 = .ok (.iload 4, 2) := by decide +kernel
theorem dL_law_253 : decode cL_law 253 = .ok (.iconst 2, 1) := by decide +kernel
theorem dL_law_254 : decode cL_law 254 = .ok (.iadd, 1) := by decide +kernel
theorem dL_law_255 : decode cL_law 255 = .ok (.iaload, 1) := by decide +kernel
theorem dL_law_256 : decode cL_law 256 = .ok (.invokevirtual 92, 3) := by decide +kernel
theorem dL_law_259 : decode cL_law 259 = .ok (.istore 6, 2) := by decide +kernel
theorem dL_law_261 : decode cL_law 261 = .ok (.aload_n 2, 1) := by decide +kernel
theorem dL_law_262 : decode cL_law 262 = .ok (.invokevirtual 85, 3) := by decide +kernel
theorem dL_law_265 : decode cL_law 265 = .ok (.iload 5, 2) := by decide +kernel
theorem dL_law_267 : decode cL_law 267 = .ok (.if_icmp .eq 5, 3) := by decide +kernel
theorem dL_law_270 : decode cL_law 270 = .ok (.iconst 0, 1) := by decide +kernel
theorem dL_law_271 : decode cL_law 271 = .ok (.ireturn, 1) := by decide +kernel
theorem dL_law_272 : decode cL_law 272 = .ok (.iload 5, 2) := by decide +kernel
theorem dL_law_274 : decode cL_law 274 = .ok (.ifCond .ne 15, 3) := by decide +kernel
theorem dL_law_277 : decode cL_law 277 = .ok (.aload_n 3, 1) := by decide +kernel
theorem dL_law_278 : decode cL_law 278 = .ok (.iconst 0, 1) := by decide +kernel
theorem dL_law_279 : decode cL_law 279 = .ok (.laload, 1) := by decide +kernel
theorem dL_law_280 : decode cL_law 280 = .ok (.iload 6, 2) := by decide +kernel
theorem dL_law_282 : decode cL_law 282 = .ok (.i2l, 1) := by decide +kernel
theorem dL_law_283 : decode cL_law 283 = .ok (.lcmp, 1) := by decide +kernel
theorem dL_law_284 : decode cL_law 284 = .ok (.ifCond .eq 5, 3) := by decide +kernel
theorem dL_law_287 : decode cL_law 287 = .ok (.iconst 0, 1) := by decide +kernel
theorem dL_law_288 : decode cL_law 288 = .ok (.ireturn, 1) := by decide +kernel
theorem dL_law_289 : decode cL_law 289 = .ok (.goto 1164, 3) := by decide +kernel
theorem dL_law_292 : decode cL_law 292 = .ok (.aload_n 1, 1) := by decide +kernel
theorem dL_law_293 : decode cL_law 293 = .ok (.aload_n 0, 1) := by decide +kernel
theorem dL_law_294 : decode cL_law 294 = .ok (.iload 4, 2) := by decide +kernel
theorem dL_law_296 : decode cL_law 296 = .ok (.iconst 1, 1) := by decide +kernel
theorem dL_law_297 : decode cL_law 297 = .ok (.iadd, 1) := by decide +kernel
theorem dL_law_298 : decode cL_law 298 = .ok (.iaload, 1) := by decide +kernel
theorem dL_law_299 : decode cL_law 299 = .ok (.aload_n 0, 1) := by decide +kernel
theorem dL_law_300 : decode cL_law 300 = .ok (.iload 4, 2) := by decide +kernel
theorem dL_law_302 : decode cL_law 302 = .ok (.iconst 2, 1) := by decide +kernel
theorem dL_law_303 : decode cL_law 303 = .ok (.iadd, 1) := by decide +kernel
theorem dL_law_304 : decode cL_law 304 = .ok (.iaload, 1) := by decide +kernel
theorem dL_law_305 : decode cL_law 305 = .ok (.aload_n 3, 1) := by decide +kernel
theorem dL_law_306 : decode cL_law 306 = .ok (.invokestatic 93, 3) := by decide +kernel
theorem dL_law_309 : decode cL_law 309 = .ok (.istore 5, 2) := by decide +kernel
theorem dL_law_311 : decode cL_law 311 = .ok (.aload_n 2, 1) := by decide +kernel
theorem dL_law_312 : decode cL_law 312 = .ok (.aload_n 0, 1) := by decide +kernel
theorem dL_law_313 : decode cL_law 313 = .ok (.iload 4, 2) := by decide +kernel
theorem dL_law_315 : decode cL_law 315 = .ok (.iconst 1, 1) := by decide +kernel
theorem dL_law_316 : decode cL_law 316 = .ok (.iadd, 1) := by decide +kernel
theorem dL_law_317 : decode cL_law 317 = .ok (.iaload, 1) := by decide +kernel
theorem dL_law_318 : decode cL_law 318 = .ok (.aload_n 0, 1) := by decide +kernel
theorem dL_law_319 : decode cL_law 319 = .ok (.iload 4, 2) := by decide +kernel
theorem dL_law_321 : decode cL_law 321 = .ok (.iconst 2, 1) := by decide +kernel
theorem dL_law_322 : decode cL_law 322 = .ok (.iadd, 1) := by decide +kernel
theorem dL_law_323 : decode cL_law 323 = .ok (.iaload, 1) := by decide +kernel
theorem dL_law_324 : decode cL_law 324 = .ok (.invokevirtual 95, 3) := by decide +kernel
theorem dL_law_327 : decode cL_law 327 = .ok (.istore 6, 2) := by decide +kernel
theorem dL_law_329 : decode cL_law 329 = .ok (.aload_n 2, 1) := by decide +kernel
theorem dL_law_330 : decode cL_law 330 = .ok (.invokevirtual 85, 3) := by decide +kernel
theorem dL_law_333 : decode cL_law 333 = .ok (.iload 5, 2) := by decide +kernel
theorem dL_law_335 : decode cL_law 335 = .ok (.if_icmp .eq 5, 3) := by decide +kernel
theorem dL_law_338 : decode cL_law 338 = .ok (.iconst 0, 1) := by decide +kernel
theorem dL_law_339 : decode cL_law 339 = .ok (.ireturn, 1) := by decide +kernel
theorem dL_law_340 : decode cL_law 340 = .ok (.iload 5, 2) := by decide +kernel
theorem dL_law_342 : decode cL_law 342 = .ok (.ifCond .ne 15, 3) := by decide +kernel
theorem dL_law_345 : decode cL_law 345 = .ok (.aload_n 3, 1) := by decide +kernel
theorem dL_law_346 : decode cL_law 346 = .ok (.iconst 0, 1) := by decide +kernel
theorem dL_law_347 : decode cL_law 347 = .ok (.laload, 1) := by decide +kernel
theorem dL_law_348 : decode cL_law 348 = .ok (.iload 6, 2) := by decide +kernel
theorem dL_law_350 : decode cL_law 350 = .ok (.i2l, 1) := by decide +kernel
theorem dL_law_351 : decode cL_law 351 = .ok (.lcmp, 1) := by decide +kernel
theorem dL_law_352 : decode cL_law 352 = .ok (.ifCond .eq 5, 3) := by decide +kernel
theorem dL_law_355 : decode cL_law 355 = .ok (.iconst 0, 1) := by decide +kernel
theorem dL_law_356 : decode cL_law 356 = .ok (.ireturn, 1) := by decide +kernel
theorem dL_law_357 : decode cL_law 357 = .ok (.goto 1096, 3) := by decide +kernel
theorem dL_law_360 : decode cL_law 360 = .ok (.aload_n 1, 1) := by decide +kernel
theorem dL_law_361 : decode cL_law 361 = .ok (.aload_n 0, 1) := by decide +kernel
theorem dL_law_362 : decode cL_law 362 = .ok (.iload 4, 2) := by decide +kernel
theorem dL_law_364 : decode cL_law 364 = .ok (.iconst 1, 1) := by decide +kernel
theorem dL_law_365 : decode cL_law 365 = .ok (.iadd, 1) := by decide +kernel
theorem dL_law_366 : decode cL_law 366 = .ok (.iaload, 1) := by decide +kernel
theorem dL_law_367 : decode cL_law 367 = .ok (.aload_n 3, 1) := by decide +kernel
theorem dL_law_368 : decode cL_law 368 = .ok (.invokestatic 96, 3) := by decide +kernel
theorem dL_law_371 : decode cL_law 371 = .ok (.istore 5, 2) := by decide +kernel
theorem dL_law_373 : decode cL_law 373 = .ok (.aload_n 2, 1) := by decide +kernel
theorem dL_law_374 : decode cL_law 374 = .ok (.aload_n 0, 1) := by decide +kernel
theorem dL_law_375 : decode cL_law 375 = .ok (.iload 4, 2) := by decide +kernel
theorem dL_law_377 : decode cL_law 377 = .ok (.iconst 1, 1) := by decide +kernel
theorem dL_law_378 : decode cL_law 378 = .ok (.iadd, 1) := by decide +kernel
theorem dL_law_379 : decode cL_law 379 = .ok (.iaload, 1) := by decide +kernel
theorem dL_law_380 : decode cL_law 380 = .ok (.invokevirtual 98, 3) := by decide +kernel
theorem dL_law_383 : decode cL_law 383 = .ok (.istore 6, 2) := by decide +kernel
theorem dL_law_385 : decode cL_law 385 = .ok (.aload_n 2, 1) := by decide +kernel
theorem dL_law_386 : decode cL_law 386 = .ok (.invokevirtual 85, 3) := by decide +kernel
theorem dL_law_389 : decode cL_law 389 = .ok (.iload 5, 2) := by decide +kernel
theorem dL_law_391 : decode cL_law 391 = .ok (.if_icmp .eq 5, 3) := by decide +kernel
theorem dL_law_394 : decode cL_law 394 = .ok (.iconst 0, 1) := by decide +kernel
theorem dL_law_395 : decode cL_law 395 = .ok (.ireturn, 1) := by decide +kernel
theorem dL_law_396 : decode cL_law 396 = .ok (.iload 5, 2) := by decide +kernel
theorem dL_law_398 : decode cL_law 398 = .ok (.ifCond .ne 15, 3) := by decide +kernel
theorem dL_law_401 : decode cL_law 401 = .ok (.aload_n 3, 1) := by decide +kernel
theorem dL_law_402 : decode cL_law 402 = .ok (.iconst 0, 1) := by decide +kernel
theorem dL_law_403 : decode cL_law 403 = .ok (.laload, 1) := by decide +kernel
theorem dL_law_404 : decode cL_law 404 = .ok (.iload 6, 2) := by decide +kernel
theorem dL_law_406 : decode cL_law 406 = .ok (.i2l, 1) := by decide +kernel
theorem dL_law_407 : decode cL_law 407 = .ok (.lcmp, 1) := by decide +kernel
theorem dL_law_408 : decode cL_law 408 = .ok (.ifCond .eq 5, 3) := by decide +kernel
theorem dL_law_411 : decode cL_law 411 = .ok (.iconst 0, 1) := by decide +kernel
theorem dL_law_412 : decode cL_law 412 = .ok (.ireturn, 1) := by decide +kernel
theorem dL_law_413 : decode cL_law 413 = .ok (.goto 1040, 3) := by decide +kernel
theorem dL_law_416 : decode cL_law 416 = .ok (.aload_n 1, 1) := by decide +kernel
theorem dL_law_417 : decode cL_law 417 = .ok (.aload_n 0, 1) := by decide +kernel
theorem dL_law_418 : decode cL_law 418 = .ok (.iload 4, 2) := by decide +kernel
theorem dL_law_420 : decode cL_law 420 = .ok (.iconst 1, 1) := by decide +kernel
theorem dL_law_421 : decode cL_law 421 = .ok (.iadd, 1) := by decide +kernel
theorem dL_law_422 : decode cL_law 422 = .ok (.iaload, 1) := by decide +kernel
theorem dL_law_423 : decode cL_law 423 = .ok (.aload_n 0, 1) := by decide +kernel
theorem dL_law_424 : decode cL_law 424 = .ok (.iload 4, 2) := by decide +kernel
theorem dL_law_426 : decode cL_law 426 = .ok (.iconst 2, 1) := by decide +kernel
theorem dL_law_427 : decode cL_law 427 = .ok (.iadd, 1) := by decide +kernel
theorem dL_law_428 : decode cL_law 428 = .ok (.iaload, 1) := by decide +kernel
theorem dL_law_429 : decode cL_law 429 = .ok (.aload_n 3, 1) := by decide +kernel
theorem dL_law_430 : decode cL_law 430 = .ok (.invokestatic 99, 3) := by decide +kernel
theorem dL_law_433 : decode cL_law 433 = .ok (.istore 5, 2) := by decide +kernel
theorem dL_law_435 : decode cL_law 435 = .ok (.aload_n 2, 1) := by decide +kernel
theorem dL_law_436 : decode cL_law 436 = .ok (.aload_n 0, 1) := by decide +kernel
theorem dL_law_437 : decode cL_law 437 = .ok (.iload 4, 2) := by decide +kernel
theorem dL_law_439 : decode cL_law 439 = .ok (.iconst 1, 1) := by decide +kernel
theorem dL_law_440 : decode cL_law 440 = .ok (.iadd, 1) := by decide +kernel
theorem dL_law_441 : decode cL_law 441 = .ok (.iaload, 1) := by decide +kernel
theorem dL_law_442 : decode cL_law 442 = .ok (.aload_n 0, 1) := by decide +kernel
theorem dL_law_443 : decode cL_law 443 = .ok (.iload 4, 2) := by decide +kernel
theorem dL_law_445 : decode cL_law 445 = .ok (.iconst 2, 1) := by decide +kernel
theorem dL_law_446 : decode cL_law 446 = .ok (.iadd, 1) := by decide +kernel
theorem dL_law_447 : decode cL_law 447 = .ok (.iaload, 1) := by decide +kernel
theorem dL_law_448 : decode cL_law 448 = .ok (.invokevirtual 101, 3) := by decide +kernel
theorem dL_law_451 : decode cL_law 451 = .ok (.istore 6, 2) := by decide +kernel
theorem dL_law_453 : decode cL_law 453 = .ok (.aload_n 2, 1) := by decide +kernel
theorem dL_law_454 : decode cL_law 454 = .ok (.invokevirtual 85, 3) := by decide +kernel
theorem dL_law_457 : decode cL_law 457 = .ok (.iload 5, 2) := by decide +kernel
theorem dL_law_459 : decode cL_law 459 = .ok (.if_icmp .eq 5, 3) := by decide +kernel
theorem dL_law_462 : decode cL_law 462 = .ok (.iconst 0, 1) := by decide +kernel
theorem dL_law_463 : decode cL_law 463 = .ok (.ireturn, 1) := by decide +kernel
theorem dL_law_464 : decode cL_law 464 = .ok (.iload 5, 2) := by decide +kernel
theorem dL_law_466 : decode cL_law 466 = .ok (.ifCond .ne 15, 3) := by decide +kernel
theorem dL_law_469 : decode cL_law 469 = .ok (.aload_n 3, 1) := by decide +kernel
theorem dL_law_470 : decode cL_law 470 = .ok (.iconst 0, 1) := by decide +kernel
theorem dL_law_471 : decode cL_law 471 = .ok (.laload, 1) := by decide +kernel
theorem dL_law_472 : decode cL_law 472 = .ok (.iload 6, 2) := by decide +kernel
theorem dL_law_474 : decode cL_law 474 = .ok (.i2l, 1) := by decide +kernel
theorem dL_law_475 : decode cL_law 475 = .ok (.lcmp, 1) := by decide +kernel
theorem dL_law_476 : decode cL_law 476 = .ok (.ifCond .eq 5, 3) := by decide +kernel
theorem dL_law_479 : decode cL_law 479 = .ok (.iconst 0, 1) := by decide +kernel
theorem dL_law_480 : decode cL_law 480 = .ok (.ireturn, 1) := by decide +kernel
theorem dL_law_481 : decode cL_law 481 = .ok (.goto 972, 3) := by decide +kernel
theorem dL_law_484 : decode cL_law 484 = .ok (.aload_n 1, 1) := by decide +kernel
theorem dL_law_485 : decode cL_law 485 = .ok (.aload_n 0, 1) := by decide +kernel
theorem dL_law_486 : decode cL_law 486 = .ok (.iload 4, 2) := by decide +kernel
theorem dL_law_488 : decode cL_law 488 = .ok (.iconst 1, 1) := by decide +kernel
theorem dL_law_489 : decode cL_law 489 = .ok (.iadd, 1) := by decide +kernel
theorem dL_law_490 : decode cL_law 490 = .ok (.iaload, 1) := by decide +kernel
theorem dL_law_491 : decode cL_law 491 = .ok (.aload_n 0, 1) := by decide +kernel
theorem dL_law_492 : decode cL_law 492 = .ok (.iload 4, 2) := by decide +kernel
theorem dL_law_494 : decode cL_law 494 = .ok (.iconst 2, 1) := by decide +kernel
theorem dL_law_495 : decode cL_law 495 = .ok (.iadd, 1) := by decide +kernel
theorem dL_law_496 : decode cL_law 496 = .ok (.iaload, 1) := by decide +kernel
theorem dL_law_497 : decode cL_law 497 = .ok (.aload_n 3, 1) := by decide +kernel
theorem dL_law_498 : decode cL_law 498 = .ok (.invokestatic 102, 3) := by decide +kernel
theorem dL_law_501 : decode cL_law 501 = .ok (.istore 5, 2) := by decide +kernel
theorem dL_law_503 : decode cL_law 503 = .ok (.aload_n 2, 1) := by decide +kernel
theorem dL_law_504 : decode cL_law 504 = .ok (.aload_n 0, 1) := by decide +kernel
theorem dL_law_505 : decode cL_law 505 = .ok (.iload 4, 2) := by decide +kernel
theorem dL_law_507 : decode cL_law 507 = .ok (.iconst 1, 1) := by decide +kernel
theorem dL_law_508 : decode cL_law 508 = .ok (.iadd, 1) := by decide +kernel
theorem dL_law_509 : decode cL_law 509 = .ok (.iaload, 1) := by decide +kernel
theorem dL_law_510 : decode cL_law 510 = .ok (.aload_n 0, 1) := by decide +kernel
theorem dL_law_511 : decode cL_law 511 = .ok (.iload 4, 2) := by decide +kernel
theorem dL_law_513 : decode cL_law 513 = .ok (.iconst 2, 1) := by decide +kernel
theorem dL_law_514 : decode cL_law 514 = .ok (.iadd, 1) := by decide +kernel
theorem dL_law_515 : decode cL_law 515 = .ok (.iaload, 1) := by decide +kernel
theorem dL_law_516 : decode cL_law 516 = .ok (.invokevirtual 104, 3) := by decide +kernel
theorem dL_law_519 : decode cL_law 519 = .ok (.istore 6, 2) := by decide +kernel
theorem dL_law_521 : decode cL_law 521 = .ok (.aload_n 2, 1) := by decide +kernel
theorem dL_law_522 : decode cL_law 522 = .ok (.invokevirtual 85, 3) := by decide +kernel
theorem dL_law_525 : decode cL_law 525 = .ok (.iload 5, 2) := by decide +kernel
theorem dL_law_527 : decode cL_law 527 = .ok (.if_icmp .eq 5, 3) := by decide +kernel
theorem dL_law_530 : decode cL_law 530 = .ok (.iconst 0, 1) := by decide +kernel
theorem dL_law_531 : decode cL_law 531 = .ok (.ireturn, 1) := by decide +kernel
theorem dL_law_532 : decode cL_law 532 = .ok (.iload 5, 2) := by decide +kernel
theorem dL_law_534 : decode cL_law 534 = .ok (.ifCond .ne 15, 3) := by decide +kernel
theorem dL_law_537 : decode cL_law 537 = .ok (.aload_n 3, 1) := by decide +kernel
theorem dL_law_538 : decode cL_law 538 = .ok (.iconst 0, 1) := by decide +kernel
theorem dL_law_539 : decode cL_law 539 = .ok (.laload, 1) := by decide +kernel
theorem dL_law_540 : decode cL_law 540 = .ok (.iload 6, 2) := by decide +kernel
theorem dL_law_542 : decode cL_law 542 = .ok (.i2l, 1) := by decide +kernel
theorem dL_law_543 : decode cL_law 543 = .ok (.lcmp, 1) := by decide +kernel
theorem dL_law_544 : decode cL_law 544 = .ok (.ifCond .eq 5, 3) := by decide +kernel
theorem dL_law_547 : decode cL_law 547 = .ok (.iconst 0, 1) := by decide +kernel
theorem dL_law_548 : decode cL_law 548 = .ok (.ireturn, 1) := by decide +kernel
theorem dL_law_549 : decode cL_law 549 = .ok (.goto 904, 3) := by decide +kernel
theorem dL_law_552 : decode cL_law 552 = .ok (.aload_n 1, 1) := by decide +kernel
theorem dL_law_553 : decode cL_law 553 = .ok (.invokevirtual 105, 3) := by decide +kernel
theorem dL_law_556 : decode cL_law 556 = .ok (.aload_n 2, 1) := by decide +kernel
theorem dL_law_557 : decode cL_law 557 = .ok (.invokevirtual 108, 3) := by decide +kernel
theorem dL_law_560 : decode cL_law 560 = .ok (.if_icmp .eq 893, 3) := by decide +kernel
theorem dL_law_563 : decode cL_law 563 = .ok (.iconst 0, 1) := by decide +kernel
theorem dL_law_564 : decode cL_law 564 = .ok (.ireturn, 1) := by decide +kernel
theorem dL_law_565 : decode cL_law 565 = .ok (.aload_n 1, 1) := by decide +kernel
theorem dL_law_566 : decode cL_law 566 = .ok (.invokevirtual 109, 3) := by decide +kernel
theorem dL_law_569 : decode cL_law 569 = .ok (.aload_n 2, 1) := by decide +kernel
theorem dL_law_570 : decode cL_law 570 = .ok (.invokevirtual 112, 3) := by decide +kernel
theorem dL_law_573 : decode cL_law 573 = .ok (.if_icmp .eq 880, 3) := by decide +kernel
theorem dL_law_576 : decode cL_law 576 = .ok (.iconst 0, 1) := by decide +kernel
theorem dL_law_577 : decode cL_law 577 = .ok (.ireturn, 1) := by decide +kernel
theorem dL_law_578 : decode cL_law 578 = .ok (.aload_n 1, 1) := by decide +kernel
theorem dL_law_579 : decode cL_law 579 = .ok (.invokevirtual 113, 3) := by decide +kernel
theorem dL_law_582 : decode cL_law 582 = .ok (.aload_n 2, 1) := by decide +kernel
theorem dL_law_583 : decode cL_law 583 = .ok (.invokevirtual 116, 3) := by decide +kernel
theorem dL_law_586 : decode cL_law 586 = .ok (.if_icmp .eq 867, 3) := by decide +kernel
theorem dL_law_589 : decode cL_law 589 = .ok (.iconst 0, 1) := by decide +kernel
theorem dL_law_590 : decode cL_law 590 = .ok (.ireturn, 1) := by decide +kernel
theorem dL_law_591 : decode cL_law 591 = .ok (.aload_n 1, 1) := by decide +kernel
theorem dL_law_592 : decode cL_law 592 = .ok (.invokevirtual 117, 3) := by decide +kernel
theorem dL_law_595 : decode cL_law 595 = .ok (.aload_n 2, 1) := by decide +kernel
theorem dL_law_596 : decode cL_law 596 = .ok (.invokevirtual 120, 3) := by decide +kernel
theorem dL_law_599 : decode cL_law 599 = .ok (.if_icmp .eq 854, 3) := by decide +kernel
theorem dL_law_602 : decode cL_law 602 = .ok (.iconst 0, 1) := by decide +kernel
theorem dL_law_603 : decode cL_law 603 = .ok (.ireturn, 1) := by decide +kernel
theorem dL_law_604 : decode cL_law 604 = .ok (.aload_n 1, 1) := by decide +kernel
theorem dL_law_605 : decode cL_law 605 = .ok (.invokevirtual 121, 3) := by decide +kernel
theorem dL_law_608 : decode cL_law 608 = .ok (.aload_n 2, 1) := by decide +kernel
theorem dL_law_609 : decode cL_law 609 = .ok (.invokevirtual 124, 3) := by decide +kernel
theorem dL_law_612 : decode cL_law 612 = .ok (.if_icmp .eq 841, 3) := by decide +kernel
theorem dL_law_615 : decode cL_law 615 = .ok (.iconst 0, 1) := by decide +kernel
theorem dL_law_616 : decode cL_law 616 = .ok (.ireturn, 1) := by decide +kernel
theorem dL_law_617 : decode cL_law 617 = .ok (.aload_n 1, 1) := by decide +kernel
theorem dL_law_618 : decode cL_law 618 = .ok (.aload_n 0, 1) := by decide +kernel
theorem dL_law_619 : decode cL_law 619 = .ok (.iload 4, 2) := by decide +kernel
theorem dL_law_621 : decode cL_law 621 = .ok (.iconst 1, 1) := by decide +kernel
theorem dL_law_622 : decode cL_law 622 = .ok (.iadd, 1) := by decide +kernel
theorem dL_law_623 : decode cL_law 623 = .ok (.iaload, 1) := by decide +kernel
theorem dL_law_624 : decode cL_law 624 = .ok (.aload_n 3, 1) := by decide +kernel
theorem dL_law_625 : decode cL_law 625 = .ok (.invokestatic 125, 3) := by decide +kernel
theorem dL_law_628 : decode cL_law 628 = .ok (.istore 5, 2) := by decide +kernel
theorem dL_law_630 : decode cL_law 630 = .ok (.aload_n 2, 1) := by decide +kernel
theorem dL_law_631 : decode cL_law 631 = .ok (.aload_n 0, 1) := by decide +kernel
theorem dL_law_632 : decode cL_law 632 = .ok (.iload 4, 2) := by decide +kernel
theorem dL_law_634 : decode cL_law 634 = .ok (.iconst 1, 1) := by decide +kernel
theorem dL_law_635 : decode cL_law 635 = .ok (.iadd, 1) := by decide +kernel
theorem dL_law_636 : decode cL_law 636 = .ok (.iaload, 1) := by decide +kernel
theorem dL_law_637 : decode cL_law 637 = .ok (.invokevirtual 127, 3) := by decide +kernel
theorem dL_law_640 : decode cL_law 640 = .ok (.istore 6, 2) := by decide +kernel
theorem dL_law_642 : decode cL_law 642 = .ok (.aload_n 2, 1) := by decide +kernel
theorem dL_law_643 : decode cL_law 643 = .ok (.invokevirtual 85, 3) := by decide +kernel
theorem dL_law_646 : decode cL_law 646 = .ok (.iload 5, 2) := by decide +kernel
theorem dL_law_648 : decode cL_law 648 = .ok (.if_icmp .eq 5, 3) := by decide +kernel
theorem dL_law_651 : decode cL_law 651 = .ok (.iconst 0, 1) := by decide +kernel
theorem dL_law_652 : decode cL_law 652 = .ok (.ireturn, 1) := by decide +kernel
theorem dL_law_653 : decode cL_law 653 = .ok (.iload 5, 2) := by decide +kernel
theorem dL_law_655 : decode cL_law 655 = .ok (.ifCond .ne 15, 3) := by decide +kernel
theorem dL_law_658 : decode cL_law 658 = .ok (.aload_n 3, 1) := by decide +kernel
theorem dL_law_659 : decode cL_law 659 = .ok (.iconst 0, 1) := by decide +kernel
theorem dL_law_660 : decode cL_law 660 = .ok (.laload, 1) := by decide +kernel
theorem dL_law_661 : decode cL_law 661 = .ok (.iload 6, 2) := by decide +kernel
theorem dL_law_663 : decode cL_law 663 = .ok (.i2l, 1) := by decide +kernel
theorem dL_law_664 : decode cL_law 664 = .ok (.lcmp, 1) := by decide +kernel
theorem dL_law_665 : decode cL_law 665 = .ok (.ifCond .eq 5, 3) := by decide +kernel
theorem dL_law_668 : decode cL_law 668 = .ok (.iconst 0, 1) := by decide +kernel
theorem dL_law_669 : decode cL_law 669 = .ok (.ireturn, 1) := by decide +kernel
theorem dL_law_670 : decode cL_law 670 = .ok (.goto 783, 3) := by decide +kernel
theorem dL_law_673 : decode cL_law 673 = .ok (.aload_n 1, 1) := by decide +kernel
theorem dL_law_674 : decode cL_law 674 = .ok (.aload_n 0, 1) := by decide +kernel
theorem dL_law_675 : decode cL_law 675 = .ok (.iload 4, 2) := by decide +kernel
theorem dL_law_677 : decode cL_law 677 = .ok (.iconst 1, 1) := by decide +kernel
theorem dL_law_678 : decode cL_law 678 = .ok (.iadd, 1) := by decide +kernel
theorem dL_law_679 : decode cL_law 679 = .ok (.iaload, 1) := by decide +kernel
theorem dL_law_680 : decode cL_law 680 = .ok (.aload_n 3, 1) := by decide +kernel
theorem dL_law_681 : decode cL_law 681 = .ok (.invokestatic 128, 3) := by decide +kernel
theorem dL_law_684 : decode cL_law 684 = .ok (.istore 5, 2) := by decide +kernel
theorem dL_law_686 : decode cL_law 686 = .ok (.aload_n 2, 1) := by decide +kernel
theorem dL_law_687 : decode cL_law 687 = .ok (.aload_n 0, 1) := by decide +kernel
theorem dL_law_688 : decode cL_law 688 = .ok (.iload 4, 2) := by decide +kernel
theorem dL_law_690 : decode cL_law 690 = .ok (.iconst 1, 1) := by decide +kernel
theorem dL_law_691 : decode cL_law 691 = .ok (.iadd, 1) := by decide +kernel
theorem dL_law_692 : decode cL_law 692 = .ok (.iaload, 1) := by decide +kernel
theorem dL_law_693 : decode cL_law 693 = .ok (.invokevirtual 130, 3) := by decide +kernel
theorem dL_law_696 : decode cL_law 696 = .ok (.istore 6, 2) := by decide +kernel
theorem dL_law_698 : decode cL_law 698 = .ok (.aload_n 2, 1) := by decide +kernel
theorem dL_law_699 : decode cL_law 699 = .ok (.invokevirtual 85, 3) := by decide +kernel
theorem dL_law_702 : decode cL_law 702 = .ok (.iload 5, 2) := by decide +kernel
theorem dL_law_704 : decode cL_law 704 = .ok (.if_icmp .eq 5, 3) := by decide +kernel
theorem dL_law_707 : decode cL_law 707 = .ok (.iconst 0, 1) := by decide +kernel
theorem dL_law_708 : decode cL_law 708 = .ok (.ireturn, 1) := by decide +kernel
theorem dL_law_709 : decode cL_law 709 = .ok (.iload 5, 2) := by decide +kernel
theorem dL_law_711 : decode cL_law 711 = .ok (.ifCond .ne 15, 3) := by decide +kernel
theorem dL_law_714 : decode cL_law 714 = .ok (.aload_n 3, 1) := by decide +kernel
theorem dL_law_715 : decode cL_law 715 = .ok (.iconst 0, 1) := by decide +kernel
theorem dL_law_716 : decode cL_law 716 = .ok (.laload, 1) := by decide +kernel
theorem dL_law_717 : decode cL_law 717 = .ok (.iload 6, 2) := by decide +kernel
theorem dL_law_719 : decode cL_law 719 = .ok (.i2l, 1) := by decide +kernel
theorem dL_law_720 : decode cL_law 720 = .ok (.lcmp, 1) := by decide +kernel
theorem dL_law_721 : decode cL_law 721 = .ok (.ifCond .eq 5, 3) := by decide +kernel
theorem dL_law_724 : decode cL_law 724 = .ok (.iconst 0, 1) := by decide +kernel
theorem dL_law_725 : decode cL_law 725 = .ok (.ireturn, 1) := by decide +kernel
theorem dL_law_726 : decode cL_law 726 = .ok (.goto 727, 3) := by decide +kernel
theorem dL_law_729 : decode cL_law 729 = .ok (.aload_n 1, 1) := by decide +kernel
theorem dL_law_730 : decode cL_law 730 = .ok (.invokevirtual 131, 3) := by decide +kernel
theorem dL_law_733 : decode cL_law 733 = .ok (.aload_n 2, 1) := by decide +kernel
theorem dL_law_734 : decode cL_law 734 = .ok (.invokevirtual 134, 3) := by decide +kernel
theorem dL_law_737 : decode cL_law 737 = .ok (.if_icmp .eq 716, 3) := by decide +kernel
theorem dL_law_740 : decode cL_law 740 = .ok (.iconst 0, 1) := by decide +kernel
theorem dL_law_741 : decode cL_law 741 = .ok (.ireturn, 1) := by decide +kernel
theorem dL_law_742 : decode cL_law 742 = .ok (.aload_n 1, 1) := by decide +kernel
theorem dL_law_743 : decode cL_law 743 = .ok (.aload_n 0, 1) := by decide +kernel
theorem dL_law_744 : decode cL_law 744 = .ok (.iload 4, 2) := by decide +kernel
theorem dL_law_746 : decode cL_law 746 = .ok (.iconst 1, 1) := by decide +kernel
theorem dL_law_747 : decode cL_law 747 = .ok (.iadd, 1) := by decide +kernel
theorem dL_law_748 : decode cL_law 748 = .ok (.iaload, 1) := by decide +kernel
theorem dL_law_749 : decode cL_law 749 = .ok (.aload_n 3, 1) := by decide +kernel
theorem dL_law_750 : decode cL_law 750 = .ok (.invokestatic 135, 3) := by decide +kernel
theorem dL_law_753 : decode cL_law 753 = .ok (.istore 5, 2) := by decide +kernel
theorem dL_law_755 : decode cL_law 755 = .ok (.aload_n 2, 1) := by decide +kernel
theorem dL_law_756 : decode cL_law 756 = .ok (.aload_n 0, 1) := by decide +kernel
theorem dL_law_757 : decode cL_law 757 = .ok (.iload 4, 2) := by decide +kernel
theorem dL_law_759 : decode cL_law 759 = .ok (.iconst 1, 1) := by decide +kernel
theorem dL_law_760 : decode cL_law 760 = .ok (.iadd, 1) := by decide +kernel
theorem dL_law_761 : decode cL_law 761 = .ok (.iaload, 1) := by decide +kernel
theorem dL_law_762 : decode cL_law 762 = .ok (.invokevirtual 137, 3) := by decide +kernel
theorem dL_law_765 : decode cL_law 765 = .ok (.istore 6, 2) := by decide +kernel
theorem dL_law_767 : decode cL_law 767 = .ok (.aload_n 2, 1) := by decide +kernel
theorem dL_law_768 : decode cL_law 768 = .ok (.invokevirtual 85, 3) := by decide +kernel
theorem dL_law_771 : decode cL_law 771 = .ok (.iload 5, 2) := by decide +kernel
theorem dL_law_773 : decode cL_law 773 = .ok (.if_icmp .eq 5, 3) := by decide +kernel
theorem dL_law_776 : decode cL_law 776 = .ok (.iconst 0, 1) := by decide +kernel
theorem dL_law_777 : decode cL_law 777 = .ok (.ireturn, 1) := by decide +kernel
theorem dL_law_778 : decode cL_law 778 = .ok (.iload 5, 2) := by decide +kernel
theorem dL_law_780 : decode cL_law 780 = .ok (.ifCond .ne 15, 3) := by decide +kernel
theorem dL_law_783 : decode cL_law 783 = .ok (.aload_n 3, 1) := by decide +kernel
theorem dL_law_784 : decode cL_law 784 = .ok (.iconst 0, 1) := by decide +kernel
theorem dL_law_785 : decode cL_law 785 = .ok (.laload, 1) := by decide +kernel
theorem dL_law_786 : decode cL_law 786 = .ok (.iload 6, 2) := by decide +kernel
theorem dL_law_788 : decode cL_law 788 = .ok (.i2l, 1) := by decide +kernel
theorem dL_law_789 : decode cL_law 789 = .ok (.lcmp, 1) := by decide +kernel
theorem dL_law_790 : decode cL_law 790 = .ok (.ifCond .eq 5, 3) := by decide +kernel
theorem dL_law_793 : decode cL_law 793 = .ok (.iconst 0, 1) := by decide +kernel
theorem dL_law_794 : decode cL_law 794 = .ok (.ireturn, 1) := by decide +kernel
theorem dL_law_795 : decode cL_law 795 = .ok (.goto 658, 3) := by decide +kernel
theorem dL_law_798 : decode cL_law 798 = .ok (.aload_n 1, 1) := by decide +kernel
theorem dL_law_799 : decode cL_law 799 = .ok (.invokevirtual 138, 3) := by decide +kernel
theorem dL_law_802 : decode cL_law 802 = .ok (.aload_n 2, 1) := by decide +kernel
theorem dL_law_803 : decode cL_law 803 = .ok (.invokevirtual 141, 3) := by decide +kernel
theorem dL_law_806 : decode cL_law 806 = .ok (.if_icmp .eq 647, 3) := by decide +kernel
theorem dL_law_809 : decode cL_law 809 = .ok (.iconst 0, 1) := by decide +kernel
theorem dL_law_810 : decode cL_law 810 = .ok (.ireturn, 1) := by decide +kernel
theorem dL_law_811 : decode cL_law 811 = .ok (.aload_n 1, 1) := by decide +kernel
theorem dL_law_812 : decode cL_law 812 = .ok (.aload_n 0, 1) := by decide +kernel
theorem dL_law_813 : decode cL_law 813 = .ok (.iload 4, 2) := by decide +kernel
theorem dL_law_815 : decode cL_law 815 = .ok (.iconst 1, 1) := by decide +kernel
theorem dL_law_816 : decode cL_law 816 = .ok (.iadd, 1) := by decide +kernel
theorem dL_law_817 : decode cL_law 817 = .ok (.iaload, 1) := by decide +kernel
theorem dL_law_818 : decode cL_law 818 = .ok (.aload_n 3, 1) := by decide +kernel
theorem dL_law_819 : decode cL_law 819 = .ok (.invokestatic 142, 3) := by decide +kernel
theorem dL_law_822 : decode cL_law 822 = .ok (.istore 5, 2) := by decide +kernel
theorem dL_law_824 : decode cL_law 824 = .ok (.aload_n 2, 1) := by decide +kernel
theorem dL_law_825 : decode cL_law 825 = .ok (.aload_n 0, 1) := by decide +kernel
theorem dL_law_826 : decode cL_law 826 = .ok (.iload 4, 2) := by decide +kernel
theorem dL_law_828 : decode cL_law 828 = .ok (.iconst 1, 1) := by decide +kernel
theorem dL_law_829 : decode cL_law 829 = .ok (.iadd, 1) := by decide +kernel
theorem dL_law_830 : decode cL_law 830 = .ok (.iaload, 1) := by decide +kernel
theorem dL_law_831 : decode cL_law 831 = .ok (.invokevirtual 144, 3) := by decide +kernel
theorem dL_law_834 : decode cL_law 834 = .ok (.istore 6, 2) := by decide +kernel
theorem dL_law_836 : decode cL_law 836 = .ok (.aload_n 2, 1) := by decide +kernel
theorem dL_law_837 : decode cL_law 837 = .ok (.invokevirtual 85, 3) := by decide +kernel
theorem dL_law_840 : decode cL_law 840 = .ok (.iload 5, 2) := by decide +kernel
theorem dL_law_842 : decode cL_law 842 = .ok (.if_icmp .eq 5, 3) := by decide +kernel
theorem dL_law_845 : decode cL_law 845 = .ok (.iconst 0, 1) := by decide +kernel
theorem dL_law_846 : decode cL_law 846 = .ok (.ireturn, 1) := by decide +kernel
theorem dL_law_847 : decode cL_law 847 = .ok (.iload 5, 2) := by decide +kernel
theorem dL_law_849 : decode cL_law 849 = .ok (.ifCond .ne 15, 3) := by decide +kernel
theorem dL_law_852 : decode cL_law 852 = .ok (.aload_n 3, 1) := by decide +kernel
theorem dL_law_853 : decode cL_law 853 = .ok (.iconst 0, 1) := by decide +kernel
theorem dL_law_854 : decode cL_law 854 = .ok (.laload, 1) := by decide +kernel
theorem dL_law_855 : decode cL_law 855 = .ok (.iload 6, 2) := by decide +kernel
theorem dL_law_857 : decode cL_law 857 = .ok (.i2l, 1) := by decide +kernel
theorem dL_law_858 : decode cL_law 858 = .ok (.lcmp, 1) := by decide +kernel
theorem dL_law_859 : decode cL_law 859 = .ok (.ifCond .eq 5, 3) := by decide +kernel
theorem dL_law_862 : decode cL_law 862 = .ok (.iconst 0, 1) := by decide +kernel
theorem dL_law_863 : decode cL_law 863 = .ok (.ireturn, 1) := by decide +kernel
theorem dL_law_864 : decode cL_law 864 = .ok (.goto 589, 3) := by decide +kernel
theorem dL_law_867 : decode cL_law 867 = .ok (.aload_n 1, 1) := by decide +kernel
theorem dL_law_868 : decode cL_law 868 = .ok (.aload_n 0, 1) := by decide +kernel
theorem dL_law_869 : decode cL_law 869 = .ok (.iload 4, 2) := by decide +kernel
theorem dL_law_871 : decode cL_law 871 = .ok (.iconst 1, 1) := by decide +kernel
theorem dL_law_872 : decode cL_law 872 = .ok (.iadd, 1) := by decide +kernel
theorem dL_law_873 : decode cL_law 873 = .ok (.iaload, 1) := by decide +kernel
theorem dL_law_874 : decode cL_law 874 = .ok (.aload_n 0, 1) := by decide +kernel
theorem dL_law_875 : decode cL_law 875 = .ok (.iload 4, 2) := by decide +kernel
theorem dL_law_877 : decode cL_law 877 = .ok (.iconst 2, 1) := by decide +kernel
theorem dL_law_878 : decode cL_law 878 = .ok (.iadd, 1) := by decide +kernel
theorem dL_law_879 : decode cL_law 879 = .ok (.iaload, 1) := by decide +kernel
theorem dL_law_880 : decode cL_law 880 = .ok (.aload_n 3, 1) := by decide +kernel
theorem dL_law_881 : decode cL_law 881 = .ok (.invokestatic 145, 3) := by decide +kernel
theorem dL_law_884 : decode cL_law 884 = .ok (.istore 5, 2) := by decide +kernel
theorem dL_law_886 : decode cL_law 886 = .ok (.aload_n 2, 1) := by decide +kernel
theorem dL_law_887 : decode cL_law 887 = .ok (.aload_n 0, 1) := by decide +kernel
theorem dL_law_888 : decode cL_law 888 = .ok (.iload 4, 2) := by decide +kernel
theorem dL_law_890 : decode cL_law 890 = .ok (.iconst 1, 1) := by decide +kernel
theorem dL_law_891 : decode cL_law 891 = .ok (.iadd, 1) := by decide +kernel
theorem dL_law_892 : decode cL_law 892 = .ok (.iaload, 1) := by decide +kernel
theorem dL_law_893 : decode cL_law 893 = .ok (.aload_n 0, 1) := by decide +kernel
theorem dL_law_894 : decode cL_law 894 = .ok (.iload 4, 2) := by decide +kernel
theorem dL_law_896 : decode cL_law 896 = .ok (.iconst 2, 1) := by decide +kernel
theorem dL_law_897 : decode cL_law 897 = .ok (.iadd, 1) := by decide +kernel
theorem dL_law_898 : decode cL_law 898 = .ok (.iaload, 1) := by decide +kernel
theorem dL_law_899 : decode cL_law 899 = .ok (.invokevirtual 147, 3) := by decide +kernel
theorem dL_law_902 : decode cL_law 902 = .ok (.istore 6, 2) := by decide +kernel
theorem dL_law_904 : decode cL_law 904 = .ok (.aload_n 2, 1) := by decide +kernel
theorem dL_law_905 : decode cL_law 905 = .ok (.invokevirtual 85, 3) := by decide +kernel
theorem dL_law_908 : decode cL_law 908 = .ok (.iload 5, 2) := by decide +kernel
theorem dL_law_910 : decode cL_law 910 = .ok (.if_icmp .eq 5, 3) := by decide +kernel
theorem dL_law_913 : decode cL_law 913 = .ok (.iconst 0, 1) := by decide +kernel
theorem dL_law_914 : decode cL_law 914 = .ok (.ireturn, 1) := by decide +kernel
theorem dL_law_915 : decode cL_law 915 = .ok (.iload 5, 2) := by decide +kernel
theorem dL_law_917 : decode cL_law 917 = .ok (.ifCond .ne 15, 3) := by decide +kernel
theorem dL_law_920 : decode cL_law 920 = .ok (.aload_n 3, 1) := by decide +kernel
theorem dL_law_921 : decode cL_law 921 = .ok (.iconst 0, 1) := by decide +kernel
theorem dL_law_922 : decode cL_law 922 = .ok (.laload, 1) := by decide +kernel
theorem dL_law_923 : decode cL_law 923 = .ok (.iload 6, 2) := by decide +kernel
theorem dL_law_925 : decode cL_law 925 = .ok (.i2l, 1) := by decide +kernel
theorem dL_law_926 : decode cL_law 926 = .ok (.lcmp, 1) := by decide +kernel
theorem dL_law_927 : decode cL_law 927 = .ok (.ifCond .eq 5, 3) := by decide +kernel
theorem dL_law_930 : decode cL_law 930 = .ok (.iconst 0, 1) := by decide +kernel
theorem dL_law_931 : decode cL_law 931 = .ok (.ireturn, 1) := by decide +kernel
theorem dL_law_932 : decode cL_law 932 = .ok (.goto 521, 3) := by decide +kernel
theorem dL_law_935 : decode cL_law 935 = .ok (.aload_n 1, 1) := by decide +kernel
theorem dL_law_936 : decode cL_law 936 = .ok (.aload_n 0, 1) := by decide +kernel
theorem dL_law_937 : decode cL_law 937 = .ok (.iload 4, 2) := by decide +kernel
theorem dL_law_939 : decode cL_law 939 = .ok (.iconst 1, 1) := by decide +kernel
theorem dL_law_940 : decode cL_law 940 = .ok (.iadd, 1) := by decide +kernel
theorem dL_law_941 : decode cL_law 941 = .ok (.iaload, 1) := by decide +kernel
theorem dL_law_942 : decode cL_law 942 = .ok (.aload_n 0, 1) := by decide +kernel
theorem dL_law_943 : decode cL_law 943 = .ok (.iload 4, 2) := by decide +kernel
theorem dL_law_945 : decode cL_law 945 = .ok (.iconst 2, 1) := by decide +kernel
theorem dL_law_946 : decode cL_law 946 = .ok (.iadd, 1) := by decide +kernel
theorem dL_law_947 : decode cL_law 947 = .ok (.iaload, 1) := by decide +kernel
theorem dL_law_948 : decode cL_law 948 = .ok (.aload_n 3, 1) := by decide +kernel
theorem dL_law_949 : decode cL_law 949 = .ok (.invokestatic 148, 3) := by decide +kernel
theorem dL_law_952 : decode cL_law 952 = .ok (.istore 5, 2) := by decide +kernel
theorem dL_law_954 : decode cL_law 954 = .ok (.aload_n 2, 1) := by decide +kernel
theorem dL_law_955 : decode cL_law 955 = .ok (.aload_n 0, 1) := by decide +kernel
theorem dL_law_956 : decode cL_law 956 = .ok (.iload 4, 2) := by decide +kernel
theorem dL_law_958 : decode cL_law 958 = .ok (.iconst 1, 1) := by decide +kernel
theorem dL_law_959 : decode cL_law 959 = .ok (.iadd, 1) := by decide +kernel
theorem dL_law_960 : decode cL_law 960 = .ok (.iaload, 1) := by decide +kernel
theorem dL_law_961 : decode cL_law 961 = .ok (.aload_n 0, 1) := by decide +kernel
theorem dL_law_962 : decode cL_law 962 = .ok (.iload 4, 2) := by decide +kernel
theorem dL_law_964 : decode cL_law 964 = .ok (.iconst 2, 1) := by decide +kernel
theorem dL_law_965 : decode cL_law 965 = .ok (.iadd, 1) := by decide +kernel
theorem dL_law_966 : decode cL_law 966 = .ok (.iaload, 1) := by decide +kernel
theorem dL_law_967 : decode cL_law 967 = .ok (.invokevirtual 150, 3) := by decide +kernel
theorem dL_law_970 : decode cL_law 970 = .ok (.istore 6, 2) := by decide +kernel
theorem dL_law_972 : decode cL_law 972 = .ok (.aload_n 2, 1) := by decide +kernel
theorem dL_law_973 : decode cL_law 973 = .ok (.invokevirtual 85, 3) := by decide +kernel
theorem dL_law_976 : decode cL_law 976 = .ok (.iload 5, 2) := by decide +kernel
theorem dL_law_978 : decode cL_law 978 = .ok (.if_icmp .eq 5, 3) := by decide +kernel
theorem dL_law_981 : decode cL_law 981 = .ok (.iconst 0, 1) := by decide +kernel
theorem dL_law_982 : decode cL_law 982 = .ok (.ireturn, 1) := by decide +kernel
theorem dL_law_983 : decode cL_law 983 = .ok (.iload 5, 2) := by decide +kernel
theorem dL_law_985 : decode cL_law 985 = .ok (.ifCond .ne 15, 3) := by decide +kernel
theorem dL_law_988 : decode cL_law 988 = .ok (.aload_n 3, 1) := by decide +kernel
theorem dL_law_989 : decode cL_law 989 = .ok (.iconst 0, 1) := by decide +kernel
theorem dL_law_990 : decode cL_law 990 = .ok (.laload, 1) := by decide +kernel
theorem dL_law_991 : decode cL_law 991 = .ok (.iload 6, 2) := by decide +kernel
theorem dL_law_993 : decode cL_law 993 = .ok (.i2l, 1) := by decide +kernel
theorem dL_law_994 : decode cL_law 994 = .ok (.lcmp, 1) := by decide +kernel
theorem dL_law_995 : decode cL_law 995 = .ok (.ifCond .eq 5, 3) := by decide +kernel
theorem dL_law_998 : decode cL_law 998 = .ok (.iconst 0, 1) := by decide +kernel
theorem dL_law_999 : decode cL_law 999 = .ok (.ireturn, 1) := by decide +kernel
theorem dL_law_1000 : decode cL_law 1000 = .ok (.goto 453, 3) := by decide +kernel
theorem dL_law_1003 : decode cL_law 1003 = .ok (.aload_n 1, 1) := by decide +kernel
theorem dL_law_1004 : decode cL_law 1004 = .ok (.aload_n 0, 1) := by decide +kernel
theorem dL_law_1005 : decode cL_law 1005 = .ok (.iload 4, 2) := by decide +kernel
theorem dL_law_1007 : decode cL_law 1007 = .ok (.iconst 1, 1) := by decide +kernel
theorem dL_law_1008 : decode cL_law 1008 = .ok (.iadd, 1) := by decide +kernel
theorem dL_law_1009 : decode cL_law 1009 = .ok (.iaload, 1) := by decide +kernel
theorem dL_law_1010 : decode cL_law 1010 = .ok (.aload_n 0, 1) := by decide +kernel
theorem dL_law_1011 : decode cL_law 1011 = .ok (.iload 4, 2) := by decide +kernel
theorem dL_law_1013 : decode cL_law 1013 = .ok (.iconst 2, 1) := by decide +kernel
theorem dL_law_1014 : decode cL_law 1014 = .ok (.iadd, 1) := by decide +kernel
theorem dL_law_1015 : decode cL_law 1015 = .ok (.iaload, 1) := by decide +kernel
theorem dL_law_1016 : decode cL_law 1016 = .ok (.aload_n 3, 1) := by decide +kernel
theorem dL_law_1017 : decode cL_law 1017 = .ok (.invokestatic 151, 3) := by decide +kernel
theorem dL_law_1020 : decode cL_law 1020 = .ok (.istore 5, 2) := by decide +kernel
theorem dL_law_1022 : decode cL_law 1022 = .ok (.aload_n 2, 1) := by decide +kernel
theorem dL_law_1023 : decode cL_law 1023 = .ok (.aload_n 0, 1) := by decide +kernel
theorem dL_law_1024 : decode cL_law 1024 = .ok (.iload 4, 2) := by decide +kernel
theorem dL_law_1026 : decode cL_law 1026 = .ok (.iconst 1, 1) := by decide +kernel
theorem dL_law_1027 : decode cL_law 1027 = .ok (.iadd, 1) := by decide +kernel
theorem dL_law_1028 : decode cL_law 1028 = .ok (.iaload, 1) := by decide +kernel
theorem dL_law_1029 : decode cL_law 1029 = .ok (.aload_n 0, 1) := by decide +kernel
theorem dL_law_1030 : decode cL_law 1030 = .ok (.iload 4, 2) := by decide +kernel
theorem dL_law_1032 : decode cL_law 1032 = .ok (.iconst 2, 1) := by decide +kernel
theorem dL_law_1033 : decode cL_law 1033 = .ok (.iadd, 1) := by decide +kernel
theorem dL_law_1034 : decode cL_law 1034 = .ok (.iaload, 1) := by decide +kernel
theorem dL_law_1035 : decode cL_law 1035 = .ok (.invokevirtual 153, 3) := by decide +kernel
theorem dL_law_1038 : decode cL_law 1038 = .ok (.istore 6, 2) := by decide +kernel
theorem dL_law_1040 : decode cL_law 1040 = .ok (.aload_n 2, 1) := by decide +kernel
theorem dL_law_1041 : decode cL_law 1041 = .ok (.invokevirtual 85, 3) := by decide +kernel
theorem dL_law_1044 : decode cL_law 1044 = .ok (.iload 5, 2) := by decide +kernel
theorem dL_law_1046 : decode cL_law 1046 = .ok (.if_icmp .eq 5, 3) := by decide +kernel
theorem dL_law_1049 : decode cL_law 1049 = .ok (.iconst 0, 1) := by decide +kernel
theorem dL_law_1050 : decode cL_law 1050 = .ok (.ireturn, 1) := by decide +kernel
theorem dL_law_1051 : decode cL_law 1051 = .ok (.iload 5, 2) := by decide +kernel
theorem dL_law_1053 : decode cL_law 1053 = .ok (.ifCond .ne 15, 3) := by decide +kernel
theorem dL_law_1056 : decode cL_law 1056 = .ok (.aload_n 3, 1) := by decide +kernel
theorem dL_law_1057 : decode cL_law 1057 = .ok (.iconst 0, 1) := by decide +kernel
theorem dL_law_1058 : decode cL_law 1058 = .ok (.laload, 1) := by decide +kernel
theorem dL_law_1059 : decode cL_law 1059 = .ok (.iload 6, 2) := by decide +kernel
theorem dL_law_1061 : decode cL_law 1061 = .ok (.i2l, 1) := by decide +kernel
theorem dL_law_1062 : decode cL_law 1062 = .ok (.lcmp, 1) := by decide +kernel
theorem dL_law_1063 : decode cL_law 1063 = .ok (.ifCond .eq 5, 3) := by decide +kernel
theorem dL_law_1066 : decode cL_law 1066 = .ok (.iconst 0, 1) := by decide +kernel
theorem dL_law_1067 : decode cL_law 1067 = .ok (.ireturn, 1) := by decide +kernel
theorem dL_law_1068 : decode cL_law 1068 = .ok (.goto 385, 3) := by decide +kernel
theorem dL_law_1071 : decode cL_law 1071 = .ok (.aload_n 1, 1) := by decide +kernel
theorem dL_law_1072 : decode cL_law 1072 = .ok (.aload_n 0, 1) := by decide +kernel
theorem dL_law_1073 : decode cL_law 1073 = .ok (.iload 4, 2) := by decide +kernel
theorem dL_law_1075 : decode cL_law 1075 = .ok (.iconst 1, 1) := by decide +kernel
theorem dL_law_1076 : decode cL_law 1076 = .ok (.iadd, 1) := by decide +kernel
theorem dL_law_1077 : decode cL_law 1077 = .ok (.iaload, 1) := by decide +kernel
theorem dL_law_1078 : decode cL_law 1078 = .ok (.aload_n 3, 1) := by decide +kernel
theorem dL_law_1079 : decode cL_law 1079 = .ok (.invokestatic 154, 3) := by decide +kernel
theorem dL_law_1082 : decode cL_law 1082 = .ok (.istore 5, 2) := by decide +kernel
theorem dL_law_1084 : decode cL_law 1084 = .ok (.aload_n 2, 1) := by decide +kernel
theorem dL_law_1085 : decode cL_law 1085 = .ok (.aload_n 0, 1) := by decide +kernel
theorem dL_law_1086 : decode cL_law 1086 = .ok (.iload 4, 2) := by decide +kernel
theorem dL_law_1088 : decode cL_law 1088 = .ok (.iconst 1, 1) := by decide +kernel
theorem dL_law_1089 : decode cL_law 1089 = .ok (.iadd, 1) := by decide +kernel
theorem dL_law_1090 : decode cL_law 1090 = .ok (.iaload, 1) := by decide +kernel
theorem dL_law_1091 : decode cL_law 1091 = .ok (.invokevirtual 156, 3) := by decide +kernel
theorem dL_law_1094 : decode cL_law 1094 = .ok (.istore 6, 2) := by decide +kernel
theorem dL_law_1096 : decode cL_law 1096 = .ok (.aload_n 2, 1) := by decide +kernel
theorem dL_law_1097 : decode cL_law 1097 = .ok (.invokevirtual 85, 3) := by decide +kernel
theorem dL_law_1100 : decode cL_law 1100 = .ok (.iload 5, 2) := by decide +kernel
theorem dL_law_1102 : decode cL_law 1102 = .ok (.if_icmp .eq 5, 3) := by decide +kernel
theorem dL_law_1105 : decode cL_law 1105 = .ok (.iconst 0, 1) := by decide +kernel
theorem dL_law_1106 : decode cL_law 1106 = .ok (.ireturn, 1) := by decide +kernel
theorem dL_law_1107 : decode cL_law 1107 = .ok (.iload 5, 2) := by decide +kernel
theorem dL_law_1109 : decode cL_law 1109 = .ok (.ifCond .ne 15, 3) := by decide +kernel
theorem dL_law_1112 : decode cL_law 1112 = .ok (.aload_n 3, 1) := by decide +kernel
theorem dL_law_1113 : decode cL_law 1113 = .ok (.iconst 0, 1) := by decide +kernel
theorem dL_law_1114 : decode cL_law 1114 = .ok (.laload, 1) := by decide +kernel
theorem dL_law_1115 : decode cL_law 1115 = .ok (.iload 6, 2) := by decide +kernel
theorem dL_law_1117 : decode cL_law 1117 = .ok (.i2l, 1) := by decide +kernel
theorem dL_law_1118 : decode cL_law 1118 = .ok (.lcmp, 1) := by decide +kernel
theorem dL_law_1119 : decode cL_law 1119 = .ok (.ifCond .eq 5, 3) := by decide +kernel
theorem dL_law_1122 : decode cL_law 1122 = .ok (.iconst 0, 1) := by decide +kernel
theorem dL_law_1123 : decode cL_law 1123 = .ok (.ireturn, 1) := by decide +kernel
theorem dL_law_1124 : decode cL_law 1124 = .ok (.goto 329, 3) := by decide +kernel
theorem dL_law_1127 : decode cL_law 1127 = .ok (.aload_n 1, 1) := by decide +kernel
theorem dL_law_1128 : decode cL_law 1128 = .ok (.aload_n 0, 1) := by decide +kernel
theorem dL_law_1129 : decode cL_law 1129 = .ok (.iload 4, 2) := by decide +kernel
theorem dL_law_1131 : decode cL_law 1131 = .ok (.iconst 1, 1) := by decide +kernel
theorem dL_law_1132 : decode cL_law 1132 = .ok (.iadd, 1) := by decide +kernel
theorem dL_law_1133 : decode cL_law 1133 = .ok (.iaload, 1) := by decide +kernel
theorem dL_law_1134 : decode cL_law 1134 = .ok (.aload_n 3, 1) := by decide +kernel
theorem dL_law_1135 : decode cL_law 1135 = .ok (.invokestatic 157, 3) := by decide +kernel
theorem dL_law_1138 : decode cL_law 1138 = .ok (.istore 5, 2) := by decide +kernel
theorem dL_law_1140 : decode cL_law 1140 = .ok (.aload_n 2, 1) := by decide +kernel
theorem dL_law_1141 : decode cL_law 1141 = .ok (.aload_n 0, 1) := by decide +kernel
theorem dL_law_1142 : decode cL_law 1142 = .ok (.iload 4, 2) := by decide +kernel
theorem dL_law_1144 : decode cL_law 1144 = .ok (.iconst 1, 1) := by decide +kernel
theorem dL_law_1145 : decode cL_law 1145 = .ok (.iadd, 1) := by decide +kernel
theorem dL_law_1146 : decode cL_law 1146 = .ok (.iaload, 1) := by decide +kernel
theorem dL_law_1147 : decode cL_law 1147 = .ok (.invokevirtual 159, 3) := by decide +kernel
theorem dL_law_1150 : decode cL_law 1150 = .ok (.istore 6, 2) := by decide +kernel
theorem dL_law_1152 : decode cL_law 1152 = .ok (.aload_n 2, 1) := by decide +kernel
theorem dL_law_1153 : decode cL_law 1153 = .ok (.invokevirtual 85, 3) := by decide +kernel
theorem dL_law_1156 : decode cL_law 1156 = .ok (.iload 5, 2) := by decide +kernel
theorem dL_law_1158 : decode cL_law 1158 = .ok (.if_icmp .eq 5, 3) := by decide +kernel
theorem dL_law_1161 : decode cL_law 1161 = .ok (.iconst 0, 1) := by decide +kernel
theorem dL_law_1162 : decode cL_law 1162 = .ok (.ireturn, 1) := by decide +kernel
theorem dL_law_1163 : decode cL_law 1163 = .ok (.iload 5, 2) := by decide +kernel
theorem dL_law_1165 : decode cL_law 1165 = .ok (.ifCond .ne 15, 3) := by decide +kernel
theorem dL_law_1168 : decode cL_law 1168 = .ok (.aload_n 3, 1) := by decide +kernel
theorem dL_law_1169 : decode cL_law 1169 = .ok (.iconst 0, 1) := by decide +kernel
theorem dL_law_1170 : decode cL_law 1170 = .ok (.laload, 1) := by decide +kernel
theorem dL_law_1171 : decode cL_law 1171 = .ok (.iload 6, 2) := by decide +kernel
theorem dL_law_1173 : decode cL_law 1173 = .ok (.i2l, 1) := by decide +kernel
theorem dL_law_1174 : decode cL_law 1174 = .ok (.lcmp, 1) := by decide +kernel
theorem dL_law_1175 : decode cL_law 1175 = .ok (.ifCond .eq 5, 3) := by decide +kernel
theorem dL_law_1178 : decode cL_law 1178 = .ok (.iconst 0, 1) := by decide +kernel
theorem dL_law_1179 : decode cL_law 1179 = .ok (.ireturn, 1) := by decide +kernel
theorem dL_law_1180 : decode cL_law 1180 = .ok (.goto 273, 3) := by decide +kernel
theorem dL_law_1183 : decode cL_law 1183 = .ok (.aload_n 1, 1) := by decide +kernel
theorem dL_law_1184 : decode cL_law 1184 = .ok (.aload_n 0, 1) := by decide +kernel
theorem dL_law_1185 : decode cL_law 1185 = .ok (.iload 4, 2) := by decide +kernel
theorem dL_law_1187 : decode cL_law 1187 = .ok (.iconst 1, 1) := by decide +kernel
theorem dL_law_1188 : decode cL_law 1188 = .ok (.iadd, 1) := by decide +kernel
theorem dL_law_1189 : decode cL_law 1189 = .ok (.iaload, 1) := by decide +kernel
theorem dL_law_1190 : decode cL_law 1190 = .ok (.aload_n 3, 1) := by decide +kernel
theorem dL_law_1191 : decode cL_law 1191 = .ok (.invokestatic 160, 3) := by decide +kernel
theorem dL_law_1194 : decode cL_law 1194 = .ok (.istore 5, 2) := by decide +kernel
theorem dL_law_1196 : decode cL_law 1196 = .ok (.aload_n 2, 1) := by decide +kernel
theorem dL_law_1197 : decode cL_law 1197 = .ok (.aload_n 0, 1) := by decide +kernel
theorem dL_law_1198 : decode cL_law 1198 = .ok (.iload 4, 2) := by decide +kernel
theorem dL_law_1200 : decode cL_law 1200 = .ok (.iconst 1, 1) := by decide +kernel
theorem dL_law_1201 : decode cL_law 1201 = .ok (.iadd, 1) := by decide +kernel
theorem dL_law_1202 : decode cL_law 1202 = .ok (.iaload, 1) := by decide +kernel
theorem dL_law_1203 : decode cL_law 1203 = .ok (.invokevirtual 162, 3) := by decide +kernel
theorem dL_law_1206 : decode cL_law 1206 = .ok (.istore 6, 2) := by decide +kernel
theorem dL_law_1208 : decode cL_law 1208 = .ok (.aload_n 2, 1) := by decide +kernel
theorem dL_law_1209 : decode cL_law 1209 = .ok (.invokevirtual 85, 3) := by decide +kernel
theorem dL_law_1212 : decode cL_law 1212 = .ok (.iload 5, 2) := by decide +kernel
theorem dL_law_1214 : decode cL_law 1214 = .ok (.if_icmp .eq 5, 3) := by decide +kernel
theorem dL_law_1217 : decode cL_law 1217 = .ok (.iconst 0, 1) := by decide +kernel
theorem dL_law_1218 : decode cL_law 1218 = .ok (.ireturn, 1) := by decide +kernel
theorem dL_law_1219 : decode cL_law 1219 = .ok (.iload 5, 2) := by decide +kernel
theorem dL_law_1221 : decode cL_law 1221 = .ok (.ifCond .ne 15, 3) := by decide +kernel
theorem dL_law_1224 : decode cL_law 1224 = .ok (.aload_n 3, 1) := by decide +kernel
theorem dL_law_1225 : decode cL_law 1225 = .ok (.iconst 0, 1) := by decide +kernel
theorem dL_law_1226 : decode cL_law 1226 = .ok (.laload, 1) := by decide +kernel
theorem dL_law_1227 : decode cL_law 1227 = .ok (.iload 6, 2) := by decide +kernel
theorem dL_law_1229 : decode cL_law 1229 = .ok (.i2l, 1) := by decide +kernel
theorem dL_law_1230 : decode cL_law 1230 = .ok (.lcmp, 1) := by decide +kernel
theorem dL_law_1231 : decode cL_law 1231 = .ok (.ifCond .eq 5, 3) := by decide +kernel
theorem dL_law_1234 : decode cL_law 1234 = .ok (.iconst 0, 1) := by decide +kernel
theorem dL_law_1235 : decode cL_law 1235 = .ok (.ireturn, 1) := by decide +kernel
theorem dL_law_1236 : decode cL_law 1236 = .ok (.goto 217, 3) := by decide +kernel
theorem dL_law_1239 : decode cL_law 1239 = .ok (.aload_n 1, 1) := by decide +kernel
theorem dL_law_1240 : decode cL_law 1240 = .ok (.invokevirtual 163, 3) := by decide +kernel
theorem dL_law_1243 : decode cL_law 1243 = .ok (.aload_n 2, 1) := by decide +kernel
theorem dL_law_1244 : decode cL_law 1244 = .ok (.invokevirtual 166, 3) := by decide +kernel
theorem dL_law_1247 : decode cL_law 1247 = .ok (.if_icmp .eq 206, 3) := by decide +kernel
theorem dL_law_1250 : decode cL_law 1250 = .ok (.iconst 0, 1) := by decide +kernel
theorem dL_law_1251 : decode cL_law 1251 = .ok (.ireturn, 1) := by decide +kernel
theorem dL_law_1252 : decode cL_law 1252 = .ok (.aload_n 1, 1) := by decide +kernel
theorem dL_law_1253 : decode cL_law 1253 = .ok (.aload_n 0, 1) := by decide +kernel
theorem dL_law_1254 : decode cL_law 1254 = .ok (.iload 4, 2) := by decide +kernel
theorem dL_law_1256 : decode cL_law 1256 = .ok (.iconst 1, 1) := by decide +kernel
theorem dL_law_1257 : decode cL_law 1257 = .ok (.iadd, 1) := by decide +kernel
theorem dL_law_1258 : decode cL_law 1258 = .ok (.iaload, 1) := by decide +kernel
theorem dL_law_1259 : decode cL_law 1259 = .ok (.aload_n 3, 1) := by decide +kernel
theorem dL_law_1260 : decode cL_law 1260 = .ok (.invokestatic 167, 3) := by decide +kernel
theorem dL_law_1263 : decode cL_law 1263 = .ok (.istore 5, 2) := by decide +kernel
theorem dL_law_1265 : decode cL_law 1265 = .ok (.aload_n 2, 1) := by decide +kernel
theorem dL_law_1266 : decode cL_law 1266 = .ok (.aload_n 0, 1) := by decide +kernel
theorem dL_law_1267 : decode cL_law 1267 = .ok (.iload 4, 2) := by decide +kernel
theorem dL_law_1269 : decode cL_law 1269 = .ok (.iconst 1, 1) := by decide +kernel
theorem dL_law_1270 : decode cL_law 1270 = .ok (.iadd, 1) := by decide +kernel
theorem dL_law_1271 : decode cL_law 1271 = .ok (.iaload, 1) := by decide +kernel
theorem dL_law_1272 : decode cL_law 1272 = .ok (.invokevirtual 169, 3) := by decide +kernel
theorem dL_law_1275 : decode cL_law 1275 = .ok (.istore 6, 2) := by decide +kernel
theorem dL_law_1277 : decode cL_law 1277 = .ok (.aload_n 2, 1) := by decide +kernel
theorem dL_law_1278 : decode cL_law 1278 = .ok (.invokevirtual 85, 3) := by decide +kernel
theorem dL_law_1281 : decode cL_law 1281 = .ok (.iload 5, 2) := by decide +kernel
theorem dL_law_1283 : decode cL_law 1283 = .ok (.if_icmp .eq 5, 3) := by decide +kernel
theorem dL_law_1286 : decode cL_law 1286 = .ok (.iconst 0, 1) := by decide +kernel
theorem dL_law_1287 : decode cL_law 1287 = .ok (.ireturn, 1) := by decide +kernel
theorem dL_law_1288 : decode cL_law 1288 = .ok (.iload 5, 2) := by decide +kernel
theorem dL_law_1290 : decode cL_law 1290 = .ok (.ifCond .ne 15, 3) := by decide +kernel
theorem dL_law_1293 : decode cL_law 1293 = .ok (.aload_n 3, 1) := by decide +kernel
theorem dL_law_1294 : decode cL_law 1294 = .ok (.iconst 0, 1) := by decide +kernel
theorem dL_law_1295 : decode cL_law 1295 = .ok (.laload, 1) := by decide +kernel
theorem dL_law_1296 : decode cL_law 1296 = .ok (.iload 6, 2) := by decide +kernel
theorem dL_law_1298 : decode cL_law 1298 = .ok (.i2l, 1) := by decide +kernel
theorem dL_law_1299 : decode cL_law 1299 = .ok (.lcmp, 1) := by decide +kernel
theorem dL_law_1300 : decode cL_law 1300 = .ok (.ifCond .eq 5, 3) := by decide +kernel
theorem dL_law_1303 : decode cL_law 1303 = .ok (.iconst 0, 1) := by decide +kernel
theorem dL_law_1304 : decode cL_law 1304 = .ok (.ireturn, 1) := by decide +kernel
theorem dL_law_1305 : decode cL_law 1305 = .ok (.goto 148, 3) := by decide +kernel
theorem dL_law_1308 : decode cL_law 1308 = .ok (.aload_n 1, 1) := by decide +kernel
theorem dL_law_1309 : decode cL_law 1309 = .ok (.invokevirtual 170, 3) := by decide +kernel
theorem dL_law_1312 : decode cL_law 1312 = .ok (.aload_n 2, 1) := by decide +kernel
theorem dL_law_1313 : decode cL_law 1313 = .ok (.invokevirtual 173, 3) := by decide +kernel
theorem dL_law_1316 : decode cL_law 1316 = .ok (.if_icmp .eq 137, 3) := by decide +kernel
theorem dL_law_1319 : decode cL_law 1319 = .ok (.iconst 0, 1) := by decide +kernel
theorem dL_law_1320 : decode cL_law 1320 = .ok (.ireturn, 1) := by decide +kernel
theorem dL_law_1321 : decode cL_law 1321 = .ok (.aload_n 1, 1) := by decide +kernel
theorem dL_law_1322 : decode cL_law 1322 = .ok (.aload_n 0, 1) := by decide +kernel
theorem dL_law_1323 : decode cL_law 1323 = .ok (.iload 4, 2) := by decide +kernel
theorem dL_law_1325 : decode cL_law 1325 = .ok (.iconst 1, 1) := by decide +kernel
theorem dL_law_1326 : decode cL_law 1326 = .ok (.iadd, 1) := by decide +kernel
theorem dL_law_1327 : decode cL_law 1327 = .ok (.iaload, 1) := by decide +kernel
theorem dL_law_1328 : decode cL_law 1328 = .ok (.aload_n 3, 1) := by decide +kernel
theorem dL_law_1329 : decode cL_law 1329 = .ok (.invokestatic 174, 3) := by decide +kernel
theorem dL_law_1332 : decode cL_law 1332 = .ok (.istore 5, 2) := by decide +kernel
theorem dL_law_1334 : decode cL_law 1334 = .ok (.aload_n 2, 1) := by decide +kernel
theorem dL_law_1335 : decode cL_law 1335 = .ok (.aload_n 0, 1) := by decide +kernel
theorem dL_law_1336 : decode cL_law 1336 = .ok (.iload 4, 2) := by decide +kernel
theorem dL_law_1338 : decode cL_law 1338 = .ok (.iconst 1, 1) := by decide +kernel
theorem dL_law_1339 : decode cL_law 1339 = .ok (.iadd, 1) := by decide +kernel
theorem dL_law_1340 : decode cL_law 1340 = .ok (.iaload, 1) := by decide +kernel
theorem dL_law_1341 : decode cL_law 1341 = .ok (.invokevirtual 176, 3) := by decide +kernel
theorem dL_law_1344 : decode cL_law 1344 = .ok (.istore 6, 2) := by decide +kernel
theorem dL_law_1346 : decode cL_law 1346 = .ok (.aload_n 2, 1) := by decide +kernel
theorem dL_law_1347 : decode cL_law 1347 = .ok (.invokevirtual 85, 3) := by decide +kernel
theorem dL_law_1350 : decode cL_law 1350 = .ok (.iload 5, 2) := by decide +kernel
theorem dL_law_1352 : decode cL_law 1352 = .ok (.if_icmp .eq 5, 3) := by decide +kernel
theorem dL_law_1355 : decode cL_law 1355 = .ok (.iconst 0, 1) := by decide +kernel
theorem dL_law_1356 : decode cL_law 1356 = .ok (.ireturn, 1) := by decide +kernel
theorem dL_law_1357 : decode cL_law 1357 = .ok (.iload 5, 2) := by decide +kernel
theorem dL_law_1359 : decode cL_law 1359 = .ok (.ifCond .ne 15, 3) := by decide +kernel
theorem dL_law_1362 : decode cL_law 1362 = .ok (.aload_n 3, 1) := by decide +kernel
theorem dL_law_1363 : decode cL_law 1363 = .ok (.iconst 0, 1) := by decide +kernel
theorem dL_law_1364 : decode cL_law 1364 = .ok (.laload, 1) := by decide +kernel
theorem dL_law_1365 : decode cL_law 1365 = .ok (.iload 6, 2) := by decide +kernel
theorem dL_law_1367 : decode cL_law 1367 = .ok (.i2l, 1) := by decide +kernel
theorem dL_law_1368 : decode cL_law 1368 = .ok (.lcmp, 1) := by decide +kernel
theorem dL_law_1369 : decode cL_law 1369 = .ok (.ifCond .eq 5, 3) := by decide +kernel
theorem dL_law_1372 : decode cL_law 1372 = .ok (.iconst 0, 1) := by decide +kernel
theorem dL_law_1373 : decode cL_law 1373 = .ok (.ireturn, 1) := by decide +kernel
theorem dL_law_1374 : decode cL_law 1374 = .ok (.goto 79, 3) := by decide +kernel
theorem dL_law_1377 : decode cL_law 1377 = .ok (.aload_n 1, 1) := by decide +kernel
theorem dL_law_1378 : decode cL_law 1378 = .ok (.aload_n 0, 1) := by decide +kernel
theorem dL_law_1379 : decode cL_law 1379 = .ok (.iload 4, 2) := by decide +kernel
theorem dL_law_1381 : decode cL_law 1381 = .ok (.iconst 1, 1) := by decide +kernel
theorem dL_law_1382 : decode cL_law 1382 = .ok (.iadd, 1) := by decide +kernel
theorem dL_law_1383 : decode cL_law 1383 = .ok (.iaload, 1) := by decide +kernel
theorem dL_law_1384 : decode cL_law 1384 = .ok (.aload_n 3, 1) := by decide +kernel
theorem dL_law_1385 : decode cL_law 1385 = .ok (.invokestatic 177, 3) := by decide +kernel
theorem dL_law_1388 : decode cL_law 1388 = .ok (.istore 5, 2) := by decide +kernel
theorem dL_law_1390 : decode cL_law 1390 = .ok (.aload_n 2, 1) := by decide +kernel
theorem dL_law_1391 : decode cL_law 1391 = .ok (.aload_n 0, 1) := by decide +kernel
theorem dL_law_1392 : decode cL_law 1392 = .ok (.iload 4, 2) := by decide +kernel
theorem dL_law_1394 : decode cL_law 1394 = .ok (.iconst 1, 1) := by decide +kernel
theorem dL_law_1395 : decode cL_law 1395 = .ok (.iadd, 1) := by decide +kernel
theorem dL_law_1396 : decode cL_law 1396 = .ok (.iaload, 1) := by decide +kernel
theorem dL_law_1397 : decode cL_law 1397 = .ok (.invokevirtual 179, 3) := by decide +kernel
theorem dL_law_1400 : decode cL_law 1400 = .ok (.istore 6, 2) := by decide +kernel
theorem dL_law_1402 : decode cL_law 1402 = .ok (.aload_n 2, 1) := by decide +kernel
theorem dL_law_1403 : decode cL_law 1403 = .ok (.invokevirtual 85, 3) := by decide +kernel
theorem dL_law_1406 : decode cL_law 1406 = .ok (.iload 5, 2) := by decide +kernel
theorem dL_law_1408 : decode cL_law 1408 = .ok (.if_icmp .eq 5, 3) := by decide +kernel
theorem dL_law_1411 : decode cL_law 1411 = .ok (.iconst 0, 1) := by decide +kernel
theorem dL_law_1412 : decode cL_law 1412 = .ok (.ireturn, 1) := by decide +kernel
theorem dL_law_1413 : decode cL_law 1413 = .ok (.iload 5, 2) := by decide +kernel
theorem dL_law_1415 : decode cL_law 1415 = .ok (.ifCond .ne 22, 3) := by decide +kernel
theorem dL_law_1418 : decode cL_law 1418 = .ok (.aload_n 3, 1) := by decide +kernel
theorem dL_law_1419 : decode cL_law 1419 = .ok (.iconst 0, 1) := by decide +kernel
theorem dL_law_1420 : decode cL_law 1420 = .ok (.laload, 1) := by decide +kernel
theorem dL_law_1421 : decode cL_law 1421 = .ok (.iload 6, 2) := by decide +kernel
theorem dL_law_1423 : decode cL_law 1423 = .ok (.ifCond .eq 7, 3) := by decide +kernel
theorem dL_law_1426 : decode cL_law 1426 = .ok (.lconst 1, 1) := by decide +kernel
theorem dL_law_1427 : decode cL_law 1427 = .ok (.goto 4, 3) := by decide +kernel
theorem dL_law_1430 : decode cL_law 1430 = .ok (.lconst 0, 1) := by decide +kernel
theorem dL_law_1431 : decode cL_law 1431 = .ok (.lcmp, 1) := by decide +kernel
theorem dL_law_1432 : decode cL_law 1432 = .ok (.ifCond .eq 5, 3) := by decide +kernel
theorem dL_law_1435 : decode cL_law 1435 = .ok (.iconst 0, 1) := by decide +kernel
theorem dL_law_1436 : decode cL_law 1436 = .ok (.ireturn, 1) := by decide +kernel
theorem dL_law_1437 : decode cL_law 1437 = .ok (.goto 16, 3) := by decide +kernel
theorem dL_law_1440 : decode cL_law 1440 = .ok (.aload_n 1, 1) := by decide +kernel
theorem dL_law_1441 : decode cL_law 1441 = .ok (.invokevirtual 180, 3) := by decide +kernel
theorem dL_law_1444 : decode cL_law 1444 = .ok (.aload_n 2, 1) := by decide +kernel
theorem dL_law_1445 : decode cL_law 1445 = .ok (.invokevirtual 183, 3) := by decide +kernel
theorem dL_law_1448 : decode cL_law 1448 = .ok (.if_icmp .eq 5, 3) := by decide +kernel
theorem dL_law_1451 : decode cL_law 1451 = .ok (.iconst 0, 1) := by decide +kernel
theorem dL_law_1452 : decode cL_law 1452 = .ok (.ireturn, 1) := by decide +kernel
theorem dL_law_1453 : decode cL_law 1453 = .ok (.iinc 4 3, 3) := by decide +kernel
theorem dL_law_1456 : decode cL_law 1456 = .ok (.goto (-1433), 3) := by decide +kernel
theorem dL_law_1459 : decode cL_law 1459 = .ok (.iconst 1, 1) := by decide +kernel
theorem dL_law_1460 : decode cL_law 1460 = .ok (.ireturn, 1) := by decide +kernel
abbrev vwCl : List vw_C := [(RX1, TX1, 5), (RX2, TX2, 5)]
end
section
/-! mine: ints as whole numbers, rows that keep a whole number beside each int, what stands round the cells -/
section Nums
theorem rg (x : Int32) : -2147483648 ≤ x.toInt ∧ x.toInt < 2147483648 := by
  have h1 := Int32.le_toInt x
  have h2 := Int32.toInt_lt x
  omega
theorem ia {x y : Int32} (h1 : -2147483648 ≤ x.toInt + y.toInt) (h2 : x.toInt + y.toInt < 2147483648) : (x + y).toInt = x.toInt + y.toInt := by
  rw [Int32.toInt_add]
  exact Int.bmod_eq_of_le (by omega) (by omega)
theorem isb {x y : Int32} (h1 : -2147483648 ≤ x.toInt - y.toInt) (h2 : x.toInt - y.toInt < 2147483648) : (x - y).toInt = x.toInt - y.toInt := by
  rw [Int32.toInt_sub]
  exact Int.bmod_eq_of_le (by omega) (by omega)
theorem i0 : (0 : Int32).toInt = 0 := by decide
theorem zle {x y : Int32} {a b : Int} (ha : x.toInt = a) (hb : y.toInt = b) : x ≤ y ↔ a ≤ b := by
  rw [Int32.le_iff_toInt_le, ha, hb]
theorem zlt {x y : Int32} {a b : Int} (ha : x.toInt = a) (hb : y.toInt = b) : x < y ↔ a < b := by
  rw [Int32.lt_iff_toInt_lt, ha, hb]
theorem zeq {x y : Int32} {a b : Int} (ha : x.toInt = a) (hb : y.toInt = b) : x = y ↔ a = b := by
  rw [← Int32.toInt_inj, ha, hb]
theorem nIe {x : Int32} {k : Nat} (h : x.toInt = (k : Int)) : x = nI k := by
  have h2 := (rg x).2
  rw [← Int32.toInt_inj, nI_toInt (by omega)]
  exact h
theorem clN {x : Int32} {k : Nat} (h : x.toInt = (k : Int)) : x.toNatClampNeg = k := by
  show x.toInt.toNat = k
  omega
def bI (b : Bool) : Int := if b then 1 else 0
theorem bI_t : bI true = 1 := rfl
theorem bI_f : bI false = 0 := rfl
theorem bI0 {b : Bool} (h : bI b = 0) : b = false := by
  cases b
  · rfl
  · exact absurd h (by decide)
theorem bI1 {b : Bool} (h : ¬ bI b = 0) : b = true := by
  cases b
  · exact absurd rfl h
  · rfl
theorem bI_in (b : Bool) : 0 ≤ bI b ∧ bI b ≤ 1 := by cases b <;> decide
/-- a truth value is kept by a boolean's narrowing -/
theorem bnar {x : Int32} {b : Bool} (h : x.toInt = bI b) : narrow .boolean (.int x) = .int x := by
  have hx : x = 0 ∨ x = 1 := by
    cases b
    · exact Or.inl (Int32.toInt_inj.mp h)
    · exact Or.inr (Int32.toInt_inj.mp h)
  rcases hx with rfl | rfl
  · decide +kernel
  · decide +kernel
end Nums
section Z
variable {p : Program} {l : Launch} {e : Env} {R : Room} {s : State} {m : MethodId} {args : Array Value} {below : List Frame} {meth : Method} {c : Code} {H : Heap} {locs : List Loc} {cells slots : Nat} {Q : State → Prop}
variable {cc : ByteArray} {pc : Nat} {ls : Array Slot} {rest : List Value}
theorem z_iadd (hexec : p.tables.exec = Jvm.exec) (hb : c.code = cc) {x y : Int32} {a b : Int} (hdg : decode cc pc = .ok (.iadd, 1)) (ha : x.toInt = a) (hb2 : y.toInt = b) (h1 : -2147483648 ≤ a + b) (h2 : a + b < 2147483648)
    (k : ∀ v : Int32, v.toInt = a + b → W p l e R s m args below meth c H locs cells slots Q (F0 m (pc + 1) ls (.int v :: rest))) : W p l e R s m args below meth c H locs cells slots Q (F0 m pc ls (.int y :: .int x :: rest)) := by
  subst ha
  subst hb2
  exact lv_iadd hexec hb hdg (k _ (ia h1 h2))
theorem z_isub (hexec : p.tables.exec = Jvm.exec) (hb : c.code = cc) {x y : Int32} {a b : Int} (hdg : decode cc pc = .ok (.isub, 1)) (ha : x.toInt = a) (hb2 : y.toInt = b) (h1 : -2147483648 ≤ a - b) (h2 : a - b < 2147483648)
    (k : ∀ v : Int32, v.toInt = a - b → W p l e R s m args below meth c H locs cells slots Q (F0 m (pc + 1) ls (.int v :: rest))) : W p l e R s m args below meth c H locs cells slots Q (F0 m pc ls (.int y :: .int x :: rest)) := by
  subst ha
  subst hb2
  exact lv_isub hexec hb hdg (k _ (isb h1 h2))
theorem z_iinc (hexec : p.tables.exec = Jvm.exec) (hb : c.code = cc) {i nL k : Nat} {n : Int} {x : Int32} {a : Int} {lv : List (Nat × Value)} {lv' : Int32 → List (Nat × Value)} (hdg : decode cc pc = .ok (.iinc i n, 3)) (h : lv_has ls nL lv) (hk : lv[k]? = some (i, .int x)) (ha : x.toInt = a) (hn0 : (Int32.ofInt n).toInt = n) (h1 : -2147483648 ≤ a + n) (h2 : a + n < 2147483648) (hn : i < nL)
    (hl : ∀ v : Int32, (i, Value.int v) :: lv.filter (fun q => !(q.1 == i) && !(q.1 + 1 == i && q.2.category == 2)) = lv' v)
    (kk : ∀ (v : Int32) (ls' : Array Slot), v.toInt = a + n → lv_has ls' nL (lv' v) → W p l e R s m args below meth c H locs cells slots Q (F0 m (pc + 3) ls' rest)) : W p l e R s m args below meth c H locs cells slots Q (F0 m pc ls rest) := by
  subst ha
  refine lv_iinc (v := x + Int32.ofInt n) (lv' := lv' (x + Int32.ofInt n)) hexec hb hdg h hk rfl hn (hl _) (fun ls' hl' => ?_)
  exact kk _ ls' (by rw [ia (by rw [hn0]; exact h1) (by rw [hn0]; exact h2), hn0]) hl'
theorem z_icmp_eq (hexec : p.tables.exec = Jvm.exec) (hb : c.code = cc) {x y : Int32} {a b : Int} {off : Int} {tgt : Nat} (hdg : decode cc pc = .ok (.if_icmp .eq off, 3)) (ht : (pc : Int) + off = (tgt : Int)) (ha : x.toInt = a) (hb2 : y.toInt = b)
    (kt : a = b → W p l e R s m args below meth c H locs cells slots Q (F0 m tgt ls rest)) (kf : ¬ a = b → W p l e R s m args below meth c H locs cells slots Q (F0 m (pc + 3) ls rest)) : W p l e R s m args below meth c H locs cells slots Q (F0 m pc ls (.int y :: .int x :: rest)) :=
  lv_icmp_eq hexec hb hdg ht (fun h => kt ((zeq ha hb2).mp h)) (fun h => kf (fun q => h ((zeq ha hb2).mpr q)))
theorem z_icmp_ne (hexec : p.tables.exec = Jvm.exec) (hb : c.code = cc) {x y : Int32} {a b : Int} {off : Int} {tgt : Nat} (hdg : decode cc pc = .ok (.if_icmp .ne off, 3)) (ht : (pc : Int) + off = (tgt : Int)) (ha : x.toInt = a) (hb2 : y.toInt = b)
    (kt : ¬ a = b → W p l e R s m args below meth c H locs cells slots Q (F0 m tgt ls rest)) (kf : a = b → W p l e R s m args below meth c H locs cells slots Q (F0 m (pc + 3) ls rest)) : W p l e R s m args below meth c H locs cells slots Q (F0 m pc ls (.int y :: .int x :: rest)) :=
  lv_icmp_ne hexec hb hdg ht (fun h => kt (fun q => h ((zeq ha hb2).mpr q))) (fun h => kf ((zeq ha hb2).mp h))
theorem z_icmp_lt (hexec : p.tables.exec = Jvm.exec) (hb : c.code = cc) {x y : Int32} {a b : Int} {off : Int} {tgt : Nat} (hdg : decode cc pc = .ok (.if_icmp .lt off, 3)) (ht : (pc : Int) + off = (tgt : Int)) (ha : x.toInt = a) (hb2 : y.toInt = b)
    (kt : a < b → W p l e R s m args below meth c H locs cells slots Q (F0 m tgt ls rest)) (kf : ¬ a < b → W p l e R s m args below meth c H locs cells slots Q (F0 m (pc + 3) ls rest)) : W p l e R s m args below meth c H locs cells slots Q (F0 m pc ls (.int y :: .int x :: rest)) :=
  lv_icmp_lt hexec hb hdg ht (fun h => kt ((zlt ha hb2).mp h)) (fun h => kf (fun q => h ((zlt ha hb2).mpr q)))
theorem z_icmp_ge (hexec : p.tables.exec = Jvm.exec) (hb : c.code = cc) {x y : Int32} {a b : Int} {off : Int} {tgt : Nat} (hdg : decode cc pc = .ok (.if_icmp .ge off, 3)) (ht : (pc : Int) + off = (tgt : Int)) (ha : x.toInt = a) (hb2 : y.toInt = b)
    (kt : b ≤ a → W p l e R s m args below meth c H locs cells slots Q (F0 m tgt ls rest)) (kf : ¬ b ≤ a → W p l e R s m args below meth c H locs cells slots Q (F0 m (pc + 3) ls rest)) : W p l e R s m args below meth c H locs cells slots Q (F0 m pc ls (.int y :: .int x :: rest)) :=
  lv_icmp_ge hexec hb hdg ht (fun h => kt ((zle hb2 ha).mp h)) (fun h => kf (fun q => h ((zle hb2 ha).mpr q)))
theorem z_icmp_gt (hexec : p.tables.exec = Jvm.exec) (hb : c.code = cc) {x y : Int32} {a b : Int} {off : Int} {tgt : Nat} (hdg : decode cc pc = .ok (.if_icmp .gt off, 3)) (ht : (pc : Int) + off = (tgt : Int)) (ha : x.toInt = a) (hb2 : y.toInt = b)
    (kt : b < a → W p l e R s m args below meth c H locs cells slots Q (F0 m tgt ls rest)) (kf : ¬ b < a → W p l e R s m args below meth c H locs cells slots Q (F0 m (pc + 3) ls rest)) : W p l e R s m args below meth c H locs cells slots Q (F0 m pc ls (.int y :: .int x :: rest)) :=
  lv_icmp_gt hexec hb hdg ht (fun h => kt ((zlt hb2 ha).mp h)) (fun h => kf (fun q => h ((zlt hb2 ha).mpr q)))
theorem z_icmp_le (hexec : p.tables.exec = Jvm.exec) (hb : c.code = cc) {x y : Int32} {a b : Int} {off : Int} {tgt : Nat} (hdg : decode cc pc = .ok (.if_icmp .le off, 3)) (ht : (pc : Int) + off = (tgt : Int)) (ha : x.toInt = a) (hb2 : y.toInt = b)
    (kt : a ≤ b → W p l e R s m args below meth c H locs cells slots Q (F0 m tgt ls rest)) (kf : ¬ a ≤ b → W p l e R s m args below meth c H locs cells slots Q (F0 m (pc + 3) ls rest)) : W p l e R s m args below meth c H locs cells slots Q (F0 m pc ls (.int y :: .int x :: rest)) :=
  lv_icmp_le hexec hb hdg ht (fun h => kt ((zle ha hb2).mp h)) (fun h => kf (fun q => h ((zle ha hb2).mpr q)))
theorem z_if_eq (hexec : p.tables.exec = Jvm.exec) (hb : c.code = cc) {x : Int32} {a : Int} {off : Int} {tgt : Nat} (hdg : decode cc pc = .ok (.ifCond .eq off, 3)) (ht : (pc : Int) + off = (tgt : Int)) (ha : x.toInt = a)
    (kt : a = 0 → W p l e R s m args below meth c H locs cells slots Q (F0 m tgt ls rest)) (kf : ¬ a = 0 → W p l e R s m args below meth c H locs cells slots Q (F0 m (pc + 3) ls rest)) : W p l e R s m args below meth c H locs cells slots Q (F0 m pc ls (.int x :: rest)) :=
  lv_if_eq hexec hb hdg ht (fun h => kt ((zeq ha i0).mp h)) (fun h => kf (fun q => h ((zeq ha i0).mpr q)))
theorem z_if_ne (hexec : p.tables.exec = Jvm.exec) (hb : c.code = cc) {x : Int32} {a : Int} {off : Int} {tgt : Nat} (hdg : decode cc pc = .ok (.ifCond .ne off, 3)) (ht : (pc : Int) + off = (tgt : Int)) (ha : x.toInt = a)
    (kt : ¬ a = 0 → W p l e R s m args below meth c H locs cells slots Q (F0 m tgt ls rest)) (kf : a = 0 → W p l e R s m args below meth c H locs cells slots Q (F0 m (pc + 3) ls rest)) : W p l e R s m args below meth c H locs cells slots Q (F0 m pc ls (.int x :: rest)) :=
  lv_if_ne hexec hb hdg ht (fun h => kt (fun q => h ((zeq ha i0).mpr q))) (fun h => kf ((zeq ha i0).mp h))
theorem z_if_lt (hexec : p.tables.exec = Jvm.exec) (hb : c.code = cc) {x : Int32} {a : Int} {off : Int} {tgt : Nat} (hdg : decode cc pc = .ok (.ifCond .lt off, 3)) (ht : (pc : Int) + off = (tgt : Int)) (ha : x.toInt = a)
    (kt : a < 0 → W p l e R s m args below meth c H locs cells slots Q (F0 m tgt ls rest)) (kf : ¬ a < 0 → W p l e R s m args below meth c H locs cells slots Q (F0 m (pc + 3) ls rest)) : W p l e R s m args below meth c H locs cells slots Q (F0 m pc ls (.int x :: rest)) :=
  lv_if_lt hexec hb hdg ht (fun h => kt ((zlt ha i0).mp h)) (fun h => kf (fun q => h ((zlt ha i0).mpr q)))
theorem z_if_ge (hexec : p.tables.exec = Jvm.exec) (hb : c.code = cc) {x : Int32} {a : Int} {off : Int} {tgt : Nat} (hdg : decode cc pc = .ok (.ifCond .ge off, 3)) (ht : (pc : Int) + off = (tgt : Int)) (ha : x.toInt = a)
    (kt : 0 ≤ a → W p l e R s m args below meth c H locs cells slots Q (F0 m tgt ls rest)) (kf : ¬ 0 ≤ a → W p l e R s m args below meth c H locs cells slots Q (F0 m (pc + 3) ls rest)) : W p l e R s m args below meth c H locs cells slots Q (F0 m pc ls (.int x :: rest)) :=
  lv_if_ge hexec hb hdg ht (fun h => kt ((zle i0 ha).mp h)) (fun h => kf (fun q => h ((zle i0 ha).mpr q)))
theorem z_if_gt (hexec : p.tables.exec = Jvm.exec) (hb : c.code = cc) {x : Int32} {a : Int} {off : Int} {tgt : Nat} (hdg : decode cc pc = .ok (.ifCond .gt off, 3)) (ht : (pc : Int) + off = (tgt : Int)) (ha : x.toInt = a)
    (kt : 0 < a → W p l e R s m args below meth c H locs cells slots Q (F0 m tgt ls rest)) (kf : ¬ 0 < a → W p l e R s m args below meth c H locs cells slots Q (F0 m (pc + 3) ls rest)) : W p l e R s m args below meth c H locs cells slots Q (F0 m pc ls (.int x :: rest)) :=
  lv_if_gt hexec hb hdg ht (fun h => kt ((zlt i0 ha).mp h)) (fun h => kf (fun q => h ((zlt i0 ha).mpr q)))
theorem z_if_le (hexec : p.tables.exec = Jvm.exec) (hb : c.code = cc) {x : Int32} {a : Int} {off : Int} {tgt : Nat} (hdg : decode cc pc = .ok (.ifCond .le off, 3)) (ht : (pc : Int) + off = (tgt : Int)) (ha : x.toInt = a)
    (kt : a ≤ 0 → W p l e R s m args below meth c H locs cells slots Q (F0 m tgt ls rest)) (kf : ¬ a ≤ 0 → W p l e R s m args below meth c H locs cells slots Q (F0 m (pc + 3) ls rest)) : W p l e R s m args below meth c H locs cells slots Q (F0 m pc ls (.int x :: rest)) :=
  lv_if_le hexec hb hdg ht (fun h => kt ((zle ha i0).mp h)) (fun h => kf (fun q => h ((zle ha i0).mpr q)))
theorem zb_if_eq (hexec : p.tables.exec = Jvm.exec) (hb : c.code = cc) {x : Int32} {b : Bool} {off : Int} {tgt : Nat} (hdg : decode cc pc = .ok (.ifCond .eq off, 3)) (ht : (pc : Int) + off = (tgt : Int)) (ha : x.toInt = bI b)
    (kt : b = false → W p l e R s m args below meth c H locs cells slots Q (F0 m tgt ls rest)) (kf : b = true → W p l e R s m args below meth c H locs cells slots Q (F0 m (pc + 3) ls rest)) : W p l e R s m args below meth c H locs cells slots Q (F0 m pc ls (.int x :: rest)) :=
  z_if_eq hexec hb hdg ht ha (fun h => kt (bI0 h)) (fun h => kf (bI1 h))
theorem zb_if_ne (hexec : p.tables.exec = Jvm.exec) (hb : c.code = cc) {x : Int32} {b : Bool} {off : Int} {tgt : Nat} (hdg : decode cc pc = .ok (.ifCond .ne off, 3)) (ht : (pc : Int) + off = (tgt : Int)) (ha : x.toInt = bI b)
    (kt : b = true → W p l e R s m args below meth c H locs cells slots Q (F0 m tgt ls rest)) (kf : b = false → W p l e R s m args below meth c H locs cells slots Q (F0 m (pc + 3) ls rest)) : W p l e R s m args below meth c H locs cells slots Q (F0 m pc ls (.int x :: rest)) :=
  z_if_ne hexec hb hdg ht ha (fun h => kt (bI1 h)) (fun h => kf (bI0 h))
variable {D : va_G} {cl : List vw_C} {tys : List (ClassId × FieldType)} {ws : va_W} {a : Nat} {A : Nat → Prop} {H0 : Heap}
theorem z_iald (hexec : p.tables.exec = Jvm.exec) (hb : c.code = cc) (hK : va_K D cl tys s) (hP : va_P D cl ws H) (q0 t0 : Nat) {cA : ClassId} {n : Nat} {f : Nat → Int32} (ha : ws[q0]? = some (a, .inl (cA, n, .inl f))) (ht : tys[t0]? = some (cA, .int)) {i : Int32} {z : Int} (k : Nat) (hi : i.toInt = z) (hz : z = (k : Int)) (hk : k < n) (hdg : decode cc pc = .ok (.iaload, 1))
    (kk : W p l e R s m args below meth c H locs cells slots Q (F0 m (pc + 1) ls (.int (f k) :: rest))) : W p l e R s m args below meth c H locs cells slots Q (F0 m pc ls (.int i :: .ref a :: rest)) := by
  have h1 : i.toInt = (k : Int) := hi.trans hz
  refine va_iald hexec hb hK hP q0 t0 ha ht (vp_in_iff.mpr ⟨by omega, by omega⟩) hdg ?_
  rw [clN h1]
  exact kk
theorem z_iast (hexec : p.tables.exec = Jvm.exec) (hb : c.code = cc) (hK : va_K D cl tys s) (hP : va_P D cl ws H) (hD : va_D A ws) (hS : va_S A H0 H locs) (q0 t0 : Nat) {cA : ClassId} {n : Nat} {f : Nat → Int32} (ha : ws[q0]? = some (a, .inl (cA, n, .inl f))) (ht : tys[t0]? = some (cA, .int)) {i : Int32} {x : Int32} {z : Int} (k : Nat) (hi : i.toInt = z) (hz : z = (k : Int)) (hk : k < n) (hdg : decode cc pc = .ok (.iastore, 1))
    (kk : ∀ (H1 : Heap) (locs1 : List Loc), va_P D cl (ws.set q0 (a, .inl (cA, n, .inl (upd f k x)))) H1 → va_D A (ws.set q0 (a, .inl (cA, n, .inl (upd f k x)))) → va_S A H0 H1 locs1 → W p l e R s m args below meth c H1 locs1 cells slots Q (F0 m (pc + 1) ls rest)) : W p l e R s m args below meth c H locs cells slots Q (F0 m pc ls (.int x :: .int i :: .ref a :: rest)) := by
  have h1 : i.toInt = (k : Int) := hi.trans hz
  refine va_iast hexec hb hK hP hD hS q0 t0 ha ht (vp_in_iff.mpr ⟨by omega, by omega⟩) hdg ?_
  rw [clN h1]
  exact kk
/-- the top int, by another name -/
theorem lv_as {x y : Int32} (h : x = y) (k : W p l e R s m args below meth c H locs cells slots Q (F0 m pc ls (.int y :: rest))) : W p l e R s m args below meth c H locs cells slots Q (F0 m pc ls (.int x :: rest)) := by
  rw [h]; exact k
end Z
section Round
def xIAE : String := "java/lang/IllegalArgumentException"
def xISE : String := "java/lang/IllegalStateException"
def xIOB : String := "java/lang/IndexOutOfBoundsException"
def xN : List String := ["java/lang/RuntimeException", "java/lang/Exception"]
def xE : List String := ["java/lang/RuntimeException", "java/lang/Exception", "java/lang/Throwable"]
def xC : List String := ["java/lang/IllegalArgumentException", "java/lang/IllegalStateException", "java/lang/IndexOutOfBoundsException"]
def xS : List (Nat × String) := [(145, "symbol is out of range"), (32, "the text is full"), (39, "many is below 1"), (149, "the text has no such part"), (46, "the text would be too long"), (56, "no such symbol in the text"), (59, "the pattern is full"), (147, "no such symbol in the pattern"), (64, "many is out of range"), (70, "power is below 0"), (151, "no such place"), (156, "no such match"), (106, "letter is out of range"), (112, "from is below 0"), (117, "index is out of range"), (119, "from is out of range"), (124, "bound is below 0"), (126, "no such rank"), (140, "period is below 1")]
/-- what the tables and the pool say of throwing, catching and texts -/
def EnvV (U : State) : Prop := (∀ X ∈ xE, va_Nw (.declares (Bundle.initS X)) U) ∧ (∀ X ∈ xC, va_Nw (.castable X X) U) ∧ (∀ q ∈ xS, ∃ a, vk_R RX1 q.1 q.2 a U) ∧ (∀ X ∈ xC, ∀ Y ∈ xC, X ≠ Y → va_Nc X Y U)
/-- the static fields that are read -/
def EnvH (E : Nat × Nat × Nat) (A : Nat → Prop) (U : State) (H : Heap) : Prop := vx_Zq Bundle.tN "UNASSIGNED_STACK" Bundle.steD A U H ∧ vx_Zq Bundle.tN "SUPPRESSED_SENTINEL" Bundle.listD A U H ∧ va_Z RX0 "SYMBOLS" "LBlankMatcher$Likeness;" (.ref E.1) A U H ∧ va_Z RX0 "SUM" "LBlankMatcher$Likeness;" (.ref E.2.1) A U H ∧ va_Z RX0 "ORDER" "LBlankMatcher$Likeness;" (.ref E.2.2) A U H
def XEnv (E : Nat × Nat × Nat) (A : Nat → Prop) (U : State) (H : Heap) : Prop := EnvV U ∧ EnvH E A U H
theorem EnvV.warm {s U : State} (hW : s.WarmedH U.vm) (h : EnvV s) : EnvV U :=
  ⟨fun X hX => va_Nw.warmD hW (h.1 X hX), fun X hX => va_Nw.warmC hW (h.2.1 X hX), fun q hq => (h.2.2.1 q hq).elim (fun a ha => ⟨a, vk_R.warm hW ha⟩), fun X hX Y hY n => va_Nc.moved hW.alike (h.2.2.2 X hX Y hY n)⟩
theorem EnvH.moved {E : Nat × Nat × Nat} {A : Nat → Prop} {s U : State} {H : Heap} (hvm : s.vm.Alike U.vm) (h : EnvH E A s H) : EnvH E A U H :=
  ⟨vx_Zq.moved hvm h.1, vx_Zq.moved hvm h.2.1, va_Z.moved hvm h.2.2.1, va_Z.moved hvm h.2.2.2.1, va_Z.moved hvm h.2.2.2.2⟩
theorem EnvH.kept {E : Nat × Nat × Nat} {A : Nat → Prop} {s : State} {H H1 : Heap} (hq : ∀ a : Nat, a < H.size → ¬ A a → H1[a]? = H[a]?) (h : EnvH E A s H) : EnvH E A s H1 :=
  ⟨vx_Zq.kept h.1 hq, vx_Zq.kept h.2.1 hq, va_Z.kept h.2.2.1 hq, va_Z.kept h.2.2.2.1 hq, va_Z.kept h.2.2.2.2 hq⟩
theorem EnvH.narrow {E : Nat × Nat × Nat} {A B : Nat → Prop} {s : State} {H : Heap} (hq : ∀ q, B q → A q) (h : EnvH E A s H) : EnvH E B s H :=
  ⟨vx_Zq.narrow h.1 hq, vx_Zq.narrow h.2.1 hq, va_Z.narrow h.2.2.1 hq, va_Z.narrow h.2.2.2.1 hq, va_Z.narrow h.2.2.2.2 hq⟩
/-- a contract's start: so many cells, the world ws, the tables, what stands round it; A is what the method may write -/
def cp (D : va_G) (ws : va_W) (tys : List (ClassId × FieldType)) (E : Nat × Nat × Nat) (A : Nat → Prop) (sz : Nat) (U : State) : Prop := U.heap.size = sz ∧ va_P D vwCl ws U.heap ∧ va_K D vwCl tys U ∧ XEnv E A U U.heap
theorem cp.blind {av : List Value} {D : va_G} {ws : va_W} {tys : List (ClassId × FieldType)} {E : Nat × Nat × Nat} {A : Nat → Prop} {sz : Nat} : FrameBlind (va_Pc av (cp D ws tys E A sz)) := fun a U g mk q => by
  obtain ⟨q0, q1, q2, q3, q4, q5⟩ := q
  exact ⟨q0, q1, q2, va_K.moved (u := U) (U := U.calling g mk a) (Vm.Alike.refl U.vm) q3, EnvV.warm (s := U) (U := U.calling g mk a) (State.WarmedH.refl U) q4, EnvH.moved (s := U) (U := U.calling g mk a) (Vm.Alike.refl U.vm) q5⟩
theorem cp.call {D : va_G} {ws : va_W} {tys : List (ClassId × FieldType)} {E : Nat × Nat × Nat} {A0 A1 : Nat → Prop} {s U : State} {H : Heap} {locs : List Loc} (hP : va_P D vwCl ws H) (hK : va_K D vwCl tys s) (hE : XEnv E A0 s s.heap) (hS : va_S A0 s.heap H locs) (hF : ∀ q, A1 q → A0 q) (hU : U.heap = H) (hW : s.WarmedH U.vm) : cp D ws tys E A1 H.size U := by
  refine ⟨by rw [hU], by rw [hU]; exact hP, va_K.moved hW.alike hK, EnvV.warm hW hE.1, ?_⟩
  rw [hU]
  exact EnvH.moved hW.alike (EnvH.narrow hF (EnvH.kept hS.2.1 hE.2))
theorem nA {q sz : Nat} (h : q < sz) : ¬ va_A [] sz q := fun z => by
  rcases z with ⟨k, e, h1⟩ | h1
  · cases h1
  · omega
theorem kp {D : va_G} {cl : List vw_C} {ws : va_W} {H H1 : Heap} (hP : va_P D cl ws H) (hk : ∀ q : Nat, q < H.size → ¬ va_A [] H.size q → H1[q]? = H[q]?) : va_P D cl ws H1 :=
  hP.kept (fun k q hq => hk q.1 (hP k q hq).lt (nA (hP k q hq).lt))
/-- what a reader may write is new -/
theorem fr0 {A0 : Nat → Prop} {H0 H : Heap} {locs : List Loc} (hS : va_S A0 H0 H locs) (hA : ∀ q, H0.size ≤ q → A0 q) : ∀ q, va_A [] H.size q → A0 q := fun q z => by
  rcases z with ⟨k, e, h1⟩ | h1
  · cases h1
  · exact hA q (Nat.le_trans hS.1 h1)
end Round
end
section
section Round2
abbrev XW (h0 h1 h2 h3 : Nat) (c1 c2 c3 : ClassId) (n w : Nat) (T P M : Nat → Int32) : va_W := [(h0, .inr (0, [.ref h1, .ref h2, .ref h3, .int (nI n), .int (nI w)])), (h1, .inl (c1, 64, .inl T)), (h2, .inl (c2, 24, .inl P)), (h3, .inl (c3, 65, .inl M))]
abbrev XT (c1 c2 c3 : ClassId) : List (ClassId × FieldType) := [(c1, .int), (c2, .int), (c3, .int)]
abbrev MW (g0 g1 g2 : Nat) (c4 c5 : ClassId) (th : Int32) (n w : Nat) (T P : Nat → Int32) : va_W := [(g0, .inr (1, [.int th, .ref g1, .ref g2, .int (nI n), .int (nI w)])), (g1, .inl (c4, 64, .inl T)), (g2, .inl (c5, 24, .inl P))]
abbrev MT (c4 c5 : ClassId) : List (ClassId × FieldType) := [(c4, .int), (c5, .int)]
def cz (sz : Nat) (U : State) : Prop := U.heap.size = sz
theorem cz.blind {av : List Value} {sz : Nat} : FrameBlind (va_Pc av (cz sz)) := fun _ _ _ _ q => q
theorem cz.call {U : State} {H : Heap} (h : U.heap = H) : cz H.size U := by subst h; rfl
/-- what a thrower says of the world: nothing old was written, and why it threw -/
def tX (Px : String → Prop) (sz : Nat) : String → State → State → Prop := vx_X (fun _ : Unit => True) (fun X _ _ => Px X) (va_A [] sz)
theorem nA0 {ws : va_W} {q sz : Nat} (h : va_A [] sz q) : va_A ws sz q := by
  rcases h with ⟨k, e, h1⟩ | h1
  · cases h1
  · exact Or.inr h1
theorem va_S.mono0 {A B : Nat → Prop} {H0 H : Heap} {locs : List Loc} (h : va_S A H0 H locs) (hq : ∀ q, A q → B q) : va_S B H0 H locs := ⟨h.1, fun q h1 h2 => h.2.1 q h1 (fun z => h2 (hq q z)), fun z hz => hq _ (h.2.2 z hz)⟩
theorem XEnv.narrow0 {E : Nat × Nat × Nat} {A B : Nat → Prop} {s : State} {H : Heap} (h : XEnv E A s H) (hq : ∀ q, B q → A q) : XEnv E B s H := ⟨h.1, EnvH.narrow hq h.2⟩
theorem tX.out {Px : String → Prop} {X : String} {s t : State} {H1 : Heap} {locs1 : List Loc} (hS : va_S (va_A [] s.heap.size) s.heap H1 locs1) (ht : t.heap = H1) (h : Px X) : tX Px s.heap.size X s t := ⟨(), trivial, h, hS.F ht⟩
theorem xS_145 : ((145 : Nat), "symbol is out of range") ∈ xS := List.mem_of_getElem? (i := 0) rfl
theorem xS_32 : ((32 : Nat), "the text is full") ∈ xS := List.mem_of_getElem? (i := 1) rfl
theorem xS_39 : ((39 : Nat), "many is below 1") ∈ xS := List.mem_of_getElem? (i := 2) rfl
theorem xS_149 : ((149 : Nat), "the text has no such part") ∈ xS := List.mem_of_getElem? (i := 3) rfl
theorem xS_46 : ((46 : Nat), "the text would be too long") ∈ xS := List.mem_of_getElem? (i := 4) rfl
theorem xS_56 : ((56 : Nat), "no such symbol in the text") ∈ xS := List.mem_of_getElem? (i := 5) rfl
theorem xS_59 : ((59 : Nat), "the pattern is full") ∈ xS := List.mem_of_getElem? (i := 6) rfl
theorem xS_147 : ((147 : Nat), "no such symbol in the pattern") ∈ xS := List.mem_of_getElem? (i := 7) rfl
theorem xS_64 : ((64 : Nat), "many is out of range") ∈ xS := List.mem_of_getElem? (i := 8) rfl
theorem xS_70 : ((70 : Nat), "power is below 0") ∈ xS := List.mem_of_getElem? (i := 9) rfl
theorem xS_151 : ((151 : Nat), "no such place") ∈ xS := List.mem_of_getElem? (i := 10) rfl
theorem xS_156 : ((156 : Nat), "no such match") ∈ xS := List.mem_of_getElem? (i := 11) rfl
theorem xS_106 : ((106 : Nat), "letter is out of range") ∈ xS := List.mem_of_getElem? (i := 12) rfl
theorem xS_112 : ((112 : Nat), "from is below 0") ∈ xS := List.mem_of_getElem? (i := 13) rfl
theorem xS_117 : ((117 : Nat), "index is out of range") ∈ xS := List.mem_of_getElem? (i := 14) rfl
theorem xS_119 : ((119 : Nat), "from is out of range") ∈ xS := List.mem_of_getElem? (i := 15) rfl
theorem xS_124 : ((124 : Nat), "bound is below 0") ∈ xS := List.mem_of_getElem? (i := 16) rfl
theorem xS_126 : ((126 : Nat), "no such rank") ∈ xS := List.mem_of_getElem? (i := 17) rfl
theorem xS_140 : ((140 : Nat), "period is below 1") ∈ xS := List.mem_of_getElem? (i := 18) rfl
section Thr
variable {p : Program} {l : Launch} {e : Env} {R : Room} {s : State} {m : MethodId} {args : Array Value} {below : List Frame} {meth : Method} {c : Code} {H : Heap} {locs : List Loc} {cells slots : Nat}
variable {cc : ByteArray} {pc mc ms : Nat} {ls : Array Slot} {rest : List Value} {Qc : Array Value → State → Outcome → State → Prop} {free : Addr → Prop} {Px : String → Prop} {E : Nat × Nat × Nat} {Ts : List Cond} {si : Nat} {text : String}
theorem xIAE_good : ∀ w ∈ Cond.classLink RX1 37 "java/lang/IllegalArgumentException" :: Cond.initialized "java/lang/IllegalArgumentException" :: (vx_atS RX1 41 "java/lang/IllegalArgumentException" ["java/lang/RuntimeException", "java/lang/Exception"]), vx_ot w = true := by decide +kernel
theorem xIAE_rest : ∀ w ∈ (vx_atS RX1 41 "java/lang/IllegalArgumentException" ["java/lang/RuntimeException", "java/lang/Exception"]).filter (fun w => !goodWord w), w ∈ [Cond.declares (Bundle.initS "java/lang/RuntimeException"), Cond.declares (Bundle.initS "java/lang/Exception"), Cond.declares (Bundle.initS "java/lang/Throwable"), Cond.castable "java/lang/IllegalArgumentException" "java/lang/IllegalArgumentException"] := by decide +kernel
theorem xIAE_throw (hexec : p.tables.exec = Jvm.exec) (hb : c.code = cc) (hl : l.stackTraces = false) (hown : s.vm.findClass RX1 = some m.cls) (hts : ∀ w ∈ Ts, w.before args s = true)
    (hin : ∀ w ∈ Cond.classLink RX1 37 "java/lang/IllegalArgumentException" :: Cond.initialized "java/lang/IllegalArgumentException" :: (vx_atS RX1 41 "java/lang/IllegalArgumentException" ["java/lang/RuntimeException", "java/lang/Exception"]).filter goodWord, w ∈ Ts) (hE : XEnv E (va_A [] s.heap.size) s s.heap) (hS : va_S (va_A [] s.heap.size) s.heap H locs) (hsize : ls.size = c.maxLocals) (hnt : ∀ x ∈ c.exceptionTable.toList, False)
    (d0 : decode cc pc = .ok (.new 37, 3)) (d3 : decode cc (pc + 3) = .ok (.dup, 1)) (d4 : decode cc (pc + 4) = .ok (.ldc si, 2)) (d6 : decode cc (pc + 6) = .ok (.invokespecial 41, 3)) (d9 : decode cc (pc + 9) = .ok (.athrow, 1)) (hq : (si, text) ∈ xS)
    (hRframes : 6 ≤ R.frames) (hRlocals : (rest.map fun v => v.category).sum + 82 ≤ R.locals) (hRcells : cells + 1 ≤ R.cells) (hRslots : slots + 6 ≤ R.slots) (hlocks : meth.locks = false) (hPx : Px "java/lang/IllegalArgumentException")
    (hf : ∀ z ∈ locs, free z.base) (hc : cells + 1 ≤ mc) (hs : slots + 6 ≤ ms) :
    W p l e R s m args below meth c H locs cells slots (vx_MQ below Qc (tX Px s.heap.size) args s mc ms free) (F0 m pc ls rest) := by
  obtain ⟨sa, hsa⟩ := hE.1.2.2.1 _ hq
  refine vx_throwS (names := ["java/lang/RuntimeException", "java/lang/Exception"]) (cls := "java/lang/IllegalArgumentException") (text := text) (sa := sa) (A := va_A [] s.heap.size) hexec hb hl hown (by decide +kernel) (by decide +kernel) (hts _ (hin _ List.mem_cons_self)) (hts _ (hin _ (List.mem_cons_of_mem _ List.mem_cons_self))) hsa ?_ xIAE_good hE.2.1 hE.2.2.1 hS hsize d0 d3 d4 d6 d9 (fun x h => (hnt x h).elim) hRframes hRlocals hRcells hRslots hlocks ?_ hf hc hs
  · exact vx_hat (fun w hw => hts w (hin w (List.mem_cons_of_mem _ (List.mem_cons_of_mem _ hw)))) xIAE_rest (vx_c (va_Nw.use rfl (hE.1.1 _ (by simp [xE]))) (vx_c (va_Nw.use rfl (hE.1.1 _ (by simp [xE]))) (vx_c (va_Nw.use rfl (hE.1.1 _ (by simp [xE]))) (vx_c (va_Nw.use rfl (hE.1.2.1 _ (by simp [xC]))) vx_n))))
  · exact fun t _ hz hq2 => ⟨(), trivial, hPx, Nat.le_trans hS.1 hz, fun q h1 h2 => by rw [hq2 q (Nat.lt_of_lt_of_le h1 hS.1)]; exact hS.2.1 q h1 h2⟩
theorem xISE_good : ∀ w ∈ Cond.classLink RX1 30 "java/lang/IllegalStateException" :: Cond.initialized "java/lang/IllegalStateException" :: (vx_atS RX1 34 "java/lang/IllegalStateException" ["java/lang/RuntimeException", "java/lang/Exception"]), vx_ot w = true := by decide +kernel
theorem xISE_rest : ∀ w ∈ (vx_atS RX1 34 "java/lang/IllegalStateException" ["java/lang/RuntimeException", "java/lang/Exception"]).filter (fun w => !goodWord w), w ∈ [Cond.declares (Bundle.initS "java/lang/RuntimeException"), Cond.declares (Bundle.initS "java/lang/Exception"), Cond.declares (Bundle.initS "java/lang/Throwable"), Cond.castable "java/lang/IllegalStateException" "java/lang/IllegalStateException"] := by decide +kernel
theorem xISE_throw (hexec : p.tables.exec = Jvm.exec) (hb : c.code = cc) (hl : l.stackTraces = false) (hown : s.vm.findClass RX1 = some m.cls) (hts : ∀ w ∈ Ts, w.before args s = true)
    (hin : ∀ w ∈ Cond.classLink RX1 30 "java/lang/IllegalStateException" :: Cond.initialized "java/lang/IllegalStateException" :: (vx_atS RX1 34 "java/lang/IllegalStateException" ["java/lang/RuntimeException", "java/lang/Exception"]).filter goodWord, w ∈ Ts) (hE : XEnv E (va_A [] s.heap.size) s s.heap) (hS : va_S (va_A [] s.heap.size) s.heap H locs) (hsize : ls.size = c.maxLocals) (hnt : ∀ x ∈ c.exceptionTable.toList, False)
    (d0 : decode cc pc = .ok (.new 30, 3)) (d3 : decode cc (pc + 3) = .ok (.dup, 1)) (d4 : decode cc (pc + 4) = .ok (.ldc si, 2)) (d6 : decode cc (pc + 6) = .ok (.invokespecial 34, 3)) (d9 : decode cc (pc + 9) = .ok (.athrow, 1)) (hq : (si, text) ∈ xS)
    (hRframes : 6 ≤ R.frames) (hRlocals : (rest.map fun v => v.category).sum + 82 ≤ R.locals) (hRcells : cells + 1 ≤ R.cells) (hRslots : slots + 6 ≤ R.slots) (hlocks : meth.locks = false) (hPx : Px "java/lang/IllegalStateException")
    (hf : ∀ z ∈ locs, free z.base) (hc : cells + 1 ≤ mc) (hs : slots + 6 ≤ ms) :
    W p l e R s m args below meth c H locs cells slots (vx_MQ below Qc (tX Px s.heap.size) args s mc ms free) (F0 m pc ls rest) := by
  obtain ⟨sa, hsa⟩ := hE.1.2.2.1 _ hq
  refine vx_throwS (names := ["java/lang/RuntimeException", "java/lang/Exception"]) (cls := "java/lang/IllegalStateException") (text := text) (sa := sa) (A := va_A [] s.heap.size) hexec hb hl hown (by decide +kernel) (by decide +kernel) (hts _ (hin _ List.mem_cons_self)) (hts _ (hin _ (List.mem_cons_of_mem _ List.mem_cons_self))) hsa ?_ xISE_good hE.2.1 hE.2.2.1 hS hsize d0 d3 d4 d6 d9 (fun x h => (hnt x h).elim) hRframes hRlocals hRcells hRslots hlocks ?_ hf hc hs
  · exact vx_hat (fun w hw => hts w (hin w (List.mem_cons_of_mem _ (List.mem_cons_of_mem _ hw)))) xISE_rest (vx_c (va_Nw.use rfl (hE.1.1 _ (by simp [xE]))) (vx_c (va_Nw.use rfl (hE.1.1 _ (by simp [xE]))) (vx_c (va_Nw.use rfl (hE.1.1 _ (by simp [xE]))) (vx_c (va_Nw.use rfl (hE.1.2.1 _ (by simp [xC]))) vx_n))))
  · exact fun t _ hz hq2 => ⟨(), trivial, hPx, Nat.le_trans hS.1 hz, fun q h1 h2 => by rw [hq2 q (Nat.lt_of_lt_of_le h1 hS.1)]; exact hS.2.1 q h1 h2⟩
theorem xIOB_good : ∀ w ∈ Cond.classLink RX1 54 "java/lang/IndexOutOfBoundsException" :: Cond.initialized "java/lang/IndexOutOfBoundsException" :: (vx_atS RX1 58 "java/lang/IndexOutOfBoundsException" ["java/lang/RuntimeException", "java/lang/Exception"]), vx_ot w = true := by decide +kernel
theorem xIOB_rest : ∀ w ∈ (vx_atS RX1 58 "java/lang/IndexOutOfBoundsException" ["java/lang/RuntimeException", "java/lang/Exception"]).filter (fun w => !goodWord w), w ∈ [Cond.declares (Bundle.initS "java/lang/RuntimeException"), Cond.declares (Bundle.initS "java/lang/Exception"), Cond.declares (Bundle.initS "java/lang/Throwable"), Cond.castable "java/lang/IndexOutOfBoundsException" "java/lang/IndexOutOfBoundsException"] := by decide +kernel
theorem xIOB_throw (hexec : p.tables.exec = Jvm.exec) (hb : c.code = cc) (hl : l.stackTraces = false) (hown : s.vm.findClass RX1 = some m.cls) (hts : ∀ w ∈ Ts, w.before args s = true)
    (hin : ∀ w ∈ Cond.classLink RX1 54 "java/lang/IndexOutOfBoundsException" :: Cond.initialized "java/lang/IndexOutOfBoundsException" :: (vx_atS RX1 58 "java/lang/IndexOutOfBoundsException" ["java/lang/RuntimeException", "java/lang/Exception"]).filter goodWord, w ∈ Ts) (hE : XEnv E (va_A [] s.heap.size) s s.heap) (hS : va_S (va_A [] s.heap.size) s.heap H locs) (hsize : ls.size = c.maxLocals) (hnt : ∀ x ∈ c.exceptionTable.toList, False)
    (d0 : decode cc pc = .ok (.new 54, 3)) (d3 : decode cc (pc + 3) = .ok (.dup, 1)) (d4 : decode cc (pc + 4) = .ok (.ldc si, 2)) (d6 : decode cc (pc + 6) = .ok (.invokespecial 58, 3)) (d9 : decode cc (pc + 9) = .ok (.athrow, 1)) (hq : (si, text) ∈ xS)
    (hRframes : 6 ≤ R.frames) (hRlocals : (rest.map fun v => v.category).sum + 82 ≤ R.locals) (hRcells : cells + 1 ≤ R.cells) (hRslots : slots + 6 ≤ R.slots) (hlocks : meth.locks = false) (hPx : Px "java/lang/IndexOutOfBoundsException")
    (hf : ∀ z ∈ locs, free z.base) (hc : cells + 1 ≤ mc) (hs : slots + 6 ≤ ms) :
    W p l e R s m args below meth c H locs cells slots (vx_MQ below Qc (tX Px s.heap.size) args s mc ms free) (F0 m pc ls rest) := by
  obtain ⟨sa, hsa⟩ := hE.1.2.2.1 _ hq
  refine vx_throwS (names := ["java/lang/RuntimeException", "java/lang/Exception"]) (cls := "java/lang/IndexOutOfBoundsException") (text := text) (sa := sa) (A := va_A [] s.heap.size) hexec hb hl hown (by decide +kernel) (by decide +kernel) (hts _ (hin _ List.mem_cons_self)) (hts _ (hin _ (List.mem_cons_of_mem _ List.mem_cons_self))) hsa ?_ xIOB_good hE.2.1 hE.2.2.1 hS hsize d0 d3 d4 d6 d9 (fun x h => (hnt x h).elim) hRframes hRlocals hRcells hRslots hlocks ?_ hf hc hs
  · exact vx_hat (fun w hw => hts w (hin w (List.mem_cons_of_mem _ (List.mem_cons_of_mem _ hw)))) xIOB_rest (vx_c (va_Nw.use rfl (hE.1.1 _ (by simp [xE]))) (vx_c (va_Nw.use rfl (hE.1.1 _ (by simp [xE]))) (vx_c (va_Nw.use rfl (hE.1.1 _ (by simp [xE]))) (vx_c (va_Nw.use rfl (hE.1.2.1 _ (by simp [xC]))) vx_n))))
  · exact fun t _ hz hq2 => ⟨(), trivial, hPx, Nat.le_trans hS.1 hz, fun q h1 h2 => by rw [hq2 q (Nat.lt_of_lt_of_le h1 hS.1)]; exact hS.2.1 q h1 h2⟩
end Thr
end Round2
end
section
/-! mine: what the calls answer, as plain functions of the text T (n symbols) and the pattern P (w symbols) -/
section Math
def SymF (f : Nat → Int32) : Prop := ∀ j, 0 ≤ (f j).toInt ∧ (f j).toInt ≤ 26
theorem SymF.upd {f : Nat → Int32} (h : SymF f) (k : Nat) {x : Int32} (hx : 0 ≤ x.toInt ∧ x.toInt ≤ 26) : SymF (upd f k x) := fun j => by
  by_cases q : j = k
  · rw [q, pk_us]; exact hx
  · rw [pk_un q]; exact h j
theorem SymF.cpy {f g : Nat → Int32} (hf : SymF f) (hg : SymF g) (sp dp n : Nat) : SymF (va_cpy f g sp dp n) := fun j => by
  by_cases q : dp ≤ j ∧ j < dp + n
  · rw [pk_cpy_in q.1 q.2]; exact hf _
  · rw [pk_cpy_out (by omega)]; exact hg _
theorem cpy_0 {f g : Nat → Int32} {sp dp : Nat} : va_cpy f g sp dp 0 = g := funext fun j => pk_cpy_out (by omega)
theorem cpy_s {f g : Nat → Int32} {sp dp k : Nat} {x : Int32} (hx : x = f (sp + k)) : upd (va_cpy f g sp dp k) (dp + k) x = va_cpy f g sp dp (k + 1) := funext fun j => by
  by_cases q : j = dp + k
  · subst q
    rw [pk_us, pk_cpy_in (by omega) (by omega), hx]
    exact congrArg f (by omega)
  · rw [pk_un q]
    by_cases q2 : dp ≤ j ∧ j < dp + k
    · rw [pk_cpy_in q2.1 q2.2, pk_cpy_in q2.1 (by omega)]
    · rw [pk_cpy_out (by omega), pk_cpy_out (by omega)]
def ag (x y : Int32) : Bool := decide (x = y) || decide (x = 0) || decide (y = 0)
theorem ag_eq {x y : Int32} (h : x.toInt = y.toInt) : ag x y = true := by
  have : x = y := Int32.toInt_inj.mp h
  simp [ag, this]
theorem ag_l {x y : Int32} (h : x.toInt = 0) : ag x y = true := by
  have : x = 0 := Int32.toInt_inj.mp h
  simp [ag, this]
theorem ag_r {x y : Int32} (h : y.toInt = 0) : ag x y = true := by
  have : y = 0 := Int32.toInt_inj.mp h
  simp [ag, this]
theorem ag_no {x y : Int32} (h1 : ¬ x.toInt = y.toInt) (h2 : ¬ x.toInt = 0) (h3 : ¬ y.toInt = 0) : ag x y = false := by
  have q1 : ¬ x = y := fun q => h1 (congrArg _ q)
  have q2 : ¬ x = 0 := fun q => h2 (congrArg _ q)
  have q3 : ¬ y = 0 := fun q => h3 (congrArg _ q)
  simp [ag, q1, q2, q3]
theorem ag_symm (x y : Int32) : ag x y = ag y x := by
  by_cases h : x = y
  · rw [h]
  · have h2 : ¬ y = x := fun q => h q.symm
    simp [ag, h, h2, Bool.or_comm]
def cnt (f : Nat → Bool) : Nat → Nat
  | 0 => 0
  | k + 1 => cnt f k + (if f k then 1 else 0)
theorem cnt_0 (f : Nat → Bool) : cnt f 0 = 0 := rfl
theorem cnt_t {f : Nat → Bool} {k : Nat} (h : f k = true) : cnt f (k + 1) = cnt f k + 1 := by simp [cnt, h]
theorem cnt_f {f : Nat → Bool} {k : Nat} (h : f k = false) : cnt f (k + 1) = cnt f k := by simp [cnt, h]
theorem cnt_le (f : Nat → Bool) (k : Nat) : cnt f k ≤ k := by
  induction k with
  | zero => exact Nat.le_refl _
  | succ k ih =>
    cases h : f k
    · rw [cnt_f h]; omega
    · rw [cnt_t h]; omega
theorem cnt_le_s (f : Nat → Bool) (k : Nat) : cnt f k ≤ cnt f (k + 1) := by
  cases h : f k
  · rw [cnt_f h]; omega
  · rw [cnt_t h]; omega
theorem cnt_mono (f : Nat → Bool) {a b : Nat} (h : a ≤ b) : cnt f a ≤ cnt f b := by
  induction b with
  | zero => have : a = 0 := by omega
            subst this; exact Nat.le_refl _
  | succ b ih =>
    rcases Nat.lt_or_ge a (b + 1) with q | q
    · exact Nat.le_trans (ih (by omega)) (cnt_le_s f b)
    · have : a = b + 1 := by omega
      subst this; exact Nat.le_refl _
theorem cnt_congr {f g : Nat → Bool} {k : Nat} (h : ∀ j, j < k → f j = g j) : cnt f k = cnt g k := by
  induction k with
  | zero => rfl
  | succ k ih =>
    have h1 := ih (fun j hj => h j (by omega))
    have h2 := h k (by omega)
    cases h3 : f k
    · rw [cnt_f h3, cnt_f (h2 ▸ h3), h1]
    · rw [cnt_t h3, cnt_t (h2 ▸ h3), h1]
theorem cnt_none {f : Nat → Bool} {k : Nat} (h : ∀ j, j < k → f j = false) : cnt f k = 0 := by
  induction k with
  | zero => rfl
  | succ k ih => rw [cnt_f (h k (by omega)), ih (fun j hj => h j (by omega))]
theorem cnt_some {f : Nat → Bool} {j k : Nat} (hj : j < k) (h : f j = true) : 0 < cnt f k := by
  have h1 := cnt_mono f (show j + 1 ≤ k by omega)
  rw [cnt_t h] at h1
  omega
/-- the first place below N at which f holds; N if there is none -/
def fst (f : Nat → Bool) : Nat → Nat
  | 0 => 0
  | k + 1 => if fst f k < k then fst f k else if f k then k else k + 1
theorem fst_no {f : Nat → Bool} {N : Nat} (h : ∀ j, j < N → f j = false) : fst f N = N := by
  induction N with
  | zero => rfl
  | succ N ih =>
    have h1 := ih (fun j hj => h j (by omega))
    simp [fst, h1, h N (by omega)]
theorem fst_eq {f : Nat → Bool} {k N : Nat} (hk : k < N) (h : f k = true) (hl : ∀ j, j < k → f j = false) : fst f N = k := by
  induction N with
  | zero => omega
  | succ N ih =>
    rcases Nat.lt_or_ge k N with q | q
    · have h1 := ih q
      simp [fst, h1, q]
    · have e : k = N := by omega
      subst e
      have h1 := fst_no hl
      simp [fst, h1, h]
theorem fst_le (f : Nat → Bool) (N : Nat) : fst f N ≤ N := by
  induction N with
  | zero => exact Nat.le_refl _
  | succ N ih =>
    simp only [fst]
    split
    · omega
    · split <;> omega
theorem fst_spec {f : Nat → Bool} {N : Nat} : (∀ j, j < fst f N → f j = false) ∧ (fst f N < N → f (fst f N) = true) := by
  induction N with
  | zero => exact ⟨fun j hj => by simp [fst] at hj, fun h => by omega⟩
  | succ N ih =>
    have hle := fst_le f N
    simp only [fst]
    split
    · exact ⟨ih.1, fun _ => ih.2 (by omega)⟩
    · have e : fst f N = N := by omega
      rw [e] at ih
      cases h : f N
      · refine ⟨fun j hj => ?_, fun hh => ?_⟩
        · rcases Nat.lt_or_ge j N with q | q
          · exact ih.1 j q
          · have : j = N := by simp at hj; omega
            rw [this]; exact h
        · simp at hh
      · exact ⟨fun j hj => ih.1 j (by simpa using hj), fun _ => by simpa using h⟩
def allB (f : Nat → Bool) (k : Nat) : Bool := decide (cnt (fun j => !f j) k = 0)
theorem allB_t {f : Nat → Bool} {k : Nat} (h : ∀ j, j < k → f j = true) : allB f k = true := by
  simp only [allB, decide_eq_true_eq]
  exact cnt_none (fun j hj => by simp [h j hj])
theorem allB_f {f : Nat → Bool} {j k : Nat} (hj : j < k) (h : f j = false) : allB f k = false := by
  have h1 := cnt_some (f := fun j => !f j) hj (by simp [h])
  simp only [allB, decide_eq_false_iff_not]
  omega
theorem allB_s (f : Nat → Bool) (k : Nat) : allB f (k + 1) = (allB f k && f k) := by
  simp only [allB]
  cases h : f k
  · rw [cnt_t (f := fun j => !f j) (by simp [h])]; simp
  · rw [cnt_f (f := fun j => !f j) (by simp [h])]; simp
theorem allB_0 (f : Nat → Bool) : allB f 0 = true := rfl
theorem allB_get {f : Nat → Bool} {j k : Nat} (h : allB f k = true) (hj : j < k) : f j = true := by
  cases q : f j
  · rw [allB_f hj q] at h; cases h
  · rfl
def isum (f : Nat → Int32) : Nat → Int32
  | 0 => 0
  | k + 1 => isum f k + f k
theorem isum_congr {f g : Nat → Int32} {k : Nat} (h : ∀ j, j < k → f j = g j) : isum f k = isum g k := by
  induction k with
  | zero => rfl
  | succ k ih => simp only [isum]; rw [ih (fun j hj => h j (by omega)), h k (by omega)]
theorem isum_zero (k : Nat) : isum (fun _ => 0) k = 0 := by
  induction k with
  | zero => rfl
  | succ k ih => simp only [isum]; rw [ih, Int32.add_zero]
theorem add4 (a b c d : Int32) : a + b + (c + d) = a + c + (b + d) := by
  rw [Int32.add_assoc, Int32.add_assoc, ← Int32.add_assoc b, Int32.add_comm b c, Int32.add_assoc c]
theorem isum_add (f g : Nat → Int32) (k : Nat) : isum (fun j => f j + g j) k = isum f k + isum g k := by
  induction k with
  | zero => rfl
  | succ k ih =>
    show isum (fun j => f j + g j) k + (f k + g k) = isum f k + f k + (isum g k + g k)
    rw [ih]
    exact add4 _ _ _ _
/-- sums may change places -/
theorem isum_swap (F : Nat → Nat → Int32) (a b : Nat) : isum (fun i => isum (fun j => F i j) b) a = isum (fun j => isum (fun i => F i j) a) b := by
  induction a with
  | zero =>
    show (0 : Int32) = _
    exact (isum_zero b).symm
  | succ a ih =>
    show isum (fun i => isum (fun j => F i j) b) a + isum (fun j => F a j) b = isum (fun j => isum (fun i => F i j) a + F a j) b
    rw [ih, isum_add]
/-- a sum with one place that counts -/
theorem isum_one {f : Nat → Int32} {k N : Nat} (h : ∀ j, j ≠ k → f j = 0) : isum f N = if k < N then f k else 0 := by
  induction N with
  | zero => simp [isum]
  | succ N ih =>
    simp only [isum]
    rw [ih]
    rcases Nat.lt_trichotomy k N with q | q | q
    · rw [if_pos q, if_pos (by omega), h N (by omega), Int32.add_zero]
    · subst q
      rw [if_neg (by omega), if_pos (by omega), Int32.zero_add]
    · rw [if_neg (by omega), if_neg (by omega), h N (by omega), Int32.add_zero]
/-- how many places there are -/
def pl (n w : Nat) : Nat := n + 1 - w
/-- a mismatch at the symbol j of the pattern laid at o -/
def mf (T P : Nat → Int32) (o : Nat) : Nat → Bool := fun j => !(ag (P j) (T (o + j)))
def mis (T P : Nat → Int32) (o w : Nat) : Nat := cnt (mf T P o) w
theorem mf_f {T P : Nat → Int32} {o j : Nat} (h : ag (P j) (T (o + j)) = true) : mf T P o j = false := by simp [mf, h]
theorem mf_t {T P : Nat → Int32} {o j : Nat} (h : ag (P j) (T (o + j)) = false) : mf T P o j = true := by simp [mf, h]
/-- the first mismatch from f on; -1 if there is none -/
def fmis (T P : Nat → Int32) (o f w : Nat) : Int := if fst (fun j => decide (f ≤ j) && mf T P o j) w < w then (fst (fun j => decide (f ≤ j) && mf T P o j) w : Int) else -1
theorem fmis_no {T P : Nat → Int32} {o f w : Nat} (h : ∀ j, f ≤ j → j < w → mf T P o j = false) : fmis T P o f w = -1 := by
  have h1 : fst (fun j => decide (f ≤ j) && mf T P o j) w = w := fst_no (fun j hj => by
    by_cases q : f ≤ j
    · simp [h j q hj]
    · simp [q])
  simp [fmis, h1]
theorem fmis_at {T P : Nat → Int32} {o f w k : Nat} (hk : k < w) (hf : f ≤ k) (h1 : mf T P o k = true) (h : ∀ j, f ≤ j → j < k → mf T P o j = false) : fmis T P o f w = k := by
  have h2 : fst (fun j => decide (f ≤ j) && mf T P o j) w = k := fst_eq hk (by simp [hf, h1]) (fun j hj => by
    by_cases q : f ≤ j
    · simp [h j q hj]
    · simp [q])
  simp [fmis, h2, hk]
def sf (T P : Nat → Int32) (o : Nat) : Nat → Int32 := fun j => T (o + j) - P j
/-- the symbols a and b stand to each other here as there -/
def of2 (T P : Nat → Int32) (o a b : Nat) : Bool := decide ((P b).toInt < (P a).toInt ↔ (T (o + b)).toInt < (T (o + a)).toInt) && decide ((P a).toInt < (P b).toInt ↔ (T (o + a)).toInt < (T (o + b)).toInt)
def of1 (T P : Nat → Int32) (o a : Nat) : Bool := allB (fun b => of2 T P o a b) a
def lik (kd : Nat) (T P : Nat → Int32) (w o : Nat) : Bool := if kd = 0 then decide (mis T P o w = 0) else if kd = 1 then decide (isum (sf T P o) w = 0) else allB (fun a => of1 T P o a) w
/-- the place of the match a; -1 if there is none -/
def fnd (kd : Nat) (T P : Nat → Int32) (w n : Nat) (a : Int) : Int := if fst (fun o => lik kd T P w o && decide ((cnt (lik kd T P w) o : Int) = a)) (pl n w) < pl n w then (fst (fun o => lik kd T P w o && decide ((cnt (lik kd T P w) o : Int) = a)) (pl n w) : Int) else -1
end Math
end
section
section Math2
theorem ltS {p : Nat → Prop} {f j : Nat} (h : ∀ i, f ≤ i → i < j → p i) (hj : p j) : ∀ i, f ≤ i → i < j + 1 → p i := fun i h1 h2 => by
  rcases Nat.lt_or_ge i j with q | q
  · exact h i h1 q
  · have : i = j := by omega
    rw [this]; exact hj
theorem fmis_1 {T P : Nat → Int32} {o f w : Nat} (h : fmis T P o f w = -1) : ∀ j, f ≤ j → j < w → mf T P o j = false := by
  have hs := fst_spec (f := fun j => decide (f ≤ j) && mf T P o j) (N := w)
  have hl := fst_le (fun j => decide (f ≤ j) && mf T P o j) w
  intro j h1 h2
  simp only [fmis] at h
  split at h
  · omega
  · have q := hs.1 j (by omega)
    simpa [h1] using q
theorem fmis_2 {T P : Nat → Int32} {o f w : Nat} (h : ¬ fmis T P o f w = -1) : ∃ j, f ≤ j ∧ j < w ∧ mf T P o j = true := by
  have hs := fst_spec (f := fun j => decide (f ≤ j) && mf T P o j) (N := w)
  simp only [fmis] at h
  split at h
  · rename_i q
    have h2 := hs.2 q
    simp only [Bool.and_eq_true, decide_eq_true_eq] at h2
    exact ⟨_, h2.1, q, h2.2⟩
  · exact absurd rfl h
theorem lik0_t {T P : Nat → Int32} {w o : Nat} (h : fmis T P o 0 w = -1) : lik 0 T P w o = true := by
  have h1 : mis T P o w = 0 := cnt_none (fun j hj => fmis_1 h j (Nat.zero_le j) hj)
  simp [lik, h1]
theorem lik0_f {T P : Nat → Int32} {w o : Nat} (h : ¬ fmis T P o 0 w = -1) : lik 0 T P w o = false := by
  obtain ⟨j, -, h1, h2⟩ := fmis_2 h
  have h3 : 0 < mis T P o w := cnt_some h1 h2
  simp [lik]
  omega
theorem lik0_m {T P : Nat → Int32} {w o : Nat} : lik 0 T P w o = decide (mis T P o w = 0) := rfl
theorem lik1_t {T P : Nat → Int32} {w o : Nat} (h : isum (sf T P o) w = 0) : lik 1 T P w o = true := by simp [lik, h]
theorem lik1_f {T P : Nat → Int32} {w o : Nat} (h : ¬ isum (sf T P o) w = 0) : lik 1 T P w o = false := by simp [lik, h]
theorem lik2_t {T P : Nat → Int32} {w o : Nat} (h : ∀ a, a < w → of1 T P o a = true) : lik 2 T P w o = true := by
  show allB (fun a => of1 T P o a) w = true
  exact allB_t h
theorem lik2_f {T P : Nat → Int32} {w o j : Nat} (hj : j < w) (h : of1 T P o j = false) : lik 2 T P w o = false := by
  show allB (fun a => of1 T P o a) w = false
  exact allB_f hj h
theorem lk1 {kd q : Nat} {E : Nat × Nat × Nat} (hq : (kd = 0 ∧ q = E.1) ∨ (kd = 1 ∧ q = E.2.1) ∨ (kd = 2 ∧ q = E.2.2)) (hEd : E.1 ≠ E.2.1 ∧ E.1 ≠ E.2.2 ∧ E.2.1 ≠ E.2.2) (h : q = E.2.1) : kd = 1 := by
  obtain ⟨h1, h2, h3⟩ := hEd
  rcases hq with ⟨-, q1⟩ | ⟨q0, -⟩ | ⟨-, q1⟩
  · exact absurd (q1.symm.trans h) h1
  · exact q0
  · exact absurd (h.symm.trans q1) h3
theorem lk2 {kd q : Nat} {E : Nat × Nat × Nat} (hq : (kd = 0 ∧ q = E.1) ∨ (kd = 1 ∧ q = E.2.1) ∨ (kd = 2 ∧ q = E.2.2)) (hEd : E.1 ≠ E.2.1 ∧ E.1 ≠ E.2.2 ∧ E.2.1 ≠ E.2.2) (h : q = E.2.2) : kd = 2 := by
  obtain ⟨h1, h2, h3⟩ := hEd
  rcases hq with ⟨-, q1⟩ | ⟨-, q1⟩ | ⟨q0, -⟩
  · exact absurd (q1.symm.trans h) h2
  · exact absurd (q1.symm.trans h) h3
  · exact q0
theorem lk0 {kd q : Nat} {E : Nat × Nat × Nat} (hq : (kd = 0 ∧ q = E.1) ∨ (kd = 1 ∧ q = E.2.1) ∨ (kd = 2 ∧ q = E.2.2)) (h1 : ¬ some q = some E.2.1) (h2 : ¬ some q = some E.2.2) : kd = 0 := by
  rcases hq with ⟨q0, -⟩ | ⟨-, q1⟩ | ⟨-, q1⟩
  · exact q0
  · exact absurd (congrArg some q1) h1
  · exact absurd (congrArg some q1) h2
theorem fnd_no {kd : Nat} {T P : Nat → Int32} {w n : Nat} {a : Int} (h : ∀ i, i < pl n w → (lik kd T P w i && decide ((cnt (lik kd T P w) i : Int) = a)) = false) : fnd kd T P w n a = -1 := by
  have h1 := fst_no h
  simp [fnd, h1]
theorem fnd_at {kd : Nat} {T P : Nat → Int32} {w n j : Nat} {a : Int} (hj : j < pl n w) (h1 : (lik kd T P w j && decide ((cnt (lik kd T P w) j : Int) = a)) = true) (h : ∀ i, 0 ≤ i → i < j → (lik kd T P w i && decide ((cnt (lik kd T P w) i : Int) = a)) = false) : fnd kd T P w n a = j := by
  have h2 := fst_eq hj h1 (fun i hi => h i (Nat.zero_le i) hi)
  simp [fnd, h2, hj]
/-- among the first N places that f marks there is one with the number k, if k is less than their count -/
theorem nth_ex {f : Nat → Bool} {k N : Nat} (h : k < cnt f N) : ∃ o, o < N ∧ f o = true ∧ cnt f o = k := by
  induction N with
  | zero => exact absurd h (Nat.not_lt_zero _)
  | succ N ih =>
    rcases Nat.lt_or_ge k (cnt f N) with q | q
    · obtain ⟨o, h1, h2, h3⟩ := ih q
      exact ⟨o, by omega, h2, h3⟩
    · cases hf : f N
      · rw [cnt_f hf] at h; omega
      · rw [cnt_t hf] at h
        exact ⟨N, by omega, hf, by omega⟩
theorem nth_lt {f : Nat → Bool} {o N : Nat} (ho : o < N) (hf : f o = true) : cnt f o < cnt f N := by
  have h1 := cnt_mono f (show o + 1 ≤ N by omega)
  rw [cnt_t hf] at h1
  omega
theorem nth_un {f : Nat → Bool} {a b : Nat} (ha : f a = true) (hb : f b = true) (h : cnt f a = cnt f b) : a = b := by
  rcases Nat.lt_trichotomy a b with q | q | q
  · have := nth_lt q ha; omega
  · exact q
  · have := nth_lt q hb; omega
/-- whether there is a match with the number a: 0 if there is, 1 if not -/
def kMt (kd : Nat) (T P : Nat → Int32) (w n : Nat) (a : Int) : Nat := if 0 ≤ a ∧ a < (cnt (lik kd T P w) (pl n w) : Int) then 0 else 1
theorem fnd_k0 {kd : Nat} {T P : Nat → Int32} {w n : Nat} {a : Int} (h : ¬ fnd kd T P w n a = -1) : kMt kd T P w n a = 0 := by
  have hs := fst_spec (f := fun o => lik kd T P w o && decide ((cnt (lik kd T P w) o : Int) = a)) (N := pl n w)
  simp only [fnd] at h
  split at h
  · rename_i q
    have h2 := hs.2 q
    simp only [Bool.and_eq_true, decide_eq_true_eq] at h2
    have h3 := nth_lt q h2.1
    simp only [kMt]
    rw [if_pos ⟨by omega, by omega⟩]
  · exact absurd rfl h
theorem fnd_k1 {kd : Nat} {T P : Nat → Int32} {w n : Nat} {a : Int} (h : fnd kd T P w n a = -1) : kMt kd T P w n a = 1 := by
  have hs := fst_spec (f := fun o => lik kd T P w o && decide ((cnt (lik kd T P w) o : Int) = a)) (N := pl n w)
  have hl := fst_le (fun o => lik kd T P w o && decide ((cnt (lik kd T P w) o : Int) = a)) (pl n w)
  simp only [kMt]
  refine if_neg (fun q => ?_)
  obtain ⟨o, h1, h2, h3⟩ := nth_ex (f := lik kd T P w) (k := a.toNat) (N := pl n w) (by omega)
  simp only [fnd] at h
  split at h
  · omega
  · have h4 := hs.1 o (by omega)
    simp only [h2, Bool.true_and, decide_eq_false_iff_not] at h4
    omega
/-- the target of a search that is known to end -/
theorem fnd_tg {kd : Nat} {T P : Nat → Int32} {w n : Nat} {a : Int} (h : 0 ≤ a ∧ a < (cnt (lik kd T P w) (pl n w) : Int)) : ∃ o : Nat, o < pl n w ∧ lik kd T P w o = true ∧ (cnt (lik kd T P w) o : Int) = a ∧ fnd kd T P w n a = o := by
  obtain ⟨o, h1, h2, h3⟩ := nth_ex (f := lik kd T P w) (k := a.toNat) (N := pl n w) (by omega)
  refine ⟨o, h1, h2, by omega, fnd_at h1 (by rw [h2, decide_eq_true (show (cnt (lik kd T P w) o : Int) = a by omega)]; rfl) (fun i _ hi => ?_)⟩
  cases q : lik kd T P w i
  · rfl
  · have := nth_lt hi q
    rw [decide_eq_false (by omega)]
    rfl
def lf (T : Nat → Int32) (x : Int32) (i : Nat) : Nat → Bool := fun p => decide (T (i + p) = x)
theorem lf_t {T : Nat → Int32} {x : Int32} {i p : Nat} (h : (T (i + p)).toInt = x.toInt) : lf T x i p = true := by
  simp [lf, Int32.toInt_inj.mp h]
theorem lf_f {T : Nat → Int32} {x : Int32} {i p : Nat} (h : ¬ (T (i + p)).toInt = x.toInt) : lf T x i p = false := by
  have h2 : ¬ T (i + p) = x := fun q => h (congrArg _ q)
  simp [lf, h2]
def bf (P : Nat → Int32) : Nat → Bool := fun j => decide (P j = 0)
theorem bf_t {P : Nat → Int32} {j : Nat} (h : (P j).toInt = 0) : bf P j = true := by
  have h2 : P j = 0 := Int32.toInt_inj.mp h
  simp [bf, h2]
theorem bf_f {P : Nat → Int32} {j : Nat} (h : ¬ (P j).toInt = 0) : bf P j = false := by
  have h2 : ¬ P j = 0 := fun q => h (congrArg _ q)
  simp [bf, h2]
def pf (T : Nat → Int32) (p : Nat) : Nat → Bool := fun i => ag (T i) (T (i + p))
def per (T : Nat → Int32) (n p : Nat) : Bool := allB (pf T p) (n - p)
/-- how many of q places stand ahead of the place p by their counts c -/
def ahd (c : Nat → Nat) (q p : Nat) : Nat := cnt (fun o => decide (c o < c p) || (decide (c o = c p) && decide (o < p))) q
def rkP (c : Nat → Nat) (q r : Nat) : Nat := fst (fun p => decide (ahd c q p = r)) q
def ltc (c : Nat → Nat) (v : Nat) : Nat → Bool := fun o => decide (c o < v)
def eqc (c : Nat → Nat) (v : Nat) : Nat → Bool := fun o => decide (c o = v)
theorem cnt_or {f g : Nat → Bool} (k : Nat) (h : ∀ j, j < k → ¬ (f j = true ∧ g j = true)) : cnt (fun j => f j || g j) k = cnt f k + cnt g k := by
  induction k with
  | zero => rfl
  | succ k ih =>
    have h1 := ih (fun j hj => h j (by omega))
    have h2 := h k (by omega)
    cases hf : f k <;> cases hg : g k
    · rw [cnt_f (f := fun j => f j || g j) (by simp [hf, hg]), cnt_f hf, cnt_f hg, h1]
    · rw [cnt_t (f := fun j => f j || g j) (by simp [hf, hg]), cnt_f hf, cnt_t hg, h1]; omega
    · rw [cnt_t (f := fun j => f j || g j) (by simp [hf, hg]), cnt_t hf, cnt_f hg, h1]; omega
    · exact absurd ⟨hf, hg⟩ h2
theorem cnt_and_lt {f : Nat → Bool} {p k : Nat} (h : p ≤ k) : cnt (fun j => f j && decide (j < p)) k = cnt f p := by
  induction k with
  | zero => have : p = 0 := by omega
            subst this; rfl
  | succ k ih =>
    rcases Nat.lt_or_ge k p with q | q
    · have e : p = k + 1 := by omega
      subst e
      exact cnt_congr (fun j hj => by simp [hj])
    · rw [cnt_f (f := fun j => f j && decide (j < p)) (by simp; intro _; omega), ih q]
theorem ahd_eq {c : Nat → Nat} {q p : Nat} (hp : p ≤ q) : ahd c q p = cnt (ltc c (c p)) q + cnt (eqc c (c p)) p := by
  rw [← cnt_and_lt (f := eqc c (c p)) hp]
  refine cnt_or q (fun j _ h => ?_)
  simp only [ltc, eqc, decide_eq_true_eq, Bool.and_eq_true] at h
  omega
theorem ltc_s {c : Nat → Nat} {v q : Nat} : cnt (ltc c (v + 1)) q = cnt (ltc c v) q + cnt (eqc c v) q := by
  rw [← cnt_or q (fun j _ h => by simp only [ltc, eqc, decide_eq_true_eq] at h; omega)]
  refine cnt_congr (fun j _ => ?_)
  simp only [ltc, eqc]
  by_cases h1 : c j < v
  · simp [h1]; omega
  · by_cases h2 : c j = v
    · simp [h2]
    · simp [h1, h2]; omega
theorem ltc_0 {c : Nat → Nat} {q : Nat} : cnt (ltc c 0) q = 0 := cnt_none (fun j _ => by simp [ltc])
theorem ltc_all {c : Nat → Nat} {v q : Nat} (h : ∀ p, p < q → c p < v) : cnt (ltc c v) q = q := by
  induction q with
  | zero => rfl
  | succ q ih => rw [cnt_t (by simp [ltc, h q (by omega)]), ih (fun p hp => h p (by omega))]
theorem ahd_mono {c : Nat → Nat} {q a b : Nat} (ha : a < q) (hb : b < q) (h : c a < c b ∨ (c a = c b ∧ a < b)) : ahd c q a < ahd c q b := by
  rw [ahd_eq (by omega), ahd_eq (by omega)]
  rcases h with h | ⟨h, h2⟩
  · have h1 : cnt (ltc c (c a)) q + cnt (eqc c (c a)) q ≤ cnt (ltc c (c b)) q := by
      rw [← ltc_s]
      clear ha hb
      induction q with
      | zero => exact Nat.le_refl _
      | succ q ih =>
        cases h4 : ltc c (c a + 1) q
        · rw [cnt_f h4]; exact Nat.le_trans ih (cnt_le_s _ _)
        · have h5 : ltc c (c b) q = true := by
            simp only [ltc, decide_eq_true_eq] at h4 ⊢
            omega
          rw [cnt_t h4, cnt_t h5]; omega
    have h6 := nth_lt (f := eqc c (c a)) ha (by simp [eqc])
    omega
  · rw [h]
    have h6 := nth_lt (f := eqc c (c b)) h2 (by simp [eqc, h])
    omega
theorem ahd_inj {c : Nat → Nat} {q a b : Nat} (ha : a < q) (hb : b < q) (h : ahd c q a = ahd c q b) : a = b := by
  rcases Nat.lt_trichotomy (c a) (c b) with h1 | h1 | h1
  · have := ahd_mono ha hb (Or.inl h1); omega
  · rcases Nat.lt_trichotomy a b with h2 | h2 | h2
    · have := ahd_mono ha hb (Or.inr ⟨h1, h2⟩); omega
    · exact h2
    · have := ahd_mono hb ha (Or.inr ⟨h1.symm, h2⟩); omega
  · have := ahd_mono hb ha (Or.inl h1); omega
theorem rkP_at {c : Nat → Nat} {q r p : Nat} (hp : p < q) (h : ahd c q p = r) : rkP c q r = p := by
  refine fst_eq hp (by simp [h]) (fun j hj => ?_)
  refine decide_eq_false (fun h2 => ?_)
  have := ahd_inj (show j < q by omega) hp (h2.trans h.symm)
  omega
end Math2
end
section
section Math3
/-! which exception a call throws, by its place in the throws clause; 0 for none -/
def kAT (n : Nat) (a : Int) : Nat := if a < 0 ∨ 26 < a then 1 else if 64 ≤ n then 2 else 0
def kAP (w : Nat) (a : Int) : Nat := if a < 0 ∨ 26 < a then 1 else if 24 ≤ w then 2 else 0
def kRT (n : Nat) (a b : Int) : Nat := if b < 1 then 1 else if a < 0 ∨ (n : Int) < a + b then 2 else if 64 < (n : Int) + b then 3 else 0
def kST (n : Nat) (a b : Int) : Nat := if a < 0 ∨ (n : Int) ≤ a then 1 else if b < 0 ∨ 26 < b then 2 else 0
def kTP (n : Nat) (a b : Int) : Nat := if b < 0 ∨ 24 < b then 1 else if a < 0 ∨ (n : Int) < a + b then 2 else 0
def kNeg (a : Int) : Nat := if a < 0 then 1 else 0
def kPl (q : Nat) (a : Int) : Nat := if a < 0 ∨ (q : Int) ≤ a then 1 else 0
def kMO (q : Nat) (a b : Int) : Nat := if b < 1 ∨ 26 < b then 1 else if a < 0 ∨ (q : Int) ≤ a then 2 else 0
def kNM (q : Nat) (a b : Int) : Nat := if b < 0 then 1 else if a < 0 ∨ (q : Int) ≤ a then 2 else 0
def kAg (n w : Nat) (a b : Int) : Nat := if a < 0 ∨ (n : Int) < a ∨ b < 0 ∨ (w : Int) < b then 1 else 0
def kHP (a : Int) : Nat := if a < 1 then 1 else 0
theorem isum_s (f : Nat → Int32) (k : Nat) : isum f (k + 1) = isum f k + f k := rfl
/-- products: by the symbols of the text, by the symbols of the pattern -/
def cg (T P : Nat → Int32) (w k : Nat) : Nat → Int32 := fun i => if k + 1 ≤ w + i ∧ i ≤ k then T i * P (w + i - (k + 1)) else 0
def pg (T P : Nat → Int32) (n w k : Nat) : Nat → Int32 := fun j => if w ≤ k + 1 + j ∧ k + 1 + j - w < n then T (k + 1 + j - w) * P j else 0
theorem cg_t {T P : Nat → Int32} {w k i : Nat} (h1 : k + 1 ≤ w + i) (h2 : i ≤ k) : cg T P w k i = T i * P (w + i - (k + 1)) := if_pos ⟨h1, h2⟩
theorem cg_f {T P : Nat → Int32} {w k i : Nat} (h : ¬ (k + 1 ≤ w + i ∧ i ≤ k)) : cg T P w k i = 0 := if_neg h
theorem pg_t {T P : Nat → Int32} {n w k j : Nat} (h1 : w ≤ k + 1 + j) (h2 : k + 1 + j - w < n) : pg T P n w k j = T (k + 1 + j - w) * P j := if_pos ⟨h1, h2⟩
theorem pg_f {T P : Nat → Int32} {n w k j : Nat} (h : ¬ (w ≤ k + 1 + j ∧ k + 1 + j - w < n)) : pg T P n w k j = 0 := if_neg h
theorem prod_eq (T P : Nat → Int32) (n w k : Nat) : isum (cg T P w k) n = isum (pg T P n w k) w := by
  have h1 : isum (cg T P w k) n = isum (fun i => isum (fun j => if w + i = k + 1 + j then T i * P j else 0) w) n := by
    refine isum_congr (fun i _ => ?_)
    show cg T P w k i = isum (fun j => if w + i = k + 1 + j then T i * P j else 0) w
    by_cases q : k + 1 ≤ w + i
    · rw [isum_one (f := fun j => if w + i = k + 1 + j then T i * P j else 0) (k := w + i - (k + 1)) (fun j hj => if_neg (by omega))]
      by_cases q2 : i ≤ k
      · rw [cg_t q q2, if_pos (by omega)]
        exact (if_pos (by omega)).symm
      · rw [cg_f (by omega), if_neg (by omega)]
    · rw [cg_f (by omega)]
      refine ((isum_congr (g := fun _ => 0) (fun j _ => if_neg (by omega))).trans (isum_zero w)).symm
  have h2 : isum (pg T P n w k) w = isum (fun j => isum (fun i => if w + i = k + 1 + j then T i * P j else 0) n) w := by
    refine isum_congr (fun j hj => ?_)
    show pg T P n w k j = isum (fun i => if w + i = k + 1 + j then T i * P j else 0) n
    by_cases q : w ≤ k + 1 + j
    · rw [isum_one (f := fun i => if w + i = k + 1 + j then T i * P j else 0) (k := k + 1 + j - w) (fun i hi => if_neg (by omega))]
      by_cases q2 : k + 1 + j - w < n
      · rw [pg_t q q2, if_pos q2]
        exact (if_pos (by omega)).symm
      · rw [pg_f (by omega), if_neg q2]
    · rw [pg_f (by omega)]
      refine ((isum_congr (g := fun _ => 0) (fun i _ => if_neg (by omega))).trans (isum_zero n)).symm
  rw [h1, h2]
  exact isum_swap (fun i j => if w + i = k + 1 + j then T i * P j else 0) n w
def df (T P : Nat → Int32) (o : Nat) : Nat → Int32 := fun j => P j * T (o + j) * (P j - T (o + j)) * (P j - T (o + j))
/-- matches that do not overlap, place by place: how many, and from where on the next is free -/
def apk (f : Nat → Bool) (w : Nat) : Nat → Nat × Nat
  | 0 => (0, 0)
  | k + 1 => if (apk f w k).2 ≤ k ∧ f k = true then ((apk f w k).1 + 1, k + w) else apk f w k
theorem apk_t {f : Nat → Bool} {w k : Nat} (h1 : (apk f w k).2 ≤ k) (h2 : f k = true) : apk f w (k + 1) = ((apk f w k).1 + 1, k + w) := if_pos ⟨h1, h2⟩
theorem apk_f {f : Nat → Bool} {w k : Nat} (h : ¬ ((apk f w k).2 ≤ k ∧ f k = true)) : apk f w (k + 1) = apk f w k := if_neg h
theorem apk_hit {f : Nat → Bool} {w j : Nat} (h : (apk f w j).2 ≤ j) (hf : f j = true) (d : Nat) (hd : j + 1 + d ≤ j + max 1 w) : apk f w (j + 1 + d) = ((apk f w j).1 + 1, j + w) := by
  induction d with
  | zero => exact apk_t h hf
  | succ d ih =>
    have h1 := ih (by omega)
    have h2 : apk f w (j + 1 + d + 1) = apk f w (j + 1 + d) := apk_f (fun q => by
      have h3 := q.1
      rw [h1] at h3
      have h4 : j + w ≤ j + 1 + d := h3
      omega)
    exact h2.trans h1
theorem apk_hit2 {f : Nat → Bool} {w j i : Nat} (h : (apk f w j).2 ≤ j) (hf : f j = true) (h1 : j + 1 ≤ i) (h2 : i ≤ j + max 1 w) : apk f w i = ((apk f w j).1 + 1, j + w) := by
  have h3 := apk_hit h hf (i - (j + 1)) (by omega)
  rw [show j + 1 + (i - (j + 1)) = i by omega] at h3
  exact h3
theorem apk_le (f : Nat → Bool) (w k : Nat) : (apk f w k).1 ≤ k := by
  induction k with
  | zero => exact Nat.le_refl _
  | succ k ih =>
    by_cases h : (apk f w k).2 ≤ k ∧ f k = true
    · rw [apk_t h.1 h.2]; show (apk f w k).1 + 1 ≤ k + 1; omega
    · rw [apk_f h]; omega
/-- mismatches at symbols that are the letter x -/
def mof (T P : Nat → Int32) (x : Int32) (o : Nat) : Nat → Bool := fun j => decide (P j = x) && mf T P o j
theorem mof_f1 {T P : Nat → Int32} {x : Int32} {o j : Nat} (h : ¬ (P j).toInt = x.toInt) : mof T P x o j = false := by
  have h2 : ¬ P j = x := fun q => h (congrArg _ q)
  simp [mof, h2]
theorem mof_f2 {T P : Nat → Int32} {x : Int32} {o j : Nat} (h : ag (P j) (T (o + j)) = true) : mof T P x o j = false := by simp [mof, mf_f h]
theorem mof_t {T P : Nat → Int32} {x : Int32} {o j : Nat} (h1 : (P j).toInt = x.toInt) (h : ag (P j) (T (o + j)) = false) : mof T P x o j = true := by simp [mof, mf_t h, Int32.toInt_inj.mp h1]
def naf (T P : Nat → Int32) (i f : Nat) : Nat → Bool := fun k => !(ag (T (i + k)) (P (f + k)))
def agr (T P : Nat → Int32) (n w i f : Nat) : Nat := fst (naf T P i f) (min (n - i) (w - f))
def wf (T P : Nat → Int32) (w : Nat) (a : Int) : Nat → Bool := fun o => decide ((mis T P o w : Int) ≤ a)
theorem updI {M : Nat → Int32} {g : Nat → Nat} {j : Nat} {v : Int32} (h : ∀ p, p < j → (M p).toInt = (g p : Int)) (hv : v.toInt = (g j : Int)) : ∀ p, p < j + 1 → (upd M j v p).toInt = (g p : Int) := fun p hp => by
  by_cases q : p = j
  · rw [q, pk_us]; exact hv
  · rw [pk_un q]; exact h p (by omega)
/-- how often a letter stands where the pattern's symbol i may lie -/
def blc (T : Nat → Int32) (i q : Nat) : Nat → Nat := fun l => cnt (lf T (nI l) i) q
/-- the best of the letters 1 to k + 1, of several the lowest -/
def bl (c : Nat → Nat) : Nat → Nat
  | 0 => 1
  | k + 1 => if c (bl c k) < c (k + 2) then k + 2 else bl c k
theorem bl_t {c : Nat → Nat} {k : Nat} (h : c (bl c k) < c (k + 2)) : bl c (k + 1) = k + 2 := if_pos h
theorem bl_f {c : Nat → Nat} {k : Nat} (h : ¬ c (bl c k) < c (k + 2)) : bl c (k + 1) = bl c k := if_neg h
theorem bl_le (c : Nat → Nat) (k : Nat) : 1 ≤ bl c k ∧ bl c k ≤ k + 1 := by
  induction k with
  | zero => exact ⟨Nat.le_refl _, Nat.le_refl _⟩
  | succ k ih =>
    by_cases h : c (bl c k) < c (k + 2)
    · rw [bl_t h]; omega
    · rw [bl_f h]; omega
/-- the least period -/
def lpd (T : Nat → Int32) (n : Nat) : Nat := fst (fun k => per T n (k + 1)) (max 1 n - 1) + 1
theorem lpd_at {T : Nat → Int32} {n j : Nat} (h1 : 1 ≤ j) (h2 : j < max 1 n) (h3 : per T n j = true) (h : ∀ i, 1 ≤ i → i < j → per T n i = false) : lpd T n = j := by
  have h4 := fst_eq (f := fun k => per T n (k + 1)) (k := j - 1) (N := max 1 n - 1) (by omega) (by show per T n (j - 1 + 1) = true; rw [show j - 1 + 1 = j by omega]; exact h3) (fun i hi => h (i + 1) (by omega) (by omega))
  unfold lpd
  rw [h4]
  omega
theorem lpd_no {T : Nat → Int32} {n : Nat} (h : ∀ i, 1 ≤ i → i < max 1 n → per T n i = false) : lpd T n = max 1 n := by
  have h4 := fst_no (f := fun k => per T n (k + 1)) (N := max 1 n - 1) (fun i hi => h (i + 1) (by omega) (by omega))
  unfold lpd
  rw [h4]
  omega
theorem per_end {T : Nat → Int32} {n p : Nat} (h : n ≤ p) : per T n p = true := allB_t (fun j hj => by omega)
end Math3
end
section
section Math4
def sgn (a : Int) : Int := if a < 0 then -1 else if 0 < a then 1 else 0
theorem of2_sgn {T P : Nat → Int32} {o a b : Nat} : of2 T P o a b = decide (sgn ((P a).toInt - (P b).toInt) = sgn ((T (o + a)).toInt - (T (o + b)).toInt)) := by
  rw [Bool.eq_iff_iff]
  simp only [of2, Bool.and_eq_true, decide_eq_true_eq]
  unfold sgn
  (repeat' split) <;> omega
def af (c : Nat → Nat) (v : Nat) : Nat → Bool := fun o => decide (c o < c v) || (decide (c o = c v) && decide (o < v))
theorem ahd_af (c : Nat → Nat) (q v : Nat) : ahd c q v = cnt (af c v) q := rfl
theorem rk_ex {c : Nat → Nat} {q r W : Nat} (hc : ∀ p, p < q → c p < W) (hr : r < q) : ∃ p, p < q ∧ ahd c q p = r := by
  obtain ⟨V, hV, hl⟩ := pk_least (fun V => r < cnt (ltc c V) q) ⟨W, by show r < _; rw [ltc_all hc]; exact hr⟩
  cases V with
  | zero =>
    have h0 : r < cnt (ltc c 0) q := hV
    rw [ltc_0] at h0
    exact absurd h0 (Nat.not_lt_zero _)
  | succ v =>
    have h1 : ¬ r < cnt (ltc c v) q := hl v (Nat.lt_succ_self v)
    have h3 : r < cnt (ltc c (v + 1)) q := hV
    have h2 := ltc_s (c := c) (v := v) (q := q)
    obtain ⟨p, hp, hf, hk⟩ := nth_ex (f := eqc c v) (k := r - cnt (ltc c v) q) (N := q) (by omega)
    have e : c p = v := by simpa [eqc] using hf
    refine ⟨p, hp, ?_⟩
    rw [ahd_eq (by omega), e]
    omega
/-- mismatches of a letter at all places -/
def mif (T : Nat → Int32) (l i : Nat) : Nat → Bool := fun p => !(ag (nI l) (T (i + p)))
def mi (T : Nat → Int32) (i q : Nat) : Nat → Nat := fun l => cnt (mif T l i) q
theorem mi_c {T : Nat → Int32} {i l : Nat} (q : Nat) (h1 : 1 ≤ l) (h2 : l < 2 ^ 31) : mi T i q l + blc T i q l + cnt (lf T 0 i) q = q := by
  have hne : ¬ nI l = 0 := nI_ne0 h1 h2
  have hne2 : ¬ (0 : Int32) = nI l := fun z => hne z.symm
  induction q with
  | zero => rfl
  | succ q ih =>
    show cnt (mif T l i) (q + 1) + cnt (lf T (nI l) i) (q + 1) + cnt (lf T 0 i) (q + 1) = q + 1
    have ih2 : cnt (mif T l i) q + cnt (lf T (nI l) i) q + cnt (lf T 0 i) q = q := ih
    by_cases e1 : T (i + q) = nI l
    · rw [cnt_f (f := mif T l i) (by simp [mif, ag, e1]), cnt_t (f := lf T (nI l) i) (by simp [lf, e1]), cnt_f (f := lf T 0 i) (by simp [lf, e1, hne])]
      omega
    · have e1' : ¬ nI l = T (i + q) := fun z => e1 z.symm
      by_cases e2 : T (i + q) = 0
      · rw [cnt_f (f := mif T l i) (by simp [mif, ag, e2]), cnt_f (f := lf T (nI l) i) (by simp [lf, e2, hne2]), cnt_t (f := lf T 0 i) (by simp [lf, e2])]
        omega
      · rw [cnt_t (f := mif T l i) (by simp [mif, ag, e1', e2, hne]), cnt_f (f := lf T (nI l) i) (by simp [lf, e1]), cnt_f (f := lf T 0 i) (by simp [lf, e2])]
        omega
theorem cpy_s0 {f g : Nat → Int32} {sp k : Nat} {x : Int32} (hx : x = f (sp + k)) : upd (va_cpy f g sp 0 k) k x = va_cpy f g sp 0 (k + 1) := by
  have h := cpy_s (f := f) (g := g) (sp := sp) (dp := 0) (k := k) hx
  rw [Nat.zero_add] at h
  exact h
theorem bf_cpy {T P : Nat → Int32} {f K : Nat} : cnt (bf (va_cpy T P f 0 K)) K = cnt (bf (fun i => T (f + i))) K := by
  refine cnt_congr (fun j hj => ?_)
  show decide (va_cpy T P f 0 K j = 0) = decide (T (f + j) = 0)
  rw [pk_cpy_in (Nat.zero_le j) (by omega), Nat.sub_zero]
end Math4
section Zl
variable {p : Program} {l : Launch} {e : Env} {R : Room} {s : State} {m : MethodId} {args : Array Value} {below : List Frame} {meth : Method} {c : Code} {H : Heap} {locs : List Loc} {cells slots : Nat} {Q : State → Prop}
variable {cc : ByteArray} {pc : Nat} {ls : Array Slot} {rest : List Value}
theorem z_i2l (hexec : p.tables.exec = Jvm.exec) (hb : c.code = cc) {x : Int32} {a : Int} (hdg : decode cc pc = .ok (.i2l, 1)) (ha : x.toInt = a)
    (k : ∀ v : Int64, v.toInt = a → W p l e R s m args below meth c H locs cells slots Q (F0 m (pc + 1) ls (.long v :: rest))) : W p l e R s m args below meth c H locs cells slots Q (F0 m pc ls (.int x :: rest)) :=
  lv_i2l hexec hb hdg rfl (k _ (by rw [Int32.toInt_toInt64]; exact ha))
theorem z_ladd (hexec : p.tables.exec = Jvm.exec) (hb : c.code = cc) {x y : Int64} {a b : Int} (hdg : decode cc pc = .ok (.ladd, 1)) (ha : x.toInt = a) (hb2 : y.toInt = b) (h1 : -9223372036854775808 ≤ a + b) (h2 : a + b < 9223372036854775808)
    (k : ∀ v : Int64, v.toInt = a + b → W p l e R s m args below meth c H locs cells slots Q (F0 m (pc + 1) ls (.long v :: rest))) : W p l e R s m args below meth c H locs cells slots Q (F0 m pc ls (.long y :: .long x :: rest)) := by
  subst ha
  subst hb2
  exact lv_ladd hexec hb hdg (k _ (by rw [Int64.toInt_add]; exact Int.bmod_eq_of_le (by omega) (by omega)))
theorem z_lcmp (hexec : p.tables.exec = Jvm.exec) (hb : c.code = cc) {x y : Int64} {a b : Int} (hdg : decode cc pc = .ok (.lcmp, 1)) (ha : x.toInt = a) (hb2 : y.toInt = b)
    (k : ∀ (v : Int32) (z : Int), v.toInt = z → (0 < z ↔ b < a) → (z = 0 ↔ a = b) → W p l e R s m args below meth c H locs cells slots Q (F0 m (pc + 1) ls (.int v :: rest))) : W p l e R s m args below meth c H locs cells slots Q (F0 m pc ls (.long y :: .long x :: rest)) := by
  have h1 := lg_cmp_gt x y
  rw [Int32.lt_iff_toInt_lt, i0, Int64.lt_iff_toInt_lt, ha, hb2] at h1
  have h2 := lg_cmp_eq x y
  rw [← Int32.toInt_inj, i0, ← Int64.toInt_inj, ha, hb2] at h2
  exact W.lcmp hexec hb hdg (k _ _ rfl h1 h2)
end Zl
end
section
set_option maxHeartbeats 4000000 in
set_option maxRecDepth 100000 in
theorem c_X1_agree (l : Launch) (sz : Nat) (x1 : Int32) (x2 : Int32) : Met l yX1_agree wsX1_agree ({ frames := 0, cells := 0, slots := 0, locals := 0 }) (va_Pc [.int x1, .int x2] (cz sz)) (va_Qi (fun (r : Int32) (_ : Unit) => r.toInt = bI (ag x1 x2)) (fun _ _ => True) (va_A [] sz)) 0 0 (va_A [] sz) := by
  refine Met.ofW (cc := cX1_agree) (maxL := 2) (ret := (some .boolean)) (by decide) rfl ?_
  intro p e s m args below meth c s₁ B hml hv
  obtain ⟨rfl, hsz⟩ := hv
  have hx := B.exec
  have hb := B.bytes
  have hr := B.returns
  have hts := atoms_spec (ws := wsX1_agree) B.pre
  have hown : s.vm.findClass RX1 = some m.cls := findClass_of_methodNamed B.named
  have hlocks := B.notSynchronized
  have hsz : s.heap.size = sz := hsz
  subst hsz
  have hA : ∀ q : Nat, s.heap.size ≤ q → (va_A [] s.heap.size) q := fun q h => Or.inr h
  have hS : va_S (va_A [] s.heap.size) s.heap s.heap [] := va_S.rf
  have g_x1 := rg x1
  have g_x2 := rg x2
  have hl := lv_entry ([.int x1, .int x2]) (n := 2) (Nat.le_of_ble_eq_true rfl)
  rw [lg_entry_eq]
  generalize (lg_sl ([.int x1, .int x2]) ++ List.replicate (2 - (lg_sl ([.int x1, .int x2])).length) Slot.unset).toArray = ls at hl ⊢
  have hl : lv_has ls 2 [(0, .int x1), (1, .int x2)] := hl
  refine lv_iload_n hx hb dX1_agree_0 rfl (lv_at hl 0 rfl) ?_
  refine lv_iload_n hx hb dX1_agree_1 rfl (lv_at hl 1 rfl) ?_
  refine z_icmp_eq (tgt := 13) hx hb dX1_agree_2 (by decide) rfl rfl (fun c2 => ?_) (fun c2 => ?_)
  · have _u := True.intro
    refine lv_iconst (v := 1) hx hb dX1_agree_13 (by decide) ?_
    refine lv_goto (tgt := 18) hx hb dX1_agree_14 (by decide) ?_
    refine W.widen (k := 0) (n := 0) (Nat.le_of_ble_eq_true rfl) (Nat.le_of_ble_eq_true rfl) ?_
    have hpost : (1 : Int32).toInt = bI (ag x1 x2) := (by first | (rw [ag_eq c2]; decide) | (rw [ag_l c6]; decide) | (rw [ag_r c10]; decide) | (rw [ag_no c2 c6 c10]; decide))
    exact W.zret (v := 1) hx hb hr (bnar hpost) (fun t ht hW => ⟨⟨_, (), rfl, hpost, trivial⟩, hS.F ht⟩) hS.2.2 dX1_agree_18
  · have _u := True.intro
    refine lv_iload_n hx hb dX1_agree_5 rfl (lv_at hl 0 rfl) ?_
    refine z_if_eq (tgt := 13) hx hb dX1_agree_6 (by decide) rfl (fun c6 => ?_) (fun c6 => ?_)
    · have _u := True.intro
      refine lv_iconst (v := 1) hx hb dX1_agree_13 (by decide) ?_
      refine lv_goto (tgt := 18) hx hb dX1_agree_14 (by decide) ?_
      refine W.widen (k := 0) (n := 0) (Nat.le_of_ble_eq_true rfl) (Nat.le_of_ble_eq_true rfl) ?_
      have hpost : (1 : Int32).toInt = bI (ag x1 x2) := (by first | (rw [ag_eq c2]; decide) | (rw [ag_l c6]; decide) | (rw [ag_r c10]; decide) | (rw [ag_no c2 c6 c10]; decide))
      exact W.zret (v := 1) hx hb hr (bnar hpost) (fun t ht hW => ⟨⟨_, (), rfl, hpost, trivial⟩, hS.F ht⟩) hS.2.2 dX1_agree_18
    · have _u := True.intro
      refine lv_iload_n hx hb dX1_agree_9 rfl (lv_at hl 1 rfl) ?_
      refine z_if_ne (tgt := 17) hx hb dX1_agree_10 (by decide) rfl (fun c10 => ?_) (fun c10 => ?_)
      · have _u := True.intro
        refine lv_iconst (v := 0) hx hb dX1_agree_17 (by decide) ?_
        refine W.widen (k := 0) (n := 0) (Nat.le_of_ble_eq_true rfl) (Nat.le_of_ble_eq_true rfl) ?_
        have hpost : (0 : Int32).toInt = bI (ag x1 x2) := (by first | (rw [ag_eq c2]; decide) | (rw [ag_l c6]; decide) | (rw [ag_r c10]; decide) | (rw [ag_no c2 c6 c10]; decide))
        exact W.zret (v := 0) hx hb hr (bnar hpost) (fun t ht hW => ⟨⟨_, (), rfl, hpost, trivial⟩, hS.F ht⟩) hS.2.2 dX1_agree_18
      · have _u := True.intro
        refine lv_iconst (v := 1) hx hb dX1_agree_13 (by decide) ?_
        refine lv_goto (tgt := 18) hx hb dX1_agree_14 (by decide) ?_
        refine W.widen (k := 0) (n := 0) (Nat.le_of_ble_eq_true rfl) (Nat.le_of_ble_eq_true rfl) ?_
        have hpost : (1 : Int32).toInt = bI (ag x1 x2) := (by first | (rw [ag_eq c2]; decide) | (rw [ag_l c6]; decide) | (rw [ag_r c10]; decide) | (rw [ag_no c2 c6 c10]; decide))
        exact W.zret (v := 1) hx hb hr (bnar hpost) (fun t ht hW => ⟨⟨_, (), rfl, hpost, trivial⟩, hS.F ht⟩) hS.2.2 dX1_agree_18

set_option maxHeartbeats 4000000 in
set_option maxRecDepth 100000 in
theorem c_X1_requireSymbol (l : Launch) (hlt : l.stackTraces = false) (D : va_G) (E : Nat × Nat × Nat) (sz : Nat) (x1 : Int32) : vx_Met l yX1_requireSymbol wsX1_requireSymbol ({ frames := 6, cells := 1, slots := 6, locals := 90 }) (va_Pc [.int x1] (cp D [] [] E (va_A [] sz) sz)) (va_Qv (fun (_ : Unit) => 0 ≤ x1.toInt ∧ x1.toInt ≤ 26) (fun _ _ => True) (va_A [] sz)) (tX (fun X => X = "java/lang/IllegalArgumentException" ∧ ¬ (0 ≤ x1.toInt ∧ x1.toInt ≤ 26)) sz) 1 6 (va_A [] sz) := by
  refine vx_ofW (cc := cX1_requireSymbol) (maxL := 1) (ret := none) (by decide) rfl ?_
  intro p e s m args below meth c s₁ B hml hnt hv
  obtain ⟨rfl, hsz, hP, hK, hE⟩ := hv
  have hx := B.exec
  have hb := B.bytes
  have hr := B.returns
  have hts := atoms_spec (ws := wsX1_requireSymbol) B.pre
  have hown : s.vm.findClass RX1 = some m.cls := findClass_of_methodNamed B.named
  have hlocks := B.notSynchronized
  have hsz : s.heap.size = sz := hsz
  subst hsz
  have hA : ∀ q : Nat, s.heap.size ≤ q → (va_A [] s.heap.size) q := fun q h => Or.inr h
  have hS : va_S (va_A [] s.heap.size) s.heap s.heap [] := va_S.rf
  have g_x1 := rg x1
  have hl := lv_entry ([.int x1]) (n := 1) (Nat.le_of_ble_eq_true rfl)
  rw [lg_entry_eq]
  generalize (lg_sl ([.int x1]) ++ List.replicate (1 - (lg_sl ([.int x1])).length) Slot.unset).toArray = ls at hl ⊢
  have hl : lv_has ls 1 [(0, .int x1)] := hl
  refine lv_iload_n hx hb dX1_requireSymbol_0 rfl (lv_at hl 0 rfl) ?_
  refine z_if_lt (tgt := 10) hx hb dX1_requireSymbol_1 (by decide) rfl (fun c1 => ?_) (fun c1 => ?_)
  · have _u := True.intro
    exact xIAE_throw hx hb hlt hown hts (by decide +kernel) hE hS (hl.1.trans hml.symm) hnt dX1_requireSymbol_10 dX1_requireSymbol_13 dX1_requireSymbol_14 dX1_requireSymbol_16 dX1_requireSymbol_19 (xS_145) (Nat.le_of_ble_eq_true rfl) (Nat.le_of_ble_eq_true rfl) (Nat.le_of_ble_eq_true rfl) (Nat.le_of_ble_eq_true rfl) hlocks (⟨rfl, by omega⟩) (fun z hz => hS.2.2 z hz) (Nat.le_of_ble_eq_true rfl) (Nat.le_of_ble_eq_true rfl)
  · have _u := True.intro
    refine lv_iload_n hx hb dX1_requireSymbol_4 rfl (lv_at hl 0 rfl) ?_
    refine lv_bipush (v := 26) hx hb dX1_requireSymbol_5 (by decide) ?_
    refine z_icmp_le (tgt := 20) hx hb dX1_requireSymbol_7 (by decide) rfl (show (26 : Int32).toInt = 26 by decide) (fun c7 => ?_) (fun c7 => ?_)
    · have _u := True.intro
      refine vx_ret ?_
      refine W.widen (k := 1) (n := 6) (Nat.le_of_ble_eq_true rfl) (Nat.le_of_ble_eq_true rfl) ?_
      exact W.vret hx hb hr (fun t ht hW => ⟨⟨(), rfl, ⟨by omega, by omega⟩, trivial⟩, hS.F ht⟩) hS.2.2 dX1_requireSymbol_20
    · have _u := True.intro
      exact xIAE_throw hx hb hlt hown hts (by decide +kernel) hE hS (hl.1.trans hml.symm) hnt dX1_requireSymbol_10 dX1_requireSymbol_13 dX1_requireSymbol_14 dX1_requireSymbol_16 dX1_requireSymbol_19 (xS_145) (Nat.le_of_ble_eq_true rfl) (Nat.le_of_ble_eq_true rfl) (Nat.le_of_ble_eq_true rfl) (Nat.le_of_ble_eq_true rfl) hlocks (⟨rfl, by omega⟩) (fun z hz => hS.2.2 z hz) (Nat.le_of_ble_eq_true rfl) (Nat.le_of_ble_eq_true rfl)

set_option maxHeartbeats 4000000 in
set_option maxRecDepth 100000 in
theorem c_X1_requirePatternIndex (l : Launch) (hlt : l.stackTraces = false) (D : va_G) (E : Nat × Nat × Nat) (h0 h1 h2 h3 : Nat) (y1 y2 y3 : ClassId) (sz n w : Nat) (T P M : Nat → Int32) (hn : n ≤ 64) (hw : w ≤ 24) (hT : SymF T) (hPt : SymF P) (x1 : Int32) : vx_Met l yX1_requirePatternIndex wsX1_requirePatternIndex ({ frames := 6, cells := 1, slots := 6, locals := 90 }) (va_Pc [.ref h0, .int x1] (cp D (XW h0 h1 h2 h3 y1 y2 y3 (n) (w) T P M) (XT y1 y2 y3) E (va_A [] sz) sz)) (va_Qv (fun (_ : Unit) => 0 ≤ x1.toInt ∧ x1.toInt < (w : Int)) (fun _ _ => True) (va_A [] sz)) (tX (fun X => X = "java/lang/IndexOutOfBoundsException" ∧ ¬ (0 ≤ x1.toInt ∧ x1.toInt < (w : Int))) sz) 1 6 (va_A [] sz) := by
  refine vx_ofW (cc := cX1_requirePatternIndex) (maxL := 2) (ret := none) (by decide) rfl ?_
  intro p e s m args below meth c s₁ B hml hnt hv
  obtain ⟨rfl, hsz, hP, hK, hE⟩ := hv
  have hx := B.exec
  have hb := B.bytes
  have hr := B.returns
  have hts := atoms_spec (ws := wsX1_requirePatternIndex) B.pre
  have hown : s.vm.findClass RX1 = some m.cls := findClass_of_methodNamed B.named
  have hlocks := B.notSynchronized
  have hsz : s.heap.size = sz := hsz
  subst hsz
  have hA : ∀ q : Nat, s.heap.size ≤ q → (va_A [] s.heap.size) q := fun q h => Or.inr h
  have hS : va_S (va_A [] s.heap.size) s.heap s.heap [] := va_S.rf
  have inn : (nI n).toInt = (n : Int) := nI_toInt (by omega)
  have iww : (nI w).toInt = (w : Int) := nI_toInt (by omega)
  have hf_patternSize := hts (.fieldLink RX1 23 "BlankMatcher" "patternSize" "I") (by decide +kernel)
  have hpl : pl n w = n + 1 - w := rfl
  have hin0 : ∀ w ∈ wsX10, w ∈ wsX1_requirePatternIndex := by decide +kernel
  have g_x1 := rg x1
  have hl := lv_entry ([.ref h0, .int x1]) (n := 2) (Nat.le_of_ble_eq_true rfl)
  rw [lg_entry_eq]
  generalize (lg_sl ([.ref h0, .int x1]) ++ List.replicate (2 - (lg_sl ([.ref h0, .int x1])).length) Slot.unset).toArray = ls at hl ⊢
  have hl : lv_has ls 2 [(0, .ref h0), (1, .int x1)] := hl
  refine lv_iload_n hx hb dX1_requirePatternIndex_0 rfl (lv_at hl 1 rfl) ?_
  refine z_if_lt (tgt := 12) hx hb dX1_requirePatternIndex_1 (by decide) rfl (fun c1 => ?_) (fun c1 => ?_)
  · have _u := True.intro
    exact xIOB_throw hx hb hlt hown hts (by decide +kernel) hE hS (hl.1.trans hml.symm) hnt dX1_requirePatternIndex_12 dX1_requirePatternIndex_15 dX1_requirePatternIndex_16 dX1_requirePatternIndex_18 dX1_requirePatternIndex_21 (xS_147) (Nat.le_of_ble_eq_true rfl) (Nat.le_of_ble_eq_true rfl) (Nat.le_of_ble_eq_true rfl) (Nat.le_of_ble_eq_true rfl) hlocks (⟨rfl, by omega⟩) (fun z hz => hS.2.2 z hz) (Nat.le_of_ble_eq_true rfl) (Nat.le_of_ble_eq_true rfl)
  · have _u := True.intro
    refine lv_iload_n hx hb dX1_requirePatternIndex_4 rfl (lv_at hl 1 rfl) ?_
    refine lv_aload_n hx hb dX1_requirePatternIndex_5 rfl (lv_at hl 0 rfl) ?_
    refine va_get (D := D) (ci := 0) (v := .int (nI w)) (C := RX1) (T := TX1) (N := 5) hx hb hts hin0 hown hK hP 0 rfl rfl 4 (by decide) hf_patternSize (fun _ h9 => h9) rfl dX1_requirePatternIndex_6 ?_
    refine z_icmp_lt (tgt := 22) hx hb dX1_requirePatternIndex_9 (by decide) rfl iww (fun c9 => ?_) (fun c9 => ?_)
    · have _u := True.intro
      refine vx_ret ?_
      refine W.widen (k := 1) (n := 6) (Nat.le_of_ble_eq_true rfl) (Nat.le_of_ble_eq_true rfl) ?_
      exact W.vret hx hb hr (fun t ht hW => ⟨⟨(), rfl, ⟨by omega, by omega⟩, trivial⟩, hS.F ht⟩) hS.2.2 dX1_requirePatternIndex_22
    · have _u := True.intro
      exact xIOB_throw hx hb hlt hown hts (by decide +kernel) hE hS (hl.1.trans hml.symm) hnt dX1_requirePatternIndex_12 dX1_requirePatternIndex_15 dX1_requirePatternIndex_16 dX1_requirePatternIndex_18 dX1_requirePatternIndex_21 (xS_147) (Nat.le_of_ble_eq_true rfl) (Nat.le_of_ble_eq_true rfl) (Nat.le_of_ble_eq_true rfl) (Nat.le_of_ble_eq_true rfl) hlocks (⟨rfl, by omega⟩) (fun z hz => hS.2.2 z hz) (Nat.le_of_ble_eq_true rfl) (Nat.le_of_ble_eq_true rfl)

set_option maxHeartbeats 4000000 in
set_option maxRecDepth 100000 in
theorem c_X1_requirePartOfText (l : Launch) (hlt : l.stackTraces = false) (D : va_G) (E : Nat × Nat × Nat) (h0 h1 h2 h3 : Nat) (y1 y2 y3 : ClassId) (sz n w : Nat) (T P M : Nat → Int32) (hn : n ≤ 64) (hw : w ≤ 24) (hT : SymF T) (hPt : SymF P) (x1 : Int32) (x2 : Int32) (hm2 : 0 ≤ x2.toInt) : vx_Met l yX1_requirePartOfText wsX1_requirePartOfText ({ frames := 6, cells := 1, slots := 6, locals := 90 }) (va_Pc [.ref h0, .int x1, .int x2] (cp D (XW h0 h1 h2 h3 y1 y2 y3 (n) (w) T P M) (XT y1 y2 y3) E (va_A [] sz) sz)) (va_Qv (fun (_ : Unit) => 0 ≤ x1.toInt ∧ x1.toInt + x2.toInt ≤ (n : Int)) (fun _ _ => True) (va_A [] sz)) (tX (fun X => X = "java/lang/IndexOutOfBoundsException" ∧ ¬ (0 ≤ x1.toInt ∧ x1.toInt + x2.toInt ≤ (n : Int))) sz) 1 6 (va_A [] sz) := by
  refine vx_ofW (cc := cX1_requirePartOfText) (maxL := 3) (ret := none) (by decide) rfl ?_
  intro p e s m args below meth c s₁ B hml hnt hv
  obtain ⟨rfl, hsz, hP, hK, hE⟩ := hv
  have hx := B.exec
  have hb := B.bytes
  have hr := B.returns
  have hts := atoms_spec (ws := wsX1_requirePartOfText) B.pre
  have hown : s.vm.findClass RX1 = some m.cls := findClass_of_methodNamed B.named
  have hlocks := B.notSynchronized
  have hsz : s.heap.size = sz := hsz
  subst hsz
  have hA : ∀ q : Nat, s.heap.size ≤ q → (va_A [] s.heap.size) q := fun q h => Or.inr h
  have hS : va_S (va_A [] s.heap.size) s.heap s.heap [] := va_S.rf
  have inn : (nI n).toInt = (n : Int) := nI_toInt (by omega)
  have iww : (nI w).toInt = (w : Int) := nI_toInt (by omega)
  have hf_textSize := hts (.fieldLink RX1 19 "BlankMatcher" "textSize" "I") (by decide +kernel)
  have hpl : pl n w = n + 1 - w := rfl
  have hin0 : ∀ w ∈ wsX10, w ∈ wsX1_requirePartOfText := by decide +kernel
  have g_x1 := rg x1
  have g_x2 := rg x2
  have hl := lv_entry ([.ref h0, .int x1, .int x2]) (n := 3) (Nat.le_of_ble_eq_true rfl)
  rw [lg_entry_eq]
  generalize (lg_sl ([.ref h0, .int x1, .int x2]) ++ List.replicate (3 - (lg_sl ([.ref h0, .int x1, .int x2])).length) Slot.unset).toArray = ls at hl ⊢
  have hl : lv_has ls 3 [(0, .ref h0), (1, .int x1), (2, .int x2)] := hl
  refine lv_iload_n hx hb dX1_requirePartOfText_0 rfl (lv_at hl 1 rfl) ?_
  refine z_if_lt (tgt := 14) hx hb dX1_requirePartOfText_1 (by decide) rfl (fun c1 => ?_) (fun c1 => ?_)
  · have _u := True.intro
    exact xIOB_throw hx hb hlt hown hts (by decide +kernel) hE hS (hl.1.trans hml.symm) hnt dX1_requirePartOfText_14 dX1_requirePartOfText_17 dX1_requirePartOfText_18 dX1_requirePartOfText_20 dX1_requirePartOfText_23 (xS_149) (Nat.le_of_ble_eq_true rfl) (Nat.le_of_ble_eq_true rfl) (Nat.le_of_ble_eq_true rfl) (Nat.le_of_ble_eq_true rfl) hlocks (⟨rfl, by omega⟩) (fun z hz => hS.2.2 z hz) (Nat.le_of_ble_eq_true rfl) (Nat.le_of_ble_eq_true rfl)
  · have _u := True.intro
    refine lv_iload_n hx hb dX1_requirePartOfText_4 rfl (lv_at hl 1 rfl) ?_
    refine lv_aload_n hx hb dX1_requirePartOfText_5 rfl (lv_at hl 0 rfl) ?_
    refine va_get (D := D) (ci := 0) (v := .int (nI n)) (C := RX1) (T := TX1) (N := 5) hx hb hts hin0 hown hK hP 0 rfl rfl 3 (by decide) hf_textSize (fun _ h9 => h9) rfl dX1_requirePartOfText_6 ?_
    refine lv_iload_n hx hb dX1_requirePartOfText_9 rfl (lv_at hl 2 rfl) ?_
    refine z_isub hx hb dX1_requirePartOfText_10 inn rfl (by omega) (by omega) (fun v10 e10 => ?_)
    refine z_icmp_le (tgt := 24) hx hb dX1_requirePartOfText_11 (by decide) rfl e10 (fun c11 => ?_) (fun c11 => ?_)
    · have _u := True.intro
      refine vx_ret ?_
      refine W.widen (k := 1) (n := 6) (Nat.le_of_ble_eq_true rfl) (Nat.le_of_ble_eq_true rfl) ?_
      exact W.vret hx hb hr (fun t ht hW => ⟨⟨(), rfl, ⟨by omega, by omega⟩, trivial⟩, hS.F ht⟩) hS.2.2 dX1_requirePartOfText_24
    · have _u := True.intro
      exact xIOB_throw hx hb hlt hown hts (by decide +kernel) hE hS (hl.1.trans hml.symm) hnt dX1_requirePartOfText_14 dX1_requirePartOfText_17 dX1_requirePartOfText_18 dX1_requirePartOfText_20 dX1_requirePartOfText_23 (xS_149) (Nat.le_of_ble_eq_true rfl) (Nat.le_of_ble_eq_true rfl) (Nat.le_of_ble_eq_true rfl) (Nat.le_of_ble_eq_true rfl) hlocks (⟨rfl, by omega⟩) (fun z hz => hS.2.2 z hz) (Nat.le_of_ble_eq_true rfl) (Nat.le_of_ble_eq_true rfl)

set_option maxHeartbeats 4000000 in
set_option maxRecDepth 100000 in
theorem c_X1_places (l : Launch) (D : va_G) (E : Nat × Nat × Nat) (h0 h1 h2 h3 : Nat) (y1 y2 y3 : ClassId) (sz n w : Nat) (T P M : Nat → Int32) (hn : n ≤ 64) (hw : w ≤ 24) (hT : SymF T) (hPt : SymF P) : Met l yX1_places wsX1_places ({ frames := 0, cells := 0, slots := 0, locals := 0 }) (va_Pc [.ref h0] (cp D (XW h0 h1 h2 h3 y1 y2 y3 (n) (w) T P M) (XT y1 y2 y3) E (va_A [] sz) sz)) (va_Qi (fun (r : Int32) (_ : Unit) => r.toInt = ((pl n w : Nat) : Int)) (fun _ _ => True) (va_A [] sz)) 0 0 (va_A [] sz) := by
  refine Met.ofW (cc := cX1_places) (maxL := 1) (ret := (some .int)) (by decide) rfl ?_
  intro p e s m args below meth c s₁ B hml hv
  obtain ⟨rfl, hsz, hP, hK, hE⟩ := hv
  have hx := B.exec
  have hb := B.bytes
  have hr := B.returns
  have hts := atoms_spec (ws := wsX1_places) B.pre
  have hown : s.vm.findClass RX1 = some m.cls := findClass_of_methodNamed B.named
  have hlocks := B.notSynchronized
  have hsz : s.heap.size = sz := hsz
  subst hsz
  have hA : ∀ q : Nat, s.heap.size ≤ q → (va_A [] s.heap.size) q := fun q h => Or.inr h
  have hS : va_S (va_A [] s.heap.size) s.heap s.heap [] := va_S.rf
  have inn : (nI n).toInt = (n : Int) := nI_toInt (by omega)
  have iww : (nI w).toInt = (w : Int) := nI_toInt (by omega)
  have hf_patternSize := hts (.fieldLink RX1 23 "BlankMatcher" "patternSize" "I") (by decide +kernel)
  have hf_textSize := hts (.fieldLink RX1 19 "BlankMatcher" "textSize" "I") (by decide +kernel)
  have hpl : pl n w = n + 1 - w := rfl
  have hin0 : ∀ w ∈ wsX10, w ∈ wsX1_places := by decide +kernel
  have hl := lv_entry ([.ref h0]) (n := 1) (Nat.le_of_ble_eq_true rfl)
  rw [lg_entry_eq]
  generalize (lg_sl ([.ref h0]) ++ List.replicate (1 - (lg_sl ([.ref h0])).length) Slot.unset).toArray = ls at hl ⊢
  have hl : lv_has ls 1 [(0, .ref h0)] := hl
  refine lv_aload_n hx hb dX1_places_0 rfl (lv_at hl 0 rfl) ?_
  refine va_get (D := D) (ci := 0) (v := .int (nI w)) (C := RX1) (T := TX1) (N := 5) hx hb hts hin0 hown hK hP 0 rfl rfl 4 (by decide) hf_patternSize (fun _ h9 => h9) rfl dX1_places_1 ?_
  refine lv_aload_n hx hb dX1_places_4 rfl (lv_at hl 0 rfl) ?_
  refine va_get (D := D) (ci := 0) (v := .int (nI n)) (C := RX1) (T := TX1) (N := 5) hx hb hts hin0 hown hK hP 0 rfl rfl 3 (by decide) hf_textSize (fun _ h9 => h9) rfl dX1_places_5 ?_
  refine z_icmp_le (tgt := 15) hx hb dX1_places_8 (by decide) iww inn (fun c8 => ?_) (fun c8 => ?_)
  · have _u := True.intro
    refine lv_aload_n hx hb dX1_places_15 rfl (lv_at hl 0 rfl) ?_
    refine va_get (D := D) (ci := 0) (v := .int (nI n)) (C := RX1) (T := TX1) (N := 5) hx hb hts hin0 hown hK hP 0 rfl rfl 3 (by decide) hf_textSize (fun _ h9 => h9) rfl dX1_places_16 ?_
    refine lv_aload_n hx hb dX1_places_19 rfl (lv_at hl 0 rfl) ?_
    refine va_get (D := D) (ci := 0) (v := .int (nI w)) (C := RX1) (T := TX1) (N := 5) hx hb hts hin0 hown hK hP 0 rfl rfl 4 (by decide) hf_patternSize (fun _ h9 => h9) rfl dX1_places_20 ?_
    refine z_isub hx hb dX1_places_23 inn iww (by omega) (by omega) (fun v23 e23 => ?_)
    refine lv_iconst (v := 1) hx hb dX1_places_24 (by decide) ?_
    refine z_iadd hx hb dX1_places_25 e23 (show (1 : Int32).toInt = 1 by decide) (by omega) (by omega) (fun v25 e25 => ?_)
    refine W.widen (k := 0) (n := 0) (Nat.le_of_ble_eq_true rfl) (Nat.le_of_ble_eq_true rfl) ?_
    exact W.iret (v := v25) hx hb hr (fun t ht hW => ⟨⟨_, (), rfl, (Eq.trans e25 (by omega)), trivial⟩, hS.F ht⟩) hS.2.2 dX1_places_26
  · have _u := True.intro
    refine lv_iconst (v := 0) hx hb dX1_places_11 (by decide) ?_
    refine lv_goto (tgt := 26) hx hb dX1_places_12 (by decide) ?_
    refine W.widen (k := 0) (n := 0) (Nat.le_of_ble_eq_true rfl) (Nat.le_of_ble_eq_true rfl) ?_
    exact W.iret (v := 0) hx hb hr (fun t ht hW => ⟨⟨_, (), rfl, (Eq.trans (show (0 : Int32).toInt = 0 by decide) (by omega)), trivial⟩, hS.F ht⟩) hS.2.2 dX1_places_26

set_option maxHeartbeats 4000000 in
set_option maxRecDepth 100000 in
theorem c_X1_requirePlace (l : Launch) (hlt : l.stackTraces = false) (D : va_G) (E : Nat × Nat × Nat) (h0 h1 h2 h3 : Nat) (y1 y2 y3 : ClassId) (sz n w : Nat) (T P M : Nat → Int32) (hn : n ≤ 64) (hw : w ≤ 24) (hT : SymF T) (hPt : SymF P) (x1 : Int32) : vx_Met l yX1_requirePlace wsX1_requirePlace ({ frames := 6, cells := 1, slots := 6, locals := 90 }) (va_Pc [.ref h0, .int x1] (cp D (XW h0 h1 h2 h3 y1 y2 y3 (n) (w) T P M) (XT y1 y2 y3) E (va_A [] sz) sz)) (va_Qv (fun (_ : Unit) => 0 ≤ x1.toInt ∧ x1.toInt < ((pl n w : Nat) : Int)) (fun _ _ => True) (va_A [] sz)) (tX (fun X => X = "java/lang/IndexOutOfBoundsException" ∧ ¬ (0 ≤ x1.toInt ∧ x1.toInt < ((pl n w : Nat) : Int))) sz) 1 6 (va_A [] sz) := by
  refine vx_ofW (cc := cX1_requirePlace) (maxL := 2) (ret := none) (by decide) rfl ?_
  intro p e s m args below meth c s₁ B hml hnt hv
  obtain ⟨rfl, hsz, hP, hK, hE⟩ := hv
  have hx := B.exec
  have hb := B.bytes
  have hr := B.returns
  have hts := atoms_spec (ws := wsX1_requirePlace) B.pre
  have hown : s.vm.findClass RX1 = some m.cls := findClass_of_methodNamed B.named
  have hlocks := B.notSynchronized
  have hsz : s.heap.size = sz := hsz
  subst hsz
  have hA : ∀ q : Nat, s.heap.size ≤ q → (va_A [] s.heap.size) q := fun q h => Or.inr h
  have hS : va_S (va_A [] s.heap.size) s.heap s.heap [] := va_S.rf
  have inn : (nI n).toInt = (n : Int) := nI_toInt (by omega)
  have iww : (nI w).toInt = (w : Int) := nI_toInt (by omega)
  have hpl : pl n w = n + 1 - w := rfl
  have g_x1 := rg x1
  have hl := lv_entry ([.ref h0, .int x1]) (n := 2) (Nat.le_of_ble_eq_true rfl)
  rw [lg_entry_eq]
  generalize (lg_sl ([.ref h0, .int x1]) ++ List.replicate (2 - (lg_sl ([.ref h0, .int x1])).length) Slot.unset).toArray = ls at hl ⊢
  have hl : lv_has ls 2 [(0, .ref h0), (1, .int x1)] := hl
  refine lv_iload_n hx hb dX1_requirePlace_0 rfl (lv_at hl 1 rfl) ?_
  refine z_if_lt (tgt := 12) hx hb dX1_requirePlace_1 (by decide) rfl (fun c1 => ?_) (fun c1 => ?_)
  · have _u := True.intro
    exact xIOB_throw hx hb hlt hown hts (by decide +kernel) hE hS (hl.1.trans hml.symm) hnt dX1_requirePlace_12 dX1_requirePlace_15 dX1_requirePlace_16 dX1_requirePlace_18 dX1_requirePlace_21 (xS_151) (Nat.le_of_ble_eq_true rfl) (Nat.le_of_ble_eq_true rfl) (Nat.le_of_ble_eq_true rfl) (Nat.le_of_ble_eq_true rfl) hlocks (⟨rfl, by omega⟩) (fun z hz => hS.2.2 z hz) (Nat.le_of_ble_eq_true rfl) (Nat.le_of_ble_eq_true rfl)
  · have _u := True.intro
    refine lv_iload_n hx hb dX1_requirePlace_4 rfl (lv_at hl 1 rfl) ?_
    refine lv_aload_n hx hb dX1_requirePlace_5 rfl (lv_at hl 0 rfl) ?_
    refine va_calli (va_runV (As := []) (rest := [.int x1]) ⟨hx, hb, hml, hown, hts⟩ (c_X1_places l D E h0 h1 h2 h3 y1 y2 y3 s.heap.size (n) (w) T P M hn hw hT hPt) (cwV 0 hts gX1_requirePlace_X1_places rfl rfl rfl (by decide +kernel) ⟨Nat.le_of_ble_eq_true rfl, Nat.le_of_ble_eq_true rfl⟩) ⟨cp.blind, va_recv hK hP (ci := 0) (q0 := 0) rfl rfl, fun U hU hW => ⟨rfl, cp.call hP hK hE hS (fr0 hS hA) hU hW⟩⟩ rfl rfl hl.1 rfl (lv_room (Nat.le_of_ble_eq_true rfl)) dX1_requirePlace_6 ⟨Nat.le_of_ble_eq_true rfl, Nat.le_of_ble_eq_true rfl⟩) hS (fun q _ h => (fr0 hS hA) q h) (fr0 hS hA) (fun v6 u t H1 locs1 ht hvm e6 hB hz1 hk1 hS => ?_)
    have hP := kp hP hk1
    generalize H1 = H at hP hS ⊢
    generalize locs1 = locs at hS ⊢
    refine z_icmp_lt (tgt := 22) hx hb dX1_requirePlace_9 (by decide) rfl e6 (fun c9 => ?_) (fun c9 => ?_)
    · have _u := True.intro
      refine vx_ret ?_
      refine W.widen (k := 1) (n := 6) (Nat.le_of_ble_eq_true rfl) (Nat.le_of_ble_eq_true rfl) ?_
      exact W.vret hx hb hr (fun t ht hW => ⟨⟨(), rfl, ⟨by omega, by omega⟩, trivial⟩, hS.F ht⟩) hS.2.2 dX1_requirePlace_22
    · have _u := True.intro
      exact xIOB_throw hx hb hlt hown hts (by decide +kernel) hE hS (hl.1.trans hml.symm) hnt dX1_requirePlace_12 dX1_requirePlace_15 dX1_requirePlace_16 dX1_requirePlace_18 dX1_requirePlace_21 (xS_151) (Nat.le_of_ble_eq_true rfl) (Nat.le_of_ble_eq_true rfl) (Nat.le_of_ble_eq_true rfl) (Nat.le_of_ble_eq_true rfl) hlocks (⟨rfl, by omega⟩) (fun z hz => hS.2.2 z hz) (Nat.le_of_ble_eq_true rfl) (Nat.le_of_ble_eq_true rfl)

set_option maxHeartbeats 4000000 in
set_option maxRecDepth 100000 in
theorem c_X1_countMismatches (l : Launch) (D : va_G) (E : Nat × Nat × Nat) (h0 h1 h2 h3 : Nat) (y1 y2 y3 : ClassId) (sz n w : Nat) (T P M : Nat → Int32) (hn : n ≤ 64) (hw : w ≤ 24) (hT : SymF T) (hPt : SymF P) (x1 : Int32) (o : Nat) (e_o : x1.toInt = (o : Int)) (ho : o + w ≤ n) : Met l yX1_countMismatches wsX1_countMismatches ({ frames := 1, cells := 0, slots := 0, locals := 21 }) (va_Pc [.ref h0, .int x1] (cp D (XW h0 h1 h2 h3 y1 y2 y3 (n) (w) T P M) (XT y1 y2 y3) E (va_A [] sz) sz)) (va_Qi (fun (r : Int32) (_ : Unit) => r.toInt = ((mis T P o w : Nat) : Int)) (fun _ _ => True) (va_A [] sz)) 0 0 (va_A [] sz) := by
  refine Met.ofW (cc := cX1_countMismatches) (maxL := 4) (ret := (some .int)) (by decide) rfl ?_
  intro p e s m args below meth c s₁ B hml hv
  obtain ⟨rfl, hsz, hP, hK, hE⟩ := hv
  have hx := B.exec
  have hb := B.bytes
  have hr := B.returns
  have hts := atoms_spec (ws := wsX1_countMismatches) B.pre
  have hown : s.vm.findClass RX1 = some m.cls := findClass_of_methodNamed B.named
  have hlocks := B.notSynchronized
  have hsz : s.heap.size = sz := hsz
  subst hsz
  have hA : ∀ q : Nat, s.heap.size ≤ q → (va_A [] s.heap.size) q := fun q h => Or.inr h
  have hS : va_S (va_A [] s.heap.size) s.heap s.heap [] := va_S.rf
  have inn : (nI n).toInt = (n : Int) := nI_toInt (by omega)
  have iww : (nI w).toInt = (w : Int) := nI_toInt (by omega)
  have hf_pattern := hts (.fieldLink RX1 13 "BlankMatcher" "pattern" "[I") (by decide +kernel)
  have hf_patternSize := hts (.fieldLink RX1 23 "BlankMatcher" "patternSize" "I") (by decide +kernel)
  have hf_text := hts (.fieldLink RX1 9 "BlankMatcher" "text" "[I") (by decide +kernel)
  have hpl : pl n w = n + 1 - w := rfl
  have hin0 : ∀ w ∈ wsX10, w ∈ wsX1_countMismatches := by decide +kernel
  have g_x1 := rg x1
  have hl := lv_entry ([.ref h0, .int x1]) (n := 4) (Nat.le_of_ble_eq_true rfl)
  rw [lg_entry_eq]
  generalize (lg_sl ([.ref h0, .int x1]) ++ List.replicate (4 - (lg_sl ([.ref h0, .int x1])).length) Slot.unset).toArray = ls at hl ⊢
  have hl : lv_has ls 4 [(0, .ref h0), (1, .int x1)] := hl
  refine lv_iconst (v := 0) hx hb dX1_countMismatches_0 (by decide) ?_
  refine lv_istore_n (lv' := [(2, .int 0), (0, .ref h0), (1, .int x1)]) hx hb dX1_countMismatches_1 rfl hl (by decide) rfl (fun ls hl => ?_)
  refine lv_iconst (v := 0) hx hb dX1_countMismatches_2 (by decide) ?_
  refine lv_istore_n (lv' := [(3, .int 0), (2, .int 0), (0, .ref h0), (1, .int x1)]) hx hb dX1_countMismatches_3 rfl hl (by decide) rfl (fun ls hl => ?_)
  have lp4 : ∀ (nf : Nat) (j : Nat) (x2 : Int32) (x3 : Int32), w - j < nf → (j ≤ w) → x2.toInt = ((cnt (mf T P o) j : Nat) : Int) → x3.toInt = (j : Int) → ∀ (H : Heap) (locs : List Loc), va_P D vwCl (XW h0 h1 h2 h3 y1 y2 y3 (n) (w) T P M) H → va_S (va_A [] s.heap.size) s.heap H locs → ∀ (ls : Array Slot), lv_has ls 4 [(0, .ref h0), (1, .int x1), (2, .int x2), (3, .int x3)] → W p l e (headSpec wsX1_countMismatches ({ frames := 1, cells := 0, slots := 0, locals := 21 })).room s m [.ref h0, .int x1].toArray below meth c H locs 0 0 (MQ below (va_Qi (fun (r : Int32) (_ : Unit) => r.toInt = ((mis T P o w : Nat) : Int)) (fun _ _ => True) (va_A [] s.heap.size)) [.ref h0, .int x1].toArray s 0 0 (va_A [] s.heap.size)) (F0 m 4 ls []) := by
    intro nf
    induction nf with
    | zero => intros; omega
    | succ nf ih4 =>
      intro j x2 x3 hnf hj e_x2 e_x3 H locs hP hS ls hl
      have hcl := cnt_le (mf T P o) j
      refine lv_iload_n hx hb dX1_countMismatches_4 rfl (lv_at hl 3 rfl) ?_
      refine lv_aload_n hx hb dX1_countMismatches_5 rfl (lv_at hl 0 rfl) ?_
      refine va_get (D := D) (ci := 0) (v := .int (nI w)) (C := RX1) (T := TX1) (N := 5) hx hb hts hin0 hown hK hP 0 rfl rfl 4 (by decide) hf_patternSize (fun _ h9 => h9) rfl dX1_countMismatches_6 ?_
      refine z_icmp_ge (tgt := 41) hx hb dX1_countMismatches_9 (by decide) e_x3 iww (fun c9 => ?_) (fun c9 => ?_)
      · have _u := True.intro
        refine lv_iload_n hx hb dX1_countMismatches_41 rfl (lv_at hl 2 rfl) ?_
        refine W.widen (k := 0) (n := 0) (Nat.le_of_ble_eq_true rfl) (Nat.le_of_ble_eq_true rfl) ?_
        exact W.iret (v := x2) hx hb hr (fun t ht hW => ⟨⟨_, (), rfl, (Eq.trans e_x2 (by have q : j = w := (by omega); rw [q]; rfl)), trivial⟩, hS.F ht⟩) hS.2.2 dX1_countMismatches_42
      · have _u := True.intro
        refine lv_aload_n hx hb dX1_countMismatches_12 rfl (lv_at hl 0 rfl) ?_
        refine va_get (D := D) (ci := 0) (v := .ref h2) (C := RX1) (T := TX1) (N := 5) hx hb hts hin0 hown hK hP 0 rfl rfl 1 (by decide) hf_pattern (fun _ h9 => h9) rfl dX1_countMismatches_13 ?_
        refine lv_iload_n hx hb dX1_countMismatches_16 rfl (lv_at hl 3 rfl) ?_
        refine z_iald hx hb hK hP 2 1 rfl rfl (j) e_x3 (by omega) (by omega) dX1_countMismatches_17 ?_
        refine lv_aload_n hx hb dX1_countMismatches_18 rfl (lv_at hl 0 rfl) ?_
        refine va_get (D := D) (ci := 0) (v := .ref h1) (C := RX1) (T := TX1) (N := 5) hx hb hts hin0 hown hK hP 0 rfl rfl 0 (by decide) hf_text (fun _ h9 => h9) rfl dX1_countMismatches_19 ?_
        refine lv_iload_n hx hb dX1_countMismatches_22 rfl (lv_at hl 1 rfl) ?_
        refine lv_iload_n hx hb dX1_countMismatches_23 rfl (lv_at hl 3 rfl) ?_
        refine z_iadd hx hb dX1_countMismatches_24 e_o e_x3 (by omega) (by omega) (fun v24 e24 => ?_)
        refine z_iald hx hb hK hP 1 0 rfl rfl (o + j) e24 (by omega) (by omega) dX1_countMismatches_25 ?_
        refine va_calli (va_runS (As := [.int (P (j)), .int (T (o + j))]) (rest := []) ⟨hx, hb, hml, hown, hts⟩ (c_X1_agree l H.size (P (j)) (T (o + j))) (va_cwS 2 hts gX1_countMismatches_X1_agree rfl rfl rfl (by decide +kernel) ⟨Nat.le_of_ble_eq_true rfl, Nat.le_of_ble_eq_true rfl⟩) ⟨cz.blind, fun U hU hW => ⟨rfl, cz.call hU⟩⟩ rfl rfl hl.1 rfl (lv_room (Nat.le_of_ble_eq_true rfl)) dX1_countMismatches_26 ⟨Nat.le_of_ble_eq_true rfl, Nat.le_of_ble_eq_true rfl⟩) hS (fun q _ h => (fr0 hS hA) q h) (fr0 hS hA) (fun v26 u t H1 locs1 ht hvm e26 hB hz1 hk1 hS => ?_)
        have hP := kp hP hk1
        generalize H1 = H at hP hS ⊢
        generalize locs1 = locs at hS ⊢
        refine zb_if_ne (tgt := 35) hx hb dX1_countMismatches_29 (by decide) e26 (fun c29 => ?_) (fun c29 => ?_)
        · have _u := True.intro
          have q := cnt_f (f := mf T P o) (k := j) (mf_f c29)
          refine z_iinc (k := 3) (lv' := fun v => [(3, .int v), (0, .ref h0), (1, .int x1), (2, .int x2)]) hx hb dX1_countMismatches_35 hl rfl e_x3 (by decide) (by omega) (by omega) (by decide) (fun _ => rfl) (fun v35 ls e35 hl => ?_)
          refine lv_goto (tgt := 4) hx hb dX1_countMismatches_38 (by decide) ?_
          exact ih4 (j + 1) x2 v35 (by omega) (by omega) (Eq.trans e_x2 (by omega)) (Eq.trans e35 (by omega)) _ _ hP hS _ (lv_sub hl [1, 2, 3, 0] rfl)
        · have _u := True.intro
          have q := cnt_t (f := mf T P o) (k := j) (mf_t c29)
          refine z_iinc (k := 2) (lv' := fun v => [(2, .int v), (0, .ref h0), (1, .int x1), (3, .int x3)]) hx hb dX1_countMismatches_32 hl rfl e_x2 (by decide) (by omega) (by omega) (by decide) (fun _ => rfl) (fun v32 ls e32 hl => ?_)
          refine z_iinc (k := 3) (lv' := fun v => [(3, .int v), (2, .int v32), (0, .ref h0), (1, .int x1)]) hx hb dX1_countMismatches_35 hl rfl e_x3 (by decide) (by omega) (by omega) (by decide) (fun _ => rfl) (fun v35 ls e35 hl => ?_)
          refine lv_goto (tgt := 4) hx hb dX1_countMismatches_38 (by decide) ?_
          exact ih4 (j + 1) v32 v35 (by omega) (by omega) (Eq.trans e32 (by omega)) (Eq.trans e35 (by omega)) _ _ hP hS _ (lv_sub hl [2, 3, 1, 0] rfl)
  have hc0 := cnt_0 (mf T P o)
  exact lp4 ((w - 0) + 1) (0) 0 0 (by omega) (by omega) (Eq.trans (show (0 : Int32).toInt = 0 by decide) (by omega)) (Eq.trans (show (0 : Int32).toInt = 0 by decide) (by omega)) _ _ hP hS _ (lv_sub hl [2, 3, 1, 0] rfl)
end
