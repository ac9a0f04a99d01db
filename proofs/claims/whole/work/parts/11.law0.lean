/-! THE CLAIM OUT OF ONE WALK OF THE LAW'S BODY. Your part is whole_start (and what it stands on); all else here is the same for every law, but numbers. -/
def R_law : String := "BlankMatcherLaw"
def lw_P (b : Addr) (xs : List Int32) (args : Array Value) (s : State) : Prop := args = #[.ref b] ∧ s.IntsAt b xs ∧ xs.length ≤ 1536 ∧ (Jvm.Cond.and given_1 narrow_1).before args s = true
def lw_Q (_ : Array Value) (s : State) (o : Outcome) (t : State) : Prop := o = .returned (some (.int 1)) ∧ Framed s o t [] 1051 8558
def lw_Z (below : List Frame) (a : Array Value) (s : State) : State → Prop := fun t => ∃ o, t.status = .running ∧ Ended t below o ∧ lw_Q a s o t
/-- the law's own end, with 1 on the stack, nothing written that was there before, its room as the claim has it -/
theorem lw_ret {p : Program} {l : Launch} {e : Env} {s : State} {m : MethodId} {below : List Frame} {meth : Method} {c : Code} {b : Nat} (hx : p.tables.exec = Jvm.exec) (hb : c.code = code) (hr : meth.sig.returnType = ret) (hlocks : meth.locks = false) {pc : Nat} {H : Heap} {ls : Array Slot} (hdg : decode code pc = .ok (.ireturn, 1)) : W p l e room_1 s m #[Value.ref b] below meth c H [] 1051 8558 (lw_Z below #[Value.ref b] s) (F0 m pc ls [.int 1]) := by
  intro T hT X
  obtain ⟨fs, hret, hrun, hended, hW, hframe⟩ := X.leave (v := some (.int 1)) (hlocks := hlocks) (fun h => by rw [hr] at h; cases h)
  have hmeth' : T.vm.method? m = some meth := X.method'
  refine ⟨T.setFrames fs, ?_, .returned (some (.int 1)), hrun, hended, rfl, ⟨_, rfl⟩, hW, hframe⟩
  jvm_step X.here [X.here.top, hx, hb, hdg, hmeth', hr, ret, narrow_b1]
  (try refine ⟨rfl, ?_⟩); (try refine ⟨rfl, ?_⟩)
  first | (intro acts; rw [hret _ acts rfl rfl rfl]) | rw [hret _ _ rfl rfl rfl]
  exact Steps.refl _
/-- what holds at the law's entry: the machine, the code, the tables' words (any of lw_tbl by 'hts w (by decide +kernel)'), the script of L ints xs at the cell b, what the Statement gives of the start (any of its parts by flat_of_before) -/
def lw_At (p : Program) (s : State) (m : MethodId) (meth : Method) (c : Code) (b L : Nat) (xs : Nat → Int32) : Prop :=
  p.tables.exec = Jvm.exec ∧ c.code = code ∧ meth.sig.returnType = ret ∧ c.maxLocals = 7 ∧ s.vm.findClass R_law = some m.cls ∧ (∀ w ∈ lw_tbl, w.before #[Value.ref b] s = true) ∧ va_X b L xs s s.heap ∧ b < s.heap.size ∧ meth.locks = false ∧ (Jvm.Cond.and given_1 narrow_1).before #[Value.ref b] s = true

abbrev GW (h0 h1 h2 h3 b0 g0 g1 g2 : Nat) (y1 y2 y3 y6 y4 y5 : ClassId) (n w : Nat) (th : Int32) (T P M : Nat → Int32) (O : Nat → Int64) : va_W := [(h0, .inr (0, [.ref h1, .ref h2, .ref h3, .int (nI n), .int (nI w)])), (h1, .inl (y1, 64, .inl T)), (h2, .inl (y2, 24, .inl P)), (h3, .inl (y3, 65, .inl M)), (b0, .inl (y6, 1, .inr (.inl O))), (g0, .inr (1, [.int th, .ref g1, .ref g2, .int (nI n), .int (nI w)])), (g1, .inl (y4, 64, .inl T)), (g2, .inl (y5, 24, .inl P))]
abbrev GT (y1 y2 y3 y6 y4 y5 : ClassId) : List (ClassId × FieldType) := [(y1, .int), (y2, .int), (y3, .int), (y6, .long), (y4, .int), (y5, .int)]
theorem kAT_0 {n : Nat} {a : Int} (h : kAT n a = 0) : 0 ≤ a ∧ a ≤ 26 ∧ n < 64 := by unfold kAT at h; (repeat' split at h) <;> omega
theorem kAP_0 {w : Nat} {a : Int} (h : kAP w a = 0) : 0 ≤ a ∧ a ≤ 26 ∧ w < 24 := by unfold kAP at h; (repeat' split at h) <;> omega
theorem kRT_0 {n : Nat} {a b : Int} (h : kRT n a b = 0) : 1 ≤ b ∧ 0 ≤ a ∧ a + b ≤ n ∧ (n : Int) + b ≤ 64 := by unfold kRT at h; (repeat' split at h) <;> omega
theorem kST_0 {n : Nat} {a b : Int} (h : kST n a b = 0) : 0 ≤ a ∧ a < n ∧ 0 ≤ b ∧ b ≤ 26 := by unfold kST at h; (repeat' split at h) <;> omega
theorem kTP_0 {n : Nat} {a b : Int} (h : kTP n a b = 0) : 0 ≤ b ∧ b ≤ 24 ∧ 0 ≤ a ∧ a + b ≤ n := by unfold kTP at h; (repeat' split at h) <;> omega
theorem SymF.zero : SymF (fun _ => 0) := fun _ => (show 0 ≤ (0 : Int32).toInt ∧ (0 : Int32).toInt ≤ 26 by decide)
/-- what is owed behind a call of the script, at its end: the loop goes on from any state of the two that agree -/
abbrev LK (p : Program) (l : Launch) (e : Env) (s : State) (m : MethodId) (below : List Frame) (meth : Method) (c : Code) (D : va_G) (b : Nat) (h0 h1 h2 h3 b0 g0 g1 g2 : Nat) (y1 y2 y3 y6 y4 y5 : ClassId) (c9 : Nat) (x4 : Int32) : Prop := ∀ (n w : Nat) (th : Int32) (T P M : Nat → Int32) (O : Nat → Int64), n ≤ 64 → w ≤ 24 → SymF T → SymF P → ∀ (H : Heap) (locs : List Loc), va_P D vwCl (GW h0 h1 h2 h3 b0 g0 g1 g2 y1 y2 y3 y6 y4 y5 n w th T P M O) H → va_D (fun q : Nat => s.heap.size ≤ q) (GW h0 h1 h2 h3 b0 g0 g1 g2 y1 y2 y3 y6 y4 y5 n w th T P M O) → va_S (fun q : Nat => s.heap.size ≤ q) s.heap H locs → ∀ (ls : Array Slot), lv_has ls 7 [(0, .ref b), (1, .ref h0), (2, .ref g0), (3, .ref b0), (4, .int x4)] → W p l e room_1 s m #[Value.ref b] below meth c H locs (8 + 2 * c9 + 2) (252 + 12 * c9 + 12) (lw_Z below #[Value.ref b] s) (F0 m 1453 ls [])

