section Round2
abbrev XW (h0 h1 h2 h3 : Nat) (c1 c2 c3 : ClassId) (n w : Nat) (T P M : Nat → Int32) : va_W := [(h0, .inr (0, [.ref h1, .ref h2, .ref h3, .int (nI n), .int (nI w)])), (h1, .inl (c1, 64, .inl T)), (h2, .inl (c2, 24, .inl P)), (h3, .inl (c3, 65, .inl M))]
abbrev XT (c1 c2 c3 : ClassId) : List (ClassId × FieldType) := [(c1, .int), (c2, .int), (c3, .int)]
abbrev MW (g0 g1 g2 : Nat) (c4 c5 : ClassId) (th : Int32) (n w : Nat) (T P : Nat → Int32) : va_W := [(g0, .inr (1, [.int th, .ref g1, .ref g2, .int (nI n), .int (nI w)])), (g1, .inl (c4, 64, .inl T)), (g2, .inl (c5, 24, .inl P))]
abbrev MT (c4 c5 : ClassId) : List (ClassId × FieldType) := [(c4, .int), (c5, .int)]
def cz (sz : Nat) (U : State) : Prop := U.heap.size = sz
theorem cz.blind {av : List Value} {sz : Nat} : FrameBlind (va_Pc av (cz sz)) := fun _ _ _ _ q => q
theorem cz.call {U : State} {H : Heap} (h : U.heap = H) : cz H.size U := by subst h; rfl
/-- what a thrower says of the world: nothing old was written, and why it threw -/
def tX (Px : String → Prop) (sz : Nat) : String → State → State → Prop := vx_X (fun _ : Unit => True) (fun X _ _ => Px X) (va_A [] sz)
theorem nA0 {ws : va_W} {q sz : Nat} (h : va_A [] sz q) : va_A ws sz q := by
  rcases h with ⟨k, e, h1⟩ | h1
  · cases h1
  · exact Or.inr h1
theorem va_S.mono0 {A B : Nat → Prop} {H0 H : Heap} {locs : List Loc} (h : va_S A H0 H locs) (hq : ∀ q, A q → B q) : va_S B H0 H locs := ⟨h.1, fun q h1 h2 => h.2.1 q h1 (fun z => h2 (hq q z)), fun z hz => hq _ (h.2.2 z hz)⟩
theorem XEnv.narrow0 {E : Nat × Nat × Nat} {A B : Nat → Prop} {s : State} {H : Heap} (h : XEnv E A s H) (hq : ∀ q, B q → A q) : XEnv E B s H := ⟨h.1, EnvH.narrow hq h.2⟩
theorem tX.out {Px : String → Prop} {X : String} {s t : State} {H1 : Heap} {locs1 : List Loc} (hS : va_S (va_A [] s.heap.size) s.heap H1 locs1) (ht : t.heap = H1) (h : Px X) : tX Px s.heap.size X s t := ⟨(), trivial, h, hS.F ht⟩
theorem xS_145 : ((145 : Nat), "symbol is out of range") ∈ xS := List.mem_of_getElem? (i := 0) rfl
theorem xS_32 : ((32 : Nat), "the text is full") ∈ xS := List.mem_of_getElem? (i := 1) rfl
theorem xS_39 : ((39 : Nat), "many is below 1") ∈ xS := List.mem_of_getElem? (i := 2) rfl
theorem xS_149 : ((149 : Nat), "the text has no such part") ∈ xS := List.mem_of_getElem? (i := 3) rfl
theorem xS_46 : ((46 : Nat), "the text would be too long") ∈ xS := List.mem_of_getElem? (i := 4) rfl
theorem xS_56 : ((56 : Nat), "no such symbol in the text") ∈ xS := List.mem_of_getElem? (i := 5) rfl
theorem xS_59 : ((59 : Nat), "the pattern is full") ∈ xS := List.mem_of_getElem? (i := 6) rfl
theorem xS_147 : ((147 : Nat), "no such symbol in the pattern") ∈ xS := List.mem_of_getElem? (i := 7) rfl
theorem xS_64 : ((64 : Nat), "many is out of range") ∈ xS := List.mem_of_getElem? (i := 8) rfl
theorem xS_70 : ((70 : Nat), "power is below 0") ∈ xS := List.mem_of_getElem? (i := 9) rfl
theorem xS_151 : ((151 : Nat), "no such place") ∈ xS := List.mem_of_getElem? (i := 10) rfl
theorem xS_156 : ((156 : Nat), "no such match") ∈ xS := List.mem_of_getElem? (i := 11) rfl
theorem xS_106 : ((106 : Nat), "letter is out of range") ∈ xS := List.mem_of_getElem? (i := 12) rfl
theorem xS_112 : ((112 : Nat), "from is below 0") ∈ xS := List.mem_of_getElem? (i := 13) rfl
theorem xS_117 : ((117 : Nat), "index is out of range") ∈ xS := List.mem_of_getElem? (i := 14) rfl
theorem xS_119 : ((119 : Nat), "from is out of range") ∈ xS := List.mem_of_getElem? (i := 15) rfl
theorem xS_124 : ((124 : Nat), "bound is below 0") ∈ xS := List.mem_of_getElem? (i := 16) rfl
theorem xS_126 : ((126 : Nat), "no such rank") ∈ xS := List.mem_of_getElem? (i := 17) rfl
theorem xS_140 : ((140 : Nat), "period is below 1") ∈ xS := List.mem_of_getElem? (i := 18) rfl
section Thr
variable {p : Program} {l : Launch} {e : Env} {R : Room} {s : State} {m : MethodId} {args : Array Value} {below : List Frame} {meth : Method} {c : Code} {H : Heap} {locs : List Loc} {cells slots : Nat}
variable {cc : ByteArray} {pc mc ms : Nat} {ls : Array Slot} {rest : List Value} {Qc : Array Value → State → Outcome → State → Prop} {free : Addr → Prop} {Px : String → Prop} {E : Nat × Nat × Nat} {Ts : List Cond} {si : Nat} {text : String}
theorem xIAE_good : ∀ w ∈ Cond.classLink RX1 37 "java/lang/IllegalArgumentException" :: Cond.initialized "java/lang/IllegalArgumentException" :: (vx_atS RX1 41 "java/lang/IllegalArgumentException" ["java/lang/RuntimeException", "java/lang/Exception"]), vx_ot w = true := by decide +kernel
theorem xIAE_rest : ∀ w ∈ (vx_atS RX1 41 "java/lang/IllegalArgumentException" ["java/lang/RuntimeException", "java/lang/Exception"]).filter (fun w => !goodWord w), w ∈ [Cond.declares (Bundle.initS "java/lang/RuntimeException"), Cond.declares (Bundle.initS "java/lang/Exception"), Cond.declares (Bundle.initS "java/lang/Throwable"), Cond.castable "java/lang/IllegalArgumentException" "java/lang/IllegalArgumentException"] := by decide +kernel
theorem xIAE_throw (hexec : p.tables.exec = Jvm.exec) (hb : c.code = cc) (hl : l.stackTraces = false) (hown : s.vm.findClass RX1 = some m.cls) (hts : ∀ w ∈ Ts, w.before args s = true)
    (hin : ∀ w ∈ Cond.classLink RX1 37 "java/lang/IllegalArgumentException" :: Cond.initialized "java/lang/IllegalArgumentException" :: (vx_atS RX1 41 "java/lang/IllegalArgumentException" ["java/lang/RuntimeException", "java/lang/Exception"]).filter goodWord, w ∈ Ts) (hE : XEnv E (va_A [] s.heap.size) s s.heap) (hS : va_S (va_A [] s.heap.size) s.heap H locs) (hsize : ls.size = c.maxLocals) (hnt : ∀ x ∈ c.exceptionTable.toList, False)
    (d0 : decode cc pc = .ok (.new 37, 3)) (d3 : decode cc (pc + 3) = .ok (.dup, 1)) (d4 : decode cc (pc + 4) = .ok (.ldc si, 2)) (d6 : decode cc (pc + 6) = .ok (.invokespecial 41, 3)) (d9 : decode cc (pc + 9) = .ok (.athrow, 1)) (hq : (si, text) ∈ xS)
    (hRframes : 6 ≤ R.frames) (hRlocals : (rest.map fun v => v.category).sum + 82 ≤ R.locals) (hRcells : cells + 1 ≤ R.cells) (hRslots : slots + 6 ≤ R.slots) (hlocks : meth.locks = false) (hPx : Px "java/lang/IllegalArgumentException")
    (hf : ∀ z ∈ locs, free z.base) (hc : cells + 1 ≤ mc) (hs : slots + 6 ≤ ms) :
    W p l e R s m args below meth c H locs cells slots (vx_MQ below Qc (tX Px s.heap.size) args s mc ms free) (F0 m pc ls rest) := by
  obtain ⟨sa, hsa⟩ := hE.1.2.2.1 _ hq
  refine vx_throwS (names := ["java/lang/RuntimeException", "java/lang/Exception"]) (cls := "java/lang/IllegalArgumentException") (text := text) (sa := sa) (A := va_A [] s.heap.size) hexec hb hl hown (by decide +kernel) (by decide +kernel) (hts _ (hin _ List.mem_cons_self)) (hts _ (hin _ (List.mem_cons_of_mem _ List.mem_cons_self))) hsa ?_ xIAE_good hE.2.1 hE.2.2.1 hS hsize d0 d3 d4 d6 d9 (fun x h => (hnt x h).elim) hRframes hRlocals hRcells hRslots hlocks ?_ hf hc hs
  · exact vx_hat (fun w hw => hts w (hin w (List.mem_cons_of_mem _ (List.mem_cons_of_mem _ hw)))) xIAE_rest (vx_c (va_Nw.use rfl (hE.1.1 _ (by simp [xE]))) (vx_c (va_Nw.use rfl (hE.1.1 _ (by simp [xE]))) (vx_c (va_Nw.use rfl (hE.1.1 _ (by simp [xE]))) (vx_c (va_Nw.use rfl (hE.1.2.1 _ (by simp [xC]))) vx_n))))
  · exact fun t _ hz hq2 => ⟨(), trivial, hPx, Nat.le_trans hS.1 hz, fun q h1 h2 => by rw [hq2 q (Nat.lt_of_lt_of_le h1 hS.1)]; exact hS.2.1 q h1 h2⟩
theorem xISE_good : ∀ w ∈ Cond.classLink RX1 30 "java/lang/IllegalStateException" :: Cond.initialized "java/lang/IllegalStateException" :: (vx_atS RX1 34 "java/lang/IllegalStateException" ["java/lang/RuntimeException", "java/lang/Exception"]), vx_ot w = true := by decide +kernel
theorem xISE_rest : ∀ w ∈ (vx_atS RX1 34 "java/lang/IllegalStateException" ["java/lang/RuntimeException", "java/lang/Exception"]).filter (fun w => !goodWord w), w ∈ [Cond.declares (Bundle.initS "java/lang/RuntimeException"), Cond.declares (Bundle.initS "java/lang/Exception"), Cond.declares (Bundle.initS "java/lang/Throwable"), Cond.castable "java/lang/IllegalStateException" "java/lang/IllegalStateException"] := by decide +kernel
theorem xISE_throw (hexec : p.tables.exec = Jvm.exec) (hb : c.code = cc) (hl : l.stackTraces = false) (hown : s.vm.findClass RX1 = some m.cls) (hts : ∀ w ∈ Ts, w.before args s = true)
    (hin : ∀ w ∈ Cond.classLink RX1 30 "java/lang/IllegalStateException" :: Cond.initialized "java/lang/IllegalStateException" :: (vx_atS RX1 34 "java/lang/IllegalStateException" ["java/lang/RuntimeException", "java/lang/Exception"]).filter goodWord, w ∈ Ts) (hE : XEnv E (va_A [] s.heap.size) s s.heap) (hS : va_S (va_A [] s.heap.size) s.heap H locs) (hsize : ls.size = c.maxLocals) (hnt : ∀ x ∈ c.exceptionTable.toList, False)
    (d0 : decode cc pc = .ok (.new 30, 3)) (d3 : decode cc (pc + 3) = .ok (.dup, 1)) (d4 : decode cc (pc + 4) = .ok (.ldc si, 2)) (d6 : decode cc (pc + 6) = .ok (.invokespecial 34, 3)) (d9 : decode cc (pc + 9) = .ok (.athrow, 1)) (hq : (si, text) ∈ xS)
    (hRframes : 6 ≤ R.frames) (hRlocals : (rest.map fun v => v.category).sum + 82 ≤ R.locals) (hRcells : cells + 1 ≤ R.cells) (hRslots : slots + 6 ≤ R.slots) (hlocks : meth.locks = false) (hPx : Px "java/lang/IllegalStateException")
    (hf : ∀ z ∈ locs, free z.base) (hc : cells + 1 ≤ mc) (hs : slots + 6 ≤ ms) :
    W p l e R s m args below meth c H locs cells slots (vx_MQ below Qc (tX Px s.heap.size) args s mc ms free) (F0 m pc ls rest) := by
  obtain ⟨sa, hsa⟩ := hE.1.2.2.1 _ hq
  refine vx_throwS (names := ["java/lang/RuntimeException", "java/lang/Exception"]) (cls := "java/lang/IllegalStateException") (text := text) (sa := sa) (A := va_A [] s.heap.size) hexec hb hl hown (by decide +kernel) (by decide +kernel) (hts _ (hin _ List.mem_cons_self)) (hts _ (hin _ (List.mem_cons_of_mem _ List.mem_cons_self))) hsa ?_ xISE_good hE.2.1 hE.2.2.1 hS hsize d0 d3 d4 d6 d9 (fun x h => (hnt x h).elim) hRframes hRlocals hRcells hRslots hlocks ?_ hf hc hs
  · exact vx_hat (fun w hw => hts w (hin w (List.mem_cons_of_mem _ (List.mem_cons_of_mem _ hw)))) xISE_rest (vx_c (va_Nw.use rfl (hE.1.1 _ (by simp [xE]))) (vx_c (va_Nw.use rfl (hE.1.1 _ (by simp [xE]))) (vx_c (va_Nw.use rfl (hE.1.1 _ (by simp [xE]))) (vx_c (va_Nw.use rfl (hE.1.2.1 _ (by simp [xC]))) vx_n))))
  · exact fun t _ hz hq2 => ⟨(), trivial, hPx, Nat.le_trans hS.1 hz, fun q h1 h2 => by rw [hq2 q (Nat.lt_of_lt_of_le h1 hS.1)]; exact hS.2.1 q h1 h2⟩
theorem xIOB_good : ∀ w ∈ Cond.classLink RX1 54 "java/lang/IndexOutOfBoundsException" :: Cond.initialized "java/lang/IndexOutOfBoundsException" :: (vx_atS RX1 58 "java/lang/IndexOutOfBoundsException" ["java/lang/RuntimeException", "java/lang/Exception"]), vx_ot w = true := by decide +kernel
theorem xIOB_rest : ∀ w ∈ (vx_atS RX1 58 "java/lang/IndexOutOfBoundsException" ["java/lang/RuntimeException", "java/lang/Exception"]).filter (fun w => !goodWord w), w ∈ [Cond.declares (Bundle.initS "java/lang/RuntimeException"), Cond.declares (Bundle.initS "java/lang/Exception"), Cond.declares (Bundle.initS "java/lang/Throwable"), Cond.castable "java/lang/IndexOutOfBoundsException" "java/lang/IndexOutOfBoundsException"] := by decide +kernel
theorem xIOB_throw (hexec : p.tables.exec = Jvm.exec) (hb : c.code = cc) (hl : l.stackTraces = false) (hown : s.vm.findClass RX1 = some m.cls) (hts : ∀ w ∈ Ts, w.before args s = true)
    (hin : ∀ w ∈ Cond.classLink RX1 54 "java/lang/IndexOutOfBoundsException" :: Cond.initialized "java/lang/IndexOutOfBoundsException" :: (vx_atS RX1 58 "java/lang/IndexOutOfBoundsException" ["java/lang/RuntimeException", "java/lang/Exception"]).filter goodWord, w ∈ Ts) (hE : XEnv E (va_A [] s.heap.size) s s.heap) (hS : va_S (va_A [] s.heap.size) s.heap H locs) (hsize : ls.size = c.maxLocals) (hnt : ∀ x ∈ c.exceptionTable.toList, False)
    (d0 : decode cc pc = .ok (.new 54, 3)) (d3 : decode cc (pc + 3) = .ok (.dup, 1)) (d4 : decode cc (pc + 4) = .ok (.ldc si, 2)) (d6 : decode cc (pc + 6) = .ok (.invokespecial 58, 3)) (d9 : decode cc (pc + 9) = .ok (.athrow, 1)) (hq : (si, text) ∈ xS)
    (hRframes : 6 ≤ R.frames) (hRlocals : (rest.map fun v => v.category).sum + 82 ≤ R.locals) (hRcells : cells + 1 ≤ R.cells) (hRslots : slots + 6 ≤ R.slots) (hlocks : meth.locks = false) (hPx : Px "java/lang/IndexOutOfBoundsException")
    (hf : ∀ z ∈ locs, free z.base) (hc : cells + 1 ≤ mc) (hs : slots + 6 ≤ ms) :
    W p l e R s m args below meth c H locs cells slots (vx_MQ below Qc (tX Px s.heap.size) args s mc ms free) (F0 m pc ls rest) := by
  obtain ⟨sa, hsa⟩ := hE.1.2.2.1 _ hq
  refine vx_throwS (names := ["java/lang/RuntimeException", "java/lang/Exception"]) (cls := "java/lang/IndexOutOfBoundsException") (text := text) (sa := sa) (A := va_A [] s.heap.size) hexec hb hl hown (by decide +kernel) (by decide +kernel) (hts _ (hin _ List.mem_cons_self)) (hts _ (hin _ (List.mem_cons_of_mem _ List.mem_cons_self))) hsa ?_ xIOB_good hE.2.1 hE.2.2.1 hS hsize d0 d3 d4 d6 d9 (fun x h => (hnt x h).elim) hRframes hRlocals hRcells hRslots hlocks ?_ hf hc hs
  · exact vx_hat (fun w hw => hts w (hin w (List.mem_cons_of_mem _ (List.mem_cons_of_mem _ hw)))) xIOB_rest (vx_c (va_Nw.use rfl (hE.1.1 _ (by simp [xE]))) (vx_c (va_Nw.use rfl (hE.1.1 _ (by simp [xE]))) (vx_c (va_Nw.use rfl (hE.1.1 _ (by simp [xE]))) (vx_c (va_Nw.use rfl (hE.1.2.1 _ (by simp [xC]))) vx_n))))
  · exact fun t _ hz hq2 => ⟨(), trivial, hPx, Nat.le_trans hS.1 hz, fun q h1 h2 => by rw [hq2 q (Nat.lt_of_lt_of_le h1 hS.1)]; exact hS.2.1 q h1 h2⟩
end Thr
end Round2
