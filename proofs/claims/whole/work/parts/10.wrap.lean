abbrev LW (h0 h1 h2 h3 b0 : Nat) (y1 y2 y3 y6 : ClassId) (n w : Nat) (T P M : Nat → Int32) (O : Nat → Int64) : va_W := [(h0, .inr (0, [.ref h1, .ref h2, .ref h3, .int (nI n), .int (nI w)])), (h1, .inl (y1, 64, .inl T)), (h2, .inl (y2, 24, .inl P)), (h3, .inl (y3, 65, .inl M)), (b0, .inl (y6, 1, .inr (.inl O)))]
abbrev LT (y1 y2 y3 y6 : ClassId) : List (ClassId × FieldType) := [(y1, .int), (y2, .int), (y3, .int), (y6, .long)]
section Zw
variable {p : Program} {l : Launch} {e : Env} {R : Room} {s : State} {m : MethodId} {args : Array Value} {below : List Frame} {meth : Method} {c : Code} {H : Heap} {locs : List Loc} {cells slots : Nat} {Q : State → Prop}
variable {cc : ByteArray} {pc : Nat} {ls : Array Slot} {rest : List Value} {D : va_G} {cl : List vw_C} {tys : List (ClassId × FieldType)} {ws : va_W} {a : Nat} {A : Nat → Prop} {H0 : Heap}
theorem z_last (hexec : p.tables.exec = Jvm.exec) (hb : c.code = cc) (hK : va_K D cl tys s) (hP : va_P D cl ws H) (hD : va_D A ws) (hS : va_S A H0 H locs) (q0 t0 : Nat) {cA : ClassId} {n : Nat} {f : Nat → Int64} (ha : ws[q0]? = some (a, .inl (cA, n, .inr (.inl f)))) (ht : tys[t0]? = some (cA, .long)) {i : Int32} {x : Int64} {z : Int} (k : Nat) (hi : i.toInt = z) (hz : z = (k : Int)) (hk : k < n) (hdg : decode cc pc = .ok (.lastore, 1))
    (kk : ∀ (H1 : Heap) (locs1 : List Loc), va_P D cl (ws.set q0 (a, .inl (cA, n, .inr (.inl (vp_updL f k x))))) H1 → va_D A (ws.set q0 (a, .inl (cA, n, .inr (.inl (vp_updL f k x))))) → va_S A H0 H1 locs1 → W p l e R s m args below meth c H1 locs1 cells slots Q (F0 m (pc + 1) ls rest)) : W p l e R s m args below meth c H locs cells slots Q (F0 m pc ls (.long x :: .int i :: .ref a :: rest)) := by
  have h1 : i.toInt = (k : Int) := hi.trans hz
  refine va_last hexec hb hK hP hD hS q0 t0 ha ht (vp_in_iff.mpr ⟨by omega, by omega⟩) hdg ?_
  rw [clN h1]
  exact kk
theorem z_lald (hexec : p.tables.exec = Jvm.exec) (hb : c.code = cc) (hK : va_K D cl tys s) (hP : va_P D cl ws H) (q0 t0 : Nat) {cA : ClassId} {n : Nat} {f : Nat → Int64} (ha : ws[q0]? = some (a, .inl (cA, n, .inr (.inl f)))) (ht : tys[t0]? = some (cA, .long)) {i : Int32} {z : Int} (k : Nat) (hi : i.toInt = z) (hz : z = (k : Int)) (hk : k < n) (hdg : decode cc pc = .ok (.laload, 1))
    (kk : W p l e R s m args below meth c H locs cells slots Q (F0 m (pc + 1) ls (.long (f k) :: rest))) : W p l e R s m args below meth c H locs cells slots Q (F0 m pc ls (.int i :: .ref a :: rest)) := by
  have h1 : i.toInt = (k : Int) := hi.trans hz
  refine va_lald hexec hb hK hP q0 t0 ha ht (vp_in_iff.mpr ⟨by omega, by omega⟩) hdg ?_
  rw [clN h1]
  exact kk
end Zw
set_option maxHeartbeats 4000000 in
set_option maxRecDepth 100000 in
theorem c_L_appendText (l : Launch) (hlt : l.stackTraces = false) (D : va_G) (E : Nat × Nat × Nat) (h0 h1 h2 h3 b0 : Nat) (y1 y2 y3 y6 : ClassId) (sz n w : Nat) (T P M : Nat → Int32) (O : Nat → Int64) (hn : n ≤ 64) (hw : w ≤ 24) (hT : SymF T) (hPt : SymF P) (hD0 : va_D (fun _ => True) (LW h0 h1 h2 h3 b0 y1 y2 y3 y6 (n) (w) T P M O)) (x1 : Int32) : Met l yL_appendText wsL_appendText ({ frames := 8, cells := 2, slots := 12, locals := 131 }) (va_Pc [.ref h0, .int x1, .ref b0] (cp D (LW h0 h1 h2 h3 b0 y1 y2 y3 y6 (n) (w) T P M O) (LT y1 y2 y3 y6) E (va_A (LW h0 h1 h2 h3 b0 y1 y2 y3 y6 (n) (w) T P M O) sz) sz)) (va_Qi (fun (r : Int32) (u : Int32 × (Nat → Int32)) => r.toInt = ((kAT n x1.toInt : Nat) : Int) ∧ (kAT n x1.toInt = 0 → u.1.toInt = ((n + 1 : Nat) : Int))) (fun (u : Int32 × (Nat → Int32)) t => (kAT n x1.toInt = 0 → va_P D vwCl (LW h0 h1 h2 h3 b0 y1 y2 y3 y6 (n + 1) (w) (upd T (n) x1) P u.2 (vp_updL O 0 u.1.toInt64)) t.heap ∧ va_D (va_A (LW h0 h1 h2 h3 b0 y1 y2 y3 y6 (n) (w) T P M O) sz) (LW h0 h1 h2 h3 b0 y1 y2 y3 y6 (n + 1) (w) (upd T (n) x1) P u.2 (vp_updL O 0 u.1.toInt64))) ∧ (¬ kAT n x1.toInt = 0 → va_P D vwCl (LW h0 h1 h2 h3 b0 y1 y2 y3 y6 (n) (w) T P u.2 O) t.heap ∧ va_D (va_A (LW h0 h1 h2 h3 b0 y1 y2 y3 y6 (n) (w) T P M O) sz) (LW h0 h1 h2 h3 b0 y1 y2 y3 y6 (n) (w) T P u.2 O))) (va_A (LW h0 h1 h2 h3 b0 y1 y2 y3 y6 (n) (w) T P M O) sz)) 2 12 (va_A (LW h0 h1 h2 h3 b0 y1 y2 y3 y6 (n) (w) T P M O) sz) := by
  refine va_MetW (cc := cL_appendText) (maxL := 4) (ret := (some .int)) (hh := [(0, 9, 12, 13), (0, 9, 15, 15)]) (by decide) rfl ?_
  intro p e s m args below meth c s₁ B hml hv
  obtain ⟨rfl, hsz, hP, hK, hE⟩ := hv
  have hx := B.exec
  have hb := B.bytes
  have hr := B.returns
  have hts := atoms_spec (ws := wsL_appendText) B.pre
  have hown : s.vm.findClass RL = some m.cls := findClass_of_methodNamed B.named
  have hlocks := B.notSynchronized
  have htab : c.exceptionTable.toList = tableOf [(0, 9, 12, 13), (0, 9, 15, 15)] := vx_table (x := yL_appendText) B (hts (.codeWith yL_appendText cL_appendText 4 (some .int) [(0, 9, 12, 13), (0, 9, 15, 15)]) List.mem_cons_self)
  have hsz : s.heap.size = sz := hsz
  subst hsz
  have hD := hD0.self (sz := s.heap.size)
  have hA : ∀ q : Nat, s.heap.size ≤ q → (va_A (LW h0 h1 h2 h3 b0 y1 y2 y3 y6 (n) (w) T P M O) s.heap.size) q := fun q h => Or.inr h
  have hS : va_S (va_A (LW h0 h1 h2 h3 b0 y1 y2 y3 y6 (n) (w) T P M O) s.heap.size) s.heap s.heap [] := va_S.rf
  have hl := lv_entry ([.ref h0, .int x1, .ref b0]) (n := 4) (Nat.le_of_ble_eq_true rfl)
  rw [lg_entry_eq]
  generalize (lg_sl ([.ref h0, .int x1, .ref b0]) ++ List.replicate (4 - (lg_sl ([.ref h0, .int x1, .ref b0])).length) Slot.unset).toArray = ls at hl ⊢
  have hl : lv_has ls 4 [(0, .ref h0), (1, .int x1), (2, .ref b0)] := hl
  refine lv_aload_n hx hb dL_appendText_0 rfl (lv_at hl 2 rfl) ?_
  refine lv_iconst (v := 0) hx hb dL_appendText_1 (by decide) ?_
  refine lv_aload_n hx hb dL_appendText_2 rfl (lv_at hl 0 rfl) ?_
  refine lv_iload_n hx hb dL_appendText_3 rfl (lv_at hl 1 rfl) ?_
  have hPx := hP.sub (ws' := (XW h0 h1 h2 h3 y1 y2 y3 (n) (w) T P M)) [0, 1, 2, 3] rfl
  have hKx := hK.sub (tys' := (XT y1 y2 y3)) [0, 1, 2] rfl
  have hDx := hD0.sub (ws' := (XW h0 h1 h2 h3 y1 y2 y3 (n) (w) T P M)) [0, 1, 2, 3] (by decide) rfl
  have hFc := va_free (wc := (XW h0 h1 h2 h3 y1 y2 y3 (n) (w) T P M)) hD hS hA [0, 1, 2, 3] rfl
  refine vx_calli (vx_runV (As := [.int x1]) (rest := [.int 0, .ref b0]) ⟨hx, hb, hml, hown, hts⟩ (c_X1_appendText l hlt D E h0 h1 h2 h3 y1 y2 y3 s.heap.size (n) (w) T P M hn hw hT hPt hDx x1) (cwV 1 hts gL_appendText_X1_appendText rfl rfl rfl (by decide +kernel) ⟨Nat.le_of_ble_eq_true rfl, Nat.le_of_ble_eq_true rfl⟩) ⟨cp.blind, va_recv hK hP (ci := 0) (q0 := 0) rfl rfl, fun U hU hW => ⟨rfl, cp.call hPx hKx hE hS hFc hU hW⟩⟩ rfl rfl hl.1 rfl (lv_room (Nat.le_of_ble_eq_true rfl)) dL_appendText_4 ⟨Nat.le_of_ble_eq_true rfl, Nat.le_of_ble_eq_true rfl⟩) hS (fun q _ h => hFc q h) hFc (fun q _ h => fr0 hS hA q h) (fun X ce q9 u t H1 locs1 ht hvm _ hB hz1 hk1 hS hc1 hc2 hc3 => ?_) (fun v u t H1 locs1 ht hvm ev hB hz1 hk1 hS => ?_)
  · have hP := kp hP hk1
    generalize H1 = H at hP hS hc1 ⊢
    generalize locs1 = locs at hS ⊢
    have hB : (X = "java/lang/IllegalArgumentException" ∧ kAT n x1.toInt = 1) ∨ (X = "java/lang/IllegalStateException" ∧ kAT n x1.toInt = 2) := hB
    rcases hB with ⟨rfl, hk0⟩ | ⟨rfl, hk0⟩
    · have _u := True.intro
      refine vx_catch (E := "java/lang/IllegalArgumentException") (name := "java/lang/IllegalArgumentException") hown [] ⟨0, 9, 12, 13⟩ [⟨0, 9, 15, 15⟩] (by rw [htab]; rfl) (fun z hz => nomatch hz) (by decide) (by decide) (hts (.classLink RL 13 "java/lang/IllegalArgumentException") (by decide +kernel)) (va_Nw.use rfl (hE.1.2.1 _ (by simp [xC]))) hc1 hc2 hc3 ?_
      refine lv_astore_n (lv' := [(3, .ref q9), (0, .ref h0), (1, .int x1), (2, .ref b0)]) hx hb dL_appendText_12 rfl hl (by decide) rfl (fun ls hl => ?_)
      refine lv_iconst (v := 1) hx hb dL_appendText_13 (by decide) ?_
      refine W.widen (k := 2) (n := 12) (Nat.le_of_ble_eq_true rfl) (Nat.le_of_ble_eq_true rfl) ?_
      exact W.iret (v := 1) hx hb hr (fun t ht hW => ⟨⟨_, ((0 : Int32), M), rfl, ⟨(show (1 : Int32).toInt = 1 by decide).trans (by omega), fun h => absurd h (by omega)⟩, ⟨fun h => absurd h (by omega), fun _ => ⟨by rw [ht]; exact hP, hD⟩⟩⟩, hS.F ht⟩) hS.2.2 dL_appendText_14
    · have _u := True.intro
      refine vx_catch (E := "java/lang/IllegalStateException") (name := "java/lang/IllegalStateException") hown [⟨0, 9, 12, 13⟩] ⟨0, 9, 15, 15⟩ [] (by rw [htab]; rfl) (fun z hz => by rw [List.mem_singleton.mp hz]; exact Or.inr ⟨by decide, "java/lang/IllegalArgumentException", hts (.classLink RL 13 "java/lang/IllegalArgumentException") (by decide +kernel), hE.1.2.2.2 _ (by simp [xC]) _ (by simp [xC]) (by decide)⟩) (by decide) (by decide) (hts (.classLink RL 15 "java/lang/IllegalStateException") (by decide +kernel)) (va_Nw.use rfl (hE.1.2.1 _ (by simp [xC]))) hc1 hc2 hc3 ?_
      refine lv_astore_n (lv' := [(3, .ref q9), (0, .ref h0), (1, .int x1), (2, .ref b0)]) hx hb dL_appendText_15 rfl hl (by decide) rfl (fun ls hl => ?_)
      refine lv_iconst (v := 2) hx hb dL_appendText_16 (by decide) ?_
      refine W.widen (k := 2) (n := 12) (Nat.le_of_ble_eq_true rfl) (Nat.le_of_ble_eq_true rfl) ?_
      exact W.iret (v := 2) hx hb hr (fun t ht hW => ⟨⟨_, ((0 : Int32), M), rfl, ⟨(show (2 : Int32).toInt = 2 by decide).trans (by omega), fun h => absurd h (by omega)⟩, ⟨fun h => absurd h (by omega), fun _ => ⟨by rw [ht]; exact hP, hD⟩⟩⟩, hS.F ht⟩) hS.2.2 dL_appendText_17
  · obtain ⟨ev1, hk0⟩ := ev
    obtain ⟨hP1, hD1⟩ := hB
    rw [ht] at hP1
    obtain ⟨hP, hD⟩ := va_join (wr := [(b0, .inl (y6, 1, .inr (.inl O)))]) (w1 := (XW h0 h1 h2 h3 y1 y2 y3 (n + 1) (w) (upd T (n) x1) P M)) hP hD [0, 1, 2, 3] [4] rfl rfl (by decide) (by decide) hk1 hFc hP1 hD1
    have hP := hP.sub (ws' := (LW h0 h1 h2 h3 b0 y1 y2 y3 y6 (n + 1) (w) (upd T (n) x1) P M O)) [1, 2, 3, 4, 0] rfl
    have hD := hD.sub (ws' := (LW h0 h1 h2 h3 b0 y1 y2 y3 y6 (n + 1) (w) (upd T (n) x1) P M O)) [1, 2, 3, 4, 0] (by decide) rfl
    generalize H1 = H at hP hS ⊢
    generalize locs1 = locs at hS ⊢
    refine lv_i2l (v := v.toInt64) hx hb dL_appendText_7 rfl ?_
    refine z_last hx hb hK hP hD hS 4 3 rfl rfl 0 (show (0 : Int32).toInt = 0 by decide) rfl (by decide) dL_appendText_8 (fun H locs hP hD hS => ?_)
    have hP : va_P D vwCl (LW h0 h1 h2 h3 b0 y1 y2 y3 y6 (n + 1) (w) (upd T (n) x1) P M (vp_updL O 0 (v).toInt64)) H := hP
    have hD : va_D (va_A (LW h0 h1 h2 h3 b0 y1 y2 y3 y6 (n) (w) T P M O) s.heap.size) (LW h0 h1 h2 h3 b0 y1 y2 y3 y6 (n + 1) (w) (upd T (n) x1) P M (vp_updL O 0 (v).toInt64)) := hD
    refine lv_goto (tgt := 18) hx hb dL_appendText_9 (by decide) ?_
    refine lv_iconst (v := 0) hx hb dL_appendText_18 (by decide) ?_
    refine W.widen (k := 2) (n := 12) (Nat.le_of_ble_eq_true rfl) (Nat.le_of_ble_eq_true rfl) ?_
    exact W.iret (v := 0) hx hb hr (fun t ht hW => ⟨⟨_, (v, M), rfl, ⟨(show (0 : Int32).toInt = 0 by decide).trans (by omega), fun _ => ev1⟩, ⟨fun _ => ⟨by rw [ht]; exact hP, hD⟩, fun h => absurd hk0 h⟩⟩, hS.F ht⟩) hS.2.2 dL_appendText_19
set_option maxHeartbeats 4000000 in
set_option maxRecDepth 100000 in
theorem c_L_repeatText (l : Launch) (hlt : l.stackTraces = false) (D : va_G) (E : Nat × Nat × Nat) (h0 h1 h2 h3 b0 : Nat) (y1 y2 y3 y6 : ClassId) (sz n w : Nat) (T P M : Nat → Int32) (O : Nat → Int64) (hn : n ≤ 64) (hw : w ≤ 24) (hT : SymF T) (hPt : SymF P) (hD0 : va_D (fun _ => True) (LW h0 h1 h2 h3 b0 y1 y2 y3 y6 (n) (w) T P M O)) (x1 : Int32) (x2 : Int32) : Met l yL_repeatText wsL_repeatText ({ frames := 8, cells := 2, slots := 12, locals := 134 }) (va_Pc [.ref h0, .int x1, .int x2, .ref b0] (cp D (LW h0 h1 h2 h3 b0 y1 y2 y3 y6 (n) (w) T P M O) (LT y1 y2 y3 y6) E (va_A (LW h0 h1 h2 h3 b0 y1 y2 y3 y6 (n) (w) T P M O) sz) sz)) (va_Qi (fun (r : Int32) (u : Int32 × (Nat → Int32)) => r.toInt = ((kRT n x1.toInt x2.toInt : Nat) : Int) ∧ (kRT n x1.toInt x2.toInt = 0 → u.1.toInt = ((n + x2.toInt.toNat : Nat) : Int))) (fun (u : Int32 × (Nat → Int32)) t => (kRT n x1.toInt x2.toInt = 0 → va_P D vwCl (LW h0 h1 h2 h3 b0 y1 y2 y3 y6 (n + x2.toInt.toNat) (w) (va_cpy T T x1.toInt.toNat n x2.toInt.toNat) P u.2 (vp_updL O 0 u.1.toInt64)) t.heap ∧ va_D (va_A (LW h0 h1 h2 h3 b0 y1 y2 y3 y6 (n) (w) T P M O) sz) (LW h0 h1 h2 h3 b0 y1 y2 y3 y6 (n + x2.toInt.toNat) (w) (va_cpy T T x1.toInt.toNat n x2.toInt.toNat) P u.2 (vp_updL O 0 u.1.toInt64))) ∧ (¬ kRT n x1.toInt x2.toInt = 0 → va_P D vwCl (LW h0 h1 h2 h3 b0 y1 y2 y3 y6 (n) (w) T P u.2 O) t.heap ∧ va_D (va_A (LW h0 h1 h2 h3 b0 y1 y2 y3 y6 (n) (w) T P M O) sz) (LW h0 h1 h2 h3 b0 y1 y2 y3 y6 (n) (w) T P u.2 O))) (va_A (LW h0 h1 h2 h3 b0 y1 y2 y3 y6 (n) (w) T P M O) sz)) 2 12 (va_A (LW h0 h1 h2 h3 b0 y1 y2 y3 y6 (n) (w) T P M O) sz) := by
  refine va_MetW (cc := cL_repeatText) (maxL := 5) (ret := (some .int)) (hh := [(0, 10, 13, 13), (0, 10, 17, 21), (0, 10, 21, 15)]) (by decide) rfl ?_
  intro p e s m args below meth c s₁ B hml hv
  obtain ⟨rfl, hsz, hP, hK, hE⟩ := hv
  have hx := B.exec
  have hb := B.bytes
  have hr := B.returns
  have hts := atoms_spec (ws := wsL_repeatText) B.pre
  have hown : s.vm.findClass RL = some m.cls := findClass_of_methodNamed B.named
  have hlocks := B.notSynchronized
  have htab : c.exceptionTable.toList = tableOf [(0, 10, 13, 13), (0, 10, 17, 21), (0, 10, 21, 15)] := vx_table (x := yL_repeatText) B (hts (.codeWith yL_repeatText cL_repeatText 5 (some .int) [(0, 10, 13, 13), (0, 10, 17, 21), (0, 10, 21, 15)]) List.mem_cons_self)
  have hsz : s.heap.size = sz := hsz
  subst hsz
  have hD := hD0.self (sz := s.heap.size)
  have hA : ∀ q : Nat, s.heap.size ≤ q → (va_A (LW h0 h1 h2 h3 b0 y1 y2 y3 y6 (n) (w) T P M O) s.heap.size) q := fun q h => Or.inr h
  have hS : va_S (va_A (LW h0 h1 h2 h3 b0 y1 y2 y3 y6 (n) (w) T P M O) s.heap.size) s.heap s.heap [] := va_S.rf
  have hl := lv_entry ([.ref h0, .int x1, .int x2, .ref b0]) (n := 5) (Nat.le_of_ble_eq_true rfl)
  rw [lg_entry_eq]
  generalize (lg_sl ([.ref h0, .int x1, .int x2, .ref b0]) ++ List.replicate (5 - (lg_sl ([.ref h0, .int x1, .int x2, .ref b0])).length) Slot.unset).toArray = ls at hl ⊢
  have hl : lv_has ls 5 [(0, .ref h0), (1, .int x1), (2, .int x2), (3, .ref b0)] := hl
  refine lv_aload_n hx hb dL_repeatText_0 rfl (lv_at hl 3 rfl) ?_
  refine lv_iconst (v := 0) hx hb dL_repeatText_1 (by decide) ?_
  refine lv_aload_n hx hb dL_repeatText_2 rfl (lv_at hl 0 rfl) ?_
  refine lv_iload_n hx hb dL_repeatText_3 rfl (lv_at hl 1 rfl) ?_
  refine lv_iload_n hx hb dL_repeatText_4 rfl (lv_at hl 2 rfl) ?_
  have hPx := hP.sub (ws' := (XW h0 h1 h2 h3 y1 y2 y3 (n) (w) T P M)) [0, 1, 2, 3] rfl
  have hKx := hK.sub (tys' := (XT y1 y2 y3)) [0, 1, 2] rfl
  have hDx := hD0.sub (ws' := (XW h0 h1 h2 h3 y1 y2 y3 (n) (w) T P M)) [0, 1, 2, 3] (by decide) rfl
  have hFc := va_free (wc := (XW h0 h1 h2 h3 y1 y2 y3 (n) (w) T P M)) hD hS hA [0, 1, 2, 3] rfl
  refine vx_calli (vx_runV (As := [.int x1, .int x2]) (rest := [.int 0, .ref b0]) ⟨hx, hb, hml, hown, hts⟩ (c_X1_repeatText l hlt D E h0 h1 h2 h3 y1 y2 y3 s.heap.size (n) (w) T P M hn hw hT hPt hDx x1 x2) (cwV 2 hts gL_repeatText_X1_repeatText rfl rfl rfl (by decide +kernel) ⟨Nat.le_of_ble_eq_true rfl, Nat.le_of_ble_eq_true rfl⟩) ⟨cp.blind, va_recv hK hP (ci := 0) (q0 := 0) rfl rfl, fun U hU hW => ⟨rfl, cp.call hPx hKx hE hS hFc hU hW⟩⟩ rfl rfl hl.1 rfl (lv_room (Nat.le_of_ble_eq_true rfl)) dL_repeatText_5 ⟨Nat.le_of_ble_eq_true rfl, Nat.le_of_ble_eq_true rfl⟩) hS (fun q _ h => hFc q h) hFc (fun q _ h => fr0 hS hA q h) (fun X ce q9 u t H1 locs1 ht hvm _ hB hz1 hk1 hS hc1 hc2 hc3 => ?_) (fun v u t H1 locs1 ht hvm ev hB hz1 hk1 hS => ?_)
  · have hP := kp hP hk1
    generalize H1 = H at hP hS hc1 ⊢
    generalize locs1 = locs at hS ⊢
    have hB : (X = "java/lang/IllegalArgumentException" ∧ kRT n x1.toInt x2.toInt = 1) ∨ (X = "java/lang/IndexOutOfBoundsException" ∧ kRT n x1.toInt x2.toInt = 2) ∨ (X = "java/lang/IllegalStateException" ∧ kRT n x1.toInt x2.toInt = 3) := hB
    rcases hB with ⟨rfl, hk0⟩ | ⟨rfl, hk0⟩ | ⟨rfl, hk0⟩
    · have _u := True.intro
      refine vx_catch (E := "java/lang/IllegalArgumentException") (name := "java/lang/IllegalArgumentException") hown [] ⟨0, 10, 13, 13⟩ [⟨0, 10, 17, 21⟩, ⟨0, 10, 21, 15⟩] (by rw [htab]; rfl) (fun z hz => nomatch hz) (by decide) (by decide) (hts (.classLink RL 13 "java/lang/IllegalArgumentException") (by decide +kernel)) (va_Nw.use rfl (hE.1.2.1 _ (by simp [xC]))) hc1 hc2 hc3 ?_
      refine lv_astore (lv' := [(4, .ref q9), (0, .ref h0), (1, .int x1), (2, .int x2), (3, .ref b0)]) hx hb dL_repeatText_13 hl (by decide) rfl (fun ls hl => ?_)
      refine lv_iconst (v := 1) hx hb dL_repeatText_15 (by decide) ?_
      refine W.widen (k := 2) (n := 12) (Nat.le_of_ble_eq_true rfl) (Nat.le_of_ble_eq_true rfl) ?_
      exact W.iret (v := 1) hx hb hr (fun t ht hW => ⟨⟨_, ((0 : Int32), M), rfl, ⟨(show (1 : Int32).toInt = 1 by decide).trans (by omega), fun h => absurd h (by omega)⟩, ⟨fun h => absurd h (by omega), fun _ => ⟨by rw [ht]; exact hP, hD⟩⟩⟩, hS.F ht⟩) hS.2.2 dL_repeatText_16
    · have _u := True.intro
      refine vx_catch (E := "java/lang/IndexOutOfBoundsException") (name := "java/lang/IndexOutOfBoundsException") hown [⟨0, 10, 13, 13⟩] ⟨0, 10, 17, 21⟩ [⟨0, 10, 21, 15⟩] (by rw [htab]; rfl) (fun z hz => by rw [List.mem_singleton.mp hz]; exact Or.inr ⟨by decide, "java/lang/IllegalArgumentException", hts (.classLink RL 13 "java/lang/IllegalArgumentException") (by decide +kernel), hE.1.2.2.2 _ (by simp [xC]) _ (by simp [xC]) (by decide)⟩) (by decide) (by decide) (hts (.classLink RL 21 "java/lang/IndexOutOfBoundsException") (by decide +kernel)) (va_Nw.use rfl (hE.1.2.1 _ (by simp [xC]))) hc1 hc2 hc3 ?_
      refine lv_astore (lv' := [(4, .ref q9), (0, .ref h0), (1, .int x1), (2, .int x2), (3, .ref b0)]) hx hb dL_repeatText_17 hl (by decide) rfl (fun ls hl => ?_)
      refine lv_iconst (v := 2) hx hb dL_repeatText_19 (by decide) ?_
      refine W.widen (k := 2) (n := 12) (Nat.le_of_ble_eq_true rfl) (Nat.le_of_ble_eq_true rfl) ?_
      exact W.iret (v := 2) hx hb hr (fun t ht hW => ⟨⟨_, ((0 : Int32), M), rfl, ⟨(show (2 : Int32).toInt = 2 by decide).trans (by omega), fun h => absurd h (by omega)⟩, ⟨fun h => absurd h (by omega), fun _ => ⟨by rw [ht]; exact hP, hD⟩⟩⟩, hS.F ht⟩) hS.2.2 dL_repeatText_20
    · have _u := True.intro
      refine vx_catch (E := "java/lang/IllegalStateException") (name := "java/lang/IllegalStateException") hown [⟨0, 10, 13, 13⟩, ⟨0, 10, 17, 21⟩] ⟨0, 10, 21, 15⟩ [] (by rw [htab]; rfl) (fun z hz => by rcases List.mem_cons.mp hz with h9 | h9; (rw [h9]; exact Or.inr ⟨by decide, "java/lang/IllegalArgumentException", hts (.classLink RL 13 "java/lang/IllegalArgumentException") (by decide +kernel), hE.1.2.2.2 _ (by simp [xC]) _ (by simp [xC]) (by decide)⟩); (rw [List.mem_singleton.mp h9]; exact Or.inr ⟨by decide, "java/lang/IndexOutOfBoundsException", hts (.classLink RL 21 "java/lang/IndexOutOfBoundsException") (by decide +kernel), hE.1.2.2.2 _ (by simp [xC]) _ (by simp [xC]) (by decide)⟩)) (by decide) (by decide) (hts (.classLink RL 15 "java/lang/IllegalStateException") (by decide +kernel)) (va_Nw.use rfl (hE.1.2.1 _ (by simp [xC]))) hc1 hc2 hc3 ?_
      refine lv_astore (lv' := [(4, .ref q9), (0, .ref h0), (1, .int x1), (2, .int x2), (3, .ref b0)]) hx hb dL_repeatText_21 hl (by decide) rfl (fun ls hl => ?_)
      refine lv_iconst (v := 3) hx hb dL_repeatText_23 (by decide) ?_
      refine W.widen (k := 2) (n := 12) (Nat.le_of_ble_eq_true rfl) (Nat.le_of_ble_eq_true rfl) ?_
      exact W.iret (v := 3) hx hb hr (fun t ht hW => ⟨⟨_, ((0 : Int32), M), rfl, ⟨(show (3 : Int32).toInt = 3 by decide).trans (by omega), fun h => absurd h (by omega)⟩, ⟨fun h => absurd h (by omega), fun _ => ⟨by rw [ht]; exact hP, hD⟩⟩⟩, hS.F ht⟩) hS.2.2 dL_repeatText_24
  · obtain ⟨ev1, hk0⟩ := ev
    obtain ⟨hP1, hD1⟩ := hB
    rw [ht] at hP1
    obtain ⟨hP, hD⟩ := va_join (wr := [(b0, .inl (y6, 1, .inr (.inl O)))]) (w1 := (XW h0 h1 h2 h3 y1 y2 y3 (n + x2.toInt.toNat) (w) (va_cpy T T x1.toInt.toNat n x2.toInt.toNat) P M)) hP hD [0, 1, 2, 3] [4] rfl rfl (by decide) (by decide) hk1 hFc hP1 hD1
    have hP := hP.sub (ws' := (LW h0 h1 h2 h3 b0 y1 y2 y3 y6 (n + x2.toInt.toNat) (w) (va_cpy T T x1.toInt.toNat n x2.toInt.toNat) P M O)) [1, 2, 3, 4, 0] rfl
    have hD := hD.sub (ws' := (LW h0 h1 h2 h3 b0 y1 y2 y3 y6 (n + x2.toInt.toNat) (w) (va_cpy T T x1.toInt.toNat n x2.toInt.toNat) P M O)) [1, 2, 3, 4, 0] (by decide) rfl
    generalize H1 = H at hP hS ⊢
    generalize locs1 = locs at hS ⊢
    refine lv_i2l (v := v.toInt64) hx hb dL_repeatText_8 rfl ?_
    refine z_last hx hb hK hP hD hS 4 3 rfl rfl 0 (show (0 : Int32).toInt = 0 by decide) rfl (by decide) dL_repeatText_9 (fun H locs hP hD hS => ?_)
    have hP : va_P D vwCl (LW h0 h1 h2 h3 b0 y1 y2 y3 y6 (n + x2.toInt.toNat) (w) (va_cpy T T x1.toInt.toNat n x2.toInt.toNat) P M (vp_updL O 0 (v).toInt64)) H := hP
    have hD : va_D (va_A (LW h0 h1 h2 h3 b0 y1 y2 y3 y6 (n) (w) T P M O) s.heap.size) (LW h0 h1 h2 h3 b0 y1 y2 y3 y6 (n + x2.toInt.toNat) (w) (va_cpy T T x1.toInt.toNat n x2.toInt.toNat) P M (vp_updL O 0 (v).toInt64)) := hD
    refine lv_goto (tgt := 25) hx hb dL_repeatText_10 (by decide) ?_
    refine lv_iconst (v := 0) hx hb dL_repeatText_25 (by decide) ?_
    refine W.widen (k := 2) (n := 12) (Nat.le_of_ble_eq_true rfl) (Nat.le_of_ble_eq_true rfl) ?_
    exact W.iret (v := 0) hx hb hr (fun t ht hW => ⟨⟨_, (v, M), rfl, ⟨(show (0 : Int32).toInt = 0 by decide).trans (by omega), fun _ => ev1⟩, ⟨fun _ => ⟨by rw [ht]; exact hP, hD⟩, fun h => absurd hk0 h⟩⟩, hS.F ht⟩) hS.2.2 dL_repeatText_26
set_option maxHeartbeats 4000000 in
set_option maxRecDepth 100000 in
theorem c_L_setText (l : Launch) (hlt : l.stackTraces = false) (D : va_G) (E : Nat × Nat × Nat) (h0 h1 h2 h3 b0 : Nat) (y1 y2 y3 y6 : ClassId) (sz n w : Nat) (T P M : Nat → Int32) (O : Nat → Int64) (hn : n ≤ 64) (hw : w ≤ 24) (hT : SymF T) (hPt : SymF P) (hD0 : va_D (fun _ => True) (LW h0 h1 h2 h3 b0 y1 y2 y3 y6 (n) (w) T P M O)) (x1 : Int32) (x2 : Int32) : Met l yL_setText wsL_setText ({ frames := 8, cells := 1, slots := 6, locals := 133 }) (va_Pc [.ref h0, .int x1, .int x2, .ref b0] (cp D (LW h0 h1 h2 h3 b0 y1 y2 y3 y6 (n) (w) T P M O) (LT y1 y2 y3 y6) E (va_A (LW h0 h1 h2 h3 b0 y1 y2 y3 y6 (n) (w) T P M O) sz) sz)) (va_Qi (fun (r : Int32) (u : Int32 × (Nat → Int32)) => r.toInt = ((kST n x1.toInt x2.toInt : Nat) : Int) ∧ (kST n x1.toInt x2.toInt = 0 → u.1.toInt = (T x1.toInt.toNat).toInt)) (fun (u : Int32 × (Nat → Int32)) t => (kST n x1.toInt x2.toInt = 0 → va_P D vwCl (LW h0 h1 h2 h3 b0 y1 y2 y3 y6 (n) (w) (upd T (x1.toInt.toNat) x2) P u.2 (vp_updL O 0 u.1.toInt64)) t.heap ∧ va_D (va_A (LW h0 h1 h2 h3 b0 y1 y2 y3 y6 (n) (w) T P M O) sz) (LW h0 h1 h2 h3 b0 y1 y2 y3 y6 (n) (w) (upd T (x1.toInt.toNat) x2) P u.2 (vp_updL O 0 u.1.toInt64))) ∧ (¬ kST n x1.toInt x2.toInt = 0 → va_P D vwCl (LW h0 h1 h2 h3 b0 y1 y2 y3 y6 (n) (w) T P u.2 O) t.heap ∧ va_D (va_A (LW h0 h1 h2 h3 b0 y1 y2 y3 y6 (n) (w) T P M O) sz) (LW h0 h1 h2 h3 b0 y1 y2 y3 y6 (n) (w) T P u.2 O))) (va_A (LW h0 h1 h2 h3 b0 y1 y2 y3 y6 (n) (w) T P M O) sz)) 1 6 (va_A (LW h0 h1 h2 h3 b0 y1 y2 y3 y6 (n) (w) T P M O) sz) := by
  refine va_MetW (cc := cL_setText) (maxL := 5) (ret := (some .int)) (hh := [(0, 10, 13, 21), (0, 10, 17, 13)]) (by decide) rfl ?_
  intro p e s m args below meth c s₁ B hml hv
  obtain ⟨rfl, hsz, hP, hK, hE⟩ := hv
  have hx := B.exec
  have hb := B.bytes
  have hr := B.returns
  have hts := atoms_spec (ws := wsL_setText) B.pre
  have hown : s.vm.findClass RL = some m.cls := findClass_of_methodNamed B.named
  have hlocks := B.notSynchronized
  have htab : c.exceptionTable.toList = tableOf [(0, 10, 13, 21), (0, 10, 17, 13)] := vx_table (x := yL_setText) B (hts (.codeWith yL_setText cL_setText 5 (some .int) [(0, 10, 13, 21), (0, 10, 17, 13)]) List.mem_cons_self)
  have hsz : s.heap.size = sz := hsz
  subst hsz
  have hD := hD0.self (sz := s.heap.size)
  have hA : ∀ q : Nat, s.heap.size ≤ q → (va_A (LW h0 h1 h2 h3 b0 y1 y2 y3 y6 (n) (w) T P M O) s.heap.size) q := fun q h => Or.inr h
  have hS : va_S (va_A (LW h0 h1 h2 h3 b0 y1 y2 y3 y6 (n) (w) T P M O) s.heap.size) s.heap s.heap [] := va_S.rf
  have hl := lv_entry ([.ref h0, .int x1, .int x2, .ref b0]) (n := 5) (Nat.le_of_ble_eq_true rfl)
  rw [lg_entry_eq]
  generalize (lg_sl ([.ref h0, .int x1, .int x2, .ref b0]) ++ List.replicate (5 - (lg_sl ([.ref h0, .int x1, .int x2, .ref b0])).length) Slot.unset).toArray = ls at hl ⊢
  have hl : lv_has ls 5 [(0, .ref h0), (1, .int x1), (2, .int x2), (3, .ref b0)] := hl
  refine lv_aload_n hx hb dL_setText_0 rfl (lv_at hl 3 rfl) ?_
  refine lv_iconst (v := 0) hx hb dL_setText_1 (by decide) ?_
  refine lv_aload_n hx hb dL_setText_2 rfl (lv_at hl 0 rfl) ?_
  refine lv_iload_n hx hb dL_setText_3 rfl (lv_at hl 1 rfl) ?_
  refine lv_iload_n hx hb dL_setText_4 rfl (lv_at hl 2 rfl) ?_
  have hPx := hP.sub (ws' := (XW h0 h1 h2 h3 y1 y2 y3 (n) (w) T P M)) [0, 1, 2, 3] rfl
  have hKx := hK.sub (tys' := (XT y1 y2 y3)) [0, 1, 2] rfl
  have hDx := hD0.sub (ws' := (XW h0 h1 h2 h3 y1 y2 y3 (n) (w) T P M)) [0, 1, 2, 3] (by decide) rfl
  have hFc := va_free (wc := (XW h0 h1 h2 h3 y1 y2 y3 (n) (w) T P M)) hD hS hA [0, 1, 2, 3] rfl
  refine vx_calli (vx_runV (As := [.int x1, .int x2]) (rest := [.int 0, .ref b0]) ⟨hx, hb, hml, hown, hts⟩ (c_X1_setText l hlt D E h0 h1 h2 h3 y1 y2 y3 s.heap.size (n) (w) T P M hn hw hT hPt hDx x1 x2) (cwV 2 hts gL_setText_X1_setText rfl rfl rfl (by decide +kernel) ⟨Nat.le_of_ble_eq_true rfl, Nat.le_of_ble_eq_true rfl⟩) ⟨cp.blind, va_recv hK hP (ci := 0) (q0 := 0) rfl rfl, fun U hU hW => ⟨rfl, cp.call hPx hKx hE hS hFc hU hW⟩⟩ rfl rfl hl.1 rfl (lv_room (Nat.le_of_ble_eq_true rfl)) dL_setText_5 ⟨Nat.le_of_ble_eq_true rfl, Nat.le_of_ble_eq_true rfl⟩) hS (fun q _ h => hFc q h) hFc (fun q _ h => fr0 hS hA q h) (fun X ce q9 u t H1 locs1 ht hvm _ hB hz1 hk1 hS hc1 hc2 hc3 => ?_) (fun v u t H1 locs1 ht hvm ev hB hz1 hk1 hS => ?_)
  · have hP := kp hP hk1
    generalize H1 = H at hP hS hc1 ⊢
    generalize locs1 = locs at hS ⊢
    have hB : (X = "java/lang/IndexOutOfBoundsException" ∧ kST n x1.toInt x2.toInt = 1) ∨ (X = "java/lang/IllegalArgumentException" ∧ kST n x1.toInt x2.toInt = 2) := hB
    rcases hB with ⟨rfl, hk0⟩ | ⟨rfl, hk0⟩
    · have _u := True.intro
      refine vx_catch (E := "java/lang/IndexOutOfBoundsException") (name := "java/lang/IndexOutOfBoundsException") hown [] ⟨0, 10, 13, 21⟩ [⟨0, 10, 17, 13⟩] (by rw [htab]; rfl) (fun z hz => nomatch hz) (by decide) (by decide) (hts (.classLink RL 21 "java/lang/IndexOutOfBoundsException") (by decide +kernel)) (va_Nw.use rfl (hE.1.2.1 _ (by simp [xC]))) hc1 hc2 hc3 ?_
      refine lv_astore (lv' := [(4, .ref q9), (0, .ref h0), (1, .int x1), (2, .int x2), (3, .ref b0)]) hx hb dL_setText_13 hl (by decide) rfl (fun ls hl => ?_)
      refine lv_iconst (v := 1) hx hb dL_setText_15 (by decide) ?_
      refine W.widen (k := 1) (n := 6) (Nat.le_of_ble_eq_true rfl) (Nat.le_of_ble_eq_true rfl) ?_
      exact W.iret (v := 1) hx hb hr (fun t ht hW => ⟨⟨_, ((0 : Int32), M), rfl, ⟨(show (1 : Int32).toInt = 1 by decide).trans (by omega), fun h => absurd h (by omega)⟩, ⟨fun h => absurd h (by omega), fun _ => ⟨by rw [ht]; exact hP, hD⟩⟩⟩, hS.F ht⟩) hS.2.2 dL_setText_16
    · have _u := True.intro
      refine vx_catch (E := "java/lang/IllegalArgumentException") (name := "java/lang/IllegalArgumentException") hown [⟨0, 10, 13, 21⟩] ⟨0, 10, 17, 13⟩ [] (by rw [htab]; rfl) (fun z hz => by rw [List.mem_singleton.mp hz]; exact Or.inr ⟨by decide, "java/lang/IndexOutOfBoundsException", hts (.classLink RL 21 "java/lang/IndexOutOfBoundsException") (by decide +kernel), hE.1.2.2.2 _ (by simp [xC]) _ (by simp [xC]) (by decide)⟩) (by decide) (by decide) (hts (.classLink RL 13 "java/lang/IllegalArgumentException") (by decide +kernel)) (va_Nw.use rfl (hE.1.2.1 _ (by simp [xC]))) hc1 hc2 hc3 ?_
      refine lv_astore (lv' := [(4, .ref q9), (0, .ref h0), (1, .int x1), (2, .int x2), (3, .ref b0)]) hx hb dL_setText_17 hl (by decide) rfl (fun ls hl => ?_)
      refine lv_iconst (v := 2) hx hb dL_setText_19 (by decide) ?_
      refine W.widen (k := 1) (n := 6) (Nat.le_of_ble_eq_true rfl) (Nat.le_of_ble_eq_true rfl) ?_
      exact W.iret (v := 2) hx hb hr (fun t ht hW => ⟨⟨_, ((0 : Int32), M), rfl, ⟨(show (2 : Int32).toInt = 2 by decide).trans (by omega), fun h => absurd h (by omega)⟩, ⟨fun h => absurd h (by omega), fun _ => ⟨by rw [ht]; exact hP, hD⟩⟩⟩, hS.F ht⟩) hS.2.2 dL_setText_20
  · obtain ⟨ev1, hk0⟩ := ev
    obtain ⟨hP1, hD1⟩ := hB
    rw [ht] at hP1
    obtain ⟨hP, hD⟩ := va_join (wr := [(b0, .inl (y6, 1, .inr (.inl O)))]) (w1 := (XW h0 h1 h2 h3 y1 y2 y3 (n) (w) (upd T (x1.toInt.toNat) x2) P M)) hP hD [0, 1, 2, 3] [4] rfl rfl (by decide) (by decide) hk1 hFc hP1 hD1
    have hP := hP.sub (ws' := (LW h0 h1 h2 h3 b0 y1 y2 y3 y6 (n) (w) (upd T (x1.toInt.toNat) x2) P M O)) [1, 2, 3, 4, 0] rfl
    have hD := hD.sub (ws' := (LW h0 h1 h2 h3 b0 y1 y2 y3 y6 (n) (w) (upd T (x1.toInt.toNat) x2) P M O)) [1, 2, 3, 4, 0] (by decide) rfl
    generalize H1 = H at hP hS ⊢
    generalize locs1 = locs at hS ⊢
    refine lv_i2l (v := v.toInt64) hx hb dL_setText_8 rfl ?_
    refine z_last hx hb hK hP hD hS 4 3 rfl rfl 0 (show (0 : Int32).toInt = 0 by decide) rfl (by decide) dL_setText_9 (fun H locs hP hD hS => ?_)
    have hP : va_P D vwCl (LW h0 h1 h2 h3 b0 y1 y2 y3 y6 (n) (w) (upd T (x1.toInt.toNat) x2) P M (vp_updL O 0 (v).toInt64)) H := hP
    have hD : va_D (va_A (LW h0 h1 h2 h3 b0 y1 y2 y3 y6 (n) (w) T P M O) s.heap.size) (LW h0 h1 h2 h3 b0 y1 y2 y3 y6 (n) (w) (upd T (x1.toInt.toNat) x2) P M (vp_updL O 0 (v).toInt64)) := hD
    refine lv_goto (tgt := 21) hx hb dL_setText_10 (by decide) ?_
    refine lv_iconst (v := 0) hx hb dL_setText_21 (by decide) ?_
    refine W.widen (k := 1) (n := 6) (Nat.le_of_ble_eq_true rfl) (Nat.le_of_ble_eq_true rfl) ?_
    exact W.iret (v := 0) hx hb hr (fun t ht hW => ⟨⟨_, (v, M), rfl, ⟨(show (0 : Int32).toInt = 0 by decide).trans (by omega), fun _ => ev1⟩, ⟨fun _ => ⟨by rw [ht]; exact hP, hD⟩, fun h => absurd hk0 h⟩⟩, hS.F ht⟩) hS.2.2 dL_setText_22
set_option maxHeartbeats 4000000 in
set_option maxRecDepth 100000 in
theorem c_L_appendPattern (l : Launch) (hlt : l.stackTraces = false) (D : va_G) (E : Nat × Nat × Nat) (h0 h1 h2 h3 b0 : Nat) (y1 y2 y3 y6 : ClassId) (sz n w : Nat) (T P M : Nat → Int32) (O : Nat → Int64) (hn : n ≤ 64) (hw : w ≤ 24) (hT : SymF T) (hPt : SymF P) (hD0 : va_D (fun _ => True) (LW h0 h1 h2 h3 b0 y1 y2 y3 y6 (n) (w) T P M O)) (x1 : Int32) : Met l yL_appendPattern wsL_appendPattern ({ frames := 8, cells := 2, slots := 12, locals := 131 }) (va_Pc [.ref h0, .int x1, .ref b0] (cp D (LW h0 h1 h2 h3 b0 y1 y2 y3 y6 (n) (w) T P M O) (LT y1 y2 y3 y6) E (va_A (LW h0 h1 h2 h3 b0 y1 y2 y3 y6 (n) (w) T P M O) sz) sz)) (va_Qi (fun (r : Int32) (u : Int32 × (Nat → Int32)) => r.toInt = ((kAP w x1.toInt : Nat) : Int) ∧ (kAP w x1.toInt = 0 → u.1.toInt = ((w + 1 : Nat) : Int))) (fun (u : Int32 × (Nat → Int32)) t => (kAP w x1.toInt = 0 → va_P D vwCl (LW h0 h1 h2 h3 b0 y1 y2 y3 y6 (n) (w + 1) T (upd P (w) x1) u.2 (vp_updL O 0 u.1.toInt64)) t.heap ∧ va_D (va_A (LW h0 h1 h2 h3 b0 y1 y2 y3 y6 (n) (w) T P M O) sz) (LW h0 h1 h2 h3 b0 y1 y2 y3 y6 (n) (w + 1) T (upd P (w) x1) u.2 (vp_updL O 0 u.1.toInt64))) ∧ (¬ kAP w x1.toInt = 0 → va_P D vwCl (LW h0 h1 h2 h3 b0 y1 y2 y3 y6 (n) (w) T P u.2 O) t.heap ∧ va_D (va_A (LW h0 h1 h2 h3 b0 y1 y2 y3 y6 (n) (w) T P M O) sz) (LW h0 h1 h2 h3 b0 y1 y2 y3 y6 (n) (w) T P u.2 O))) (va_A (LW h0 h1 h2 h3 b0 y1 y2 y3 y6 (n) (w) T P M O) sz)) 2 12 (va_A (LW h0 h1 h2 h3 b0 y1 y2 y3 y6 (n) (w) T P M O) sz) := by
  refine va_MetW (cc := cL_appendPattern) (maxL := 4) (ret := (some .int)) (hh := [(0, 9, 12, 13), (0, 9, 15, 15)]) (by decide) rfl ?_
  intro p e s m args below meth c s₁ B hml hv
  obtain ⟨rfl, hsz, hP, hK, hE⟩ := hv
  have hx := B.exec
  have hb := B.bytes
  have hr := B.returns
  have hts := atoms_spec (ws := wsL_appendPattern) B.pre
  have hown : s.vm.findClass RL = some m.cls := findClass_of_methodNamed B.named
  have hlocks := B.notSynchronized
  have htab : c.exceptionTable.toList = tableOf [(0, 9, 12, 13), (0, 9, 15, 15)] := vx_table (x := yL_appendPattern) B (hts (.codeWith yL_appendPattern cL_appendPattern 4 (some .int) [(0, 9, 12, 13), (0, 9, 15, 15)]) List.mem_cons_self)
  have hsz : s.heap.size = sz := hsz
  subst hsz
  have hD := hD0.self (sz := s.heap.size)
  have hA : ∀ q : Nat, s.heap.size ≤ q → (va_A (LW h0 h1 h2 h3 b0 y1 y2 y3 y6 (n) (w) T P M O) s.heap.size) q := fun q h => Or.inr h
  have hS : va_S (va_A (LW h0 h1 h2 h3 b0 y1 y2 y3 y6 (n) (w) T P M O) s.heap.size) s.heap s.heap [] := va_S.rf
  have hl := lv_entry ([.ref h0, .int x1, .ref b0]) (n := 4) (Nat.le_of_ble_eq_true rfl)
  rw [lg_entry_eq]
  generalize (lg_sl ([.ref h0, .int x1, .ref b0]) ++ List.replicate (4 - (lg_sl ([.ref h0, .int x1, .ref b0])).length) Slot.unset).toArray = ls at hl ⊢
  have hl : lv_has ls 4 [(0, .ref h0), (1, .int x1), (2, .ref b0)] := hl
  refine lv_aload_n hx hb dL_appendPattern_0 rfl (lv_at hl 2 rfl) ?_
  refine lv_iconst (v := 0) hx hb dL_appendPattern_1 (by decide) ?_
  refine lv_aload_n hx hb dL_appendPattern_2 rfl (lv_at hl 0 rfl) ?_
  refine lv_iload_n hx hb dL_appendPattern_3 rfl (lv_at hl 1 rfl) ?_
  have hPx := hP.sub (ws' := (XW h0 h1 h2 h3 y1 y2 y3 (n) (w) T P M)) [0, 1, 2, 3] rfl
  have hKx := hK.sub (tys' := (XT y1 y2 y3)) [0, 1, 2] rfl
  have hDx := hD0.sub (ws' := (XW h0 h1 h2 h3 y1 y2 y3 (n) (w) T P M)) [0, 1, 2, 3] (by decide) rfl
  have hFc := va_free (wc := (XW h0 h1 h2 h3 y1 y2 y3 (n) (w) T P M)) hD hS hA [0, 1, 2, 3] rfl
  refine vx_calli (vx_runV (As := [.int x1]) (rest := [.int 0, .ref b0]) ⟨hx, hb, hml, hown, hts⟩ (c_X1_appendPattern l hlt D E h0 h1 h2 h3 y1 y2 y3 s.heap.size (n) (w) T P M hn hw hT hPt hDx x1) (cwV 1 hts gL_appendPattern_X1_appendPattern rfl rfl rfl (by decide +kernel) ⟨Nat.le_of_ble_eq_true rfl, Nat.le_of_ble_eq_true rfl⟩) ⟨cp.blind, va_recv hK hP (ci := 0) (q0 := 0) rfl rfl, fun U hU hW => ⟨rfl, cp.call hPx hKx hE hS hFc hU hW⟩⟩ rfl rfl hl.1 rfl (lv_room (Nat.le_of_ble_eq_true rfl)) dL_appendPattern_4 ⟨Nat.le_of_ble_eq_true rfl, Nat.le_of_ble_eq_true rfl⟩) hS (fun q _ h => hFc q h) hFc (fun q _ h => fr0 hS hA q h) (fun X ce q9 u t H1 locs1 ht hvm _ hB hz1 hk1 hS hc1 hc2 hc3 => ?_) (fun v u t H1 locs1 ht hvm ev hB hz1 hk1 hS => ?_)
  · have hP := kp hP hk1
    generalize H1 = H at hP hS hc1 ⊢
    generalize locs1 = locs at hS ⊢
    have hB : (X = "java/lang/IllegalArgumentException" ∧ kAP w x1.toInt = 1) ∨ (X = "java/lang/IllegalStateException" ∧ kAP w x1.toInt = 2) := hB
    rcases hB with ⟨rfl, hk0⟩ | ⟨rfl, hk0⟩
    · have _u := True.intro
      refine vx_catch (E := "java/lang/IllegalArgumentException") (name := "java/lang/IllegalArgumentException") hown [] ⟨0, 9, 12, 13⟩ [⟨0, 9, 15, 15⟩] (by rw [htab]; rfl) (fun z hz => nomatch hz) (by decide) (by decide) (hts (.classLink RL 13 "java/lang/IllegalArgumentException") (by decide +kernel)) (va_Nw.use rfl (hE.1.2.1 _ (by simp [xC]))) hc1 hc2 hc3 ?_
      refine lv_astore_n (lv' := [(3, .ref q9), (0, .ref h0), (1, .int x1), (2, .ref b0)]) hx hb dL_appendPattern_12 rfl hl (by decide) rfl (fun ls hl => ?_)
      refine lv_iconst (v := 1) hx hb dL_appendPattern_13 (by decide) ?_
      refine W.widen (k := 2) (n := 12) (Nat.le_of_ble_eq_true rfl) (Nat.le_of_ble_eq_true rfl) ?_
      exact W.iret (v := 1) hx hb hr (fun t ht hW => ⟨⟨_, ((0 : Int32), M), rfl, ⟨(show (1 : Int32).toInt = 1 by decide).trans (by omega), fun h => absurd h (by omega)⟩, ⟨fun h => absurd h (by omega), fun _ => ⟨by rw [ht]; exact hP, hD⟩⟩⟩, hS.F ht⟩) hS.2.2 dL_appendPattern_14
    · have _u := True.intro
      refine vx_catch (E := "java/lang/IllegalStateException") (name := "java/lang/IllegalStateException") hown [⟨0, 9, 12, 13⟩] ⟨0, 9, 15, 15⟩ [] (by rw [htab]; rfl) (fun z hz => by rw [List.mem_singleton.mp hz]; exact Or.inr ⟨by decide, "java/lang/IllegalArgumentException", hts (.classLink RL 13 "java/lang/IllegalArgumentException") (by decide +kernel), hE.1.2.2.2 _ (by simp [xC]) _ (by simp [xC]) (by decide)⟩) (by decide) (by decide) (hts (.classLink RL 15 "java/lang/IllegalStateException") (by decide +kernel)) (va_Nw.use rfl (hE.1.2.1 _ (by simp [xC]))) hc1 hc2 hc3 ?_
      refine lv_astore_n (lv' := [(3, .ref q9), (0, .ref h0), (1, .int x1), (2, .ref b0)]) hx hb dL_appendPattern_15 rfl hl (by decide) rfl (fun ls hl => ?_)
      refine lv_iconst (v := 2) hx hb dL_appendPattern_16 (by decide) ?_
      refine W.widen (k := 2) (n := 12) (Nat.le_of_ble_eq_true rfl) (Nat.le_of_ble_eq_true rfl) ?_
      exact W.iret (v := 2) hx hb hr (fun t ht hW => ⟨⟨_, ((0 : Int32), M), rfl, ⟨(show (2 : Int32).toInt = 2 by decide).trans (by omega), fun h => absurd h (by omega)⟩, ⟨fun h => absurd h (by omega), fun _ => ⟨by rw [ht]; exact hP, hD⟩⟩⟩, hS.F ht⟩) hS.2.2 dL_appendPattern_17
  · obtain ⟨ev1, hk0⟩ := ev
    obtain ⟨hP1, hD1⟩ := hB
    rw [ht] at hP1
    obtain ⟨hP, hD⟩ := va_join (wr := [(b0, .inl (y6, 1, .inr (.inl O)))]) (w1 := (XW h0 h1 h2 h3 y1 y2 y3 (n) (w + 1) T (upd P (w) x1) M)) hP hD [0, 1, 2, 3] [4] rfl rfl (by decide) (by decide) hk1 hFc hP1 hD1
    have hP := hP.sub (ws' := (LW h0 h1 h2 h3 b0 y1 y2 y3 y6 (n) (w + 1) T (upd P (w) x1) M O)) [1, 2, 3, 4, 0] rfl
    have hD := hD.sub (ws' := (LW h0 h1 h2 h3 b0 y1 y2 y3 y6 (n) (w + 1) T (upd P (w) x1) M O)) [1, 2, 3, 4, 0] (by decide) rfl
    generalize H1 = H at hP hS ⊢
    generalize locs1 = locs at hS ⊢
    refine lv_i2l (v := v.toInt64) hx hb dL_appendPattern_7 rfl ?_
    refine z_last hx hb hK hP hD hS 4 3 rfl rfl 0 (show (0 : Int32).toInt = 0 by decide) rfl (by decide) dL_appendPattern_8 (fun H locs hP hD hS => ?_)
    have hP : va_P D vwCl (LW h0 h1 h2 h3 b0 y1 y2 y3 y6 (n) (w + 1) T (upd P (w) x1) M (vp_updL O 0 (v).toInt64)) H := hP
    have hD : va_D (va_A (LW h0 h1 h2 h3 b0 y1 y2 y3 y6 (n) (w) T P M O) s.heap.size) (LW h0 h1 h2 h3 b0 y1 y2 y3 y6 (n) (w + 1) T (upd P (w) x1) M (vp_updL O 0 (v).toInt64)) := hD
    refine lv_goto (tgt := 18) hx hb dL_appendPattern_9 (by decide) ?_
    refine lv_iconst (v := 0) hx hb dL_appendPattern_18 (by decide) ?_
    refine W.widen (k := 2) (n := 12) (Nat.le_of_ble_eq_true rfl) (Nat.le_of_ble_eq_true rfl) ?_
    exact W.iret (v := 0) hx hb hr (fun t ht hW => ⟨⟨_, (v, M), rfl, ⟨(show (0 : Int32).toInt = 0 by decide).trans (by omega), fun _ => ev1⟩, ⟨fun _ => ⟨by rw [ht]; exact hP, hD⟩, fun h => absurd hk0 h⟩⟩, hS.F ht⟩) hS.2.2 dL_appendPattern_19
set_option maxHeartbeats 4000000 in
set_option maxRecDepth 100000 in
theorem c_L_setPattern (l : Launch) (hlt : l.stackTraces = false) (D : va_G) (E : Nat × Nat × Nat) (h0 h1 h2 h3 b0 : Nat) (y1 y2 y3 y6 : ClassId) (sz n w : Nat) (T P M : Nat → Int32) (O : Nat → Int64) (hn : n ≤ 64) (hw : w ≤ 24) (hT : SymF T) (hPt : SymF P) (hD0 : va_D (fun _ => True) (LW h0 h1 h2 h3 b0 y1 y2 y3 y6 (n) (w) T P M O)) (x1 : Int32) (x2 : Int32) : Met l yL_setPattern wsL_setPattern ({ frames := 8, cells := 2, slots := 12, locals := 134 }) (va_Pc [.ref h0, .int x1, .int x2, .ref b0] (cp D (LW h0 h1 h2 h3 b0 y1 y2 y3 y6 (n) (w) T P M O) (LT y1 y2 y3 y6) E (va_A (LW h0 h1 h2 h3 b0 y1 y2 y3 y6 (n) (w) T P M O) sz) sz)) (va_Qi (fun (r : Int32) (u : Int32 × (Nat → Int32)) => r.toInt = ((kST w x1.toInt x2.toInt : Nat) : Int) ∧ (kST w x1.toInt x2.toInt = 0 → u.1.toInt = (P x1.toInt.toNat).toInt)) (fun (u : Int32 × (Nat → Int32)) t => (kST w x1.toInt x2.toInt = 0 → va_P D vwCl (LW h0 h1 h2 h3 b0 y1 y2 y3 y6 (n) (w) T (upd P (x1.toInt.toNat) x2) u.2 (vp_updL O 0 u.1.toInt64)) t.heap ∧ va_D (va_A (LW h0 h1 h2 h3 b0 y1 y2 y3 y6 (n) (w) T P M O) sz) (LW h0 h1 h2 h3 b0 y1 y2 y3 y6 (n) (w) T (upd P (x1.toInt.toNat) x2) u.2 (vp_updL O 0 u.1.toInt64))) ∧ (¬ kST w x1.toInt x2.toInt = 0 → va_P D vwCl (LW h0 h1 h2 h3 b0 y1 y2 y3 y6 (n) (w) T P u.2 O) t.heap ∧ va_D (va_A (LW h0 h1 h2 h3 b0 y1 y2 y3 y6 (n) (w) T P M O) sz) (LW h0 h1 h2 h3 b0 y1 y2 y3 y6 (n) (w) T P u.2 O))) (va_A (LW h0 h1 h2 h3 b0 y1 y2 y3 y6 (n) (w) T P M O) sz)) 2 12 (va_A (LW h0 h1 h2 h3 b0 y1 y2 y3 y6 (n) (w) T P M O) sz) := by
  refine va_MetW (cc := cL_setPattern) (maxL := 5) (ret := (some .int)) (hh := [(0, 10, 13, 21), (0, 10, 17, 13)]) (by decide) rfl ?_
  intro p e s m args below meth c s₁ B hml hv
  obtain ⟨rfl, hsz, hP, hK, hE⟩ := hv
  have hx := B.exec
  have hb := B.bytes
  have hr := B.returns
  have hts := atoms_spec (ws := wsL_setPattern) B.pre
  have hown : s.vm.findClass RL = some m.cls := findClass_of_methodNamed B.named
  have hlocks := B.notSynchronized
  have htab : c.exceptionTable.toList = tableOf [(0, 10, 13, 21), (0, 10, 17, 13)] := vx_table (x := yL_setPattern) B (hts (.codeWith yL_setPattern cL_setPattern 5 (some .int) [(0, 10, 13, 21), (0, 10, 17, 13)]) List.mem_cons_self)
  have hsz : s.heap.size = sz := hsz
  subst hsz
  have hD := hD0.self (sz := s.heap.size)
  have hA : ∀ q : Nat, s.heap.size ≤ q → (va_A (LW h0 h1 h2 h3 b0 y1 y2 y3 y6 (n) (w) T P M O) s.heap.size) q := fun q h => Or.inr h
  have hS : va_S (va_A (LW h0 h1 h2 h3 b0 y1 y2 y3 y6 (n) (w) T P M O) s.heap.size) s.heap s.heap [] := va_S.rf
  have hl := lv_entry ([.ref h0, .int x1, .int x2, .ref b0]) (n := 5) (Nat.le_of_ble_eq_true rfl)
  rw [lg_entry_eq]
  generalize (lg_sl ([.ref h0, .int x1, .int x2, .ref b0]) ++ List.replicate (5 - (lg_sl ([.ref h0, .int x1, .int x2, .ref b0])).length) Slot.unset).toArray = ls at hl ⊢
  have hl : lv_has ls 5 [(0, .ref h0), (1, .int x1), (2, .int x2), (3, .ref b0)] := hl
  refine lv_aload_n hx hb dL_setPattern_0 rfl (lv_at hl 3 rfl) ?_
  refine lv_iconst (v := 0) hx hb dL_setPattern_1 (by decide) ?_
  refine lv_aload_n hx hb dL_setPattern_2 rfl (lv_at hl 0 rfl) ?_
  refine lv_iload_n hx hb dL_setPattern_3 rfl (lv_at hl 1 rfl) ?_
  refine lv_iload_n hx hb dL_setPattern_4 rfl (lv_at hl 2 rfl) ?_
  have hPx := hP.sub (ws' := (XW h0 h1 h2 h3 y1 y2 y3 (n) (w) T P M)) [0, 1, 2, 3] rfl
  have hKx := hK.sub (tys' := (XT y1 y2 y3)) [0, 1, 2] rfl
  have hDx := hD0.sub (ws' := (XW h0 h1 h2 h3 y1 y2 y3 (n) (w) T P M)) [0, 1, 2, 3] (by decide) rfl
  have hFc := va_free (wc := (XW h0 h1 h2 h3 y1 y2 y3 (n) (w) T P M)) hD hS hA [0, 1, 2, 3] rfl
  refine vx_calli (vx_runV (As := [.int x1, .int x2]) (rest := [.int 0, .ref b0]) ⟨hx, hb, hml, hown, hts⟩ (c_X1_setPattern l hlt D E h0 h1 h2 h3 y1 y2 y3 s.heap.size (n) (w) T P M hn hw hT hPt hDx x1 x2) (cwV 2 hts gL_setPattern_X1_setPattern rfl rfl rfl (by decide +kernel) ⟨Nat.le_of_ble_eq_true rfl, Nat.le_of_ble_eq_true rfl⟩) ⟨cp.blind, va_recv hK hP (ci := 0) (q0 := 0) rfl rfl, fun U hU hW => ⟨rfl, cp.call hPx hKx hE hS hFc hU hW⟩⟩ rfl rfl hl.1 rfl (lv_room (Nat.le_of_ble_eq_true rfl)) dL_setPattern_5 ⟨Nat.le_of_ble_eq_true rfl, Nat.le_of_ble_eq_true rfl⟩) hS (fun q _ h => hFc q h) hFc (fun q _ h => fr0 hS hA q h) (fun X ce q9 u t H1 locs1 ht hvm _ hB hz1 hk1 hS hc1 hc2 hc3 => ?_) (fun v u t H1 locs1 ht hvm ev hB hz1 hk1 hS => ?_)
  · have hP := kp hP hk1
    generalize H1 = H at hP hS hc1 ⊢
    generalize locs1 = locs at hS ⊢
    have hB : (X = "java/lang/IndexOutOfBoundsException" ∧ kST w x1.toInt x2.toInt = 1) ∨ (X = "java/lang/IllegalArgumentException" ∧ kST w x1.toInt x2.toInt = 2) := hB
    rcases hB with ⟨rfl, hk0⟩ | ⟨rfl, hk0⟩
    · have _u := True.intro
      refine vx_catch (E := "java/lang/IndexOutOfBoundsException") (name := "java/lang/IndexOutOfBoundsException") hown [] ⟨0, 10, 13, 21⟩ [⟨0, 10, 17, 13⟩] (by rw [htab]; rfl) (fun z hz => nomatch hz) (by decide) (by decide) (hts (.classLink RL 21 "java/lang/IndexOutOfBoundsException") (by decide +kernel)) (va_Nw.use rfl (hE.1.2.1 _ (by simp [xC]))) hc1 hc2 hc3 ?_
      refine lv_astore (lv' := [(4, .ref q9), (0, .ref h0), (1, .int x1), (2, .int x2), (3, .ref b0)]) hx hb dL_setPattern_13 hl (by decide) rfl (fun ls hl => ?_)
      refine lv_iconst (v := 1) hx hb dL_setPattern_15 (by decide) ?_
      refine W.widen (k := 2) (n := 12) (Nat.le_of_ble_eq_true rfl) (Nat.le_of_ble_eq_true rfl) ?_
      exact W.iret (v := 1) hx hb hr (fun t ht hW => ⟨⟨_, ((0 : Int32), M), rfl, ⟨(show (1 : Int32).toInt = 1 by decide).trans (by omega), fun h => absurd h (by omega)⟩, ⟨fun h => absurd h (by omega), fun _ => ⟨by rw [ht]; exact hP, hD⟩⟩⟩, hS.F ht⟩) hS.2.2 dL_setPattern_16
    · have _u := True.intro
      refine vx_catch (E := "java/lang/IllegalArgumentException") (name := "java/lang/IllegalArgumentException") hown [⟨0, 10, 13, 21⟩] ⟨0, 10, 17, 13⟩ [] (by rw [htab]; rfl) (fun z hz => by rw [List.mem_singleton.mp hz]; exact Or.inr ⟨by decide, "java/lang/IndexOutOfBoundsException", hts (.classLink RL 21 "java/lang/IndexOutOfBoundsException") (by decide +kernel), hE.1.2.2.2 _ (by simp [xC]) _ (by simp [xC]) (by decide)⟩) (by decide) (by decide) (hts (.classLink RL 13 "java/lang/IllegalArgumentException") (by decide +kernel)) (va_Nw.use rfl (hE.1.2.1 _ (by simp [xC]))) hc1 hc2 hc3 ?_
      refine lv_astore (lv' := [(4, .ref q9), (0, .ref h0), (1, .int x1), (2, .int x2), (3, .ref b0)]) hx hb dL_setPattern_17 hl (by decide) rfl (fun ls hl => ?_)
      refine lv_iconst (v := 2) hx hb dL_setPattern_19 (by decide) ?_
      refine W.widen (k := 2) (n := 12) (Nat.le_of_ble_eq_true rfl) (Nat.le_of_ble_eq_true rfl) ?_
      exact W.iret (v := 2) hx hb hr (fun t ht hW => ⟨⟨_, ((0 : Int32), M), rfl, ⟨(show (2 : Int32).toInt = 2 by decide).trans (by omega), fun h => absurd h (by omega)⟩, ⟨fun h => absurd h (by omega), fun _ => ⟨by rw [ht]; exact hP, hD⟩⟩⟩, hS.F ht⟩) hS.2.2 dL_setPattern_20
  · obtain ⟨ev1, hk0⟩ := ev
    obtain ⟨hP1, hD1⟩ := hB
    rw [ht] at hP1
    obtain ⟨hP, hD⟩ := va_join (wr := [(b0, .inl (y6, 1, .inr (.inl O)))]) (w1 := (XW h0 h1 h2 h3 y1 y2 y3 (n) (w) T (upd P (x1.toInt.toNat) x2) M)) hP hD [0, 1, 2, 3] [4] rfl rfl (by decide) (by decide) hk1 hFc hP1 hD1
    have hP := hP.sub (ws' := (LW h0 h1 h2 h3 b0 y1 y2 y3 y6 (n) (w) T (upd P (x1.toInt.toNat) x2) M O)) [1, 2, 3, 4, 0] rfl
    have hD := hD.sub (ws' := (LW h0 h1 h2 h3 b0 y1 y2 y3 y6 (n) (w) T (upd P (x1.toInt.toNat) x2) M O)) [1, 2, 3, 4, 0] (by decide) rfl
    generalize H1 = H at hP hS ⊢
    generalize locs1 = locs at hS ⊢
    refine lv_i2l (v := v.toInt64) hx hb dL_setPattern_8 rfl ?_
    refine z_last hx hb hK hP hD hS 4 3 rfl rfl 0 (show (0 : Int32).toInt = 0 by decide) rfl (by decide) dL_setPattern_9 (fun H locs hP hD hS => ?_)
    have hP : va_P D vwCl (LW h0 h1 h2 h3 b0 y1 y2 y3 y6 (n) (w) T (upd P (x1.toInt.toNat) x2) M (vp_updL O 0 (v).toInt64)) H := hP
    have hD : va_D (va_A (LW h0 h1 h2 h3 b0 y1 y2 y3 y6 (n) (w) T P M O) s.heap.size) (LW h0 h1 h2 h3 b0 y1 y2 y3 y6 (n) (w) T (upd P (x1.toInt.toNat) x2) M (vp_updL O 0 (v).toInt64)) := hD
    refine lv_goto (tgt := 21) hx hb dL_setPattern_10 (by decide) ?_
    refine lv_iconst (v := 0) hx hb dL_setPattern_21 (by decide) ?_
    refine W.widen (k := 2) (n := 12) (Nat.le_of_ble_eq_true rfl) (Nat.le_of_ble_eq_true rfl) ?_
    exact W.iret (v := 0) hx hb hr (fun t ht hW => ⟨⟨_, (v, M), rfl, ⟨(show (0 : Int32).toInt = 0 by decide).trans (by omega), fun _ => ev1⟩, ⟨fun _ => ⟨by rw [ht]; exact hP, hD⟩, fun h => absurd hk0 h⟩⟩, hS.F ht⟩) hS.2.2 dL_setPattern_22
set_option maxHeartbeats 4000000 in
set_option maxRecDepth 100000 in
theorem c_L_takePattern (l : Launch) (hlt : l.stackTraces = false) (D : va_G) (E : Nat × Nat × Nat) (h0 h1 h2 h3 b0 : Nat) (y1 y2 y3 y6 : ClassId) (sz n w : Nat) (T P M : Nat → Int32) (O : Nat → Int64) (hn : n ≤ 64) (hw : w ≤ 24) (hT : SymF T) (hPt : SymF P) (hD0 : va_D (fun _ => True) (LW h0 h1 h2 h3 b0 y1 y2 y3 y6 (n) (w) T P M O)) (x1 : Int32) (x2 : Int32) : Met l yL_takePattern wsL_takePattern ({ frames := 8, cells := 1, slots := 6, locals := 134 }) (va_Pc [.ref h0, .int x1, .int x2, .ref b0] (cp D (LW h0 h1 h2 h3 b0 y1 y2 y3 y6 (n) (w) T P M O) (LT y1 y2 y3 y6) E (va_A (LW h0 h1 h2 h3 b0 y1 y2 y3 y6 (n) (w) T P M O) sz) sz)) (va_Qi (fun (r : Int32) (u : Int32 × (Nat → Int32)) => r.toInt = ((kTP n x1.toInt x2.toInt : Nat) : Int) ∧ (kTP n x1.toInt x2.toInt = 0 → u.1.toInt = ((cnt (bf (va_cpy T P x1.toInt.toNat 0 x2.toInt.toNat)) x2.toInt.toNat : Nat) : Int))) (fun (u : Int32 × (Nat → Int32)) t => (kTP n x1.toInt x2.toInt = 0 → va_P D vwCl (LW h0 h1 h2 h3 b0 y1 y2 y3 y6 (n) (x2.toInt.toNat) T (va_cpy T P x1.toInt.toNat 0 x2.toInt.toNat) u.2 (vp_updL O 0 u.1.toInt64)) t.heap ∧ va_D (va_A (LW h0 h1 h2 h3 b0 y1 y2 y3 y6 (n) (w) T P M O) sz) (LW h0 h1 h2 h3 b0 y1 y2 y3 y6 (n) (x2.toInt.toNat) T (va_cpy T P x1.toInt.toNat 0 x2.toInt.toNat) u.2 (vp_updL O 0 u.1.toInt64))) ∧ (¬ kTP n x1.toInt x2.toInt = 0 → va_P D vwCl (LW h0 h1 h2 h3 b0 y1 y2 y3 y6 (n) (w) T P u.2 O) t.heap ∧ va_D (va_A (LW h0 h1 h2 h3 b0 y1 y2 y3 y6 (n) (w) T P M O) sz) (LW h0 h1 h2 h3 b0 y1 y2 y3 y6 (n) (w) T P u.2 O))) (va_A (LW h0 h1 h2 h3 b0 y1 y2 y3 y6 (n) (w) T P M O) sz)) 1 6 (va_A (LW h0 h1 h2 h3 b0 y1 y2 y3 y6 (n) (w) T P M O) sz) := by
  refine va_MetW (cc := cL_takePattern) (maxL := 5) (ret := (some .int)) (hh := [(0, 10, 13, 13), (0, 10, 17, 21)]) (by decide) rfl ?_
  intro p e s m args below meth c s₁ B hml hv
  obtain ⟨rfl, hsz, hP, hK, hE⟩ := hv
  have hx := B.exec
  have hb := B.bytes
  have hr := B.returns
  have hts := atoms_spec (ws := wsL_takePattern) B.pre
  have hown : s.vm.findClass RL = some m.cls := findClass_of_methodNamed B.named
  have hlocks := B.notSynchronized
  have htab : c.exceptionTable.toList = tableOf [(0, 10, 13, 13), (0, 10, 17, 21)] := vx_table (x := yL_takePattern) B (hts (.codeWith yL_takePattern cL_takePattern 5 (some .int) [(0, 10, 13, 13), (0, 10, 17, 21)]) List.mem_cons_self)
  have hsz : s.heap.size = sz := hsz
  subst hsz
  have hD := hD0.self (sz := s.heap.size)
  have hA : ∀ q : Nat, s.heap.size ≤ q → (va_A (LW h0 h1 h2 h3 b0 y1 y2 y3 y6 (n) (w) T P M O) s.heap.size) q := fun q h => Or.inr h
  have hS : va_S (va_A (LW h0 h1 h2 h3 b0 y1 y2 y3 y6 (n) (w) T P M O) s.heap.size) s.heap s.heap [] := va_S.rf
  have hl := lv_entry ([.ref h0, .int x1, .int x2, .ref b0]) (n := 5) (Nat.le_of_ble_eq_true rfl)
  rw [lg_entry_eq]
  generalize (lg_sl ([.ref h0, .int x1, .int x2, .ref b0]) ++ List.replicate (5 - (lg_sl ([.ref h0, .int x1, .int x2, .ref b0])).length) Slot.unset).toArray = ls at hl ⊢
  have hl : lv_has ls 5 [(0, .ref h0), (1, .int x1), (2, .int x2), (3, .ref b0)] := hl
  refine lv_aload_n hx hb dL_takePattern_0 rfl (lv_at hl 3 rfl) ?_
  refine lv_iconst (v := 0) hx hb dL_takePattern_1 (by decide) ?_
  refine lv_aload_n hx hb dL_takePattern_2 rfl (lv_at hl 0 rfl) ?_
  refine lv_iload_n hx hb dL_takePattern_3 rfl (lv_at hl 1 rfl) ?_
  refine lv_iload_n hx hb dL_takePattern_4 rfl (lv_at hl 2 rfl) ?_
  have hPx := hP.sub (ws' := (XW h0 h1 h2 h3 y1 y2 y3 (n) (w) T P M)) [0, 1, 2, 3] rfl
  have hKx := hK.sub (tys' := (XT y1 y2 y3)) [0, 1, 2] rfl
  have hDx := hD0.sub (ws' := (XW h0 h1 h2 h3 y1 y2 y3 (n) (w) T P M)) [0, 1, 2, 3] (by decide) rfl
  have hFc := va_free (wc := (XW h0 h1 h2 h3 y1 y2 y3 (n) (w) T P M)) hD hS hA [0, 1, 2, 3] rfl
  refine vx_calli (vx_runV (As := [.int x1, .int x2]) (rest := [.int 0, .ref b0]) ⟨hx, hb, hml, hown, hts⟩ (c_X1_takePattern l hlt D E h0 h1 h2 h3 y1 y2 y3 s.heap.size (n) (w) T P M hn hw hT hPt hDx x1 x2) (cwV 2 hts gL_takePattern_X1_takePattern rfl rfl rfl (by decide +kernel) ⟨Nat.le_of_ble_eq_true rfl, Nat.le_of_ble_eq_true rfl⟩) ⟨cp.blind, va_recv hK hP (ci := 0) (q0 := 0) rfl rfl, fun U hU hW => ⟨rfl, cp.call hPx hKx hE hS hFc hU hW⟩⟩ rfl rfl hl.1 rfl (lv_room (Nat.le_of_ble_eq_true rfl)) dL_takePattern_5 ⟨Nat.le_of_ble_eq_true rfl, Nat.le_of_ble_eq_true rfl⟩) hS (fun q _ h => hFc q h) hFc (fun q _ h => fr0 hS hA q h) (fun X ce q9 u t H1 locs1 ht hvm _ hB hz1 hk1 hS hc1 hc2 hc3 => ?_) (fun v u t H1 locs1 ht hvm ev hB hz1 hk1 hS => ?_)
  · have hP := kp hP hk1
    generalize H1 = H at hP hS hc1 ⊢
    generalize locs1 = locs at hS ⊢
    have hB : (X = "java/lang/IllegalArgumentException" ∧ kTP n x1.toInt x2.toInt = 1) ∨ (X = "java/lang/IndexOutOfBoundsException" ∧ kTP n x1.toInt x2.toInt = 2) := hB
    rcases hB with ⟨rfl, hk0⟩ | ⟨rfl, hk0⟩
    · have _u := True.intro
      refine vx_catch (E := "java/lang/IllegalArgumentException") (name := "java/lang/IllegalArgumentException") hown [] ⟨0, 10, 13, 13⟩ [⟨0, 10, 17, 21⟩] (by rw [htab]; rfl) (fun z hz => nomatch hz) (by decide) (by decide) (hts (.classLink RL 13 "java/lang/IllegalArgumentException") (by decide +kernel)) (va_Nw.use rfl (hE.1.2.1 _ (by simp [xC]))) hc1 hc2 hc3 ?_
      refine lv_astore (lv' := [(4, .ref q9), (0, .ref h0), (1, .int x1), (2, .int x2), (3, .ref b0)]) hx hb dL_takePattern_13 hl (by decide) rfl (fun ls hl => ?_)
      refine lv_iconst (v := 1) hx hb dL_takePattern_15 (by decide) ?_
      refine W.widen (k := 1) (n := 6) (Nat.le_of_ble_eq_true rfl) (Nat.le_of_ble_eq_true rfl) ?_
      exact W.iret (v := 1) hx hb hr (fun t ht hW => ⟨⟨_, ((0 : Int32), M), rfl, ⟨(show (1 : Int32).toInt = 1 by decide).trans (by omega), fun h => absurd h (by omega)⟩, ⟨fun h => absurd h (by omega), fun _ => ⟨by rw [ht]; exact hP, hD⟩⟩⟩, hS.F ht⟩) hS.2.2 dL_takePattern_16
    · have _u := True.intro
      refine vx_catch (E := "java/lang/IndexOutOfBoundsException") (name := "java/lang/IndexOutOfBoundsException") hown [⟨0, 10, 13, 13⟩] ⟨0, 10, 17, 21⟩ [] (by rw [htab]; rfl) (fun z hz => by rw [List.mem_singleton.mp hz]; exact Or.inr ⟨by decide, "java/lang/IllegalArgumentException", hts (.classLink RL 13 "java/lang/IllegalArgumentException") (by decide +kernel), hE.1.2.2.2 _ (by simp [xC]) _ (by simp [xC]) (by decide)⟩) (by decide) (by decide) (hts (.classLink RL 21 "java/lang/IndexOutOfBoundsException") (by decide +kernel)) (va_Nw.use rfl (hE.1.2.1 _ (by simp [xC]))) hc1 hc2 hc3 ?_
      refine lv_astore (lv' := [(4, .ref q9), (0, .ref h0), (1, .int x1), (2, .int x2), (3, .ref b0)]) hx hb dL_takePattern_17 hl (by decide) rfl (fun ls hl => ?_)
      refine lv_iconst (v := 2) hx hb dL_takePattern_19 (by decide) ?_
      refine W.widen (k := 1) (n := 6) (Nat.le_of_ble_eq_true rfl) (Nat.le_of_ble_eq_true rfl) ?_
      exact W.iret (v := 2) hx hb hr (fun t ht hW => ⟨⟨_, ((0 : Int32), M), rfl, ⟨(show (2 : Int32).toInt = 2 by decide).trans (by omega), fun h => absurd h (by omega)⟩, ⟨fun h => absurd h (by omega), fun _ => ⟨by rw [ht]; exact hP, hD⟩⟩⟩, hS.F ht⟩) hS.2.2 dL_takePattern_20
  · obtain ⟨ev1, hk0⟩ := ev
    obtain ⟨hP1, hD1⟩ := hB
    rw [ht] at hP1
    obtain ⟨hP, hD⟩ := va_join (wr := [(b0, .inl (y6, 1, .inr (.inl O)))]) (w1 := (XW h0 h1 h2 h3 y1 y2 y3 (n) (x2.toInt.toNat) T (va_cpy T P x1.toInt.toNat 0 x2.toInt.toNat) M)) hP hD [0, 1, 2, 3] [4] rfl rfl (by decide) (by decide) hk1 hFc hP1 hD1
    have hP := hP.sub (ws' := (LW h0 h1 h2 h3 b0 y1 y2 y3 y6 (n) (x2.toInt.toNat) T (va_cpy T P x1.toInt.toNat 0 x2.toInt.toNat) M O)) [1, 2, 3, 4, 0] rfl
    have hD := hD.sub (ws' := (LW h0 h1 h2 h3 b0 y1 y2 y3 y6 (n) (x2.toInt.toNat) T (va_cpy T P x1.toInt.toNat 0 x2.toInt.toNat) M O)) [1, 2, 3, 4, 0] (by decide) rfl
    generalize H1 = H at hP hS ⊢
    generalize locs1 = locs at hS ⊢
    refine lv_i2l (v := v.toInt64) hx hb dL_takePattern_8 rfl ?_
    refine z_last hx hb hK hP hD hS 4 3 rfl rfl 0 (show (0 : Int32).toInt = 0 by decide) rfl (by decide) dL_takePattern_9 (fun H locs hP hD hS => ?_)
    have hP : va_P D vwCl (LW h0 h1 h2 h3 b0 y1 y2 y3 y6 (n) (x2.toInt.toNat) T (va_cpy T P x1.toInt.toNat 0 x2.toInt.toNat) M (vp_updL O 0 (v).toInt64)) H := hP
    have hD : va_D (va_A (LW h0 h1 h2 h3 b0 y1 y2 y3 y6 (n) (w) T P M O) s.heap.size) (LW h0 h1 h2 h3 b0 y1 y2 y3 y6 (n) (x2.toInt.toNat) T (va_cpy T P x1.toInt.toNat 0 x2.toInt.toNat) M (vp_updL O 0 (v).toInt64)) := hD
    refine lv_goto (tgt := 21) hx hb dL_takePattern_10 (by decide) ?_
    refine lv_iconst (v := 0) hx hb dL_takePattern_21 (by decide) ?_
    refine W.widen (k := 1) (n := 6) (Nat.le_of_ble_eq_true rfl) (Nat.le_of_ble_eq_true rfl) ?_
    exact W.iret (v := 0) hx hb hr (fun t ht hW => ⟨⟨_, (v, M), rfl, ⟨(show (0 : Int32).toInt = 0 by decide).trans (by omega), fun _ => ev1⟩, ⟨fun _ => ⟨by rw [ht]; exact hP, hD⟩, fun h => absurd hk0 h⟩⟩, hS.F ht⟩) hS.2.2 dL_takePattern_22
set_option maxHeartbeats 4000000 in
set_option maxRecDepth 100000 in
theorem c_L_product (l : Launch) (hlt : l.stackTraces = false) (D : va_G) (E : Nat × Nat × Nat) (h0 h1 h2 h3 b0 : Nat) (y1 y2 y3 y6 : ClassId) (sz n w : Nat) (T P M : Nat → Int32) (O : Nat → Int64) (hn : n ≤ 64) (hw : w ≤ 24) (hT : SymF T) (hPt : SymF P) (hD0 : va_D (fun _ => True) (LW h0 h1 h2 h3 b0 y1 y2 y3 y6 (n) (w) T P M O)) (x1 : Int32) : Met l yL_product wsL_product ({ frames := 7, cells := 1, slots := 6, locals := 114 }) (va_Pc [.ref h0, .int x1, .ref b0] (cp D (LW h0 h1 h2 h3 b0 y1 y2 y3 y6 (n) (w) T P M O) (LT y1 y2 y3 y6) E (va_A (LW h0 h1 h2 h3 b0 y1 y2 y3 y6 (n) (w) T P M O) sz) sz)) (va_Qi (fun (r : Int32) (u : Int32 × (Nat → Int32)) => r.toInt = ((kNeg x1.toInt : Nat) : Int) ∧ (kNeg x1.toInt = 0 → u.1.toInt = (isum (pg T P n w x1.toInt.toNat) w).toInt)) (fun (u : Int32 × (Nat → Int32)) t => (kNeg x1.toInt = 0 → va_P D vwCl (LW h0 h1 h2 h3 b0 y1 y2 y3 y6 (n) (w) T P u.2 (vp_updL O 0 u.1.toInt64)) t.heap ∧ va_D (va_A (LW h0 h1 h2 h3 b0 y1 y2 y3 y6 (n) (w) T P M O) sz) (LW h0 h1 h2 h3 b0 y1 y2 y3 y6 (n) (w) T P u.2 (vp_updL O 0 u.1.toInt64))) ∧ (¬ kNeg x1.toInt = 0 → va_P D vwCl (LW h0 h1 h2 h3 b0 y1 y2 y3 y6 (n) (w) T P u.2 O) t.heap ∧ va_D (va_A (LW h0 h1 h2 h3 b0 y1 y2 y3 y6 (n) (w) T P M O) sz) (LW h0 h1 h2 h3 b0 y1 y2 y3 y6 (n) (w) T P u.2 O))) (va_A (LW h0 h1 h2 h3 b0 y1 y2 y3 y6 (n) (w) T P M O) sz)) 1 6 (va_A (LW h0 h1 h2 h3 b0 y1 y2 y3 y6 (n) (w) T P M O) sz) := by
  refine va_MetW (cc := cL_product) (maxL := 4) (ret := (some .int)) (hh := [(0, 9, 12, 13)]) (by decide) rfl ?_
  intro p e s m args below meth c s₁ B hml hv
  obtain ⟨rfl, hsz, hP, hK, hE⟩ := hv
  have hx := B.exec
  have hb := B.bytes
  have hr := B.returns
  have hts := atoms_spec (ws := wsL_product) B.pre
  have hown : s.vm.findClass RL = some m.cls := findClass_of_methodNamed B.named
  have hlocks := B.notSynchronized
  have htab : c.exceptionTable.toList = tableOf [(0, 9, 12, 13)] := vx_table (x := yL_product) B (hts (.codeWith yL_product cL_product 4 (some .int) [(0, 9, 12, 13)]) List.mem_cons_self)
  have hsz : s.heap.size = sz := hsz
  subst hsz
  have hD := hD0.self (sz := s.heap.size)
  have hA : ∀ q : Nat, s.heap.size ≤ q → (va_A (LW h0 h1 h2 h3 b0 y1 y2 y3 y6 (n) (w) T P M O) s.heap.size) q := fun q h => Or.inr h
  have hS : va_S (va_A (LW h0 h1 h2 h3 b0 y1 y2 y3 y6 (n) (w) T P M O) s.heap.size) s.heap s.heap [] := va_S.rf
  have hl := lv_entry ([.ref h0, .int x1, .ref b0]) (n := 4) (Nat.le_of_ble_eq_true rfl)
  rw [lg_entry_eq]
  generalize (lg_sl ([.ref h0, .int x1, .ref b0]) ++ List.replicate (4 - (lg_sl ([.ref h0, .int x1, .ref b0])).length) Slot.unset).toArray = ls at hl ⊢
  have hl : lv_has ls 4 [(0, .ref h0), (1, .int x1), (2, .ref b0)] := hl
  refine lv_aload_n hx hb dL_product_0 rfl (lv_at hl 2 rfl) ?_
  refine lv_iconst (v := 0) hx hb dL_product_1 (by decide) ?_
  refine lv_aload_n hx hb dL_product_2 rfl (lv_at hl 0 rfl) ?_
  refine lv_iload_n hx hb dL_product_3 rfl (lv_at hl 1 rfl) ?_
  have hPx := hP.sub (ws' := (XW h0 h1 h2 h3 y1 y2 y3 (n) (w) T P M)) [0, 1, 2, 3] rfl
  have hKx := hK.sub (tys' := (XT y1 y2 y3)) [0, 1, 2] rfl
  refine vx_calli (vx_runV (As := [.int x1]) (rest := [.int 0, .ref b0]) ⟨hx, hb, hml, hown, hts⟩ (c_X1_product l hlt D E h0 h1 h2 h3 y1 y2 y3 s.heap.size (n) (w) T P M hn hw hT hPt x1) (cwV 1 hts gL_product_X1_product rfl rfl rfl (by decide +kernel) ⟨Nat.le_of_ble_eq_true rfl, Nat.le_of_ble_eq_true rfl⟩) ⟨cp.blind, va_recv hK hP (ci := 0) (q0 := 0) rfl rfl, fun U hU hW => ⟨rfl, cp.call hPx hKx hE hS (fr0 hS hA) hU hW⟩⟩ rfl rfl hl.1 rfl (lv_room (Nat.le_of_ble_eq_true rfl)) dL_product_4 ⟨Nat.le_of_ble_eq_true rfl, Nat.le_of_ble_eq_true rfl⟩) hS (fun q _ h => (fr0 hS hA) q h) (fr0 hS hA) (fun q _ h => fr0 hS hA q h) (fun X ce q9 u t H1 locs1 ht hvm _ hB hz1 hk1 hS hc1 hc2 hc3 => ?_) (fun v u t H1 locs1 ht hvm ev hB hz1 hk1 hS => ?_)
  · have hP := kp hP hk1
    generalize H1 = H at hP hS hc1 ⊢
    generalize locs1 = locs at hS ⊢
    have hB : X = "java/lang/IllegalArgumentException" ∧ kNeg x1.toInt = 1 := hB
    obtain ⟨rfl, hk0⟩ := hB
    refine vx_catch (E := "java/lang/IllegalArgumentException") (name := "java/lang/IllegalArgumentException") hown [] ⟨0, 9, 12, 13⟩ [] (by rw [htab]; rfl) (fun z hz => nomatch hz) (by decide) (by decide) (hts (.classLink RL 13 "java/lang/IllegalArgumentException") (by decide +kernel)) (va_Nw.use rfl (hE.1.2.1 _ (by simp [xC]))) hc1 hc2 hc3 ?_
    refine lv_astore_n (lv' := [(3, .ref q9), (0, .ref h0), (1, .int x1), (2, .ref b0)]) hx hb dL_product_12 rfl hl (by decide) rfl (fun ls hl => ?_)
    refine lv_iconst (v := 1) hx hb dL_product_13 (by decide) ?_
    refine W.widen (k := 1) (n := 6) (Nat.le_of_ble_eq_true rfl) (Nat.le_of_ble_eq_true rfl) ?_
    exact W.iret (v := 1) hx hb hr (fun t ht hW => ⟨⟨_, ((0 : Int32), M), rfl, ⟨(show (1 : Int32).toInt = 1 by decide).trans (by omega), fun h => absurd h (by omega)⟩, ⟨fun h => absurd h (by omega), fun _ => ⟨by rw [ht]; exact hP, hD⟩⟩⟩, hS.F ht⟩) hS.2.2 dL_product_14
  · obtain ⟨ev1, hk0⟩ := ev
    have hP := kp hP hk1
    generalize H1 = H at hP hS ⊢
    generalize locs1 = locs at hS ⊢
    refine lv_i2l (v := v.toInt64) hx hb dL_product_7 rfl ?_
    refine z_last hx hb hK hP hD hS 4 3 rfl rfl 0 (show (0 : Int32).toInt = 0 by decide) rfl (by decide) dL_product_8 (fun H locs hP hD hS => ?_)
    have hP : va_P D vwCl (LW h0 h1 h2 h3 b0 y1 y2 y3 y6 (n) (w) T P M (vp_updL O 0 (v).toInt64)) H := hP
    have hD : va_D (va_A (LW h0 h1 h2 h3 b0 y1 y2 y3 y6 (n) (w) T P M O) s.heap.size) (LW h0 h1 h2 h3 b0 y1 y2 y3 y6 (n) (w) T P M (vp_updL O 0 (v).toInt64)) := hD
    refine lv_goto (tgt := 15) hx hb dL_product_9 (by decide) ?_
    refine lv_iconst (v := 0) hx hb dL_product_15 (by decide) ?_
    refine W.widen (k := 1) (n := 6) (Nat.le_of_ble_eq_true rfl) (Nat.le_of_ble_eq_true rfl) ?_
    exact W.iret (v := 0) hx hb hr (fun t ht hW => ⟨⟨_, (v, M), rfl, ⟨(show (0 : Int32).toInt = 0 by decide).trans (by omega), fun _ => ev1⟩, ⟨fun _ => ⟨by rw [ht]; exact hP, hD⟩, fun h => absurd hk0 h⟩⟩, hS.F ht⟩) hS.2.2 dL_product_16
set_option maxHeartbeats 4000000 in
set_option maxRecDepth 100000 in
theorem c_L_difference (l : Launch) (hlt : l.stackTraces = false) (D : va_G) (E : Nat × Nat × Nat) (h0 h1 h2 h3 b0 : Nat) (y1 y2 y3 y6 : ClassId) (sz n w : Nat) (T P M : Nat → Int32) (O : Nat → Int64) (hn : n ≤ 64) (hw : w ≤ 24) (hT : SymF T) (hPt : SymF P) (hD0 : va_D (fun _ => True) (LW h0 h1 h2 h3 b0 y1 y2 y3 y6 (n) (w) T P M O)) (x1 : Int32) : Met l yL_difference wsL_difference ({ frames := 8, cells := 1, slots := 6, locals := 136 }) (va_Pc [.ref h0, .int x1, .ref b0] (cp D (LW h0 h1 h2 h3 b0 y1 y2 y3 y6 (n) (w) T P M O) (LT y1 y2 y3 y6) E (va_A (LW h0 h1 h2 h3 b0 y1 y2 y3 y6 (n) (w) T P M O) sz) sz)) (va_Qi (fun (r : Int32) (u : Int32 × (Nat → Int32)) => r.toInt = ((kPl (pl n w) x1.toInt : Nat) : Int) ∧ (kPl (pl n w) x1.toInt = 0 → u.1.toInt = (isum (df T P x1.toInt.toNat) w).toInt)) (fun (u : Int32 × (Nat → Int32)) t => (kPl (pl n w) x1.toInt = 0 → va_P D vwCl (LW h0 h1 h2 h3 b0 y1 y2 y3 y6 (n) (w) T P u.2 (vp_updL O 0 u.1.toInt64)) t.heap ∧ va_D (va_A (LW h0 h1 h2 h3 b0 y1 y2 y3 y6 (n) (w) T P M O) sz) (LW h0 h1 h2 h3 b0 y1 y2 y3 y6 (n) (w) T P u.2 (vp_updL O 0 u.1.toInt64))) ∧ (¬ kPl (pl n w) x1.toInt = 0 → va_P D vwCl (LW h0 h1 h2 h3 b0 y1 y2 y3 y6 (n) (w) T P u.2 O) t.heap ∧ va_D (va_A (LW h0 h1 h2 h3 b0 y1 y2 y3 y6 (n) (w) T P M O) sz) (LW h0 h1 h2 h3 b0 y1 y2 y3 y6 (n) (w) T P u.2 O))) (va_A (LW h0 h1 h2 h3 b0 y1 y2 y3 y6 (n) (w) T P M O) sz)) 1 6 (va_A (LW h0 h1 h2 h3 b0 y1 y2 y3 y6 (n) (w) T P M O) sz) := by
  refine va_MetW (cc := cL_difference) (maxL := 4) (ret := (some .int)) (hh := [(0, 9, 12, 21)]) (by decide) rfl ?_
  intro p e s m args below meth c s₁ B hml hv
  obtain ⟨rfl, hsz, hP, hK, hE⟩ := hv
  have hx := B.exec
  have hb := B.bytes
  have hr := B.returns
  have hts := atoms_spec (ws := wsL_difference) B.pre
  have hown : s.vm.findClass RL = some m.cls := findClass_of_methodNamed B.named
  have hlocks := B.notSynchronized
  have htab : c.exceptionTable.toList = tableOf [(0, 9, 12, 21)] := vx_table (x := yL_difference) B (hts (.codeWith yL_difference cL_difference 4 (some .int) [(0, 9, 12, 21)]) List.mem_cons_self)
  have hsz : s.heap.size = sz := hsz
  subst hsz
  have hD := hD0.self (sz := s.heap.size)
  have hA : ∀ q : Nat, s.heap.size ≤ q → (va_A (LW h0 h1 h2 h3 b0 y1 y2 y3 y6 (n) (w) T P M O) s.heap.size) q := fun q h => Or.inr h
  have hS : va_S (va_A (LW h0 h1 h2 h3 b0 y1 y2 y3 y6 (n) (w) T P M O) s.heap.size) s.heap s.heap [] := va_S.rf
  have hl := lv_entry ([.ref h0, .int x1, .ref b0]) (n := 4) (Nat.le_of_ble_eq_true rfl)
  rw [lg_entry_eq]
  generalize (lg_sl ([.ref h0, .int x1, .ref b0]) ++ List.replicate (4 - (lg_sl ([.ref h0, .int x1, .ref b0])).length) Slot.unset).toArray = ls at hl ⊢
  have hl : lv_has ls 4 [(0, .ref h0), (1, .int x1), (2, .ref b0)] := hl
  refine lv_aload_n hx hb dL_difference_0 rfl (lv_at hl 2 rfl) ?_
  refine lv_iconst (v := 0) hx hb dL_difference_1 (by decide) ?_
  refine lv_aload_n hx hb dL_difference_2 rfl (lv_at hl 0 rfl) ?_
  refine lv_iload_n hx hb dL_difference_3 rfl (lv_at hl 1 rfl) ?_
  have hPx := hP.sub (ws' := (XW h0 h1 h2 h3 y1 y2 y3 (n) (w) T P M)) [0, 1, 2, 3] rfl
  have hKx := hK.sub (tys' := (XT y1 y2 y3)) [0, 1, 2] rfl
  refine vx_calli (vx_runV (As := [.int x1]) (rest := [.int 0, .ref b0]) ⟨hx, hb, hml, hown, hts⟩ (c_X1_difference l hlt D E h0 h1 h2 h3 y1 y2 y3 s.heap.size (n) (w) T P M hn hw hT hPt x1) (cwV 1 hts gL_difference_X1_difference rfl rfl rfl (by decide +kernel) ⟨Nat.le_of_ble_eq_true rfl, Nat.le_of_ble_eq_true rfl⟩) ⟨cp.blind, va_recv hK hP (ci := 0) (q0 := 0) rfl rfl, fun U hU hW => ⟨rfl, cp.call hPx hKx hE hS (fr0 hS hA) hU hW⟩⟩ rfl rfl hl.1 rfl (lv_room (Nat.le_of_ble_eq_true rfl)) dL_difference_4 ⟨Nat.le_of_ble_eq_true rfl, Nat.le_of_ble_eq_true rfl⟩) hS (fun q _ h => (fr0 hS hA) q h) (fr0 hS hA) (fun q _ h => fr0 hS hA q h) (fun X ce q9 u t H1 locs1 ht hvm _ hB hz1 hk1 hS hc1 hc2 hc3 => ?_) (fun v u t H1 locs1 ht hvm ev hB hz1 hk1 hS => ?_)
  · have hP := kp hP hk1
    generalize H1 = H at hP hS hc1 ⊢
    generalize locs1 = locs at hS ⊢
    have hB : X = "java/lang/IndexOutOfBoundsException" ∧ kPl (pl n w) x1.toInt = 1 := hB
    obtain ⟨rfl, hk0⟩ := hB
    refine vx_catch (E := "java/lang/IndexOutOfBoundsException") (name := "java/lang/IndexOutOfBoundsException") hown [] ⟨0, 9, 12, 21⟩ [] (by rw [htab]; rfl) (fun z hz => nomatch hz) (by decide) (by decide) (hts (.classLink RL 21 "java/lang/IndexOutOfBoundsException") (by decide +kernel)) (va_Nw.use rfl (hE.1.2.1 _ (by simp [xC]))) hc1 hc2 hc3 ?_
    refine lv_astore_n (lv' := [(3, .ref q9), (0, .ref h0), (1, .int x1), (2, .ref b0)]) hx hb dL_difference_12 rfl hl (by decide) rfl (fun ls hl => ?_)
    refine lv_iconst (v := 1) hx hb dL_difference_13 (by decide) ?_
    refine W.widen (k := 1) (n := 6) (Nat.le_of_ble_eq_true rfl) (Nat.le_of_ble_eq_true rfl) ?_
    exact W.iret (v := 1) hx hb hr (fun t ht hW => ⟨⟨_, ((0 : Int32), M), rfl, ⟨(show (1 : Int32).toInt = 1 by decide).trans (by omega), fun h => absurd h (by omega)⟩, ⟨fun h => absurd h (by omega), fun _ => ⟨by rw [ht]; exact hP, hD⟩⟩⟩, hS.F ht⟩) hS.2.2 dL_difference_14
  · obtain ⟨ev1, hk0⟩ := ev
    have hP := kp hP hk1
    generalize H1 = H at hP hS ⊢
    generalize locs1 = locs at hS ⊢
    refine lv_i2l (v := v.toInt64) hx hb dL_difference_7 rfl ?_
    refine z_last hx hb hK hP hD hS 4 3 rfl rfl 0 (show (0 : Int32).toInt = 0 by decide) rfl (by decide) dL_difference_8 (fun H locs hP hD hS => ?_)
    have hP : va_P D vwCl (LW h0 h1 h2 h3 b0 y1 y2 y3 y6 (n) (w) T P M (vp_updL O 0 (v).toInt64)) H := hP
    have hD : va_D (va_A (LW h0 h1 h2 h3 b0 y1 y2 y3 y6 (n) (w) T P M O) s.heap.size) (LW h0 h1 h2 h3 b0 y1 y2 y3 y6 (n) (w) T P M (vp_updL O 0 (v).toInt64)) := hD
    refine lv_goto (tgt := 15) hx hb dL_difference_9 (by decide) ?_
    refine lv_iconst (v := 0) hx hb dL_difference_15 (by decide) ?_
    refine W.widen (k := 1) (n := 6) (Nat.le_of_ble_eq_true rfl) (Nat.le_of_ble_eq_true rfl) ?_
    exact W.iret (v := 0) hx hb hr (fun t ht hW => ⟨⟨_, (v, M), rfl, ⟨(show (0 : Int32).toInt = 0 by decide).trans (by omega), fun _ => ev1⟩, ⟨fun _ => ⟨by rw [ht]; exact hP, hD⟩, fun h => absurd hk0 h⟩⟩, hS.F ht⟩) hS.2.2 dL_difference_16
set_option maxHeartbeats 4000000 in
set_option maxRecDepth 100000 in
theorem c_L_match (l : Launch) (hlt : l.stackTraces = false) (D : va_G) (E : Nat × Nat × Nat) (h0 h1 h2 h3 b0 : Nat) (y1 y2 y3 y6 : ClassId) (sz n w : Nat) (T P M : Nat → Int32) (O : Nat → Int64) (hn : n ≤ 64) (hw : w ≤ 24) (hT : SymF T) (hPt : SymF P) (hD0 : va_D (fun _ => True) (LW h0 h1 h2 h3 b0 y1 y2 y3 y6 (n) (w) T P M O)) (x1 : Int32) (hEd : E.1 ≠ E.2.1 ∧ E.1 ≠ E.2.2 ∧ E.2.1 ≠ E.2.2) : Met l yL_match wsL_match ({ frames := 8, cells := 1, slots := 6, locals := 156 }) (va_Pc [.ref h0, .int x1, .ref b0] (cp D (LW h0 h1 h2 h3 b0 y1 y2 y3 y6 (n) (w) T P M O) (LT y1 y2 y3 y6) E (va_A (LW h0 h1 h2 h3 b0 y1 y2 y3 y6 (n) (w) T P M O) sz) sz)) (va_Qi (fun (r : Int32) (u : Int32 × (Nat → Int32)) => r.toInt = ((kMt 0 T P w n x1.toInt : Nat) : Int) ∧ (kMt 0 T P w n x1.toInt = 0 → u.1.toInt = fnd 0 T P w n x1.toInt)) (fun (u : Int32 × (Nat → Int32)) t => (kMt 0 T P w n x1.toInt = 0 → va_P D vwCl (LW h0 h1 h2 h3 b0 y1 y2 y3 y6 (n) (w) T P u.2 (vp_updL O 0 u.1.toInt64)) t.heap ∧ va_D (va_A (LW h0 h1 h2 h3 b0 y1 y2 y3 y6 (n) (w) T P M O) sz) (LW h0 h1 h2 h3 b0 y1 y2 y3 y6 (n) (w) T P u.2 (vp_updL O 0 u.1.toInt64))) ∧ (¬ kMt 0 T P w n x1.toInt = 0 → va_P D vwCl (LW h0 h1 h2 h3 b0 y1 y2 y3 y6 (n) (w) T P u.2 O) t.heap ∧ va_D (va_A (LW h0 h1 h2 h3 b0 y1 y2 y3 y6 (n) (w) T P M O) sz) (LW h0 h1 h2 h3 b0 y1 y2 y3 y6 (n) (w) T P u.2 O))) (va_A (LW h0 h1 h2 h3 b0 y1 y2 y3 y6 (n) (w) T P M O) sz)) 1 6 (va_A (LW h0 h1 h2 h3 b0 y1 y2 y3 y6 (n) (w) T P M O) sz) := by
  refine va_MetW (cc := cL_match) (maxL := 4) (ret := (some .int)) (hh := [(0, 9, 12, 21)]) (by decide) rfl ?_
  intro p e s m args below meth c s₁ B hml hv
  obtain ⟨rfl, hsz, hP, hK, hE⟩ := hv
  have hx := B.exec
  have hb := B.bytes
  have hr := B.returns
  have hts := atoms_spec (ws := wsL_match) B.pre
  have hown : s.vm.findClass RL = some m.cls := findClass_of_methodNamed B.named
  have hlocks := B.notSynchronized
  have htab : c.exceptionTable.toList = tableOf [(0, 9, 12, 21)] := vx_table (x := yL_match) B (hts (.codeWith yL_match cL_match 4 (some .int) [(0, 9, 12, 21)]) List.mem_cons_self)
  have hsz : s.heap.size = sz := hsz
  subst hsz
  have hD := hD0.self (sz := s.heap.size)
  have hA : ∀ q : Nat, s.heap.size ≤ q → (va_A (LW h0 h1 h2 h3 b0 y1 y2 y3 y6 (n) (w) T P M O) s.heap.size) q := fun q h => Or.inr h
  have hS : va_S (va_A (LW h0 h1 h2 h3 b0 y1 y2 y3 y6 (n) (w) T P M O) s.heap.size) s.heap s.heap [] := va_S.rf
  have hl := lv_entry ([.ref h0, .int x1, .ref b0]) (n := 4) (Nat.le_of_ble_eq_true rfl)
  rw [lg_entry_eq]
  generalize (lg_sl ([.ref h0, .int x1, .ref b0]) ++ List.replicate (4 - (lg_sl ([.ref h0, .int x1, .ref b0])).length) Slot.unset).toArray = ls at hl ⊢
  have hl : lv_has ls 4 [(0, .ref h0), (1, .int x1), (2, .ref b0)] := hl
  refine lv_aload_n hx hb dL_match_0 rfl (lv_at hl 2 rfl) ?_
  refine lv_iconst (v := 0) hx hb dL_match_1 (by decide) ?_
  refine lv_aload_n hx hb dL_match_2 rfl (lv_at hl 0 rfl) ?_
  refine lv_iload_n hx hb dL_match_3 rfl (lv_at hl 1 rfl) ?_
  have hPx := hP.sub (ws' := (XW h0 h1 h2 h3 y1 y2 y3 (n) (w) T P M)) [0, 1, 2, 3] rfl
  have hKx := hK.sub (tys' := (XT y1 y2 y3)) [0, 1, 2] rfl
  refine vx_calli (vx_runV (As := [.int x1]) (rest := [.int 0, .ref b0]) ⟨hx, hb, hml, hown, hts⟩ (c_X1_match l hlt D E h0 h1 h2 h3 y1 y2 y3 s.heap.size (n) (w) T P M hn hw hT hPt x1 hEd) (cwV 1 hts gL_match_X1_match rfl rfl rfl (by decide +kernel) ⟨Nat.le_of_ble_eq_true rfl, Nat.le_of_ble_eq_true rfl⟩) ⟨cp.blind, va_recv hK hP (ci := 0) (q0 := 0) rfl rfl, fun U hU hW => ⟨rfl, cp.call hPx hKx hE hS (fr0 hS hA) hU hW⟩⟩ rfl rfl hl.1 rfl (lv_room (Nat.le_of_ble_eq_true rfl)) dL_match_4 ⟨Nat.le_of_ble_eq_true rfl, Nat.le_of_ble_eq_true rfl⟩) hS (fun q _ h => (fr0 hS hA) q h) (fr0 hS hA) (fun q _ h => fr0 hS hA q h) (fun X ce q9 u t H1 locs1 ht hvm _ hB hz1 hk1 hS hc1 hc2 hc3 => ?_) (fun v u t H1 locs1 ht hvm ev hB hz1 hk1 hS => ?_)
  · have hP := kp hP hk1
    generalize H1 = H at hP hS hc1 ⊢
    generalize locs1 = locs at hS ⊢
    have hB : X = "java/lang/IndexOutOfBoundsException" ∧ kMt 0 T P w n x1.toInt = 1 := hB
    obtain ⟨rfl, hk0⟩ := hB
    refine vx_catch (E := "java/lang/IndexOutOfBoundsException") (name := "java/lang/IndexOutOfBoundsException") hown [] ⟨0, 9, 12, 21⟩ [] (by rw [htab]; rfl) (fun z hz => nomatch hz) (by decide) (by decide) (hts (.classLink RL 21 "java/lang/IndexOutOfBoundsException") (by decide +kernel)) (va_Nw.use rfl (hE.1.2.1 _ (by simp [xC]))) hc1 hc2 hc3 ?_
    refine lv_astore_n (lv' := [(3, .ref q9), (0, .ref h0), (1, .int x1), (2, .ref b0)]) hx hb dL_match_12 rfl hl (by decide) rfl (fun ls hl => ?_)
    refine lv_iconst (v := 1) hx hb dL_match_13 (by decide) ?_
    refine W.widen (k := 1) (n := 6) (Nat.le_of_ble_eq_true rfl) (Nat.le_of_ble_eq_true rfl) ?_
    exact W.iret (v := 1) hx hb hr (fun t ht hW => ⟨⟨_, ((0 : Int32), M), rfl, ⟨(show (1 : Int32).toInt = 1 by decide).trans (by omega), fun h => absurd h (by omega)⟩, ⟨fun h => absurd h (by omega), fun _ => ⟨by rw [ht]; exact hP, hD⟩⟩⟩, hS.F ht⟩) hS.2.2 dL_match_14
  · obtain ⟨ev1, hk0⟩ := ev
    have hP := kp hP hk1
    generalize H1 = H at hP hS ⊢
    generalize locs1 = locs at hS ⊢
    refine lv_i2l (v := v.toInt64) hx hb dL_match_7 rfl ?_
    refine z_last hx hb hK hP hD hS 4 3 rfl rfl 0 (show (0 : Int32).toInt = 0 by decide) rfl (by decide) dL_match_8 (fun H locs hP hD hS => ?_)
    have hP : va_P D vwCl (LW h0 h1 h2 h3 b0 y1 y2 y3 y6 (n) (w) T P M (vp_updL O 0 (v).toInt64)) H := hP
    have hD : va_D (va_A (LW h0 h1 h2 h3 b0 y1 y2 y3 y6 (n) (w) T P M O) s.heap.size) (LW h0 h1 h2 h3 b0 y1 y2 y3 y6 (n) (w) T P M (vp_updL O 0 (v).toInt64)) := hD
    refine lv_goto (tgt := 15) hx hb dL_match_9 (by decide) ?_
    refine lv_iconst (v := 0) hx hb dL_match_15 (by decide) ?_
    refine W.widen (k := 1) (n := 6) (Nat.le_of_ble_eq_true rfl) (Nat.le_of_ble_eq_true rfl) ?_
    exact W.iret (v := 0) hx hb hr (fun t ht hW => ⟨⟨_, (v, M), rfl, ⟨(show (0 : Int32).toInt = 0 by decide).trans (by omega), fun _ => ev1⟩, ⟨fun _ => ⟨by rw [ht]; exact hP, hD⟩, fun h => absurd hk0 h⟩⟩, hS.F ht⟩) hS.2.2 dL_match_16
set_option maxHeartbeats 4000000 in
set_option maxRecDepth 100000 in
theorem c_L_mismatches (l : Launch) (hlt : l.stackTraces = false) (D : va_G) (E : Nat × Nat × Nat) (h0 h1 h2 h3 b0 : Nat) (y1 y2 y3 y6 : ClassId) (sz n w : Nat) (T P M : Nat → Int32) (O : Nat → Int64) (hn : n ≤ 64) (hw : w ≤ 24) (hT : SymF T) (hPt : SymF P) (hD0 : va_D (fun _ => True) (LW h0 h1 h2 h3 b0 y1 y2 y3 y6 (n) (w) T P M O)) (x1 : Int32) : Met l yL_mismatches wsL_mismatches ({ frames := 8, cells := 1, slots := 6, locals := 132 }) (va_Pc [.ref h0, .int x1, .ref b0] (cp D (LW h0 h1 h2 h3 b0 y1 y2 y3 y6 (n) (w) T P M O) (LT y1 y2 y3 y6) E (va_A (LW h0 h1 h2 h3 b0 y1 y2 y3 y6 (n) (w) T P M O) sz) sz)) (va_Qi (fun (r : Int32) (u : Int32 × (Nat → Int32)) => r.toInt = ((kPl (pl n w) x1.toInt : Nat) : Int) ∧ (kPl (pl n w) x1.toInt = 0 → u.1.toInt = ((mis T P x1.toInt.toNat w : Nat) : Int))) (fun (u : Int32 × (Nat → Int32)) t => (kPl (pl n w) x1.toInt = 0 → va_P D vwCl (LW h0 h1 h2 h3 b0 y1 y2 y3 y6 (n) (w) T P u.2 (vp_updL O 0 u.1.toInt64)) t.heap ∧ va_D (va_A (LW h0 h1 h2 h3 b0 y1 y2 y3 y6 (n) (w) T P M O) sz) (LW h0 h1 h2 h3 b0 y1 y2 y3 y6 (n) (w) T P u.2 (vp_updL O 0 u.1.toInt64))) ∧ (¬ kPl (pl n w) x1.toInt = 0 → va_P D vwCl (LW h0 h1 h2 h3 b0 y1 y2 y3 y6 (n) (w) T P u.2 O) t.heap ∧ va_D (va_A (LW h0 h1 h2 h3 b0 y1 y2 y3 y6 (n) (w) T P M O) sz) (LW h0 h1 h2 h3 b0 y1 y2 y3 y6 (n) (w) T P u.2 O))) (va_A (LW h0 h1 h2 h3 b0 y1 y2 y3 y6 (n) (w) T P M O) sz)) 1 6 (va_A (LW h0 h1 h2 h3 b0 y1 y2 y3 y6 (n) (w) T P M O) sz) := by
  refine va_MetW (cc := cL_mismatches) (maxL := 4) (ret := (some .int)) (hh := [(0, 9, 12, 21)]) (by decide) rfl ?_
  intro p e s m args below meth c s₁ B hml hv
  obtain ⟨rfl, hsz, hP, hK, hE⟩ := hv
  have hx := B.exec
  have hb := B.bytes
  have hr := B.returns
  have hts := atoms_spec (ws := wsL_mismatches) B.pre
  have hown : s.vm.findClass RL = some m.cls := findClass_of_methodNamed B.named
  have hlocks := B.notSynchronized
  have htab : c.exceptionTable.toList = tableOf [(0, 9, 12, 21)] := vx_table (x := yL_mismatches) B (hts (.codeWith yL_mismatches cL_mismatches 4 (some .int) [(0, 9, 12, 21)]) List.mem_cons_self)
  have hsz : s.heap.size = sz := hsz
  subst hsz
  have hD := hD0.self (sz := s.heap.size)
  have hA : ∀ q : Nat, s.heap.size ≤ q → (va_A (LW h0 h1 h2 h3 b0 y1 y2 y3 y6 (n) (w) T P M O) s.heap.size) q := fun q h => Or.inr h
  have hS : va_S (va_A (LW h0 h1 h2 h3 b0 y1 y2 y3 y6 (n) (w) T P M O) s.heap.size) s.heap s.heap [] := va_S.rf
  have hl := lv_entry ([.ref h0, .int x1, .ref b0]) (n := 4) (Nat.le_of_ble_eq_true rfl)
  rw [lg_entry_eq]
  generalize (lg_sl ([.ref h0, .int x1, .ref b0]) ++ List.replicate (4 - (lg_sl ([.ref h0, .int x1, .ref b0])).length) Slot.unset).toArray = ls at hl ⊢
  have hl : lv_has ls 4 [(0, .ref h0), (1, .int x1), (2, .ref b0)] := hl
  refine lv_aload_n hx hb dL_mismatches_0 rfl (lv_at hl 2 rfl) ?_
  refine lv_iconst (v := 0) hx hb dL_mismatches_1 (by decide) ?_
  refine lv_aload_n hx hb dL_mismatches_2 rfl (lv_at hl 0 rfl) ?_
  refine lv_iload_n hx hb dL_mismatches_3 rfl (lv_at hl 1 rfl) ?_
  have hPx := hP.sub (ws' := (XW h0 h1 h2 h3 y1 y2 y3 (n) (w) T P M)) [0, 1, 2, 3] rfl
  have hKx := hK.sub (tys' := (XT y1 y2 y3)) [0, 1, 2] rfl
  refine vx_calli (vx_runV (As := [.int x1]) (rest := [.int 0, .ref b0]) ⟨hx, hb, hml, hown, hts⟩ (c_X1_mismatches l hlt D E h0 h1 h2 h3 y1 y2 y3 s.heap.size (n) (w) T P M hn hw hT hPt x1) (cwV 1 hts gL_mismatches_X1_mismatches rfl rfl rfl (by decide +kernel) ⟨Nat.le_of_ble_eq_true rfl, Nat.le_of_ble_eq_true rfl⟩) ⟨cp.blind, va_recv hK hP (ci := 0) (q0 := 0) rfl rfl, fun U hU hW => ⟨rfl, cp.call hPx hKx hE hS (fr0 hS hA) hU hW⟩⟩ rfl rfl hl.1 rfl (lv_room (Nat.le_of_ble_eq_true rfl)) dL_mismatches_4 ⟨Nat.le_of_ble_eq_true rfl, Nat.le_of_ble_eq_true rfl⟩) hS (fun q _ h => (fr0 hS hA) q h) (fr0 hS hA) (fun q _ h => fr0 hS hA q h) (fun X ce q9 u t H1 locs1 ht hvm _ hB hz1 hk1 hS hc1 hc2 hc3 => ?_) (fun v u t H1 locs1 ht hvm ev hB hz1 hk1 hS => ?_)
  · have hP := kp hP hk1
    generalize H1 = H at hP hS hc1 ⊢
    generalize locs1 = locs at hS ⊢
    have hB : X = "java/lang/IndexOutOfBoundsException" ∧ kPl (pl n w) x1.toInt = 1 := hB
    obtain ⟨rfl, hk0⟩ := hB
    refine vx_catch (E := "java/lang/IndexOutOfBoundsException") (name := "java/lang/IndexOutOfBoundsException") hown [] ⟨0, 9, 12, 21⟩ [] (by rw [htab]; rfl) (fun z hz => nomatch hz) (by decide) (by decide) (hts (.classLink RL 21 "java/lang/IndexOutOfBoundsException") (by decide +kernel)) (va_Nw.use rfl (hE.1.2.1 _ (by simp [xC]))) hc1 hc2 hc3 ?_
    refine lv_astore_n (lv' := [(3, .ref q9), (0, .ref h0), (1, .int x1), (2, .ref b0)]) hx hb dL_mismatches_12 rfl hl (by decide) rfl (fun ls hl => ?_)
    refine lv_iconst (v := 1) hx hb dL_mismatches_13 (by decide) ?_
    refine W.widen (k := 1) (n := 6) (Nat.le_of_ble_eq_true rfl) (Nat.le_of_ble_eq_true rfl) ?_
    exact W.iret (v := 1) hx hb hr (fun t ht hW => ⟨⟨_, ((0 : Int32), M), rfl, ⟨(show (1 : Int32).toInt = 1 by decide).trans (by omega), fun h => absurd h (by omega)⟩, ⟨fun h => absurd h (by omega), fun _ => ⟨by rw [ht]; exact hP, hD⟩⟩⟩, hS.F ht⟩) hS.2.2 dL_mismatches_14
  · obtain ⟨ev1, hk0⟩ := ev
    have hP := kp hP hk1
    generalize H1 = H at hP hS ⊢
    generalize locs1 = locs at hS ⊢
    refine lv_i2l (v := v.toInt64) hx hb dL_mismatches_7 rfl ?_
    refine z_last hx hb hK hP hD hS 4 3 rfl rfl 0 (show (0 : Int32).toInt = 0 by decide) rfl (by decide) dL_mismatches_8 (fun H locs hP hD hS => ?_)
    have hP : va_P D vwCl (LW h0 h1 h2 h3 b0 y1 y2 y3 y6 (n) (w) T P M (vp_updL O 0 (v).toInt64)) H := hP
    have hD : va_D (va_A (LW h0 h1 h2 h3 b0 y1 y2 y3 y6 (n) (w) T P M O) s.heap.size) (LW h0 h1 h2 h3 b0 y1 y2 y3 y6 (n) (w) T P M (vp_updL O 0 (v).toInt64)) := hD
    refine lv_goto (tgt := 15) hx hb dL_mismatches_9 (by decide) ?_
    refine lv_iconst (v := 0) hx hb dL_mismatches_15 (by decide) ?_
    refine W.widen (k := 1) (n := 6) (Nat.le_of_ble_eq_true rfl) (Nat.le_of_ble_eq_true rfl) ?_
    exact W.iret (v := 0) hx hb hr (fun t ht hW => ⟨⟨_, (v, M), rfl, ⟨(show (0 : Int32).toInt = 0 by decide).trans (by omega), fun _ => ev1⟩, ⟨fun _ => ⟨by rw [ht]; exact hP, hD⟩, fun h => absurd hk0 h⟩⟩, hS.F ht⟩) hS.2.2 dL_mismatches_16
set_option maxHeartbeats 4000000 in
set_option maxRecDepth 100000 in
theorem c_L_mismatchesOf (l : Launch) (hlt : l.stackTraces = false) (D : va_G) (E : Nat × Nat × Nat) (h0 h1 h2 h3 b0 : Nat) (y1 y2 y3 y6 : ClassId) (sz n w : Nat) (T P M : Nat → Int32) (O : Nat → Int64) (hn : n ≤ 64) (hw : w ≤ 24) (hT : SymF T) (hPt : SymF P) (hD0 : va_D (fun _ => True) (LW h0 h1 h2 h3 b0 y1 y2 y3 y6 (n) (w) T P M O)) (x1 : Int32) (x2 : Int32) : Met l yL_mismatchesOf wsL_mismatchesOf ({ frames := 8, cells := 1, slots := 6, locals := 135 }) (va_Pc [.ref h0, .int x1, .int x2, .ref b0] (cp D (LW h0 h1 h2 h3 b0 y1 y2 y3 y6 (n) (w) T P M O) (LT y1 y2 y3 y6) E (va_A (LW h0 h1 h2 h3 b0 y1 y2 y3 y6 (n) (w) T P M O) sz) sz)) (va_Qi (fun (r : Int32) (u : Int32 × (Nat → Int32)) => r.toInt = ((kMO (pl n w) x1.toInt x2.toInt : Nat) : Int) ∧ (kMO (pl n w) x1.toInt x2.toInt = 0 → u.1.toInt = ((cnt (mof T P x2 x1.toInt.toNat) w : Nat) : Int))) (fun (u : Int32 × (Nat → Int32)) t => (kMO (pl n w) x1.toInt x2.toInt = 0 → va_P D vwCl (LW h0 h1 h2 h3 b0 y1 y2 y3 y6 (n) (w) T P u.2 (vp_updL O 0 u.1.toInt64)) t.heap ∧ va_D (va_A (LW h0 h1 h2 h3 b0 y1 y2 y3 y6 (n) (w) T P M O) sz) (LW h0 h1 h2 h3 b0 y1 y2 y3 y6 (n) (w) T P u.2 (vp_updL O 0 u.1.toInt64))) ∧ (¬ kMO (pl n w) x1.toInt x2.toInt = 0 → va_P D vwCl (LW h0 h1 h2 h3 b0 y1 y2 y3 y6 (n) (w) T P u.2 O) t.heap ∧ va_D (va_A (LW h0 h1 h2 h3 b0 y1 y2 y3 y6 (n) (w) T P M O) sz) (LW h0 h1 h2 h3 b0 y1 y2 y3 y6 (n) (w) T P u.2 O))) (va_A (LW h0 h1 h2 h3 b0 y1 y2 y3 y6 (n) (w) T P M O) sz)) 1 6 (va_A (LW h0 h1 h2 h3 b0 y1 y2 y3 y6 (n) (w) T P M O) sz) := by
  refine va_MetW (cc := cL_mismatchesOf) (maxL := 5) (ret := (some .int)) (hh := [(0, 10, 13, 13), (0, 10, 17, 21)]) (by decide) rfl ?_
  intro p e s m args below meth c s₁ B hml hv
  obtain ⟨rfl, hsz, hP, hK, hE⟩ := hv
  have hx := B.exec
  have hb := B.bytes
  have hr := B.returns
  have hts := atoms_spec (ws := wsL_mismatchesOf) B.pre
  have hown : s.vm.findClass RL = some m.cls := findClass_of_methodNamed B.named
  have hlocks := B.notSynchronized
  have htab : c.exceptionTable.toList = tableOf [(0, 10, 13, 13), (0, 10, 17, 21)] := vx_table (x := yL_mismatchesOf) B (hts (.codeWith yL_mismatchesOf cL_mismatchesOf 5 (some .int) [(0, 10, 13, 13), (0, 10, 17, 21)]) List.mem_cons_self)
  have hsz : s.heap.size = sz := hsz
  subst hsz
  have hD := hD0.self (sz := s.heap.size)
  have hA : ∀ q : Nat, s.heap.size ≤ q → (va_A (LW h0 h1 h2 h3 b0 y1 y2 y3 y6 (n) (w) T P M O) s.heap.size) q := fun q h => Or.inr h
  have hS : va_S (va_A (LW h0 h1 h2 h3 b0 y1 y2 y3 y6 (n) (w) T P M O) s.heap.size) s.heap s.heap [] := va_S.rf
  have hl := lv_entry ([.ref h0, .int x1, .int x2, .ref b0]) (n := 5) (Nat.le_of_ble_eq_true rfl)
  rw [lg_entry_eq]
  generalize (lg_sl ([.ref h0, .int x1, .int x2, .ref b0]) ++ List.replicate (5 - (lg_sl ([.ref h0, .int x1, .int x2, .ref b0])).length) Slot.unset).toArray = ls at hl ⊢
  have hl : lv_has ls 5 [(0, .ref h0), (1, .int x1), (2, .int x2), (3, .ref b0)] := hl
  refine lv_aload_n hx hb dL_mismatchesOf_0 rfl (lv_at hl 3 rfl) ?_
  refine lv_iconst (v := 0) hx hb dL_mismatchesOf_1 (by decide) ?_
  refine lv_aload_n hx hb dL_mismatchesOf_2 rfl (lv_at hl 0 rfl) ?_
  refine lv_iload_n hx hb dL_mismatchesOf_3 rfl (lv_at hl 1 rfl) ?_
  refine lv_iload_n hx hb dL_mismatchesOf_4 rfl (lv_at hl 2 rfl) ?_
  have hPx := hP.sub (ws' := (XW h0 h1 h2 h3 y1 y2 y3 (n) (w) T P M)) [0, 1, 2, 3] rfl
  have hKx := hK.sub (tys' := (XT y1 y2 y3)) [0, 1, 2] rfl
  refine vx_calli (vx_runV (As := [.int x1, .int x2]) (rest := [.int 0, .ref b0]) ⟨hx, hb, hml, hown, hts⟩ (c_X1_mismatchesOf l hlt D E h0 h1 h2 h3 y1 y2 y3 s.heap.size (n) (w) T P M hn hw hT hPt x1 x2) (cwV 2 hts gL_mismatchesOf_X1_mismatchesOf rfl rfl rfl (by decide +kernel) ⟨Nat.le_of_ble_eq_true rfl, Nat.le_of_ble_eq_true rfl⟩) ⟨cp.blind, va_recv hK hP (ci := 0) (q0 := 0) rfl rfl, fun U hU hW => ⟨rfl, cp.call hPx hKx hE hS (fr0 hS hA) hU hW⟩⟩ rfl rfl hl.1 rfl (lv_room (Nat.le_of_ble_eq_true rfl)) dL_mismatchesOf_5 ⟨Nat.le_of_ble_eq_true rfl, Nat.le_of_ble_eq_true rfl⟩) hS (fun q _ h => (fr0 hS hA) q h) (fr0 hS hA) (fun q _ h => fr0 hS hA q h) (fun X ce q9 u t H1 locs1 ht hvm _ hB hz1 hk1 hS hc1 hc2 hc3 => ?_) (fun v u t H1 locs1 ht hvm ev hB hz1 hk1 hS => ?_)
  · have hP := kp hP hk1
    generalize H1 = H at hP hS hc1 ⊢
    generalize locs1 = locs at hS ⊢
    have hB : (X = "java/lang/IllegalArgumentException" ∧ kMO (pl n w) x1.toInt x2.toInt = 1) ∨ (X = "java/lang/IndexOutOfBoundsException" ∧ kMO (pl n w) x1.toInt x2.toInt = 2) := hB
    rcases hB with ⟨rfl, hk0⟩ | ⟨rfl, hk0⟩
    · have _u := True.intro
      refine vx_catch (E := "java/lang/IllegalArgumentException") (name := "java/lang/IllegalArgumentException") hown [] ⟨0, 10, 13, 13⟩ [⟨0, 10, 17, 21⟩] (by rw [htab]; rfl) (fun z hz => nomatch hz) (by decide) (by decide) (hts (.classLink RL 13 "java/lang/IllegalArgumentException") (by decide +kernel)) (va_Nw.use rfl (hE.1.2.1 _ (by simp [xC]))) hc1 hc2 hc3 ?_
      refine lv_astore (lv' := [(4, .ref q9), (0, .ref h0), (1, .int x1), (2, .int x2), (3, .ref b0)]) hx hb dL_mismatchesOf_13 hl (by decide) rfl (fun ls hl => ?_)
      refine lv_iconst (v := 1) hx hb dL_mismatchesOf_15 (by decide) ?_
      refine W.widen (k := 1) (n := 6) (Nat.le_of_ble_eq_true rfl) (Nat.le_of_ble_eq_true rfl) ?_
      exact W.iret (v := 1) hx hb hr (fun t ht hW => ⟨⟨_, ((0 : Int32), M), rfl, ⟨(show (1 : Int32).toInt = 1 by decide).trans (by omega), fun h => absurd h (by omega)⟩, ⟨fun h => absurd h (by omega), fun _ => ⟨by rw [ht]; exact hP, hD⟩⟩⟩, hS.F ht⟩) hS.2.2 dL_mismatchesOf_16
    · have _u := True.intro
      refine vx_catch (E := "java/lang/IndexOutOfBoundsException") (name := "java/lang/IndexOutOfBoundsException") hown [⟨0, 10, 13, 13⟩] ⟨0, 10, 17, 21⟩ [] (by rw [htab]; rfl) (fun z hz => by rw [List.mem_singleton.mp hz]; exact Or.inr ⟨by decide, "java/lang/IllegalArgumentException", hts (.classLink RL 13 "java/lang/IllegalArgumentException") (by decide +kernel), hE.1.2.2.2 _ (by simp [xC]) _ (by simp [xC]) (by decide)⟩) (by decide) (by decide) (hts (.classLink RL 21 "java/lang/IndexOutOfBoundsException") (by decide +kernel)) (va_Nw.use rfl (hE.1.2.1 _ (by simp [xC]))) hc1 hc2 hc3 ?_
      refine lv_astore (lv' := [(4, .ref q9), (0, .ref h0), (1, .int x1), (2, .int x2), (3, .ref b0)]) hx hb dL_mismatchesOf_17 hl (by decide) rfl (fun ls hl => ?_)
      refine lv_iconst (v := 2) hx hb dL_mismatchesOf_19 (by decide) ?_
      refine W.widen (k := 1) (n := 6) (Nat.le_of_ble_eq_true rfl) (Nat.le_of_ble_eq_true rfl) ?_
      exact W.iret (v := 2) hx hb hr (fun t ht hW => ⟨⟨_, ((0 : Int32), M), rfl, ⟨(show (2 : Int32).toInt = 2 by decide).trans (by omega), fun h => absurd h (by omega)⟩, ⟨fun h => absurd h (by omega), fun _ => ⟨by rw [ht]; exact hP, hD⟩⟩⟩, hS.F ht⟩) hS.2.2 dL_mismatchesOf_20
  · obtain ⟨ev1, hk0⟩ := ev
    have hP := kp hP hk1
    generalize H1 = H at hP hS ⊢
    generalize locs1 = locs at hS ⊢
    refine lv_i2l (v := v.toInt64) hx hb dL_mismatchesOf_8 rfl ?_
    refine z_last hx hb hK hP hD hS 4 3 rfl rfl 0 (show (0 : Int32).toInt = 0 by decide) rfl (by decide) dL_mismatchesOf_9 (fun H locs hP hD hS => ?_)
    have hP : va_P D vwCl (LW h0 h1 h2 h3 b0 y1 y2 y3 y6 (n) (w) T P M (vp_updL O 0 (v).toInt64)) H := hP
    have hD : va_D (va_A (LW h0 h1 h2 h3 b0 y1 y2 y3 y6 (n) (w) T P M O) s.heap.size) (LW h0 h1 h2 h3 b0 y1 y2 y3 y6 (n) (w) T P M (vp_updL O 0 (v).toInt64)) := hD
    refine lv_goto (tgt := 21) hx hb dL_mismatchesOf_10 (by decide) ?_
    refine lv_iconst (v := 0) hx hb dL_mismatchesOf_21 (by decide) ?_
    refine W.widen (k := 1) (n := 6) (Nat.le_of_ble_eq_true rfl) (Nat.le_of_ble_eq_true rfl) ?_
    exact W.iret (v := 0) hx hb hr (fun t ht hW => ⟨⟨_, (v, M), rfl, ⟨(show (0 : Int32).toInt = 0 by decide).trans (by omega), fun _ => ev1⟩, ⟨fun _ => ⟨by rw [ht]; exact hP, hD⟩, fun h => absurd hk0 h⟩⟩, hS.F ht⟩) hS.2.2 dL_mismatchesOf_22
set_option maxHeartbeats 4000000 in
set_option maxRecDepth 100000 in
theorem c_L_nextMismatch (l : Launch) (hlt : l.stackTraces = false) (D : va_G) (E : Nat × Nat × Nat) (h0 h1 h2 h3 b0 : Nat) (y1 y2 y3 y6 : ClassId) (sz n w : Nat) (T P M : Nat → Int32) (O : Nat → Int64) (hn : n ≤ 64) (hw : w ≤ 24) (hT : SymF T) (hPt : SymF P) (hD0 : va_D (fun _ => True) (LW h0 h1 h2 h3 b0 y1 y2 y3 y6 (n) (w) T P M O)) (x1 : Int32) (x2 : Int32) : Met l yL_nextMismatch wsL_nextMismatch ({ frames := 8, cells := 1, slots := 6, locals := 133 }) (va_Pc [.ref h0, .int x1, .int x2, .ref b0] (cp D (LW h0 h1 h2 h3 b0 y1 y2 y3 y6 (n) (w) T P M O) (LT y1 y2 y3 y6) E (va_A (LW h0 h1 h2 h3 b0 y1 y2 y3 y6 (n) (w) T P M O) sz) sz)) (va_Qi (fun (r : Int32) (u : Int32 × (Nat → Int32)) => r.toInt = ((kNM (pl n w) x1.toInt x2.toInt : Nat) : Int) ∧ (kNM (pl n w) x1.toInt x2.toInt = 0 → u.1.toInt = fmis T P x1.toInt.toNat x2.toInt.toNat w)) (fun (u : Int32 × (Nat → Int32)) t => (kNM (pl n w) x1.toInt x2.toInt = 0 → va_P D vwCl (LW h0 h1 h2 h3 b0 y1 y2 y3 y6 (n) (w) T P u.2 (vp_updL O 0 u.1.toInt64)) t.heap ∧ va_D (va_A (LW h0 h1 h2 h3 b0 y1 y2 y3 y6 (n) (w) T P M O) sz) (LW h0 h1 h2 h3 b0 y1 y2 y3 y6 (n) (w) T P u.2 (vp_updL O 0 u.1.toInt64))) ∧ (¬ kNM (pl n w) x1.toInt x2.toInt = 0 → va_P D vwCl (LW h0 h1 h2 h3 b0 y1 y2 y3 y6 (n) (w) T P u.2 O) t.heap ∧ va_D (va_A (LW h0 h1 h2 h3 b0 y1 y2 y3 y6 (n) (w) T P M O) sz) (LW h0 h1 h2 h3 b0 y1 y2 y3 y6 (n) (w) T P u.2 O))) (va_A (LW h0 h1 h2 h3 b0 y1 y2 y3 y6 (n) (w) T P M O) sz)) 1 6 (va_A (LW h0 h1 h2 h3 b0 y1 y2 y3 y6 (n) (w) T P M O) sz) := by
  refine va_MetW (cc := cL_nextMismatch) (maxL := 5) (ret := (some .int)) (hh := [(0, 10, 13, 13), (0, 10, 17, 21)]) (by decide) rfl ?_
  intro p e s m args below meth c s₁ B hml hv
  obtain ⟨rfl, hsz, hP, hK, hE⟩ := hv
  have hx := B.exec
  have hb := B.bytes
  have hr := B.returns
  have hts := atoms_spec (ws := wsL_nextMismatch) B.pre
  have hown : s.vm.findClass RL = some m.cls := findClass_of_methodNamed B.named
  have hlocks := B.notSynchronized
  have htab : c.exceptionTable.toList = tableOf [(0, 10, 13, 13), (0, 10, 17, 21)] := vx_table (x := yL_nextMismatch) B (hts (.codeWith yL_nextMismatch cL_nextMismatch 5 (some .int) [(0, 10, 13, 13), (0, 10, 17, 21)]) List.mem_cons_self)
  have hsz : s.heap.size = sz := hsz
  subst hsz
  have hD := hD0.self (sz := s.heap.size)
  have hA : ∀ q : Nat, s.heap.size ≤ q → (va_A (LW h0 h1 h2 h3 b0 y1 y2 y3 y6 (n) (w) T P M O) s.heap.size) q := fun q h => Or.inr h
  have hS : va_S (va_A (LW h0 h1 h2 h3 b0 y1 y2 y3 y6 (n) (w) T P M O) s.heap.size) s.heap s.heap [] := va_S.rf
  have hl := lv_entry ([.ref h0, .int x1, .int x2, .ref b0]) (n := 5) (Nat.le_of_ble_eq_true rfl)
  rw [lg_entry_eq]
  generalize (lg_sl ([.ref h0, .int x1, .int x2, .ref b0]) ++ List.replicate (5 - (lg_sl ([.ref h0, .int x1, .int x2, .ref b0])).length) Slot.unset).toArray = ls at hl ⊢
  have hl : lv_has ls 5 [(0, .ref h0), (1, .int x1), (2, .int x2), (3, .ref b0)] := hl
  refine lv_aload_n hx hb dL_nextMismatch_0 rfl (lv_at hl 3 rfl) ?_
  refine lv_iconst (v := 0) hx hb dL_nextMismatch_1 (by decide) ?_
  refine lv_aload_n hx hb dL_nextMismatch_2 rfl (lv_at hl 0 rfl) ?_
  refine lv_iload_n hx hb dL_nextMismatch_3 rfl (lv_at hl 1 rfl) ?_
  refine lv_iload_n hx hb dL_nextMismatch_4 rfl (lv_at hl 2 rfl) ?_
  have hPx := hP.sub (ws' := (XW h0 h1 h2 h3 y1 y2 y3 (n) (w) T P M)) [0, 1, 2, 3] rfl
  have hKx := hK.sub (tys' := (XT y1 y2 y3)) [0, 1, 2] rfl
  refine vx_calli (vx_runV (As := [.int x1, .int x2]) (rest := [.int 0, .ref b0]) ⟨hx, hb, hml, hown, hts⟩ (c_X1_nextMismatch l hlt D E h0 h1 h2 h3 y1 y2 y3 s.heap.size (n) (w) T P M hn hw hT hPt x1 x2) (cwV 2 hts gL_nextMismatch_X1_nextMismatch rfl rfl rfl (by decide +kernel) ⟨Nat.le_of_ble_eq_true rfl, Nat.le_of_ble_eq_true rfl⟩) ⟨cp.blind, va_recv hK hP (ci := 0) (q0 := 0) rfl rfl, fun U hU hW => ⟨rfl, cp.call hPx hKx hE hS (fr0 hS hA) hU hW⟩⟩ rfl rfl hl.1 rfl (lv_room (Nat.le_of_ble_eq_true rfl)) dL_nextMismatch_5 ⟨Nat.le_of_ble_eq_true rfl, Nat.le_of_ble_eq_true rfl⟩) hS (fun q _ h => (fr0 hS hA) q h) (fr0 hS hA) (fun q _ h => fr0 hS hA q h) (fun X ce q9 u t H1 locs1 ht hvm _ hB hz1 hk1 hS hc1 hc2 hc3 => ?_) (fun v u t H1 locs1 ht hvm ev hB hz1 hk1 hS => ?_)
  · have hP := kp hP hk1
    generalize H1 = H at hP hS hc1 ⊢
    generalize locs1 = locs at hS ⊢
    have hB : (X = "java/lang/IllegalArgumentException" ∧ kNM (pl n w) x1.toInt x2.toInt = 1) ∨ (X = "java/lang/IndexOutOfBoundsException" ∧ kNM (pl n w) x1.toInt x2.toInt = 2) := hB
    rcases hB with ⟨rfl, hk0⟩ | ⟨rfl, hk0⟩
    · have _u := True.intro
      refine vx_catch (E := "java/lang/IllegalArgumentException") (name := "java/lang/IllegalArgumentException") hown [] ⟨0, 10, 13, 13⟩ [⟨0, 10, 17, 21⟩] (by rw [htab]; rfl) (fun z hz => nomatch hz) (by decide) (by decide) (hts (.classLink RL 13 "java/lang/IllegalArgumentException") (by decide +kernel)) (va_Nw.use rfl (hE.1.2.1 _ (by simp [xC]))) hc1 hc2 hc3 ?_
      refine lv_astore (lv' := [(4, .ref q9), (0, .ref h0), (1, .int x1), (2, .int x2), (3, .ref b0)]) hx hb dL_nextMismatch_13 hl (by decide) rfl (fun ls hl => ?_)
      refine lv_iconst (v := 1) hx hb dL_nextMismatch_15 (by decide) ?_
      refine W.widen (k := 1) (n := 6) (Nat.le_of_ble_eq_true rfl) (Nat.le_of_ble_eq_true rfl) ?_
      exact W.iret (v := 1) hx hb hr (fun t ht hW => ⟨⟨_, ((0 : Int32), M), rfl, ⟨(show (1 : Int32).toInt = 1 by decide).trans (by omega), fun h => absurd h (by omega)⟩, ⟨fun h => absurd h (by omega), fun _ => ⟨by rw [ht]; exact hP, hD⟩⟩⟩, hS.F ht⟩) hS.2.2 dL_nextMismatch_16
    · have _u := True.intro
      refine vx_catch (E := "java/lang/IndexOutOfBoundsException") (name := "java/lang/IndexOutOfBoundsException") hown [⟨0, 10, 13, 13⟩] ⟨0, 10, 17, 21⟩ [] (by rw [htab]; rfl) (fun z hz => by rw [List.mem_singleton.mp hz]; exact Or.inr ⟨by decide, "java/lang/IllegalArgumentException", hts (.classLink RL 13 "java/lang/IllegalArgumentException") (by decide +kernel), hE.1.2.2.2 _ (by simp [xC]) _ (by simp [xC]) (by decide)⟩) (by decide) (by decide) (hts (.classLink RL 21 "java/lang/IndexOutOfBoundsException") (by decide +kernel)) (va_Nw.use rfl (hE.1.2.1 _ (by simp [xC]))) hc1 hc2 hc3 ?_
      refine lv_astore (lv' := [(4, .ref q9), (0, .ref h0), (1, .int x1), (2, .int x2), (3, .ref b0)]) hx hb dL_nextMismatch_17 hl (by decide) rfl (fun ls hl => ?_)
      refine lv_iconst (v := 2) hx hb dL_nextMismatch_19 (by decide) ?_
      refine W.widen (k := 1) (n := 6) (Nat.le_of_ble_eq_true rfl) (Nat.le_of_ble_eq_true rfl) ?_
      exact W.iret (v := 2) hx hb hr (fun t ht hW => ⟨⟨_, ((0 : Int32), M), rfl, ⟨(show (2 : Int32).toInt = 2 by decide).trans (by omega), fun h => absurd h (by omega)⟩, ⟨fun h => absurd h (by omega), fun _ => ⟨by rw [ht]; exact hP, hD⟩⟩⟩, hS.F ht⟩) hS.2.2 dL_nextMismatch_20
  · obtain ⟨ev1, hk0⟩ := ev
    have hP := kp hP hk1
    generalize H1 = H at hP hS ⊢
    generalize locs1 = locs at hS ⊢
    refine lv_i2l (v := v.toInt64) hx hb dL_nextMismatch_8 rfl ?_
    refine z_last hx hb hK hP hD hS 4 3 rfl rfl 0 (show (0 : Int32).toInt = 0 by decide) rfl (by decide) dL_nextMismatch_9 (fun H locs hP hD hS => ?_)
    have hP : va_P D vwCl (LW h0 h1 h2 h3 b0 y1 y2 y3 y6 (n) (w) T P M (vp_updL O 0 (v).toInt64)) H := hP
    have hD : va_D (va_A (LW h0 h1 h2 h3 b0 y1 y2 y3 y6 (n) (w) T P M O) s.heap.size) (LW h0 h1 h2 h3 b0 y1 y2 y3 y6 (n) (w) T P M (vp_updL O 0 (v).toInt64)) := hD
    refine lv_goto (tgt := 21) hx hb dL_nextMismatch_10 (by decide) ?_
    refine lv_iconst (v := 0) hx hb dL_nextMismatch_21 (by decide) ?_
    refine W.widen (k := 1) (n := 6) (Nat.le_of_ble_eq_true rfl) (Nat.le_of_ble_eq_true rfl) ?_
    exact W.iret (v := 0) hx hb hr (fun t ht hW => ⟨⟨_, (v, M), rfl, ⟨(show (0 : Int32).toInt = 0 by decide).trans (by omega), fun _ => ev1⟩, ⟨fun _ => ⟨by rw [ht]; exact hP, hD⟩, fun h => absurd hk0 h⟩⟩, hS.F ht⟩) hS.2.2 dL_nextMismatch_22
set_option maxHeartbeats 4000000 in
set_option maxRecDepth 100000 in
theorem c_L_agreement (l : Launch) (hlt : l.stackTraces = false) (D : va_G) (E : Nat × Nat × Nat) (h0 h1 h2 h3 b0 : Nat) (y1 y2 y3 y6 : ClassId) (sz n w : Nat) (T P M : Nat → Int32) (O : Nat → Int64) (hn : n ≤ 64) (hw : w ≤ 24) (hT : SymF T) (hPt : SymF P) (hD0 : va_D (fun _ => True) (LW h0 h1 h2 h3 b0 y1 y2 y3 y6 (n) (w) T P M O)) (x1 : Int32) (x2 : Int32) : Met l yL_agreement wsL_agreement ({ frames := 7, cells := 1, slots := 6, locals := 114 }) (va_Pc [.ref h0, .int x1, .int x2, .ref b0] (cp D (LW h0 h1 h2 h3 b0 y1 y2 y3 y6 (n) (w) T P M O) (LT y1 y2 y3 y6) E (va_A (LW h0 h1 h2 h3 b0 y1 y2 y3 y6 (n) (w) T P M O) sz) sz)) (va_Qi (fun (r : Int32) (u : Int32 × (Nat → Int32)) => r.toInt = ((kAg n w x1.toInt x2.toInt : Nat) : Int) ∧ (kAg n w x1.toInt x2.toInt = 0 → u.1.toInt = ((agr T P n w x1.toInt.toNat x2.toInt.toNat : Nat) : Int))) (fun (u : Int32 × (Nat → Int32)) t => (kAg n w x1.toInt x2.toInt = 0 → va_P D vwCl (LW h0 h1 h2 h3 b0 y1 y2 y3 y6 (n) (w) T P u.2 (vp_updL O 0 u.1.toInt64)) t.heap ∧ va_D (va_A (LW h0 h1 h2 h3 b0 y1 y2 y3 y6 (n) (w) T P M O) sz) (LW h0 h1 h2 h3 b0 y1 y2 y3 y6 (n) (w) T P u.2 (vp_updL O 0 u.1.toInt64))) ∧ (¬ kAg n w x1.toInt x2.toInt = 0 → va_P D vwCl (LW h0 h1 h2 h3 b0 y1 y2 y3 y6 (n) (w) T P u.2 O) t.heap ∧ va_D (va_A (LW h0 h1 h2 h3 b0 y1 y2 y3 y6 (n) (w) T P M O) sz) (LW h0 h1 h2 h3 b0 y1 y2 y3 y6 (n) (w) T P u.2 O))) (va_A (LW h0 h1 h2 h3 b0 y1 y2 y3 y6 (n) (w) T P M O) sz)) 1 6 (va_A (LW h0 h1 h2 h3 b0 y1 y2 y3 y6 (n) (w) T P M O) sz) := by
  refine va_MetW (cc := cL_agreement) (maxL := 5) (ret := (some .int)) (hh := [(0, 10, 13, 13)]) (by decide) rfl ?_
  intro p e s m args below meth c s₁ B hml hv
  obtain ⟨rfl, hsz, hP, hK, hE⟩ := hv
  have hx := B.exec
  have hb := B.bytes
  have hr := B.returns
  have hts := atoms_spec (ws := wsL_agreement) B.pre
  have hown : s.vm.findClass RL = some m.cls := findClass_of_methodNamed B.named
  have hlocks := B.notSynchronized
  have htab : c.exceptionTable.toList = tableOf [(0, 10, 13, 13)] := vx_table (x := yL_agreement) B (hts (.codeWith yL_agreement cL_agreement 5 (some .int) [(0, 10, 13, 13)]) List.mem_cons_self)
  have hsz : s.heap.size = sz := hsz
  subst hsz
  have hD := hD0.self (sz := s.heap.size)
  have hA : ∀ q : Nat, s.heap.size ≤ q → (va_A (LW h0 h1 h2 h3 b0 y1 y2 y3 y6 (n) (w) T P M O) s.heap.size) q := fun q h => Or.inr h
  have hS : va_S (va_A (LW h0 h1 h2 h3 b0 y1 y2 y3 y6 (n) (w) T P M O) s.heap.size) s.heap s.heap [] := va_S.rf
  have hl := lv_entry ([.ref h0, .int x1, .int x2, .ref b0]) (n := 5) (Nat.le_of_ble_eq_true rfl)
  rw [lg_entry_eq]
  generalize (lg_sl ([.ref h0, .int x1, .int x2, .ref b0]) ++ List.replicate (5 - (lg_sl ([.ref h0, .int x1, .int x2, .ref b0])).length) Slot.unset).toArray = ls at hl ⊢
  have hl : lv_has ls 5 [(0, .ref h0), (1, .int x1), (2, .int x2), (3, .ref b0)] := hl
  refine lv_aload_n hx hb dL_agreement_0 rfl (lv_at hl 3 rfl) ?_
  refine lv_iconst (v := 0) hx hb dL_agreement_1 (by decide) ?_
  refine lv_aload_n hx hb dL_agreement_2 rfl (lv_at hl 0 rfl) ?_
  refine lv_iload_n hx hb dL_agreement_3 rfl (lv_at hl 1 rfl) ?_
  refine lv_iload_n hx hb dL_agreement_4 rfl (lv_at hl 2 rfl) ?_
  have hPx := hP.sub (ws' := (XW h0 h1 h2 h3 y1 y2 y3 (n) (w) T P M)) [0, 1, 2, 3] rfl
  have hKx := hK.sub (tys' := (XT y1 y2 y3)) [0, 1, 2] rfl
  refine vx_calli (vx_runV (As := [.int x1, .int x2]) (rest := [.int 0, .ref b0]) ⟨hx, hb, hml, hown, hts⟩ (c_X1_agreement l hlt D E h0 h1 h2 h3 y1 y2 y3 s.heap.size (n) (w) T P M hn hw hT hPt x1 x2) (cwV 2 hts gL_agreement_X1_agreement rfl rfl rfl (by decide +kernel) ⟨Nat.le_of_ble_eq_true rfl, Nat.le_of_ble_eq_true rfl⟩) ⟨cp.blind, va_recv hK hP (ci := 0) (q0 := 0) rfl rfl, fun U hU hW => ⟨rfl, cp.call hPx hKx hE hS (fr0 hS hA) hU hW⟩⟩ rfl rfl hl.1 rfl (lv_room (Nat.le_of_ble_eq_true rfl)) dL_agreement_5 ⟨Nat.le_of_ble_eq_true rfl, Nat.le_of_ble_eq_true rfl⟩) hS (fun q _ h => (fr0 hS hA) q h) (fr0 hS hA) (fun q _ h => fr0 hS hA q h) (fun X ce q9 u t H1 locs1 ht hvm _ hB hz1 hk1 hS hc1 hc2 hc3 => ?_) (fun v u t H1 locs1 ht hvm ev hB hz1 hk1 hS => ?_)
  · have hP := kp hP hk1
    generalize H1 = H at hP hS hc1 ⊢
    generalize locs1 = locs at hS ⊢
    have hB : X = "java/lang/IllegalArgumentException" ∧ kAg n w x1.toInt x2.toInt = 1 := hB
    obtain ⟨rfl, hk0⟩ := hB
    refine vx_catch (E := "java/lang/IllegalArgumentException") (name := "java/lang/IllegalArgumentException") hown [] ⟨0, 10, 13, 13⟩ [] (by rw [htab]; rfl) (fun z hz => nomatch hz) (by decide) (by decide) (hts (.classLink RL 13 "java/lang/IllegalArgumentException") (by decide +kernel)) (va_Nw.use rfl (hE.1.2.1 _ (by simp [xC]))) hc1 hc2 hc3 ?_
    refine lv_astore (lv' := [(4, .ref q9), (0, .ref h0), (1, .int x1), (2, .int x2), (3, .ref b0)]) hx hb dL_agreement_13 hl (by decide) rfl (fun ls hl => ?_)
    refine lv_iconst (v := 1) hx hb dL_agreement_15 (by decide) ?_
    refine W.widen (k := 1) (n := 6) (Nat.le_of_ble_eq_true rfl) (Nat.le_of_ble_eq_true rfl) ?_
    exact W.iret (v := 1) hx hb hr (fun t ht hW => ⟨⟨_, ((0 : Int32), M), rfl, ⟨(show (1 : Int32).toInt = 1 by decide).trans (by omega), fun h => absurd h (by omega)⟩, ⟨fun h => absurd h (by omega), fun _ => ⟨by rw [ht]; exact hP, hD⟩⟩⟩, hS.F ht⟩) hS.2.2 dL_agreement_16
  · obtain ⟨ev1, hk0⟩ := ev
    have hP := kp hP hk1
    generalize H1 = H at hP hS ⊢
    generalize locs1 = locs at hS ⊢
    refine lv_i2l (v := v.toInt64) hx hb dL_agreement_8 rfl ?_
    refine z_last hx hb hK hP hD hS 4 3 rfl rfl 0 (show (0 : Int32).toInt = 0 by decide) rfl (by decide) dL_agreement_9 (fun H locs hP hD hS => ?_)
    have hP : va_P D vwCl (LW h0 h1 h2 h3 b0 y1 y2 y3 y6 (n) (w) T P M (vp_updL O 0 (v).toInt64)) H := hP
    have hD : va_D (va_A (LW h0 h1 h2 h3 b0 y1 y2 y3 y6 (n) (w) T P M O) s.heap.size) (LW h0 h1 h2 h3 b0 y1 y2 y3 y6 (n) (w) T P M (vp_updL O 0 (v).toInt64)) := hD
    refine lv_goto (tgt := 17) hx hb dL_agreement_10 (by decide) ?_
    refine lv_iconst (v := 0) hx hb dL_agreement_17 (by decide) ?_
    refine W.widen (k := 1) (n := 6) (Nat.le_of_ble_eq_true rfl) (Nat.le_of_ble_eq_true rfl) ?_
    exact W.iret (v := 0) hx hb hr (fun t ht hW => ⟨⟨_, (v, M), rfl, ⟨(show (0 : Int32).toInt = 0 by decide).trans (by omega), fun _ => ev1⟩, ⟨fun _ => ⟨by rw [ht]; exact hP, hD⟩, fun h => absurd hk0 h⟩⟩, hS.F ht⟩) hS.2.2 dL_agreement_18
set_option maxHeartbeats 4000000 in
set_option maxRecDepth 100000 in
theorem c_L_within (l : Launch) (hlt : l.stackTraces = false) (D : va_G) (E : Nat × Nat × Nat) (h0 h1 h2 h3 b0 : Nat) (y1 y2 y3 y6 : ClassId) (sz n w : Nat) (T P M : Nat → Int32) (O : Nat → Int64) (hn : n ≤ 64) (hw : w ≤ 24) (hT : SymF T) (hPt : SymF P) (hD0 : va_D (fun _ => True) (LW h0 h1 h2 h3 b0 y1 y2 y3 y6 (n) (w) T P M O)) (x1 : Int32) : Met l yL_within wsL_within ({ frames := 7, cells := 1, slots := 6, locals := 114 }) (va_Pc [.ref h0, .int x1, .ref b0] (cp D (LW h0 h1 h2 h3 b0 y1 y2 y3 y6 (n) (w) T P M O) (LT y1 y2 y3 y6) E (va_A (LW h0 h1 h2 h3 b0 y1 y2 y3 y6 (n) (w) T P M O) sz) sz)) (va_Qi (fun (r : Int32) (u : Int32 × (Nat → Int32)) => r.toInt = ((kNeg x1.toInt : Nat) : Int) ∧ (kNeg x1.toInt = 0 → u.1.toInt = ((cnt (wf T P w x1.toInt) (pl n w) : Nat) : Int))) (fun (u : Int32 × (Nat → Int32)) t => (kNeg x1.toInt = 0 → va_P D vwCl (LW h0 h1 h2 h3 b0 y1 y2 y3 y6 (n) (w) T P u.2 (vp_updL O 0 u.1.toInt64)) t.heap ∧ va_D (va_A (LW h0 h1 h2 h3 b0 y1 y2 y3 y6 (n) (w) T P M O) sz) (LW h0 h1 h2 h3 b0 y1 y2 y3 y6 (n) (w) T P u.2 (vp_updL O 0 u.1.toInt64))) ∧ (¬ kNeg x1.toInt = 0 → va_P D vwCl (LW h0 h1 h2 h3 b0 y1 y2 y3 y6 (n) (w) T P u.2 O) t.heap ∧ va_D (va_A (LW h0 h1 h2 h3 b0 y1 y2 y3 y6 (n) (w) T P M O) sz) (LW h0 h1 h2 h3 b0 y1 y2 y3 y6 (n) (w) T P u.2 O))) (va_A (LW h0 h1 h2 h3 b0 y1 y2 y3 y6 (n) (w) T P M O) sz)) 1 6 (va_A (LW h0 h1 h2 h3 b0 y1 y2 y3 y6 (n) (w) T P M O) sz) := by
  refine va_MetW (cc := cL_within) (maxL := 4) (ret := (some .int)) (hh := [(0, 9, 12, 13)]) (by decide) rfl ?_
  intro p e s m args below meth c s₁ B hml hv
  obtain ⟨rfl, hsz, hP, hK, hE⟩ := hv
  have hx := B.exec
  have hb := B.bytes
  have hr := B.returns
  have hts := atoms_spec (ws := wsL_within) B.pre
  have hown : s.vm.findClass RL = some m.cls := findClass_of_methodNamed B.named
  have hlocks := B.notSynchronized
  have htab : c.exceptionTable.toList = tableOf [(0, 9, 12, 13)] := vx_table (x := yL_within) B (hts (.codeWith yL_within cL_within 4 (some .int) [(0, 9, 12, 13)]) List.mem_cons_self)
  have hsz : s.heap.size = sz := hsz
  subst hsz
  have hD := hD0.self (sz := s.heap.size)
  have hA : ∀ q : Nat, s.heap.size ≤ q → (va_A (LW h0 h1 h2 h3 b0 y1 y2 y3 y6 (n) (w) T P M O) s.heap.size) q := fun q h => Or.inr h
  have hS : va_S (va_A (LW h0 h1 h2 h3 b0 y1 y2 y3 y6 (n) (w) T P M O) s.heap.size) s.heap s.heap [] := va_S.rf
  have hl := lv_entry ([.ref h0, .int x1, .ref b0]) (n := 4) (Nat.le_of_ble_eq_true rfl)
  rw [lg_entry_eq]
  generalize (lg_sl ([.ref h0, .int x1, .ref b0]) ++ List.replicate (4 - (lg_sl ([.ref h0, .int x1, .ref b0])).length) Slot.unset).toArray = ls at hl ⊢
  have hl : lv_has ls 4 [(0, .ref h0), (1, .int x1), (2, .ref b0)] := hl
  refine lv_aload_n hx hb dL_within_0 rfl (lv_at hl 2 rfl) ?_
  refine lv_iconst (v := 0) hx hb dL_within_1 (by decide) ?_
  refine lv_aload_n hx hb dL_within_2 rfl (lv_at hl 0 rfl) ?_
  refine lv_iload_n hx hb dL_within_3 rfl (lv_at hl 1 rfl) ?_
  have hPx := hP.sub (ws' := (XW h0 h1 h2 h3 y1 y2 y3 (n) (w) T P M)) [0, 1, 2, 3] rfl
  have hKx := hK.sub (tys' := (XT y1 y2 y3)) [0, 1, 2] rfl
  refine vx_calli (vx_runV (As := [.int x1]) (rest := [.int 0, .ref b0]) ⟨hx, hb, hml, hown, hts⟩ (c_X1_within l hlt D E h0 h1 h2 h3 y1 y2 y3 s.heap.size (n) (w) T P M hn hw hT hPt x1) (cwV 1 hts gL_within_X1_within rfl rfl rfl (by decide +kernel) ⟨Nat.le_of_ble_eq_true rfl, Nat.le_of_ble_eq_true rfl⟩) ⟨cp.blind, va_recv hK hP (ci := 0) (q0 := 0) rfl rfl, fun U hU hW => ⟨rfl, cp.call hPx hKx hE hS (fr0 hS hA) hU hW⟩⟩ rfl rfl hl.1 rfl (lv_room (Nat.le_of_ble_eq_true rfl)) dL_within_4 ⟨Nat.le_of_ble_eq_true rfl, Nat.le_of_ble_eq_true rfl⟩) hS (fun q _ h => (fr0 hS hA) q h) (fr0 hS hA) (fun q _ h => fr0 hS hA q h) (fun X ce q9 u t H1 locs1 ht hvm _ hB hz1 hk1 hS hc1 hc2 hc3 => ?_) (fun v u t H1 locs1 ht hvm ev hB hz1 hk1 hS => ?_)
  · have hP := kp hP hk1
    generalize H1 = H at hP hS hc1 ⊢
    generalize locs1 = locs at hS ⊢
    have hB : X = "java/lang/IllegalArgumentException" ∧ kNeg x1.toInt = 1 := hB
    obtain ⟨rfl, hk0⟩ := hB
    refine vx_catch (E := "java/lang/IllegalArgumentException") (name := "java/lang/IllegalArgumentException") hown [] ⟨0, 9, 12, 13⟩ [] (by rw [htab]; rfl) (fun z hz => nomatch hz) (by decide) (by decide) (hts (.classLink RL 13 "java/lang/IllegalArgumentException") (by decide +kernel)) (va_Nw.use rfl (hE.1.2.1 _ (by simp [xC]))) hc1 hc2 hc3 ?_
    refine lv_astore_n (lv' := [(3, .ref q9), (0, .ref h0), (1, .int x1), (2, .ref b0)]) hx hb dL_within_12 rfl hl (by decide) rfl (fun ls hl => ?_)
    refine lv_iconst (v := 1) hx hb dL_within_13 (by decide) ?_
    refine W.widen (k := 1) (n := 6) (Nat.le_of_ble_eq_true rfl) (Nat.le_of_ble_eq_true rfl) ?_
    exact W.iret (v := 1) hx hb hr (fun t ht hW => ⟨⟨_, ((0 : Int32), M), rfl, ⟨(show (1 : Int32).toInt = 1 by decide).trans (by omega), fun h => absurd h (by omega)⟩, ⟨fun h => absurd h (by omega), fun _ => ⟨by rw [ht]; exact hP, hD⟩⟩⟩, hS.F ht⟩) hS.2.2 dL_within_14
  · obtain ⟨ev1, hk0⟩ := ev
    have hP := kp hP hk1
    generalize H1 = H at hP hS ⊢
    generalize locs1 = locs at hS ⊢
    refine lv_i2l (v := v.toInt64) hx hb dL_within_7 rfl ?_
    refine z_last hx hb hK hP hD hS 4 3 rfl rfl 0 (show (0 : Int32).toInt = 0 by decide) rfl (by decide) dL_within_8 (fun H locs hP hD hS => ?_)
    have hP : va_P D vwCl (LW h0 h1 h2 h3 b0 y1 y2 y3 y6 (n) (w) T P M (vp_updL O 0 (v).toInt64)) H := hP
    have hD : va_D (va_A (LW h0 h1 h2 h3 b0 y1 y2 y3 y6 (n) (w) T P M O) s.heap.size) (LW h0 h1 h2 h3 b0 y1 y2 y3 y6 (n) (w) T P M (vp_updL O 0 (v).toInt64)) := hD
    refine lv_goto (tgt := 15) hx hb dL_within_9 (by decide) ?_
    refine lv_iconst (v := 0) hx hb dL_within_15 (by decide) ?_
    refine W.widen (k := 1) (n := 6) (Nat.le_of_ble_eq_true rfl) (Nat.le_of_ble_eq_true rfl) ?_
    exact W.iret (v := 0) hx hb hr (fun t ht hW => ⟨⟨_, (v, M), rfl, ⟨(show (0 : Int32).toInt = 0 by decide).trans (by omega), fun _ => ev1⟩, ⟨fun _ => ⟨by rw [ht]; exact hP, hD⟩, fun h => absurd hk0 h⟩⟩, hS.F ht⟩) hS.2.2 dL_within_16
set_option maxHeartbeats 4000000 in
set_option maxRecDepth 100000 in
theorem c_L_ranked (l : Launch) (hlt : l.stackTraces = false) (D : va_G) (E : Nat × Nat × Nat) (h0 h1 h2 h3 b0 : Nat) (y1 y2 y3 y6 : ClassId) (sz n w : Nat) (T P M : Nat → Int32) (O : Nat → Int64) (hn : n ≤ 64) (hw : w ≤ 24) (hT : SymF T) (hPt : SymF P) (hD0 : va_D (fun _ => True) (LW h0 h1 h2 h3 b0 y1 y2 y3 y6 (n) (w) T P M O)) (x1 : Int32) : Met l yL_ranked wsL_ranked ({ frames := 7, cells := 1, slots := 6, locals := 113 }) (va_Pc [.ref h0, .int x1, .ref b0] (cp D (LW h0 h1 h2 h3 b0 y1 y2 y3 y6 (n) (w) T P M O) (LT y1 y2 y3 y6) E (va_A (LW h0 h1 h2 h3 b0 y1 y2 y3 y6 (n) (w) T P M O) sz) sz)) (va_Qi (fun (r : Int32) (u : Int32 × (Nat → Int32)) => r.toInt = ((kPl (pl n w) x1.toInt : Nat) : Int) ∧ (kPl (pl n w) x1.toInt = 0 → u.1.toInt = ((rkP (fun p => mis T P p w) (pl n w) x1.toInt.toNat : Nat) : Int))) (fun (u : Int32 × (Nat → Int32)) t => (kPl (pl n w) x1.toInt = 0 → va_P D vwCl (LW h0 h1 h2 h3 b0 y1 y2 y3 y6 (n) (w) T P u.2 (vp_updL O 0 u.1.toInt64)) t.heap ∧ va_D (va_A (LW h0 h1 h2 h3 b0 y1 y2 y3 y6 (n) (w) T P M O) sz) (LW h0 h1 h2 h3 b0 y1 y2 y3 y6 (n) (w) T P u.2 (vp_updL O 0 u.1.toInt64))) ∧ (¬ kPl (pl n w) x1.toInt = 0 → va_P D vwCl (LW h0 h1 h2 h3 b0 y1 y2 y3 y6 (n) (w) T P u.2 O) t.heap ∧ va_D (va_A (LW h0 h1 h2 h3 b0 y1 y2 y3 y6 (n) (w) T P M O) sz) (LW h0 h1 h2 h3 b0 y1 y2 y3 y6 (n) (w) T P u.2 O))) (va_A (LW h0 h1 h2 h3 b0 y1 y2 y3 y6 (n) (w) T P M O) sz)) 1 6 (va_A (LW h0 h1 h2 h3 b0 y1 y2 y3 y6 (n) (w) T P M O) sz) := by
  refine va_MetW (cc := cL_ranked) (maxL := 4) (ret := (some .int)) (hh := [(0, 9, 12, 21)]) (by decide) rfl ?_
  intro p e s m args below meth c s₁ B hml hv
  obtain ⟨rfl, hsz, hP, hK, hE⟩ := hv
  have hx := B.exec
  have hb := B.bytes
  have hr := B.returns
  have hts := atoms_spec (ws := wsL_ranked) B.pre
  have hown : s.vm.findClass RL = some m.cls := findClass_of_methodNamed B.named
  have hlocks := B.notSynchronized
  have htab : c.exceptionTable.toList = tableOf [(0, 9, 12, 21)] := vx_table (x := yL_ranked) B (hts (.codeWith yL_ranked cL_ranked 4 (some .int) [(0, 9, 12, 21)]) List.mem_cons_self)
  have hsz : s.heap.size = sz := hsz
  subst hsz
  have hD := hD0.self (sz := s.heap.size)
  have hA : ∀ q : Nat, s.heap.size ≤ q → (va_A (LW h0 h1 h2 h3 b0 y1 y2 y3 y6 (n) (w) T P M O) s.heap.size) q := fun q h => Or.inr h
  have hS : va_S (va_A (LW h0 h1 h2 h3 b0 y1 y2 y3 y6 (n) (w) T P M O) s.heap.size) s.heap s.heap [] := va_S.rf
  have hl := lv_entry ([.ref h0, .int x1, .ref b0]) (n := 4) (Nat.le_of_ble_eq_true rfl)
  rw [lg_entry_eq]
  generalize (lg_sl ([.ref h0, .int x1, .ref b0]) ++ List.replicate (4 - (lg_sl ([.ref h0, .int x1, .ref b0])).length) Slot.unset).toArray = ls at hl ⊢
  have hl : lv_has ls 4 [(0, .ref h0), (1, .int x1), (2, .ref b0)] := hl
  refine lv_aload_n hx hb dL_ranked_0 rfl (lv_at hl 2 rfl) ?_
  refine lv_iconst (v := 0) hx hb dL_ranked_1 (by decide) ?_
  refine lv_aload_n hx hb dL_ranked_2 rfl (lv_at hl 0 rfl) ?_
  refine lv_iload_n hx hb dL_ranked_3 rfl (lv_at hl 1 rfl) ?_
  have hPx := hP.sub (ws' := (XW h0 h1 h2 h3 y1 y2 y3 (n) (w) T P M)) [0, 1, 2, 3] rfl
  have hKx := hK.sub (tys' := (XT y1 y2 y3)) [0, 1, 2] rfl
  have hDx := hD0.sub (ws' := (XW h0 h1 h2 h3 y1 y2 y3 (n) (w) T P M)) [0, 1, 2, 3] (by decide) rfl
  have hFc := va_free (wc := (XW h0 h1 h2 h3 y1 y2 y3 (n) (w) T P M)) hD hS hA [0, 1, 2, 3] rfl
  refine vx_calli (vx_runV (As := [.int x1]) (rest := [.int 0, .ref b0]) ⟨hx, hb, hml, hown, hts⟩ (c_X1_ranked l hlt D E h0 h1 h2 h3 y1 y2 y3 s.heap.size (n) (w) T P M hn hw hT hPt hDx x1) (cwV 1 hts gL_ranked_X1_ranked rfl rfl rfl (by decide +kernel) ⟨Nat.le_of_ble_eq_true rfl, Nat.le_of_ble_eq_true rfl⟩) ⟨cp.blind, va_recv hK hP (ci := 0) (q0 := 0) rfl rfl, fun U hU hW => ⟨rfl, cp.call hPx hKx hE hS hFc hU hW⟩⟩ rfl rfl hl.1 rfl (lv_room (Nat.le_of_ble_eq_true rfl)) dL_ranked_4 ⟨Nat.le_of_ble_eq_true rfl, Nat.le_of_ble_eq_true rfl⟩) hS (fun q _ h => hFc q h) hFc (fun q _ h => fr0 hS hA q h) (fun X ce q9 u t H1 locs1 ht hvm _ hB hz1 hk1 hS hc1 hc2 hc3 => ?_) (fun v u t H1 locs1 ht hvm ev hB hz1 hk1 hS => ?_)
  · have hP := kp hP hk1
    generalize H1 = H at hP hS hc1 ⊢
    generalize locs1 = locs at hS ⊢
    have hB : X = "java/lang/IndexOutOfBoundsException" ∧ kPl (pl n w) x1.toInt = 1 := hB
    obtain ⟨rfl, hk0⟩ := hB
    refine vx_catch (E := "java/lang/IndexOutOfBoundsException") (name := "java/lang/IndexOutOfBoundsException") hown [] ⟨0, 9, 12, 21⟩ [] (by rw [htab]; rfl) (fun z hz => nomatch hz) (by decide) (by decide) (hts (.classLink RL 21 "java/lang/IndexOutOfBoundsException") (by decide +kernel)) (va_Nw.use rfl (hE.1.2.1 _ (by simp [xC]))) hc1 hc2 hc3 ?_
    refine lv_astore_n (lv' := [(3, .ref q9), (0, .ref h0), (1, .int x1), (2, .ref b0)]) hx hb dL_ranked_12 rfl hl (by decide) rfl (fun ls hl => ?_)
    refine lv_iconst (v := 1) hx hb dL_ranked_13 (by decide) ?_
    refine W.widen (k := 1) (n := 6) (Nat.le_of_ble_eq_true rfl) (Nat.le_of_ble_eq_true rfl) ?_
    exact W.iret (v := 1) hx hb hr (fun t ht hW => ⟨⟨_, ((0 : Int32), M), rfl, ⟨(show (1 : Int32).toInt = 1 by decide).trans (by omega), fun h => absurd h (by omega)⟩, ⟨fun h => absurd h (by omega), fun _ => ⟨by rw [ht]; exact hP, hD⟩⟩⟩, hS.F ht⟩) hS.2.2 dL_ranked_14
  · obtain ⟨ev1, hk0⟩ := ev
    obtain ⟨hP1, hD1⟩ := hB
    rw [ht] at hP1
    obtain ⟨hP, hD⟩ := va_join (wr := [(b0, .inl (y6, 1, .inr (.inl O)))]) (w1 := (XW h0 h1 h2 h3 y1 y2 y3 (n) (w) T P u)) hP hD [0, 1, 2, 3] [4] rfl rfl (by decide) (by decide) hk1 hFc hP1 hD1
    have hP := hP.sub (ws' := (LW h0 h1 h2 h3 b0 y1 y2 y3 y6 (n) (w) T P u O)) [1, 2, 3, 4, 0] rfl
    have hD := hD.sub (ws' := (LW h0 h1 h2 h3 b0 y1 y2 y3 y6 (n) (w) T P u O)) [1, 2, 3, 4, 0] (by decide) rfl
    generalize H1 = H at hP hS ⊢
    generalize locs1 = locs at hS ⊢
    refine lv_i2l (v := v.toInt64) hx hb dL_ranked_7 rfl ?_
    refine z_last hx hb hK hP hD hS 4 3 rfl rfl 0 (show (0 : Int32).toInt = 0 by decide) rfl (by decide) dL_ranked_8 (fun H locs hP hD hS => ?_)
    have hP : va_P D vwCl (LW h0 h1 h2 h3 b0 y1 y2 y3 y6 (n) (w) T P u (vp_updL O 0 (v).toInt64)) H := hP
    have hD : va_D (va_A (LW h0 h1 h2 h3 b0 y1 y2 y3 y6 (n) (w) T P M O) s.heap.size) (LW h0 h1 h2 h3 b0 y1 y2 y3 y6 (n) (w) T P u (vp_updL O 0 (v).toInt64)) := hD
    refine lv_goto (tgt := 15) hx hb dL_ranked_9 (by decide) ?_
    refine lv_iconst (v := 0) hx hb dL_ranked_15 (by decide) ?_
    refine W.widen (k := 1) (n := 6) (Nat.le_of_ble_eq_true rfl) (Nat.le_of_ble_eq_true rfl) ?_
    exact W.iret (v := 0) hx hb hr (fun t ht hW => ⟨⟨_, (v, u), rfl, ⟨(show (0 : Int32).toInt = 0 by decide).trans (by omega), fun _ => ev1⟩, ⟨fun _ => ⟨by rw [ht]; exact hP, hD⟩, fun h => absurd hk0 h⟩⟩, hS.F ht⟩) hS.2.2 dL_ranked_16
set_option maxHeartbeats 4000000 in
set_option maxRecDepth 100000 in
theorem c_L_bestLetter (l : Launch) (hlt : l.stackTraces = false) (D : va_G) (E : Nat × Nat × Nat) (h0 h1 h2 h3 b0 : Nat) (y1 y2 y3 y6 : ClassId) (sz n w : Nat) (T P M : Nat → Int32) (O : Nat → Int64) (hn : n ≤ 64) (hw : w ≤ 24) (hT : SymF T) (hPt : SymF P) (hD0 : va_D (fun _ => True) (LW h0 h1 h2 h3 b0 y1 y2 y3 y6 (n) (w) T P M O)) (x1 : Int32) : Met l yL_bestLetter wsL_bestLetter ({ frames := 8, cells := 1, slots := 6, locals := 136 }) (va_Pc [.ref h0, .int x1, .ref b0] (cp D (LW h0 h1 h2 h3 b0 y1 y2 y3 y6 (n) (w) T P M O) (LT y1 y2 y3 y6) E (va_A (LW h0 h1 h2 h3 b0 y1 y2 y3 y6 (n) (w) T P M O) sz) sz)) (va_Qi (fun (r : Int32) (u : Int32 × (Nat → Int32)) => r.toInt = ((kPl w x1.toInt : Nat) : Int) ∧ (kPl w x1.toInt = 0 → u.1.toInt = ((bl (blc T x1.toInt.toNat (pl n w)) 25 : Nat) : Int))) (fun (u : Int32 × (Nat → Int32)) t => (kPl w x1.toInt = 0 → va_P D vwCl (LW h0 h1 h2 h3 b0 y1 y2 y3 y6 (n) (w) T P u.2 (vp_updL O 0 u.1.toInt64)) t.heap ∧ va_D (va_A (LW h0 h1 h2 h3 b0 y1 y2 y3 y6 (n) (w) T P M O) sz) (LW h0 h1 h2 h3 b0 y1 y2 y3 y6 (n) (w) T P u.2 (vp_updL O 0 u.1.toInt64))) ∧ (¬ kPl w x1.toInt = 0 → va_P D vwCl (LW h0 h1 h2 h3 b0 y1 y2 y3 y6 (n) (w) T P u.2 O) t.heap ∧ va_D (va_A (LW h0 h1 h2 h3 b0 y1 y2 y3 y6 (n) (w) T P M O) sz) (LW h0 h1 h2 h3 b0 y1 y2 y3 y6 (n) (w) T P u.2 O))) (va_A (LW h0 h1 h2 h3 b0 y1 y2 y3 y6 (n) (w) T P M O) sz)) 1 6 (va_A (LW h0 h1 h2 h3 b0 y1 y2 y3 y6 (n) (w) T P M O) sz) := by
  refine va_MetW (cc := cL_bestLetter) (maxL := 4) (ret := (some .int)) (hh := [(0, 9, 12, 21)]) (by decide) rfl ?_
  intro p e s m args below meth c s₁ B hml hv
  obtain ⟨rfl, hsz, hP, hK, hE⟩ := hv
  have hx := B.exec
  have hb := B.bytes
  have hr := B.returns
  have hts := atoms_spec (ws := wsL_bestLetter) B.pre
  have hown : s.vm.findClass RL = some m.cls := findClass_of_methodNamed B.named
  have hlocks := B.notSynchronized
  have htab : c.exceptionTable.toList = tableOf [(0, 9, 12, 21)] := vx_table (x := yL_bestLetter) B (hts (.codeWith yL_bestLetter cL_bestLetter 4 (some .int) [(0, 9, 12, 21)]) List.mem_cons_self)
  have hsz : s.heap.size = sz := hsz
  subst hsz
  have hD := hD0.self (sz := s.heap.size)
  have hA : ∀ q : Nat, s.heap.size ≤ q → (va_A (LW h0 h1 h2 h3 b0 y1 y2 y3 y6 (n) (w) T P M O) s.heap.size) q := fun q h => Or.inr h
  have hS : va_S (va_A (LW h0 h1 h2 h3 b0 y1 y2 y3 y6 (n) (w) T P M O) s.heap.size) s.heap s.heap [] := va_S.rf
  have hl := lv_entry ([.ref h0, .int x1, .ref b0]) (n := 4) (Nat.le_of_ble_eq_true rfl)
  rw [lg_entry_eq]
  generalize (lg_sl ([.ref h0, .int x1, .ref b0]) ++ List.replicate (4 - (lg_sl ([.ref h0, .int x1, .ref b0])).length) Slot.unset).toArray = ls at hl ⊢
  have hl : lv_has ls 4 [(0, .ref h0), (1, .int x1), (2, .ref b0)] := hl
  refine lv_aload_n hx hb dL_bestLetter_0 rfl (lv_at hl 2 rfl) ?_
  refine lv_iconst (v := 0) hx hb dL_bestLetter_1 (by decide) ?_
  refine lv_aload_n hx hb dL_bestLetter_2 rfl (lv_at hl 0 rfl) ?_
  refine lv_iload_n hx hb dL_bestLetter_3 rfl (lv_at hl 1 rfl) ?_
  have hPx := hP.sub (ws' := (XW h0 h1 h2 h3 y1 y2 y3 (n) (w) T P M)) [0, 1, 2, 3] rfl
  have hKx := hK.sub (tys' := (XT y1 y2 y3)) [0, 1, 2] rfl
  refine vx_calli (vx_runV (As := [.int x1]) (rest := [.int 0, .ref b0]) ⟨hx, hb, hml, hown, hts⟩ (c_X1_bestLetter l hlt D E h0 h1 h2 h3 y1 y2 y3 s.heap.size (n) (w) T P M hn hw hT hPt x1) (cwV 1 hts gL_bestLetter_X1_bestLetter rfl rfl rfl (by decide +kernel) ⟨Nat.le_of_ble_eq_true rfl, Nat.le_of_ble_eq_true rfl⟩) ⟨cp.blind, va_recv hK hP (ci := 0) (q0 := 0) rfl rfl, fun U hU hW => ⟨rfl, cp.call hPx hKx hE hS (fr0 hS hA) hU hW⟩⟩ rfl rfl hl.1 rfl (lv_room (Nat.le_of_ble_eq_true rfl)) dL_bestLetter_4 ⟨Nat.le_of_ble_eq_true rfl, Nat.le_of_ble_eq_true rfl⟩) hS (fun q _ h => (fr0 hS hA) q h) (fr0 hS hA) (fun q _ h => fr0 hS hA q h) (fun X ce q9 u t H1 locs1 ht hvm _ hB hz1 hk1 hS hc1 hc2 hc3 => ?_) (fun v u t H1 locs1 ht hvm ev hB hz1 hk1 hS => ?_)
  · have hP := kp hP hk1
    generalize H1 = H at hP hS hc1 ⊢
    generalize locs1 = locs at hS ⊢
    have hB : X = "java/lang/IndexOutOfBoundsException" ∧ kPl w x1.toInt = 1 := hB
    obtain ⟨rfl, hk0⟩ := hB
    refine vx_catch (E := "java/lang/IndexOutOfBoundsException") (name := "java/lang/IndexOutOfBoundsException") hown [] ⟨0, 9, 12, 21⟩ [] (by rw [htab]; rfl) (fun z hz => nomatch hz) (by decide) (by decide) (hts (.classLink RL 21 "java/lang/IndexOutOfBoundsException") (by decide +kernel)) (va_Nw.use rfl (hE.1.2.1 _ (by simp [xC]))) hc1 hc2 hc3 ?_
    refine lv_astore_n (lv' := [(3, .ref q9), (0, .ref h0), (1, .int x1), (2, .ref b0)]) hx hb dL_bestLetter_12 rfl hl (by decide) rfl (fun ls hl => ?_)
    refine lv_iconst (v := 1) hx hb dL_bestLetter_13 (by decide) ?_
    refine W.widen (k := 1) (n := 6) (Nat.le_of_ble_eq_true rfl) (Nat.le_of_ble_eq_true rfl) ?_
    exact W.iret (v := 1) hx hb hr (fun t ht hW => ⟨⟨_, ((0 : Int32), M), rfl, ⟨(show (1 : Int32).toInt = 1 by decide).trans (by omega), fun h => absurd h (by omega)⟩, ⟨fun h => absurd h (by omega), fun _ => ⟨by rw [ht]; exact hP, hD⟩⟩⟩, hS.F ht⟩) hS.2.2 dL_bestLetter_14
  · obtain ⟨ev1, hk0⟩ := ev
    have hP := kp hP hk1
    generalize H1 = H at hP hS ⊢
    generalize locs1 = locs at hS ⊢
    refine lv_i2l (v := v.toInt64) hx hb dL_bestLetter_7 rfl ?_
    refine z_last hx hb hK hP hD hS 4 3 rfl rfl 0 (show (0 : Int32).toInt = 0 by decide) rfl (by decide) dL_bestLetter_8 (fun H locs hP hD hS => ?_)
    have hP : va_P D vwCl (LW h0 h1 h2 h3 b0 y1 y2 y3 y6 (n) (w) T P M (vp_updL O 0 (v).toInt64)) H := hP
    have hD : va_D (va_A (LW h0 h1 h2 h3 b0 y1 y2 y3 y6 (n) (w) T P M O) s.heap.size) (LW h0 h1 h2 h3 b0 y1 y2 y3 y6 (n) (w) T P M (vp_updL O 0 (v).toInt64)) := hD
    refine lv_goto (tgt := 15) hx hb dL_bestLetter_9 (by decide) ?_
    refine lv_iconst (v := 0) hx hb dL_bestLetter_15 (by decide) ?_
    refine W.widen (k := 1) (n := 6) (Nat.le_of_ble_eq_true rfl) (Nat.le_of_ble_eq_true rfl) ?_
    exact W.iret (v := 0) hx hb hr (fun t ht hW => ⟨⟨_, (v, M), rfl, ⟨(show (0 : Int32).toInt = 0 by decide).trans (by omega), fun _ => ev1⟩, ⟨fun _ => ⟨by rw [ht]; exact hP, hD⟩, fun h => absurd hk0 h⟩⟩, hS.F ht⟩) hS.2.2 dL_bestLetter_16
set_option maxHeartbeats 4000000 in
set_option maxRecDepth 100000 in
theorem c_L_sumMatch (l : Launch) (hlt : l.stackTraces = false) (D : va_G) (E : Nat × Nat × Nat) (h0 h1 h2 h3 b0 : Nat) (y1 y2 y3 y6 : ClassId) (sz n w : Nat) (T P M : Nat → Int32) (O : Nat → Int64) (hn : n ≤ 64) (hw : w ≤ 24) (hT : SymF T) (hPt : SymF P) (hD0 : va_D (fun _ => True) (LW h0 h1 h2 h3 b0 y1 y2 y3 y6 (n) (w) T P M O)) (x1 : Int32) (hEd : E.1 ≠ E.2.1 ∧ E.1 ≠ E.2.2 ∧ E.2.1 ≠ E.2.2) : Met l yL_sumMatch wsL_sumMatch ({ frames := 8, cells := 1, slots := 6, locals := 156 }) (va_Pc [.ref h0, .int x1, .ref b0] (cp D (LW h0 h1 h2 h3 b0 y1 y2 y3 y6 (n) (w) T P M O) (LT y1 y2 y3 y6) E (va_A (LW h0 h1 h2 h3 b0 y1 y2 y3 y6 (n) (w) T P M O) sz) sz)) (va_Qi (fun (r : Int32) (u : Int32 × (Nat → Int32)) => r.toInt = ((kMt 1 T P w n x1.toInt : Nat) : Int) ∧ (kMt 1 T P w n x1.toInt = 0 → u.1.toInt = fnd 1 T P w n x1.toInt)) (fun (u : Int32 × (Nat → Int32)) t => (kMt 1 T P w n x1.toInt = 0 → va_P D vwCl (LW h0 h1 h2 h3 b0 y1 y2 y3 y6 (n) (w) T P u.2 (vp_updL O 0 u.1.toInt64)) t.heap ∧ va_D (va_A (LW h0 h1 h2 h3 b0 y1 y2 y3 y6 (n) (w) T P M O) sz) (LW h0 h1 h2 h3 b0 y1 y2 y3 y6 (n) (w) T P u.2 (vp_updL O 0 u.1.toInt64))) ∧ (¬ kMt 1 T P w n x1.toInt = 0 → va_P D vwCl (LW h0 h1 h2 h3 b0 y1 y2 y3 y6 (n) (w) T P u.2 O) t.heap ∧ va_D (va_A (LW h0 h1 h2 h3 b0 y1 y2 y3 y6 (n) (w) T P M O) sz) (LW h0 h1 h2 h3 b0 y1 y2 y3 y6 (n) (w) T P u.2 O))) (va_A (LW h0 h1 h2 h3 b0 y1 y2 y3 y6 (n) (w) T P M O) sz)) 1 6 (va_A (LW h0 h1 h2 h3 b0 y1 y2 y3 y6 (n) (w) T P M O) sz) := by
  refine va_MetW (cc := cL_sumMatch) (maxL := 4) (ret := (some .int)) (hh := [(0, 9, 12, 21)]) (by decide) rfl ?_
  intro p e s m args below meth c s₁ B hml hv
  obtain ⟨rfl, hsz, hP, hK, hE⟩ := hv
  have hx := B.exec
  have hb := B.bytes
  have hr := B.returns
  have hts := atoms_spec (ws := wsL_sumMatch) B.pre
  have hown : s.vm.findClass RL = some m.cls := findClass_of_methodNamed B.named
  have hlocks := B.notSynchronized
  have htab : c.exceptionTable.toList = tableOf [(0, 9, 12, 21)] := vx_table (x := yL_sumMatch) B (hts (.codeWith yL_sumMatch cL_sumMatch 4 (some .int) [(0, 9, 12, 21)]) List.mem_cons_self)
  have hsz : s.heap.size = sz := hsz
  subst hsz
  have hD := hD0.self (sz := s.heap.size)
  have hA : ∀ q : Nat, s.heap.size ≤ q → (va_A (LW h0 h1 h2 h3 b0 y1 y2 y3 y6 (n) (w) T P M O) s.heap.size) q := fun q h => Or.inr h
  have hS : va_S (va_A (LW h0 h1 h2 h3 b0 y1 y2 y3 y6 (n) (w) T P M O) s.heap.size) s.heap s.heap [] := va_S.rf
  have hl := lv_entry ([.ref h0, .int x1, .ref b0]) (n := 4) (Nat.le_of_ble_eq_true rfl)
  rw [lg_entry_eq]
  generalize (lg_sl ([.ref h0, .int x1, .ref b0]) ++ List.replicate (4 - (lg_sl ([.ref h0, .int x1, .ref b0])).length) Slot.unset).toArray = ls at hl ⊢
  have hl : lv_has ls 4 [(0, .ref h0), (1, .int x1), (2, .ref b0)] := hl
  refine lv_aload_n hx hb dL_sumMatch_0 rfl (lv_at hl 2 rfl) ?_
  refine lv_iconst (v := 0) hx hb dL_sumMatch_1 (by decide) ?_
  refine lv_aload_n hx hb dL_sumMatch_2 rfl (lv_at hl 0 rfl) ?_
  refine lv_iload_n hx hb dL_sumMatch_3 rfl (lv_at hl 1 rfl) ?_
  have hPx := hP.sub (ws' := (XW h0 h1 h2 h3 y1 y2 y3 (n) (w) T P M)) [0, 1, 2, 3] rfl
  have hKx := hK.sub (tys' := (XT y1 y2 y3)) [0, 1, 2] rfl
  refine vx_calli (vx_runV (As := [.int x1]) (rest := [.int 0, .ref b0]) ⟨hx, hb, hml, hown, hts⟩ (c_X1_sumMatch l hlt D E h0 h1 h2 h3 y1 y2 y3 s.heap.size (n) (w) T P M hn hw hT hPt x1 hEd) (cwV 1 hts gL_sumMatch_X1_sumMatch rfl rfl rfl (by decide +kernel) ⟨Nat.le_of_ble_eq_true rfl, Nat.le_of_ble_eq_true rfl⟩) ⟨cp.blind, va_recv hK hP (ci := 0) (q0 := 0) rfl rfl, fun U hU hW => ⟨rfl, cp.call hPx hKx hE hS (fr0 hS hA) hU hW⟩⟩ rfl rfl hl.1 rfl (lv_room (Nat.le_of_ble_eq_true rfl)) dL_sumMatch_4 ⟨Nat.le_of_ble_eq_true rfl, Nat.le_of_ble_eq_true rfl⟩) hS (fun q _ h => (fr0 hS hA) q h) (fr0 hS hA) (fun q _ h => fr0 hS hA q h) (fun X ce q9 u t H1 locs1 ht hvm _ hB hz1 hk1 hS hc1 hc2 hc3 => ?_) (fun v u t H1 locs1 ht hvm ev hB hz1 hk1 hS => ?_)
  · have hP := kp hP hk1
    generalize H1 = H at hP hS hc1 ⊢
    generalize locs1 = locs at hS ⊢
    have hB : X = "java/lang/IndexOutOfBoundsException" ∧ kMt 1 T P w n x1.toInt = 1 := hB
    obtain ⟨rfl, hk0⟩ := hB
    refine vx_catch (E := "java/lang/IndexOutOfBoundsException") (name := "java/lang/IndexOutOfBoundsException") hown [] ⟨0, 9, 12, 21⟩ [] (by rw [htab]; rfl) (fun z hz => nomatch hz) (by decide) (by decide) (hts (.classLink RL 21 "java/lang/IndexOutOfBoundsException") (by decide +kernel)) (va_Nw.use rfl (hE.1.2.1 _ (by simp [xC]))) hc1 hc2 hc3 ?_
    refine lv_astore_n (lv' := [(3, .ref q9), (0, .ref h0), (1, .int x1), (2, .ref b0)]) hx hb dL_sumMatch_12 rfl hl (by decide) rfl (fun ls hl => ?_)
    refine lv_iconst (v := 1) hx hb dL_sumMatch_13 (by decide) ?_
    refine W.widen (k := 1) (n := 6) (Nat.le_of_ble_eq_true rfl) (Nat.le_of_ble_eq_true rfl) ?_
    exact W.iret (v := 1) hx hb hr (fun t ht hW => ⟨⟨_, ((0 : Int32), M), rfl, ⟨(show (1 : Int32).toInt = 1 by decide).trans (by omega), fun h => absurd h (by omega)⟩, ⟨fun h => absurd h (by omega), fun _ => ⟨by rw [ht]; exact hP, hD⟩⟩⟩, hS.F ht⟩) hS.2.2 dL_sumMatch_14
  · obtain ⟨ev1, hk0⟩ := ev
    have hP := kp hP hk1
    generalize H1 = H at hP hS ⊢
    generalize locs1 = locs at hS ⊢
    refine lv_i2l (v := v.toInt64) hx hb dL_sumMatch_7 rfl ?_
    refine z_last hx hb hK hP hD hS 4 3 rfl rfl 0 (show (0 : Int32).toInt = 0 by decide) rfl (by decide) dL_sumMatch_8 (fun H locs hP hD hS => ?_)
    have hP : va_P D vwCl (LW h0 h1 h2 h3 b0 y1 y2 y3 y6 (n) (w) T P M (vp_updL O 0 (v).toInt64)) H := hP
    have hD : va_D (va_A (LW h0 h1 h2 h3 b0 y1 y2 y3 y6 (n) (w) T P M O) s.heap.size) (LW h0 h1 h2 h3 b0 y1 y2 y3 y6 (n) (w) T P M (vp_updL O 0 (v).toInt64)) := hD
    refine lv_goto (tgt := 15) hx hb dL_sumMatch_9 (by decide) ?_
    refine lv_iconst (v := 0) hx hb dL_sumMatch_15 (by decide) ?_
    refine W.widen (k := 1) (n := 6) (Nat.le_of_ble_eq_true rfl) (Nat.le_of_ble_eq_true rfl) ?_
    exact W.iret (v := 0) hx hb hr (fun t ht hW => ⟨⟨_, (v, M), rfl, ⟨(show (0 : Int32).toInt = 0 by decide).trans (by omega), fun _ => ev1⟩, ⟨fun _ => ⟨by rw [ht]; exact hP, hD⟩, fun h => absurd hk0 h⟩⟩, hS.F ht⟩) hS.2.2 dL_sumMatch_16
set_option maxHeartbeats 4000000 in
set_option maxRecDepth 100000 in
theorem c_L_orderMatch (l : Launch) (hlt : l.stackTraces = false) (D : va_G) (E : Nat × Nat × Nat) (h0 h1 h2 h3 b0 : Nat) (y1 y2 y3 y6 : ClassId) (sz n w : Nat) (T P M : Nat → Int32) (O : Nat → Int64) (hn : n ≤ 64) (hw : w ≤ 24) (hT : SymF T) (hPt : SymF P) (hD0 : va_D (fun _ => True) (LW h0 h1 h2 h3 b0 y1 y2 y3 y6 (n) (w) T P M O)) (x1 : Int32) (hEd : E.1 ≠ E.2.1 ∧ E.1 ≠ E.2.2 ∧ E.2.1 ≠ E.2.2) : Met l yL_orderMatch wsL_orderMatch ({ frames := 8, cells := 1, slots := 6, locals := 156 }) (va_Pc [.ref h0, .int x1, .ref b0] (cp D (LW h0 h1 h2 h3 b0 y1 y2 y3 y6 (n) (w) T P M O) (LT y1 y2 y3 y6) E (va_A (LW h0 h1 h2 h3 b0 y1 y2 y3 y6 (n) (w) T P M O) sz) sz)) (va_Qi (fun (r : Int32) (u : Int32 × (Nat → Int32)) => r.toInt = ((kMt 2 T P w n x1.toInt : Nat) : Int) ∧ (kMt 2 T P w n x1.toInt = 0 → u.1.toInt = fnd 2 T P w n x1.toInt)) (fun (u : Int32 × (Nat → Int32)) t => (kMt 2 T P w n x1.toInt = 0 → va_P D vwCl (LW h0 h1 h2 h3 b0 y1 y2 y3 y6 (n) (w) T P u.2 (vp_updL O 0 u.1.toInt64)) t.heap ∧ va_D (va_A (LW h0 h1 h2 h3 b0 y1 y2 y3 y6 (n) (w) T P M O) sz) (LW h0 h1 h2 h3 b0 y1 y2 y3 y6 (n) (w) T P u.2 (vp_updL O 0 u.1.toInt64))) ∧ (¬ kMt 2 T P w n x1.toInt = 0 → va_P D vwCl (LW h0 h1 h2 h3 b0 y1 y2 y3 y6 (n) (w) T P u.2 O) t.heap ∧ va_D (va_A (LW h0 h1 h2 h3 b0 y1 y2 y3 y6 (n) (w) T P M O) sz) (LW h0 h1 h2 h3 b0 y1 y2 y3 y6 (n) (w) T P u.2 O))) (va_A (LW h0 h1 h2 h3 b0 y1 y2 y3 y6 (n) (w) T P M O) sz)) 1 6 (va_A (LW h0 h1 h2 h3 b0 y1 y2 y3 y6 (n) (w) T P M O) sz) := by
  refine va_MetW (cc := cL_orderMatch) (maxL := 4) (ret := (some .int)) (hh := [(0, 9, 12, 21)]) (by decide) rfl ?_
  intro p e s m args below meth c s₁ B hml hv
  obtain ⟨rfl, hsz, hP, hK, hE⟩ := hv
  have hx := B.exec
  have hb := B.bytes
  have hr := B.returns
  have hts := atoms_spec (ws := wsL_orderMatch) B.pre
  have hown : s.vm.findClass RL = some m.cls := findClass_of_methodNamed B.named
  have hlocks := B.notSynchronized
  have htab : c.exceptionTable.toList = tableOf [(0, 9, 12, 21)] := vx_table (x := yL_orderMatch) B (hts (.codeWith yL_orderMatch cL_orderMatch 4 (some .int) [(0, 9, 12, 21)]) List.mem_cons_self)
  have hsz : s.heap.size = sz := hsz
  subst hsz
  have hD := hD0.self (sz := s.heap.size)
  have hA : ∀ q : Nat, s.heap.size ≤ q → (va_A (LW h0 h1 h2 h3 b0 y1 y2 y3 y6 (n) (w) T P M O) s.heap.size) q := fun q h => Or.inr h
  have hS : va_S (va_A (LW h0 h1 h2 h3 b0 y1 y2 y3 y6 (n) (w) T P M O) s.heap.size) s.heap s.heap [] := va_S.rf
  have hl := lv_entry ([.ref h0, .int x1, .ref b0]) (n := 4) (Nat.le_of_ble_eq_true rfl)
  rw [lg_entry_eq]
  generalize (lg_sl ([.ref h0, .int x1, .ref b0]) ++ List.replicate (4 - (lg_sl ([.ref h0, .int x1, .ref b0])).length) Slot.unset).toArray = ls at hl ⊢
  have hl : lv_has ls 4 [(0, .ref h0), (1, .int x1), (2, .ref b0)] := hl
  refine lv_aload_n hx hb dL_orderMatch_0 rfl (lv_at hl 2 rfl) ?_
  refine lv_iconst (v := 0) hx hb dL_orderMatch_1 (by decide) ?_
  refine lv_aload_n hx hb dL_orderMatch_2 rfl (lv_at hl 0 rfl) ?_
  refine lv_iload_n hx hb dL_orderMatch_3 rfl (lv_at hl 1 rfl) ?_
  have hPx := hP.sub (ws' := (XW h0 h1 h2 h3 y1 y2 y3 (n) (w) T P M)) [0, 1, 2, 3] rfl
  have hKx := hK.sub (tys' := (XT y1 y2 y3)) [0, 1, 2] rfl
  refine vx_calli (vx_runV (As := [.int x1]) (rest := [.int 0, .ref b0]) ⟨hx, hb, hml, hown, hts⟩ (c_X1_orderMatch l hlt D E h0 h1 h2 h3 y1 y2 y3 s.heap.size (n) (w) T P M hn hw hT hPt x1 hEd) (cwV 1 hts gL_orderMatch_X1_orderMatch rfl rfl rfl (by decide +kernel) ⟨Nat.le_of_ble_eq_true rfl, Nat.le_of_ble_eq_true rfl⟩) ⟨cp.blind, va_recv hK hP (ci := 0) (q0 := 0) rfl rfl, fun U hU hW => ⟨rfl, cp.call hPx hKx hE hS (fr0 hS hA) hU hW⟩⟩ rfl rfl hl.1 rfl (lv_room (Nat.le_of_ble_eq_true rfl)) dL_orderMatch_4 ⟨Nat.le_of_ble_eq_true rfl, Nat.le_of_ble_eq_true rfl⟩) hS (fun q _ h => (fr0 hS hA) q h) (fr0 hS hA) (fun q _ h => fr0 hS hA q h) (fun X ce q9 u t H1 locs1 ht hvm _ hB hz1 hk1 hS hc1 hc2 hc3 => ?_) (fun v u t H1 locs1 ht hvm ev hB hz1 hk1 hS => ?_)
  · have hP := kp hP hk1
    generalize H1 = H at hP hS hc1 ⊢
    generalize locs1 = locs at hS ⊢
    have hB : X = "java/lang/IndexOutOfBoundsException" ∧ kMt 2 T P w n x1.toInt = 1 := hB
    obtain ⟨rfl, hk0⟩ := hB
    refine vx_catch (E := "java/lang/IndexOutOfBoundsException") (name := "java/lang/IndexOutOfBoundsException") hown [] ⟨0, 9, 12, 21⟩ [] (by rw [htab]; rfl) (fun z hz => nomatch hz) (by decide) (by decide) (hts (.classLink RL 21 "java/lang/IndexOutOfBoundsException") (by decide +kernel)) (va_Nw.use rfl (hE.1.2.1 _ (by simp [xC]))) hc1 hc2 hc3 ?_
    refine lv_astore_n (lv' := [(3, .ref q9), (0, .ref h0), (1, .int x1), (2, .ref b0)]) hx hb dL_orderMatch_12 rfl hl (by decide) rfl (fun ls hl => ?_)
    refine lv_iconst (v := 1) hx hb dL_orderMatch_13 (by decide) ?_
    refine W.widen (k := 1) (n := 6) (Nat.le_of_ble_eq_true rfl) (Nat.le_of_ble_eq_true rfl) ?_
    exact W.iret (v := 1) hx hb hr (fun t ht hW => ⟨⟨_, ((0 : Int32), M), rfl, ⟨(show (1 : Int32).toInt = 1 by decide).trans (by omega), fun h => absurd h (by omega)⟩, ⟨fun h => absurd h (by omega), fun _ => ⟨by rw [ht]; exact hP, hD⟩⟩⟩, hS.F ht⟩) hS.2.2 dL_orderMatch_14
  · obtain ⟨ev1, hk0⟩ := ev
    have hP := kp hP hk1
    generalize H1 = H at hP hS ⊢
    generalize locs1 = locs at hS ⊢
    refine lv_i2l (v := v.toInt64) hx hb dL_orderMatch_7 rfl ?_
    refine z_last hx hb hK hP hD hS 4 3 rfl rfl 0 (show (0 : Int32).toInt = 0 by decide) rfl (by decide) dL_orderMatch_8 (fun H locs hP hD hS => ?_)
    have hP : va_P D vwCl (LW h0 h1 h2 h3 b0 y1 y2 y3 y6 (n) (w) T P M (vp_updL O 0 (v).toInt64)) H := hP
    have hD : va_D (va_A (LW h0 h1 h2 h3 b0 y1 y2 y3 y6 (n) (w) T P M O) s.heap.size) (LW h0 h1 h2 h3 b0 y1 y2 y3 y6 (n) (w) T P M (vp_updL O 0 (v).toInt64)) := hD
    refine lv_goto (tgt := 15) hx hb dL_orderMatch_9 (by decide) ?_
    refine lv_iconst (v := 0) hx hb dL_orderMatch_15 (by decide) ?_
    refine W.widen (k := 1) (n := 6) (Nat.le_of_ble_eq_true rfl) (Nat.le_of_ble_eq_true rfl) ?_
    exact W.iret (v := 0) hx hb hr (fun t ht hW => ⟨⟨_, (v, M), rfl, ⟨(show (0 : Int32).toInt = 0 by decide).trans (by omega), fun _ => ev1⟩, ⟨fun _ => ⟨by rw [ht]; exact hP, hD⟩, fun h => absurd hk0 h⟩⟩, hS.F ht⟩) hS.2.2 dL_orderMatch_16
set_option maxHeartbeats 4000000 in
set_option maxRecDepth 100000 in
theorem c_L_hasPeriod (l : Launch) (hlt : l.stackTraces = false) (D : va_G) (E : Nat × Nat × Nat) (h0 h1 h2 h3 b0 : Nat) (y1 y2 y3 y6 : ClassId) (sz n w : Nat) (T P M : Nat → Int32) (O : Nat → Int64) (hn : n ≤ 64) (hw : w ≤ 24) (hT : SymF T) (hPt : SymF P) (hD0 : va_D (fun _ => True) (LW h0 h1 h2 h3 b0 y1 y2 y3 y6 (n) (w) T P M O)) (x1 : Int32) : Met l yL_hasPeriod wsL_hasPeriod ({ frames := 7, cells := 1, slots := 6, locals := 111 }) (va_Pc [.ref h0, .int x1, .ref b0] (cp D (LW h0 h1 h2 h3 b0 y1 y2 y3 y6 (n) (w) T P M O) (LT y1 y2 y3 y6) E (va_A (LW h0 h1 h2 h3 b0 y1 y2 y3 y6 (n) (w) T P M O) sz) sz)) (va_Qi (fun (r : Int32) (u : Int32 × (Nat → Int32)) => r.toInt = ((kHP x1.toInt : Nat) : Int) ∧ (kHP x1.toInt = 0 → u.1.toInt = bI (per T n x1.toInt.toNat))) (fun (u : Int32 × (Nat → Int32)) t => (kHP x1.toInt = 0 → va_P D vwCl (LW h0 h1 h2 h3 b0 y1 y2 y3 y6 (n) (w) T P u.2 (vp_updL O 0 u.1.toInt64)) t.heap ∧ va_D (va_A (LW h0 h1 h2 h3 b0 y1 y2 y3 y6 (n) (w) T P M O) sz) (LW h0 h1 h2 h3 b0 y1 y2 y3 y6 (n) (w) T P u.2 (vp_updL O 0 u.1.toInt64))) ∧ (¬ kHP x1.toInt = 0 → va_P D vwCl (LW h0 h1 h2 h3 b0 y1 y2 y3 y6 (n) (w) T P u.2 O) t.heap ∧ va_D (va_A (LW h0 h1 h2 h3 b0 y1 y2 y3 y6 (n) (w) T P M O) sz) (LW h0 h1 h2 h3 b0 y1 y2 y3 y6 (n) (w) T P u.2 O))) (va_A (LW h0 h1 h2 h3 b0 y1 y2 y3 y6 (n) (w) T P M O) sz)) 1 6 (va_A (LW h0 h1 h2 h3 b0 y1 y2 y3 y6 (n) (w) T P M O) sz) := by
  refine va_MetW (cc := cL_hasPeriod) (maxL := 4) (ret := (some .int)) (hh := [(0, 16, 19, 13)]) (by decide) rfl ?_
  intro p e s m args below meth c s₁ B hml hv
  obtain ⟨rfl, hsz, hP, hK, hE⟩ := hv
  have hx := B.exec
  have hb := B.bytes
  have hr := B.returns
  have hts := atoms_spec (ws := wsL_hasPeriod) B.pre
  have hown : s.vm.findClass RL = some m.cls := findClass_of_methodNamed B.named
  have hlocks := B.notSynchronized
  have htab : c.exceptionTable.toList = tableOf [(0, 16, 19, 13)] := vx_table (x := yL_hasPeriod) B (hts (.codeWith yL_hasPeriod cL_hasPeriod 4 (some .int) [(0, 16, 19, 13)]) List.mem_cons_self)
  have hsz : s.heap.size = sz := hsz
  subst hsz
  have hD := hD0.self (sz := s.heap.size)
  have hA : ∀ q : Nat, s.heap.size ≤ q → (va_A (LW h0 h1 h2 h3 b0 y1 y2 y3 y6 (n) (w) T P M O) s.heap.size) q := fun q h => Or.inr h
  have hS : va_S (va_A (LW h0 h1 h2 h3 b0 y1 y2 y3 y6 (n) (w) T P M O) s.heap.size) s.heap s.heap [] := va_S.rf
  have hl := lv_entry ([.ref h0, .int x1, .ref b0]) (n := 4) (Nat.le_of_ble_eq_true rfl)
  rw [lg_entry_eq]
  generalize (lg_sl ([.ref h0, .int x1, .ref b0]) ++ List.replicate (4 - (lg_sl ([.ref h0, .int x1, .ref b0])).length) Slot.unset).toArray = ls at hl ⊢
  have hl : lv_has ls 4 [(0, .ref h0), (1, .int x1), (2, .ref b0)] := hl
  refine lv_aload_n hx hb dL_hasPeriod_0 rfl (lv_at hl 2 rfl) ?_
  refine lv_iconst (v := 0) hx hb dL_hasPeriod_1 (by decide) ?_
  refine lv_aload_n hx hb dL_hasPeriod_2 rfl (lv_at hl 0 rfl) ?_
  refine lv_iload_n hx hb dL_hasPeriod_3 rfl (lv_at hl 1 rfl) ?_
  have hPx := hP.sub (ws' := (XW h0 h1 h2 h3 y1 y2 y3 (n) (w) T P M)) [0, 1, 2, 3] rfl
  have hKx := hK.sub (tys' := (XT y1 y2 y3)) [0, 1, 2] rfl
  refine vx_calli (vx_runV (As := [.int x1]) (rest := [.int 0, .ref b0]) ⟨hx, hb, hml, hown, hts⟩ (c_X1_hasPeriod l hlt D E h0 h1 h2 h3 y1 y2 y3 s.heap.size (n) (w) T P M hn hw hT hPt x1) (cwV 1 hts gL_hasPeriod_X1_hasPeriod rfl rfl rfl (by decide +kernel) ⟨Nat.le_of_ble_eq_true rfl, Nat.le_of_ble_eq_true rfl⟩) ⟨cp.blind, va_recv hK hP (ci := 0) (q0 := 0) rfl rfl, fun U hU hW => ⟨rfl, cp.call hPx hKx hE hS (fr0 hS hA) hU hW⟩⟩ rfl rfl hl.1 rfl (lv_room (Nat.le_of_ble_eq_true rfl)) dL_hasPeriod_4 ⟨Nat.le_of_ble_eq_true rfl, Nat.le_of_ble_eq_true rfl⟩) hS (fun q _ h => (fr0 hS hA) q h) (fr0 hS hA) (fun q _ h => fr0 hS hA q h) (fun X ce q9 u t H1 locs1 ht hvm _ hB hz1 hk1 hS hc1 hc2 hc3 => ?_) (fun v u t H1 locs1 ht hvm ev hB hz1 hk1 hS => ?_)
  · have hP := kp hP hk1
    generalize H1 = H at hP hS hc1 ⊢
    generalize locs1 = locs at hS ⊢
    have hB : X = "java/lang/IllegalArgumentException" ∧ kHP x1.toInt = 1 := hB
    obtain ⟨rfl, hk0⟩ := hB
    refine vx_catch (E := "java/lang/IllegalArgumentException") (name := "java/lang/IllegalArgumentException") hown [] ⟨0, 16, 19, 13⟩ [] (by rw [htab]; rfl) (fun z hz => nomatch hz) (by decide) (by decide) (hts (.classLink RL 13 "java/lang/IllegalArgumentException") (by decide +kernel)) (va_Nw.use rfl (hE.1.2.1 _ (by simp [xC]))) hc1 hc2 hc3 ?_
    refine lv_astore_n (lv' := [(3, .ref q9), (0, .ref h0), (1, .int x1), (2, .ref b0)]) hx hb dL_hasPeriod_19 rfl hl (by decide) rfl (fun ls hl => ?_)
    refine lv_iconst (v := 1) hx hb dL_hasPeriod_20 (by decide) ?_
    refine W.widen (k := 1) (n := 6) (Nat.le_of_ble_eq_true rfl) (Nat.le_of_ble_eq_true rfl) ?_
    exact W.iret (v := 1) hx hb hr (fun t ht hW => ⟨⟨_, ((0 : Int32), M), rfl, ⟨(show (1 : Int32).toInt = 1 by decide).trans (by omega), fun h => absurd h (by omega)⟩, ⟨fun h => absurd h (by omega), fun _ => ⟨by rw [ht]; exact hP, hD⟩⟩⟩, hS.F ht⟩) hS.2.2 dL_hasPeriod_21
  · obtain ⟨ev1, hk0⟩ := ev
    have hP := kp hP hk1
    generalize H1 = H at hP hS ⊢
    generalize locs1 = locs at hS ⊢
    refine zb_if_eq (tgt := 14) hx hb dL_hasPeriod_7 (by decide) ev1 (fun c7 => ?_) (fun c7 => ?_)
    · refine lv_lconst (v := (0 : Int32).toInt64) hx hb dL_hasPeriod_14 (by decide) ?_
      refine z_last hx hb hK hP hD hS 4 3 rfl rfl 0 (show (0 : Int32).toInt = 0 by decide) rfl (by decide) dL_hasPeriod_15 (fun H locs hP hD hS => ?_)
      have hP : va_P D vwCl (LW h0 h1 h2 h3 b0 y1 y2 y3 y6 (n) (w) T P M (vp_updL O 0 (0 : Int32).toInt64)) H := hP
      have hD : va_D (va_A (LW h0 h1 h2 h3 b0 y1 y2 y3 y6 (n) (w) T P M O) s.heap.size) (LW h0 h1 h2 h3 b0 y1 y2 y3 y6 (n) (w) T P M (vp_updL O 0 (0 : Int32).toInt64)) := hD
      refine lv_goto (tgt := 22) hx hb dL_hasPeriod_16 (by decide) ?_
      refine lv_iconst (v := 0) hx hb dL_hasPeriod_22 (by decide) ?_
      refine W.widen (k := 1) (n := 6) (Nat.le_of_ble_eq_true rfl) (Nat.le_of_ble_eq_true rfl) ?_
      exact W.iret (v := 0) hx hb hr (fun t ht hW => ⟨⟨_, ((0 : Int32), M), rfl, ⟨(show (0 : Int32).toInt = 0 by decide).trans (by omega), fun _ => by rw [c7]; exact (show (0 : Int32).toInt = bI false by decide)⟩, ⟨fun _ => ⟨by rw [ht]; exact hP, hD⟩, fun h => absurd hk0 h⟩⟩, hS.F ht⟩) hS.2.2 dL_hasPeriod_23
    · refine lv_lconst (v := (1 : Int32).toInt64) hx hb dL_hasPeriod_10 (by decide) ?_
      refine lv_goto (tgt := 15) hx hb dL_hasPeriod_11 (by decide) ?_
      refine z_last hx hb hK hP hD hS 4 3 rfl rfl 0 (show (0 : Int32).toInt = 0 by decide) rfl (by decide) dL_hasPeriod_15 (fun H locs hP hD hS => ?_)
      have hP : va_P D vwCl (LW h0 h1 h2 h3 b0 y1 y2 y3 y6 (n) (w) T P M (vp_updL O 0 (1 : Int32).toInt64)) H := hP
      have hD : va_D (va_A (LW h0 h1 h2 h3 b0 y1 y2 y3 y6 (n) (w) T P M O) s.heap.size) (LW h0 h1 h2 h3 b0 y1 y2 y3 y6 (n) (w) T P M (vp_updL O 0 (1 : Int32).toInt64)) := hD
      refine lv_goto (tgt := 22) hx hb dL_hasPeriod_16 (by decide) ?_
      refine lv_iconst (v := 0) hx hb dL_hasPeriod_22 (by decide) ?_
      refine W.widen (k := 1) (n := 6) (Nat.le_of_ble_eq_true rfl) (Nat.le_of_ble_eq_true rfl) ?_
      exact W.iret (v := 0) hx hb hr (fun t ht hW => ⟨⟨_, ((1 : Int32), M), rfl, ⟨(show (0 : Int32).toInt = 0 by decide).trans (by omega), fun _ => by rw [c7]; exact (show (1 : Int32).toInt = bI true by decide)⟩, ⟨fun _ => ⟨by rw [ht]; exact hP, hD⟩, fun h => absurd hk0 h⟩⟩, hS.F ht⟩) hS.2.2 dL_hasPeriod_23
