set_option maxHeartbeats 4000000 in
set_option maxRecDepth 100000 in
theorem c_X1_appendText (l : Launch) (hlt : l.stackTraces = false) (D : va_G) (E : Nat × Nat × Nat) (h0 h1 h2 h3 : Nat) (y1 y2 y3 : ClassId) (sz n w : Nat) (T P M : Nat → Int32) (hn : n ≤ 64) (hw : w ≤ 24) (hT : SymF T) (hPt : SymF P) (hD0 : va_D (fun _ => True) (XW h0 h1 h2 h3 y1 y2 y3 (n) (w) T P M)) (x1 : Int32) : vx_Met l yX1_appendText wsX1_appendText ({ frames := 7, cells := 2, slots := 12, locals := 110 }) (va_Pc [.ref h0, .int x1] (cp D (XW h0 h1 h2 h3 y1 y2 y3 (n) (w) T P M) (XT y1 y2 y3) E (va_A (XW h0 h1 h2 h3 y1 y2 y3 (n) (w) T P M) sz) sz)) (va_Qi (fun (r : Int32) (_ : Unit) => r.toInt = ((n + 1 : Nat) : Int) ∧ kAT n x1.toInt = 0) (fun _ t => va_P D vwCl (XW h0 h1 h2 h3 y1 y2 y3 (n + 1) (w) (upd T (n) x1) P M) t.heap ∧ va_D (va_A (XW h0 h1 h2 h3 y1 y2 y3 (n) (w) T P M) sz) (XW h0 h1 h2 h3 y1 y2 y3 (n + 1) (w) (upd T (n) x1) P M)) (va_A (XW h0 h1 h2 h3 y1 y2 y3 (n) (w) T P M) sz)) (tX (fun X => (X = "java/lang/IllegalArgumentException" ∧ kAT n x1.toInt = 1) ∨ (X = "java/lang/IllegalStateException" ∧ kAT n x1.toInt = 2)) sz) 2 12 (va_A (XW h0 h1 h2 h3 y1 y2 y3 (n) (w) T P M) sz) := by
  refine vx_ofW (cc := cX1_appendText) (maxL := 2) (ret := (some .int)) (by decide) rfl ?_
  intro p e s m args below meth c s₁ B hml hnt hv
  obtain ⟨rfl, hsz, hP, hK, hE⟩ := hv
  have hx := B.exec
  have hb := B.bytes
  have hr := B.returns
  have hts := atoms_spec (ws := wsX1_appendText) B.pre
  have hown : s.vm.findClass RX1 = some m.cls := findClass_of_methodNamed B.named
  have hlocks := B.notSynchronized
  have hsz : s.heap.size = sz := hsz
  subst hsz
  have hD := hD0.self (sz := s.heap.size)
  have hA : ∀ q : Nat, s.heap.size ≤ q → (va_A (XW h0 h1 h2 h3 y1 y2 y3 (n) (w) T P M) s.heap.size) q := fun q h => Or.inr h
  have hS : va_S (va_A (XW h0 h1 h2 h3 y1 y2 y3 (n) (w) T P M) s.heap.size) s.heap s.heap [] := va_S.rf
  have hEb := hE
  have hAb := hA
  have hE := XEnv.narrow0 hE (B := va_A [] s.heap.size) (fun q h => nA0 h)
  have hA : ∀ q : Nat, s.heap.size ≤ q → va_A [] s.heap.size q := fun q h => Or.inr h
  have hS : va_S (va_A [] s.heap.size) s.heap s.heap [] := va_S.rf
  have inn : (nI n).toInt = (n : Int) := nI_toInt (by omega)
  have iww : (nI w).toInt = (w : Int) := nI_toInt (by omega)
  have hf_text := hts (.fieldLink RX1 9 "BlankMatcher" "text" "[I") (by decide +kernel)
  have hf_textSize := hts (.fieldLink RX1 19 "BlankMatcher" "textSize" "I") (by decide +kernel)
  have hpl : pl n w = n + 1 - w := rfl
  have hin0 : ∀ w ∈ wsX10, w ∈ wsX1_appendText := by decide +kernel
  have g_x1 := rg x1
  have hl := lv_entry ([.ref h0, .int x1]) (n := 2) (Nat.le_of_ble_eq_true rfl)
  rw [lg_entry_eq]
  generalize (lg_sl ([.ref h0, .int x1]) ++ List.replicate (2 - (lg_sl ([.ref h0, .int x1])).length) Slot.unset).toArray = ls at hl ⊢
  have hl : lv_has ls 2 [(0, .ref h0), (1, .int x1)] := hl
  refine lv_iload_n hx hb dX1_appendText_0 rfl (lv_at hl 1 rfl) ?_
  refine vx_callv (vx_runS (As := [.int x1]) (rest := []) ⟨hx, hb, hml, hown, hts⟩ (c_X1_requireSymbol l hlt D E s.heap.size x1) (va_cwS 1 hts gX1_appendText_X1_requireSymbol rfl rfl rfl (by decide +kernel) ⟨Nat.le_of_ble_eq_true rfl, Nat.le_of_ble_eq_true rfl⟩) ⟨cp.blind, fun U hU hW => ⟨rfl, cp.call (hP.sub (ws' := []) [] rfl) (hK.sub (tys' := []) [] rfl) hE hS (fr0 hS hA) hU hW⟩⟩ rfl rfl hl.1 rfl (lv_room (Nat.le_of_ble_eq_true rfl)) dX1_appendText_1 ⟨Nat.le_of_ble_eq_true rfl, Nat.le_of_ble_eq_true rfl⟩) hS (fun q _ h => (fr0 hS hA) q h) (fr0 hS hA) (fun q _ h => fr0 hS hA q h) (fun X ce q9 u t H1 locs1 ht hvm _ hB hz1 hk1 hS hc1 hc2 hc3 => ?_) (fun u t H1 locs1 ht hvm e1 hB hz1 hk1 hS => ?_)
  · refine vx_out (fun x h => (hnt x h).elim) hlocks hc1 hc2 hc3 (fun t ht2 _ => tX.out hS ht2 (Or.inl ⟨hB.1, by have hB2 := hB.2; unfold kAT; (repeat' split) <;> omega⟩)) (fun z hz => nA0 (hS.2.2 z hz)) (Nat.le_of_ble_eq_true rfl) (Nat.le_of_ble_eq_true rfl)
  have hP := kp hP hk1
  generalize H1 = H at hP hS ⊢
  generalize locs1 = locs at hS ⊢
  obtain ⟨f1_0, f1_1⟩ := e1
  refine lv_aload_n hx hb dX1_appendText_4 rfl (lv_at hl 0 rfl) ?_
  refine va_get (D := D) (ci := 0) (v := .int (nI n)) (C := RX1) (T := TX1) (N := 5) hx hb hts hin0 hown hK hP 0 rfl rfl 3 (by decide) hf_textSize (fun _ h9 => h9) rfl dX1_appendText_5 ?_
  refine lv_bipush (v := 64) hx hb dX1_appendText_8 (by decide) ?_
  refine z_icmp_lt (tgt := 23) hx hb dX1_appendText_10 (by decide) inn (show (64 : Int32).toInt = 64 by decide) (fun c10 => ?_) (fun c10 => ?_)
  · have _u := True.intro
    refine lv_aload_n hx hb dX1_appendText_23 rfl (lv_at hl 0 rfl) ?_
    refine va_get (D := D) (ci := 0) (v := .ref h1) (C := RX1) (T := TX1) (N := 5) hx hb hts hin0 hown hK hP 0 rfl rfl 0 (by decide) hf_text (fun _ h9 => h9) rfl dX1_appendText_24 ?_
    refine lv_aload_n hx hb dX1_appendText_27 rfl (lv_at hl 0 rfl) ?_
    refine va_get (D := D) (ci := 0) (v := .int (nI n)) (C := RX1) (T := TX1) (N := 5) hx hb hts hin0 hown hK hP 0 rfl rfl 3 (by decide) hf_textSize (fun _ h9 => h9) rfl dX1_appendText_28 ?_
    refine lv_iload_n hx hb dX1_appendText_31 rfl (lv_at hl 1 rfl) ?_
    have hS : va_S (va_A (XW h0 h1 h2 h3 y1 y2 y3 (n) (w) T P M) s.heap.size) s.heap _ _ := hS.mono0 (fun q h => nA0 h)
    have hE := hEb
    have hA := hAb
    refine z_iast hx hb hK hP hD hS 1 0 rfl rfl (n) inn (by omega) (by omega) dX1_appendText_32 (fun H locs hP hD hS => ?_)
    have hP : va_P D vwCl (XW h0 h1 h2 h3 y1 y2 y3 (n) (w) (upd T (n) x1) P M) H := hP
    have hD : va_D (va_A (XW h0 h1 h2 h3 y1 y2 y3 (n) (w) T P M) s.heap.size) (XW h0 h1 h2 h3 y1 y2 y3 (n) (w) (upd T (n) x1) P M) := hD
    refine lv_aload_n hx hb dX1_appendText_33 rfl (lv_at hl 0 rfl) ?_
    refine lv_dup hx hb dX1_appendText_34 rfl ?_
    refine va_get (D := D) (ci := 0) (v := .int (nI n)) (C := RX1) (T := TX1) (N := 5) hx hb hts hin0 hown hK hP 0 rfl rfl 3 (by decide) hf_textSize (fun _ h9 => h9) rfl dX1_appendText_35 ?_
    refine lv_iconst (v := 1) hx hb dX1_appendText_38 (by decide) ?_
    refine z_iadd hx hb dX1_appendText_39 inn (show (1 : Int32).toInt = 1 by decide) (by omega) (by omega) (fun v39 e39 => ?_)
    refine lv_as (y := nI (n + 1)) (nIe (Eq.trans e39 (by omega))) ?_
    refine va_put (D := D) (ci := 0) (v := .int (nI (n + 1))) (ty := .int) (C := RX1) (T := TX1) (N := 5) hx hb hts hin0 tyX1 tyX1_ok nmX1 hown hK hP hD hS 0 rfl rfl 3 (by decide) hf_textSize (fun _ h9 => h9) rfl (by decide +kernel) rfl rfl (Nat.le_of_ble_eq_true rfl) dX1_appendText_40 (fun H locs hP hD hS => ?_)
    have hP : va_P D vwCl (XW h0 h1 h2 h3 y1 y2 y3 (n + 1) (w) (upd T (n) x1) P M) H := hP
    have hD : va_D (va_A (XW h0 h1 h2 h3 y1 y2 y3 (n) (w) T P M) s.heap.size) (XW h0 h1 h2 h3 y1 y2 y3 (n + 1) (w) (upd T (n) x1) P M) := hD
    refine lv_aload_n hx hb dX1_appendText_43 rfl (lv_at hl 0 rfl) ?_
    refine va_get (D := D) (ci := 0) (v := .int (nI (n + 1))) (C := RX1) (T := TX1) (N := 5) hx hb hts hin0 hown hK hP 0 rfl rfl 3 (by decide) hf_textSize (fun _ h9 => h9) rfl dX1_appendText_44 ?_
    refine vx_ret ?_
    refine W.widen (k := 2) (n := 12) (Nat.le_of_ble_eq_true rfl) (Nat.le_of_ble_eq_true rfl) ?_
    exact W.iret (v := (nI (n + 1))) hx hb hr (fun t ht hW => ⟨⟨_, (), rfl, ⟨(Eq.trans (nI_toInt (n := n + 1) (by omega)) (by omega)), by unfold kAT; (repeat' split) <;> omega⟩, ⟨by rw [ht]; exact hP, hD⟩⟩, hS.F ht⟩) hS.2.2 dX1_appendText_47
  · have _u := True.intro
    exact xISE_throw hx hb hlt hown hts (by decide +kernel) hE hS (hl.1.trans hml.symm) hnt dX1_appendText_13 dX1_appendText_16 dX1_appendText_17 dX1_appendText_19 dX1_appendText_22 (xS_32) (Nat.le_of_ble_eq_true rfl) (Nat.le_of_ble_eq_true rfl) (Nat.le_of_ble_eq_true rfl) (Nat.le_of_ble_eq_true rfl) hlocks (Or.inr ⟨rfl, by unfold kAT; (repeat' split) <;> omega⟩) (fun z hz => nA0 (hS.2.2 z hz)) (Nat.le_of_ble_eq_true rfl) (Nat.le_of_ble_eq_true rfl)

set_option maxHeartbeats 4000000 in
set_option maxRecDepth 100000 in
theorem c_X1_appendPattern (l : Launch) (hlt : l.stackTraces = false) (D : va_G) (E : Nat × Nat × Nat) (h0 h1 h2 h3 : Nat) (y1 y2 y3 : ClassId) (sz n w : Nat) (T P M : Nat → Int32) (hn : n ≤ 64) (hw : w ≤ 24) (hT : SymF T) (hPt : SymF P) (hD0 : va_D (fun _ => True) (XW h0 h1 h2 h3 y1 y2 y3 (n) (w) T P M)) (x1 : Int32) : vx_Met l yX1_appendPattern wsX1_appendPattern ({ frames := 7, cells := 2, slots := 12, locals := 110 }) (va_Pc [.ref h0, .int x1] (cp D (XW h0 h1 h2 h3 y1 y2 y3 (n) (w) T P M) (XT y1 y2 y3) E (va_A (XW h0 h1 h2 h3 y1 y2 y3 (n) (w) T P M) sz) sz)) (va_Qi (fun (r : Int32) (_ : Unit) => r.toInt = ((w + 1 : Nat) : Int) ∧ kAP w x1.toInt = 0) (fun _ t => va_P D vwCl (XW h0 h1 h2 h3 y1 y2 y3 (n) (w + 1) T (upd P (w) x1) M) t.heap ∧ va_D (va_A (XW h0 h1 h2 h3 y1 y2 y3 (n) (w) T P M) sz) (XW h0 h1 h2 h3 y1 y2 y3 (n) (w + 1) T (upd P (w) x1) M)) (va_A (XW h0 h1 h2 h3 y1 y2 y3 (n) (w) T P M) sz)) (tX (fun X => (X = "java/lang/IllegalArgumentException" ∧ kAP w x1.toInt = 1) ∨ (X = "java/lang/IllegalStateException" ∧ kAP w x1.toInt = 2)) sz) 2 12 (va_A (XW h0 h1 h2 h3 y1 y2 y3 (n) (w) T P M) sz) := by
  refine vx_ofW (cc := cX1_appendPattern) (maxL := 2) (ret := (some .int)) (by decide) rfl ?_
  intro p e s m args below meth c s₁ B hml hnt hv
  obtain ⟨rfl, hsz, hP, hK, hE⟩ := hv
  have hx := B.exec
  have hb := B.bytes
  have hr := B.returns
  have hts := atoms_spec (ws := wsX1_appendPattern) B.pre
  have hown : s.vm.findClass RX1 = some m.cls := findClass_of_methodNamed B.named
  have hlocks := B.notSynchronized
  have hsz : s.heap.size = sz := hsz
  subst hsz
  have hD := hD0.self (sz := s.heap.size)
  have hA : ∀ q : Nat, s.heap.size ≤ q → (va_A (XW h0 h1 h2 h3 y1 y2 y3 (n) (w) T P M) s.heap.size) q := fun q h => Or.inr h
  have hS : va_S (va_A (XW h0 h1 h2 h3 y1 y2 y3 (n) (w) T P M) s.heap.size) s.heap s.heap [] := va_S.rf
  have hEb := hE
  have hAb := hA
  have hE := XEnv.narrow0 hE (B := va_A [] s.heap.size) (fun q h => nA0 h)
  have hA : ∀ q : Nat, s.heap.size ≤ q → va_A [] s.heap.size q := fun q h => Or.inr h
  have hS : va_S (va_A [] s.heap.size) s.heap s.heap [] := va_S.rf
  have inn : (nI n).toInt = (n : Int) := nI_toInt (by omega)
  have iww : (nI w).toInt = (w : Int) := nI_toInt (by omega)
  have hf_pattern := hts (.fieldLink RX1 13 "BlankMatcher" "pattern" "[I") (by decide +kernel)
  have hf_patternSize := hts (.fieldLink RX1 23 "BlankMatcher" "patternSize" "I") (by decide +kernel)
  have hpl : pl n w = n + 1 - w := rfl
  have hin0 : ∀ w ∈ wsX10, w ∈ wsX1_appendPattern := by decide +kernel
  have g_x1 := rg x1
  have hl := lv_entry ([.ref h0, .int x1]) (n := 2) (Nat.le_of_ble_eq_true rfl)
  rw [lg_entry_eq]
  generalize (lg_sl ([.ref h0, .int x1]) ++ List.replicate (2 - (lg_sl ([.ref h0, .int x1])).length) Slot.unset).toArray = ls at hl ⊢
  have hl : lv_has ls 2 [(0, .ref h0), (1, .int x1)] := hl
  refine lv_iload_n hx hb dX1_appendPattern_0 rfl (lv_at hl 1 rfl) ?_
  refine vx_callv (vx_runS (As := [.int x1]) (rest := []) ⟨hx, hb, hml, hown, hts⟩ (c_X1_requireSymbol l hlt D E s.heap.size x1) (va_cwS 1 hts gX1_appendPattern_X1_requireSymbol rfl rfl rfl (by decide +kernel) ⟨Nat.le_of_ble_eq_true rfl, Nat.le_of_ble_eq_true rfl⟩) ⟨cp.blind, fun U hU hW => ⟨rfl, cp.call (hP.sub (ws' := []) [] rfl) (hK.sub (tys' := []) [] rfl) hE hS (fr0 hS hA) hU hW⟩⟩ rfl rfl hl.1 rfl (lv_room (Nat.le_of_ble_eq_true rfl)) dX1_appendPattern_1 ⟨Nat.le_of_ble_eq_true rfl, Nat.le_of_ble_eq_true rfl⟩) hS (fun q _ h => (fr0 hS hA) q h) (fr0 hS hA) (fun q _ h => fr0 hS hA q h) (fun X ce q9 u t H1 locs1 ht hvm _ hB hz1 hk1 hS hc1 hc2 hc3 => ?_) (fun u t H1 locs1 ht hvm e1 hB hz1 hk1 hS => ?_)
  · refine vx_out (fun x h => (hnt x h).elim) hlocks hc1 hc2 hc3 (fun t ht2 _ => tX.out hS ht2 (Or.inl ⟨hB.1, by have hB2 := hB.2; unfold kAP; (repeat' split) <;> omega⟩)) (fun z hz => nA0 (hS.2.2 z hz)) (Nat.le_of_ble_eq_true rfl) (Nat.le_of_ble_eq_true rfl)
  have hP := kp hP hk1
  generalize H1 = H at hP hS ⊢
  generalize locs1 = locs at hS ⊢
  obtain ⟨f1_0, f1_1⟩ := e1
  refine lv_aload_n hx hb dX1_appendPattern_4 rfl (lv_at hl 0 rfl) ?_
  refine va_get (D := D) (ci := 0) (v := .int (nI w)) (C := RX1) (T := TX1) (N := 5) hx hb hts hin0 hown hK hP 0 rfl rfl 4 (by decide) hf_patternSize (fun _ h9 => h9) rfl dX1_appendPattern_5 ?_
  refine lv_bipush (v := 24) hx hb dX1_appendPattern_8 (by decide) ?_
  refine z_icmp_lt (tgt := 23) hx hb dX1_appendPattern_10 (by decide) iww (show (24 : Int32).toInt = 24 by decide) (fun c10 => ?_) (fun c10 => ?_)
  · have _u := True.intro
    refine lv_aload_n hx hb dX1_appendPattern_23 rfl (lv_at hl 0 rfl) ?_
    refine va_get (D := D) (ci := 0) (v := .ref h2) (C := RX1) (T := TX1) (N := 5) hx hb hts hin0 hown hK hP 0 rfl rfl 1 (by decide) hf_pattern (fun _ h9 => h9) rfl dX1_appendPattern_24 ?_
    refine lv_aload_n hx hb dX1_appendPattern_27 rfl (lv_at hl 0 rfl) ?_
    refine va_get (D := D) (ci := 0) (v := .int (nI w)) (C := RX1) (T := TX1) (N := 5) hx hb hts hin0 hown hK hP 0 rfl rfl 4 (by decide) hf_patternSize (fun _ h9 => h9) rfl dX1_appendPattern_28 ?_
    refine lv_iload_n hx hb dX1_appendPattern_31 rfl (lv_at hl 1 rfl) ?_
    have hS : va_S (va_A (XW h0 h1 h2 h3 y1 y2 y3 (n) (w) T P M) s.heap.size) s.heap _ _ := hS.mono0 (fun q h => nA0 h)
    have hE := hEb
    have hA := hAb
    refine z_iast hx hb hK hP hD hS 2 1 rfl rfl (w) iww (by omega) (by omega) dX1_appendPattern_32 (fun H locs hP hD hS => ?_)
    have hP : va_P D vwCl (XW h0 h1 h2 h3 y1 y2 y3 (n) (w) T (upd P (w) x1) M) H := hP
    have hD : va_D (va_A (XW h0 h1 h2 h3 y1 y2 y3 (n) (w) T P M) s.heap.size) (XW h0 h1 h2 h3 y1 y2 y3 (n) (w) T (upd P (w) x1) M) := hD
    refine lv_aload_n hx hb dX1_appendPattern_33 rfl (lv_at hl 0 rfl) ?_
    refine lv_dup hx hb dX1_appendPattern_34 rfl ?_
    refine va_get (D := D) (ci := 0) (v := .int (nI w)) (C := RX1) (T := TX1) (N := 5) hx hb hts hin0 hown hK hP 0 rfl rfl 4 (by decide) hf_patternSize (fun _ h9 => h9) rfl dX1_appendPattern_35 ?_
    refine lv_iconst (v := 1) hx hb dX1_appendPattern_38 (by decide) ?_
    refine z_iadd hx hb dX1_appendPattern_39 iww (show (1 : Int32).toInt = 1 by decide) (by omega) (by omega) (fun v39 e39 => ?_)
    refine lv_as (y := nI (w + 1)) (nIe (Eq.trans e39 (by omega))) ?_
    refine va_put (D := D) (ci := 0) (v := .int (nI (w + 1))) (ty := .int) (C := RX1) (T := TX1) (N := 5) hx hb hts hin0 tyX1 tyX1_ok nmX1 hown hK hP hD hS 0 rfl rfl 4 (by decide) hf_patternSize (fun _ h9 => h9) rfl (by decide +kernel) rfl rfl (Nat.le_of_ble_eq_true rfl) dX1_appendPattern_40 (fun H locs hP hD hS => ?_)
    have hP : va_P D vwCl (XW h0 h1 h2 h3 y1 y2 y3 (n) (w + 1) T (upd P (w) x1) M) H := hP
    have hD : va_D (va_A (XW h0 h1 h2 h3 y1 y2 y3 (n) (w) T P M) s.heap.size) (XW h0 h1 h2 h3 y1 y2 y3 (n) (w + 1) T (upd P (w) x1) M) := hD
    refine lv_aload_n hx hb dX1_appendPattern_43 rfl (lv_at hl 0 rfl) ?_
    refine va_get (D := D) (ci := 0) (v := .int (nI (w + 1))) (C := RX1) (T := TX1) (N := 5) hx hb hts hin0 hown hK hP 0 rfl rfl 4 (by decide) hf_patternSize (fun _ h9 => h9) rfl dX1_appendPattern_44 ?_
    refine vx_ret ?_
    refine W.widen (k := 2) (n := 12) (Nat.le_of_ble_eq_true rfl) (Nat.le_of_ble_eq_true rfl) ?_
    exact W.iret (v := (nI (w + 1))) hx hb hr (fun t ht hW => ⟨⟨_, (), rfl, ⟨(Eq.trans (nI_toInt (n := w + 1) (by omega)) (by omega)), by unfold kAP; (repeat' split) <;> omega⟩, ⟨by rw [ht]; exact hP, hD⟩⟩, hS.F ht⟩) hS.2.2 dX1_appendPattern_47
  · have _u := True.intro
    exact xISE_throw hx hb hlt hown hts (by decide +kernel) hE hS (hl.1.trans hml.symm) hnt dX1_appendPattern_13 dX1_appendPattern_16 dX1_appendPattern_17 dX1_appendPattern_19 dX1_appendPattern_22 (xS_59) (Nat.le_of_ble_eq_true rfl) (Nat.le_of_ble_eq_true rfl) (Nat.le_of_ble_eq_true rfl) (Nat.le_of_ble_eq_true rfl) hlocks (Or.inr ⟨rfl, by unfold kAP; (repeat' split) <;> omega⟩) (fun z hz => nA0 (hS.2.2 z hz)) (Nat.le_of_ble_eq_true rfl) (Nat.le_of_ble_eq_true rfl)

set_option maxHeartbeats 4000000 in
set_option maxRecDepth 100000 in
theorem c_X1_repeatText (l : Launch) (hlt : l.stackTraces = false) (D : va_G) (E : Nat × Nat × Nat) (h0 h1 h2 h3 : Nat) (y1 y2 y3 : ClassId) (sz n w : Nat) (T P M : Nat → Int32) (hn : n ≤ 64) (hw : w ≤ 24) (hT : SymF T) (hPt : SymF P) (hD0 : va_D (fun _ => True) (XW h0 h1 h2 h3 y1 y2 y3 (n) (w) T P M)) (x1 : Int32) (x2 : Int32) : vx_Met l yX1_repeatText wsX1_repeatText ({ frames := 7, cells := 2, slots := 12, locals := 112 }) (va_Pc [.ref h0, .int x1, .int x2] (cp D (XW h0 h1 h2 h3 y1 y2 y3 (n) (w) T P M) (XT y1 y2 y3) E (va_A (XW h0 h1 h2 h3 y1 y2 y3 (n) (w) T P M) sz) sz)) (va_Qi (fun (r : Int32) (_ : Unit) => r.toInt = ((n + x2.toInt.toNat : Nat) : Int) ∧ kRT n x1.toInt x2.toInt = 0) (fun _ t => va_P D vwCl (XW h0 h1 h2 h3 y1 y2 y3 (n + x2.toInt.toNat) (w) (va_cpy T T x1.toInt.toNat n x2.toInt.toNat) P M) t.heap ∧ va_D (va_A (XW h0 h1 h2 h3 y1 y2 y3 (n) (w) T P M) sz) (XW h0 h1 h2 h3 y1 y2 y3 (n + x2.toInt.toNat) (w) (va_cpy T T x1.toInt.toNat n x2.toInt.toNat) P M)) (va_A (XW h0 h1 h2 h3 y1 y2 y3 (n) (w) T P M) sz)) (tX (fun X => (X = "java/lang/IllegalArgumentException" ∧ kRT n x1.toInt x2.toInt = 1) ∨ (X = "java/lang/IndexOutOfBoundsException" ∧ kRT n x1.toInt x2.toInt = 2) ∨ (X = "java/lang/IllegalStateException" ∧ kRT n x1.toInt x2.toInt = 3)) sz) 2 12 (va_A (XW h0 h1 h2 h3 y1 y2 y3 (n) (w) T P M) sz) := by
  refine vx_ofW (cc := cX1_repeatText) (maxL := 3) (ret := (some .int)) (by decide) rfl ?_
  intro p e s m args below meth c s₁ B hml hnt hv
  obtain ⟨rfl, hsz, hP, hK, hE⟩ := hv
  have hx := B.exec
  have hb := B.bytes
  have hr := B.returns
  have hts := atoms_spec (ws := wsX1_repeatText) B.pre
  have hown : s.vm.findClass RX1 = some m.cls := findClass_of_methodNamed B.named
  have hlocks := B.notSynchronized
  have hsz : s.heap.size = sz := hsz
  subst hsz
  have hD := hD0.self (sz := s.heap.size)
  have hA : ∀ q : Nat, s.heap.size ≤ q → (va_A (XW h0 h1 h2 h3 y1 y2 y3 (n) (w) T P M) s.heap.size) q := fun q h => Or.inr h
  have hS : va_S (va_A (XW h0 h1 h2 h3 y1 y2 y3 (n) (w) T P M) s.heap.size) s.heap s.heap [] := va_S.rf
  have hEb := hE
  have hAb := hA
  have hE := XEnv.narrow0 hE (B := va_A [] s.heap.size) (fun q h => nA0 h)
  have hA : ∀ q : Nat, s.heap.size ≤ q → va_A [] s.heap.size q := fun q h => Or.inr h
  have hS : va_S (va_A [] s.heap.size) s.heap s.heap [] := va_S.rf
  have inn : (nI n).toInt = (n : Int) := nI_toInt (by omega)
  have iww : (nI w).toInt = (w : Int) := nI_toInt (by omega)
  have hf_text := hts (.fieldLink RX1 9 "BlankMatcher" "text" "[I") (by decide +kernel)
  have hf_textSize := hts (.fieldLink RX1 19 "BlankMatcher" "textSize" "I") (by decide +kernel)
  have hpl : pl n w = n + 1 - w := rfl
  have hin0 : ∀ w ∈ wsX10, w ∈ wsX1_repeatText := by decide +kernel
  have g_x1 := rg x1
  have g_x2 := rg x2
  have hl := lv_entry ([.ref h0, .int x1, .int x2]) (n := 3) (Nat.le_of_ble_eq_true rfl)
  rw [lg_entry_eq]
  generalize (lg_sl ([.ref h0, .int x1, .int x2]) ++ List.replicate (3 - (lg_sl ([.ref h0, .int x1, .int x2])).length) Slot.unset).toArray = ls at hl ⊢
  have hl : lv_has ls 3 [(0, .ref h0), (1, .int x1), (2, .int x2)] := hl
  refine lv_iload_n hx hb dX1_repeatText_0 rfl (lv_at hl 2 rfl) ?_
  refine lv_iconst (v := 1) hx hb dX1_repeatText_1 (by decide) ?_
  refine z_icmp_ge (tgt := 15) hx hb dX1_repeatText_2 (by decide) rfl (show (1 : Int32).toInt = 1 by decide) (fun c2 => ?_) (fun c2 => ?_)
  · have _u := True.intro
    refine lv_aload_n hx hb dX1_repeatText_15 rfl (lv_at hl 0 rfl) ?_
    refine lv_iload_n hx hb dX1_repeatText_16 rfl (lv_at hl 1 rfl) ?_
    refine lv_iload_n hx hb dX1_repeatText_17 rfl (lv_at hl 2 rfl) ?_
    refine vx_callv (vx_runV (As := [.int x1, .int x2]) (rest := []) ⟨hx, hb, hml, hown, hts⟩ (c_X1_requirePartOfText l hlt D E h0 h1 h2 h3 y1 y2 y3 s.heap.size (n) (w) T P M hn hw hT hPt x1 x2 (by omega)) (cwV 2 hts gX1_repeatText_X1_requirePartOfText rfl rfl rfl (by decide +kernel) ⟨Nat.le_of_ble_eq_true rfl, Nat.le_of_ble_eq_true rfl⟩) ⟨cp.blind, va_recv hK hP (ci := 0) (q0 := 0) rfl rfl, fun U hU hW => ⟨rfl, cp.call hP hK hE hS (fr0 hS hA) hU hW⟩⟩ rfl rfl hl.1 rfl (lv_room (Nat.le_of_ble_eq_true rfl)) dX1_repeatText_18 ⟨Nat.le_of_ble_eq_true rfl, Nat.le_of_ble_eq_true rfl⟩) hS (fun q _ h => (fr0 hS hA) q h) (fr0 hS hA) (fun q _ h => fr0 hS hA q h) (fun X ce q9 u t H1 locs1 ht hvm _ hB hz1 hk1 hS hc1 hc2 hc3 => ?_) (fun u t H1 locs1 ht hvm e18 hB hz1 hk1 hS => ?_)
    · refine vx_out (fun x h => (hnt x h).elim) hlocks hc1 hc2 hc3 (fun t ht2 _ => tX.out hS ht2 (Or.inr (Or.inl ⟨hB.1, by have hB2 := hB.2; unfold kRT; (repeat' split) <;> omega⟩))) (fun z hz => nA0 (hS.2.2 z hz)) (Nat.le_of_ble_eq_true rfl) (Nat.le_of_ble_eq_true rfl)
    have hP := kp hP hk1
    generalize H1 = H at hP hS ⊢
    generalize locs1 = locs at hS ⊢
    obtain ⟨f18_0, f18_1⟩ := e18
    refine lv_iload_n hx hb dX1_repeatText_21 rfl (lv_at hl 2 rfl) ?_
    refine lv_bipush (v := 64) hx hb dX1_repeatText_22 (by decide) ?_
    refine lv_aload_n hx hb dX1_repeatText_24 rfl (lv_at hl 0 rfl) ?_
    refine va_get (D := D) (ci := 0) (v := .int (nI n)) (C := RX1) (T := TX1) (N := 5) hx hb hts hin0 hown hK hP 0 rfl rfl 3 (by decide) hf_textSize (fun _ h9 => h9) rfl dX1_repeatText_25 ?_
    refine z_isub hx hb dX1_repeatText_28 (show (64 : Int32).toInt = 64 by decide) inn (by omega) (by omega) (fun v28 e28 => ?_)
    refine z_icmp_le (tgt := 42) hx hb dX1_repeatText_29 (by decide) rfl e28 (fun c29 => ?_) (fun c29 => ?_)
    · have _u := True.intro
      refine lv_aload_n hx hb dX1_repeatText_42 rfl (lv_at hl 0 rfl) ?_
      refine va_get (D := D) (ci := 0) (v := .ref h1) (C := RX1) (T := TX1) (N := 5) hx hb hts hin0 hown hK hP 0 rfl rfl 0 (by decide) hf_text (fun _ h9 => h9) rfl dX1_repeatText_43 ?_
      refine lv_iload_n hx hb dX1_repeatText_46 rfl (lv_at hl 1 rfl) ?_
      refine lv_aload_n hx hb dX1_repeatText_47 rfl (lv_at hl 0 rfl) ?_
      refine va_get (D := D) (ci := 0) (v := .ref h1) (C := RX1) (T := TX1) (N := 5) hx hb hts hin0 hown hK hP 0 rfl rfl 0 (by decide) hf_text (fun _ h9 => h9) rfl dX1_repeatText_48 ?_
      refine lv_aload_n hx hb dX1_repeatText_51 rfl (lv_at hl 0 rfl) ?_
      refine va_get (D := D) (ci := 0) (v := .int (nI n)) (C := RX1) (T := TX1) (N := 5) hx hb hts hin0 hown hK hP 0 rfl rfl 3 (by decide) hf_textSize (fun _ h9 => h9) rfl dX1_repeatText_52 ?_
      refine lv_iload_n hx hb dX1_repeatText_55 rfl (lv_at hl 2 rfl) ?_
      have hS : va_S (va_A (XW h0 h1 h2 h3 y1 y2 y3 (n) (w) T P M) s.heap.size) s.heap _ _ := hS.mono0 (fun q h => nA0 h)
      have hE := hEb
      have hA := hAb
      have hsp : Int32.toNatClampNeg (x1) = x1.toInt.toNat := clN (Eq.trans rfl (by omega))
      have hdp : Int32.toNatClampNeg ((nI n)) = n := clN (Eq.trans inn (by omega))
      have hnn : Int32.toNatClampNeg (x2) = x2.toInt.toNat := clN (Eq.trans rfl (by omega))
      refine va_copyi hx hb (by rw [hml]; exact hl.1.symm) hown (hts (.methodLink RX1 48 arraycopyName) (by decide +kernel)) (hts (.native arraycopyName) (by decide +kernel)) (hts (.static arraycopyName) (by decide +kernel)) (hts (.initialized "java/lang/System") (by decide +kernel)) hK hP hD hS 1 1 0 0 rfl rfl rfl rfl (by decide) (fun h => absurd ((zlt rfl i0).mp h) (by omega)) (fun h => absurd ((zlt inn i0).mp h) (by omega)) (fun h => absurd ((zlt rfl i0).mp h) (by omega)) (by rw [hsp, hnn]; omega) (by rw [hdp, hnn]; omega) (fun _ _ => rfl) (Nat.le_of_ble_eq_true rfl) (Nat.le_of_ble_eq_true rfl) dX1_repeatText_56 (fun H locs hP hD hS => ?_)
      rw [hsp, hdp, hnn] at hP hD
      have hP : va_P D vwCl (XW h0 h1 h2 h3 y1 y2 y3 (n) (w) (va_cpy T T x1.toInt.toNat n x2.toInt.toNat) P M) H := hP
      have hD : va_D (va_A (XW h0 h1 h2 h3 y1 y2 y3 (n) (w) T P M) s.heap.size) (XW h0 h1 h2 h3 y1 y2 y3 (n) (w) (va_cpy T T x1.toInt.toNat n x2.toInt.toNat) P M) := hD
      refine lv_aload_n hx hb dX1_repeatText_59 rfl (lv_at hl 0 rfl) ?_
      refine lv_dup hx hb dX1_repeatText_60 rfl ?_
      refine va_get (D := D) (ci := 0) (v := .int (nI n)) (C := RX1) (T := TX1) (N := 5) hx hb hts hin0 hown hK hP 0 rfl rfl 3 (by decide) hf_textSize (fun _ h9 => h9) rfl dX1_repeatText_61 ?_
      refine lv_iload_n hx hb dX1_repeatText_64 rfl (lv_at hl 2 rfl) ?_
      refine z_iadd hx hb dX1_repeatText_65 inn rfl (by omega) (by omega) (fun v65 e65 => ?_)
      refine lv_as (y := nI (n + x2.toInt.toNat)) (nIe (Eq.trans e65 (by omega))) ?_
      refine va_put (D := D) (ci := 0) (v := .int (nI (n + x2.toInt.toNat))) (ty := .int) (C := RX1) (T := TX1) (N := 5) hx hb hts hin0 tyX1 tyX1_ok nmX1 hown hK hP hD hS 0 rfl rfl 3 (by decide) hf_textSize (fun _ h9 => h9) rfl (by decide +kernel) rfl rfl (Nat.le_of_ble_eq_true rfl) dX1_repeatText_66 (fun H locs hP hD hS => ?_)
      have hP : va_P D vwCl (XW h0 h1 h2 h3 y1 y2 y3 (n + x2.toInt.toNat) (w) (va_cpy T T x1.toInt.toNat n x2.toInt.toNat) P M) H := hP
      have hD : va_D (va_A (XW h0 h1 h2 h3 y1 y2 y3 (n) (w) T P M) s.heap.size) (XW h0 h1 h2 h3 y1 y2 y3 (n + x2.toInt.toNat) (w) (va_cpy T T x1.toInt.toNat n x2.toInt.toNat) P M) := hD
      refine lv_aload_n hx hb dX1_repeatText_69 rfl (lv_at hl 0 rfl) ?_
      refine va_get (D := D) (ci := 0) (v := .int (nI (n + x2.toInt.toNat))) (C := RX1) (T := TX1) (N := 5) hx hb hts hin0 hown hK hP 0 rfl rfl 3 (by decide) hf_textSize (fun _ h9 => h9) rfl dX1_repeatText_70 ?_
      refine vx_ret ?_
      refine W.widen (k := 2) (n := 12) (Nat.le_of_ble_eq_true rfl) (Nat.le_of_ble_eq_true rfl) ?_
      exact W.iret (v := (nI (n + x2.toInt.toNat))) hx hb hr (fun t ht hW => ⟨⟨_, (), rfl, ⟨(Eq.trans (nI_toInt (n := n + x2.toInt.toNat) (by omega)) (by omega)), by unfold kRT; (repeat' split) <;> omega⟩, ⟨by rw [ht]; exact hP, hD⟩⟩, hS.F ht⟩) hS.2.2 dX1_repeatText_73
    · have _u := True.intro
      exact xISE_throw hx hb hlt hown hts (by decide +kernel) hE hS (hl.1.trans hml.symm) hnt dX1_repeatText_32 dX1_repeatText_35 dX1_repeatText_36 dX1_repeatText_38 dX1_repeatText_41 (xS_46) (Nat.le_of_ble_eq_true rfl) (Nat.le_of_ble_eq_true rfl) (Nat.le_of_ble_eq_true rfl) (Nat.le_of_ble_eq_true rfl) hlocks (Or.inr (Or.inr ⟨rfl, by unfold kRT; (repeat' split) <;> omega⟩)) (fun z hz => nA0 (hS.2.2 z hz)) (Nat.le_of_ble_eq_true rfl) (Nat.le_of_ble_eq_true rfl)
  · have _u := True.intro
    exact xIAE_throw hx hb hlt hown hts (by decide +kernel) hE hS (hl.1.trans hml.symm) hnt dX1_repeatText_5 dX1_repeatText_8 dX1_repeatText_9 dX1_repeatText_11 dX1_repeatText_14 (xS_39) (Nat.le_of_ble_eq_true rfl) (Nat.le_of_ble_eq_true rfl) (Nat.le_of_ble_eq_true rfl) (Nat.le_of_ble_eq_true rfl) hlocks (Or.inl ⟨rfl, by unfold kRT; (repeat' split) <;> omega⟩) (fun z hz => nA0 (hS.2.2 z hz)) (Nat.le_of_ble_eq_true rfl) (Nat.le_of_ble_eq_true rfl)

set_option maxHeartbeats 4000000 in
set_option maxRecDepth 100000 in
theorem c_X1_setText (l : Launch) (hlt : l.stackTraces = false) (D : va_G) (E : Nat × Nat × Nat) (h0 h1 h2 h3 : Nat) (y1 y2 y3 : ClassId) (sz n w : Nat) (T P M : Nat → Int32) (hn : n ≤ 64) (hw : w ≤ 24) (hT : SymF T) (hPt : SymF P) (hD0 : va_D (fun _ => True) (XW h0 h1 h2 h3 y1 y2 y3 (n) (w) T P M)) (x1 : Int32) (x2 : Int32) : vx_Met l yX1_setText wsX1_setText ({ frames := 7, cells := 1, slots := 6, locals := 110 }) (va_Pc [.ref h0, .int x1, .int x2] (cp D (XW h0 h1 h2 h3 y1 y2 y3 (n) (w) T P M) (XT y1 y2 y3) E (va_A (XW h0 h1 h2 h3 y1 y2 y3 (n) (w) T P M) sz) sz)) (va_Qi (fun (r : Int32) (_ : Unit) => r.toInt = (T x1.toInt.toNat).toInt ∧ kST n x1.toInt x2.toInt = 0) (fun _ t => va_P D vwCl (XW h0 h1 h2 h3 y1 y2 y3 (n) (w) (upd T (x1.toInt.toNat) x2) P M) t.heap ∧ va_D (va_A (XW h0 h1 h2 h3 y1 y2 y3 (n) (w) T P M) sz) (XW h0 h1 h2 h3 y1 y2 y3 (n) (w) (upd T (x1.toInt.toNat) x2) P M)) (va_A (XW h0 h1 h2 h3 y1 y2 y3 (n) (w) T P M) sz)) (tX (fun X => (X = "java/lang/IndexOutOfBoundsException" ∧ kST n x1.toInt x2.toInt = 1) ∨ (X = "java/lang/IllegalArgumentException" ∧ kST n x1.toInt x2.toInt = 2)) sz) 1 6 (va_A (XW h0 h1 h2 h3 y1 y2 y3 (n) (w) T P M) sz) := by
  refine vx_ofW (cc := cX1_setText) (maxL := 4) (ret := (some .int)) (by decide) rfl ?_
  intro p e s m args below meth c s₁ B hml hnt hv
  obtain ⟨rfl, hsz, hP, hK, hE⟩ := hv
  have hx := B.exec
  have hb := B.bytes
  have hr := B.returns
  have hts := atoms_spec (ws := wsX1_setText) B.pre
  have hown : s.vm.findClass RX1 = some m.cls := findClass_of_methodNamed B.named
  have hlocks := B.notSynchronized
  have hsz : s.heap.size = sz := hsz
  subst hsz
  have hD := hD0.self (sz := s.heap.size)
  have hA : ∀ q : Nat, s.heap.size ≤ q → (va_A (XW h0 h1 h2 h3 y1 y2 y3 (n) (w) T P M) s.heap.size) q := fun q h => Or.inr h
  have hS : va_S (va_A (XW h0 h1 h2 h3 y1 y2 y3 (n) (w) T P M) s.heap.size) s.heap s.heap [] := va_S.rf
  have hEb := hE
  have hAb := hA
  have hE := XEnv.narrow0 hE (B := va_A [] s.heap.size) (fun q h => nA0 h)
  have hA : ∀ q : Nat, s.heap.size ≤ q → va_A [] s.heap.size q := fun q h => Or.inr h
  have hS : va_S (va_A [] s.heap.size) s.heap s.heap [] := va_S.rf
  have inn : (nI n).toInt = (n : Int) := nI_toInt (by omega)
  have iww : (nI w).toInt = (w : Int) := nI_toInt (by omega)
  have hf_text := hts (.fieldLink RX1 9 "BlankMatcher" "text" "[I") (by decide +kernel)
  have hf_textSize := hts (.fieldLink RX1 19 "BlankMatcher" "textSize" "I") (by decide +kernel)
  have hpl : pl n w = n + 1 - w := rfl
  have hin0 : ∀ w ∈ wsX10, w ∈ wsX1_setText := by decide +kernel
  have g_x1 := rg x1
  have g_x2 := rg x2
  have hl := lv_entry ([.ref h0, .int x1, .int x2]) (n := 4) (Nat.le_of_ble_eq_true rfl)
  rw [lg_entry_eq]
  generalize (lg_sl ([.ref h0, .int x1, .int x2]) ++ List.replicate (4 - (lg_sl ([.ref h0, .int x1, .int x2])).length) Slot.unset).toArray = ls at hl ⊢
  have hl : lv_has ls 4 [(0, .ref h0), (1, .int x1), (2, .int x2)] := hl
  refine lv_iload_n hx hb dX1_setText_0 rfl (lv_at hl 1 rfl) ?_
  refine z_if_lt (tgt := 12) hx hb dX1_setText_1 (by decide) rfl (fun c1 => ?_) (fun c1 => ?_)
  · have _u := True.intro
    exact xIOB_throw hx hb hlt hown hts (by decide +kernel) hE hS (hl.1.trans hml.symm) hnt dX1_setText_12 dX1_setText_15 dX1_setText_16 dX1_setText_18 dX1_setText_21 (xS_56) (Nat.le_of_ble_eq_true rfl) (Nat.le_of_ble_eq_true rfl) (Nat.le_of_ble_eq_true rfl) (Nat.le_of_ble_eq_true rfl) hlocks (Or.inl ⟨rfl, by unfold kST; (repeat' split) <;> omega⟩) (fun z hz => nA0 (hS.2.2 z hz)) (Nat.le_of_ble_eq_true rfl) (Nat.le_of_ble_eq_true rfl)
  · have _u := True.intro
    refine lv_iload_n hx hb dX1_setText_4 rfl (lv_at hl 1 rfl) ?_
    refine lv_aload_n hx hb dX1_setText_5 rfl (lv_at hl 0 rfl) ?_
    refine va_get (D := D) (ci := 0) (v := .int (nI n)) (C := RX1) (T := TX1) (N := 5) hx hb hts hin0 hown hK hP 0 rfl rfl 3 (by decide) hf_textSize (fun _ h9 => h9) rfl dX1_setText_6 ?_
    refine z_icmp_lt (tgt := 22) hx hb dX1_setText_9 (by decide) rfl inn (fun c9 => ?_) (fun c9 => ?_)
    · have _u := True.intro
      refine lv_iload_n hx hb dX1_setText_22 rfl (lv_at hl 2 rfl) ?_
      refine vx_callv (vx_runS (As := [.int x2]) (rest := []) ⟨hx, hb, hml, hown, hts⟩ (c_X1_requireSymbol l hlt D E s.heap.size x2) (va_cwS 1 hts gX1_setText_X1_requireSymbol rfl rfl rfl (by decide +kernel) ⟨Nat.le_of_ble_eq_true rfl, Nat.le_of_ble_eq_true rfl⟩) ⟨cp.blind, fun U hU hW => ⟨rfl, cp.call (hP.sub (ws' := []) [] rfl) (hK.sub (tys' := []) [] rfl) hE hS (fr0 hS hA) hU hW⟩⟩ rfl rfl hl.1 rfl (lv_room (Nat.le_of_ble_eq_true rfl)) dX1_setText_23 ⟨Nat.le_of_ble_eq_true rfl, Nat.le_of_ble_eq_true rfl⟩) hS (fun q _ h => (fr0 hS hA) q h) (fr0 hS hA) (fun q _ h => fr0 hS hA q h) (fun X ce q9 u t H1 locs1 ht hvm _ hB hz1 hk1 hS hc1 hc2 hc3 => ?_) (fun u t H1 locs1 ht hvm e23 hB hz1 hk1 hS => ?_)
      · refine vx_out (fun x h => (hnt x h).elim) hlocks hc1 hc2 hc3 (fun t ht2 _ => tX.out hS ht2 (Or.inr ⟨hB.1, by have hB2 := hB.2; unfold kST; (repeat' split) <;> omega⟩)) (fun z hz => nA0 (hS.2.2 z hz)) (Nat.le_of_ble_eq_true rfl) (Nat.le_of_ble_eq_true rfl)
      have hP := kp hP hk1
      generalize H1 = H at hP hS ⊢
      generalize locs1 = locs at hS ⊢
      obtain ⟨f23_0, f23_1⟩ := e23
      refine lv_aload_n hx hb dX1_setText_26 rfl (lv_at hl 0 rfl) ?_
      refine va_get (D := D) (ci := 0) (v := .ref h1) (C := RX1) (T := TX1) (N := 5) hx hb hts hin0 hown hK hP 0 rfl rfl 0 (by decide) hf_text (fun _ h9 => h9) rfl dX1_setText_27 ?_
      refine lv_iload_n hx hb dX1_setText_30 rfl (lv_at hl 1 rfl) ?_
      refine z_iald hx hb hK hP 1 0 rfl rfl (x1.toInt.toNat) rfl (by omega) (by omega) dX1_setText_31 ?_
      refine lv_istore_n (lv' := [(3, .int (T (x1.toInt.toNat))), (0, .ref h0), (1, .int x1), (2, .int x2)]) hx hb dX1_setText_32 rfl hl (by decide) rfl (fun ls hl => ?_)
      refine lv_aload_n hx hb dX1_setText_33 rfl (lv_at hl 1 rfl) ?_
      refine va_get (D := D) (ci := 0) (v := .ref h1) (C := RX1) (T := TX1) (N := 5) hx hb hts hin0 hown hK hP 0 rfl rfl 0 (by decide) hf_text (fun _ h9 => h9) rfl dX1_setText_34 ?_
      refine lv_iload_n hx hb dX1_setText_37 rfl (lv_at hl 2 rfl) ?_
      refine lv_iload_n hx hb dX1_setText_38 rfl (lv_at hl 3 rfl) ?_
      have hS : va_S (va_A (XW h0 h1 h2 h3 y1 y2 y3 (n) (w) T P M) s.heap.size) s.heap _ _ := hS.mono0 (fun q h => nA0 h)
      have hE := hEb
      have hA := hAb
      refine z_iast hx hb hK hP hD hS 1 0 rfl rfl (x1.toInt.toNat) rfl (by omega) (by omega) dX1_setText_39 (fun H locs hP hD hS => ?_)
      have hP : va_P D vwCl (XW h0 h1 h2 h3 y1 y2 y3 (n) (w) (upd T (x1.toInt.toNat) x2) P M) H := hP
      have hD : va_D (va_A (XW h0 h1 h2 h3 y1 y2 y3 (n) (w) T P M) s.heap.size) (XW h0 h1 h2 h3 y1 y2 y3 (n) (w) (upd T (x1.toInt.toNat) x2) P M) := hD
      refine lv_iload_n hx hb dX1_setText_40 rfl (lv_at hl 0 rfl) ?_
      refine vx_ret ?_
      refine W.widen (k := 1) (n := 6) (Nat.le_of_ble_eq_true rfl) (Nat.le_of_ble_eq_true rfl) ?_
      exact W.iret (v := (T (x1.toInt.toNat))) hx hb hr (fun t ht hW => ⟨⟨_, (), rfl, ⟨(Eq.trans rfl (rfl)), by unfold kST; (repeat' split) <;> omega⟩, ⟨by rw [ht]; exact hP, hD⟩⟩, hS.F ht⟩) hS.2.2 dX1_setText_41
    · have _u := True.intro
      exact xIOB_throw hx hb hlt hown hts (by decide +kernel) hE hS (hl.1.trans hml.symm) hnt dX1_setText_12 dX1_setText_15 dX1_setText_16 dX1_setText_18 dX1_setText_21 (xS_56) (Nat.le_of_ble_eq_true rfl) (Nat.le_of_ble_eq_true rfl) (Nat.le_of_ble_eq_true rfl) (Nat.le_of_ble_eq_true rfl) hlocks (Or.inl ⟨rfl, by unfold kST; (repeat' split) <;> omega⟩) (fun z hz => nA0 (hS.2.2 z hz)) (Nat.le_of_ble_eq_true rfl) (Nat.le_of_ble_eq_true rfl)

set_option maxHeartbeats 4000000 in
set_option maxRecDepth 100000 in
theorem c_X1_setPattern (l : Launch) (hlt : l.stackTraces = false) (D : va_G) (E : Nat × Nat × Nat) (h0 h1 h2 h3 : Nat) (y1 y2 y3 : ClassId) (sz n w : Nat) (T P M : Nat → Int32) (hn : n ≤ 64) (hw : w ≤ 24) (hT : SymF T) (hPt : SymF P) (hD0 : va_D (fun _ => True) (XW h0 h1 h2 h3 y1 y2 y3 (n) (w) T P M)) (x1 : Int32) (x2 : Int32) : vx_Met l yX1_setPattern wsX1_setPattern ({ frames := 7, cells := 2, slots := 12, locals := 111 }) (va_Pc [.ref h0, .int x1, .int x2] (cp D (XW h0 h1 h2 h3 y1 y2 y3 (n) (w) T P M) (XT y1 y2 y3) E (va_A (XW h0 h1 h2 h3 y1 y2 y3 (n) (w) T P M) sz) sz)) (va_Qi (fun (r : Int32) (_ : Unit) => r.toInt = (P x1.toInt.toNat).toInt ∧ kST w x1.toInt x2.toInt = 0) (fun _ t => va_P D vwCl (XW h0 h1 h2 h3 y1 y2 y3 (n) (w) T (upd P (x1.toInt.toNat) x2) M) t.heap ∧ va_D (va_A (XW h0 h1 h2 h3 y1 y2 y3 (n) (w) T P M) sz) (XW h0 h1 h2 h3 y1 y2 y3 (n) (w) T (upd P (x1.toInt.toNat) x2) M)) (va_A (XW h0 h1 h2 h3 y1 y2 y3 (n) (w) T P M) sz)) (tX (fun X => (X = "java/lang/IndexOutOfBoundsException" ∧ kST w x1.toInt x2.toInt = 1) ∨ (X = "java/lang/IllegalArgumentException" ∧ kST w x1.toInt x2.toInt = 2)) sz) 2 12 (va_A (XW h0 h1 h2 h3 y1 y2 y3 (n) (w) T P M) sz) := by
  refine vx_ofW (cc := cX1_setPattern) (maxL := 4) (ret := (some .int)) (by decide) rfl ?_
  intro p e s m args below meth c s₁ B hml hnt hv
  obtain ⟨rfl, hsz, hP, hK, hE⟩ := hv
  have hx := B.exec
  have hb := B.bytes
  have hr := B.returns
  have hts := atoms_spec (ws := wsX1_setPattern) B.pre
  have hown : s.vm.findClass RX1 = some m.cls := findClass_of_methodNamed B.named
  have hlocks := B.notSynchronized
  have hsz : s.heap.size = sz := hsz
  subst hsz
  have hD := hD0.self (sz := s.heap.size)
  have hA : ∀ q : Nat, s.heap.size ≤ q → (va_A (XW h0 h1 h2 h3 y1 y2 y3 (n) (w) T P M) s.heap.size) q := fun q h => Or.inr h
  have hS : va_S (va_A (XW h0 h1 h2 h3 y1 y2 y3 (n) (w) T P M) s.heap.size) s.heap s.heap [] := va_S.rf
  have hEb := hE
  have hAb := hA
  have hE := XEnv.narrow0 hE (B := va_A [] s.heap.size) (fun q h => nA0 h)
  have hA : ∀ q : Nat, s.heap.size ≤ q → va_A [] s.heap.size q := fun q h => Or.inr h
  have hS : va_S (va_A [] s.heap.size) s.heap s.heap [] := va_S.rf
  have inn : (nI n).toInt = (n : Int) := nI_toInt (by omega)
  have iww : (nI w).toInt = (w : Int) := nI_toInt (by omega)
  have hf_pattern := hts (.fieldLink RX1 13 "BlankMatcher" "pattern" "[I") (by decide +kernel)
  have hpl : pl n w = n + 1 - w := rfl
  have hin0 : ∀ w ∈ wsX10, w ∈ wsX1_setPattern := by decide +kernel
  have g_x1 := rg x1
  have g_x2 := rg x2
  have hl := lv_entry ([.ref h0, .int x1, .int x2]) (n := 4) (Nat.le_of_ble_eq_true rfl)
  rw [lg_entry_eq]
  generalize (lg_sl ([.ref h0, .int x1, .int x2]) ++ List.replicate (4 - (lg_sl ([.ref h0, .int x1, .int x2])).length) Slot.unset).toArray = ls at hl ⊢
  have hl : lv_has ls 4 [(0, .ref h0), (1, .int x1), (2, .int x2)] := hl
  refine lv_aload_n hx hb dX1_setPattern_0 rfl (lv_at hl 0 rfl) ?_
  refine lv_iload_n hx hb dX1_setPattern_1 rfl (lv_at hl 1 rfl) ?_
  refine vx_callv (vx_runV (As := [.int x1]) (rest := []) ⟨hx, hb, hml, hown, hts⟩ (c_X1_requirePatternIndex l hlt D E h0 h1 h2 h3 y1 y2 y3 s.heap.size (n) (w) T P M hn hw hT hPt x1) (cwV 1 hts gX1_setPattern_X1_requirePatternIndex rfl rfl rfl (by decide +kernel) ⟨Nat.le_of_ble_eq_true rfl, Nat.le_of_ble_eq_true rfl⟩) ⟨cp.blind, va_recv hK hP (ci := 0) (q0 := 0) rfl rfl, fun U hU hW => ⟨rfl, cp.call hP hK hE hS (fr0 hS hA) hU hW⟩⟩ rfl rfl hl.1 rfl (lv_room (Nat.le_of_ble_eq_true rfl)) dX1_setPattern_2 ⟨Nat.le_of_ble_eq_true rfl, Nat.le_of_ble_eq_true rfl⟩) hS (fun q _ h => (fr0 hS hA) q h) (fr0 hS hA) (fun q _ h => fr0 hS hA q h) (fun X ce q9 u t H1 locs1 ht hvm _ hB hz1 hk1 hS hc1 hc2 hc3 => ?_) (fun u t H1 locs1 ht hvm e2 hB hz1 hk1 hS => ?_)
  · refine vx_out (fun x h => (hnt x h).elim) hlocks hc1 hc2 hc3 (fun t ht2 _ => tX.out hS ht2 (Or.inl ⟨hB.1, by have hB2 := hB.2; unfold kST; (repeat' split) <;> omega⟩)) (fun z hz => nA0 (hS.2.2 z hz)) (Nat.le_of_ble_eq_true rfl) (Nat.le_of_ble_eq_true rfl)
  have hP := kp hP hk1
  generalize H1 = H at hP hS ⊢
  generalize locs1 = locs at hS ⊢
  obtain ⟨f2_0, f2_1⟩ := e2
  refine lv_iload_n hx hb dX1_setPattern_5 rfl (lv_at hl 2 rfl) ?_
  refine vx_callv (vx_runS (As := [.int x2]) (rest := []) ⟨hx, hb, hml, hown, hts⟩ (c_X1_requireSymbol l hlt D E H.size x2) (va_cwS 1 hts gX1_setPattern_X1_requireSymbol rfl rfl rfl (by decide +kernel) ⟨Nat.le_of_ble_eq_true rfl, Nat.le_of_ble_eq_true rfl⟩) ⟨cp.blind, fun U hU hW => ⟨rfl, cp.call (hP.sub (ws' := []) [] rfl) (hK.sub (tys' := []) [] rfl) hE hS (fr0 hS hA) hU hW⟩⟩ rfl rfl hl.1 rfl (lv_room (Nat.le_of_ble_eq_true rfl)) dX1_setPattern_6 ⟨Nat.le_of_ble_eq_true rfl, Nat.le_of_ble_eq_true rfl⟩) hS (fun q _ h => (fr0 hS hA) q h) (fr0 hS hA) (fun q _ h => fr0 hS hA q h) (fun X ce q9 u t H1 locs1 ht hvm _ hB hz1 hk1 hS hc1 hc2 hc3 => ?_) (fun u t H1 locs1 ht hvm e6 hB hz1 hk1 hS => ?_)
  · refine vx_out (fun x h => (hnt x h).elim) hlocks hc1 hc2 hc3 (fun t ht2 _ => tX.out hS ht2 (Or.inr ⟨hB.1, by have hB2 := hB.2; unfold kST; (repeat' split) <;> omega⟩)) (fun z hz => nA0 (hS.2.2 z hz)) (Nat.le_of_ble_eq_true rfl) (Nat.le_of_ble_eq_true rfl)
  have hP := kp hP hk1
  generalize H1 = H at hP hS ⊢
  generalize locs1 = locs at hS ⊢
  obtain ⟨f6_0, f6_1⟩ := e6
  refine lv_aload_n hx hb dX1_setPattern_9 rfl (lv_at hl 0 rfl) ?_
  refine va_get (D := D) (ci := 0) (v := .ref h2) (C := RX1) (T := TX1) (N := 5) hx hb hts hin0 hown hK hP 0 rfl rfl 1 (by decide) hf_pattern (fun _ h9 => h9) rfl dX1_setPattern_10 ?_
  refine lv_iload_n hx hb dX1_setPattern_13 rfl (lv_at hl 1 rfl) ?_
  refine z_iald hx hb hK hP 2 1 rfl rfl (x1.toInt.toNat) rfl (by omega) (by omega) dX1_setPattern_14 ?_
  refine lv_istore_n (lv' := [(3, .int (P (x1.toInt.toNat))), (0, .ref h0), (1, .int x1), (2, .int x2)]) hx hb dX1_setPattern_15 rfl hl (by decide) rfl (fun ls hl => ?_)
  refine lv_aload_n hx hb dX1_setPattern_16 rfl (lv_at hl 1 rfl) ?_
  refine va_get (D := D) (ci := 0) (v := .ref h2) (C := RX1) (T := TX1) (N := 5) hx hb hts hin0 hown hK hP 0 rfl rfl 1 (by decide) hf_pattern (fun _ h9 => h9) rfl dX1_setPattern_17 ?_
  refine lv_iload_n hx hb dX1_setPattern_20 rfl (lv_at hl 2 rfl) ?_
  refine lv_iload_n hx hb dX1_setPattern_21 rfl (lv_at hl 3 rfl) ?_
  have hS : va_S (va_A (XW h0 h1 h2 h3 y1 y2 y3 (n) (w) T P M) s.heap.size) s.heap _ _ := hS.mono0 (fun q h => nA0 h)
  have hE := hEb
  have hA := hAb
  refine z_iast hx hb hK hP hD hS 2 1 rfl rfl (x1.toInt.toNat) rfl (by omega) (by omega) dX1_setPattern_22 (fun H locs hP hD hS => ?_)
  have hP : va_P D vwCl (XW h0 h1 h2 h3 y1 y2 y3 (n) (w) T (upd P (x1.toInt.toNat) x2) M) H := hP
  have hD : va_D (va_A (XW h0 h1 h2 h3 y1 y2 y3 (n) (w) T P M) s.heap.size) (XW h0 h1 h2 h3 y1 y2 y3 (n) (w) T (upd P (x1.toInt.toNat) x2) M) := hD
  refine lv_iload_n hx hb dX1_setPattern_23 rfl (lv_at hl 0 rfl) ?_
  refine vx_ret ?_
  refine W.widen (k := 2) (n := 12) (Nat.le_of_ble_eq_true rfl) (Nat.le_of_ble_eq_true rfl) ?_
  exact W.iret (v := (P (x1.toInt.toNat))) hx hb hr (fun t ht hW => ⟨⟨_, (), rfl, ⟨(Eq.trans rfl (rfl)), by unfold kST; (repeat' split) <;> omega⟩, ⟨by rw [ht]; exact hP, hD⟩⟩, hS.F ht⟩) hS.2.2 dX1_setPattern_24

set_option maxHeartbeats 4000000 in
set_option maxRecDepth 100000 in
theorem c_X1_blanksInPattern (l : Launch) (D : va_G) (E : Nat × Nat × Nat) (h0 h1 h2 h3 : Nat) (y1 y2 y3 : ClassId) (sz n w : Nat) (T P M : Nat → Int32) (hn : n ≤ 64) (hw : w ≤ 24) (hT : SymF T) (hPt : SymF P) : Met l yX1_blanksInPattern wsX1_blanksInPattern ({ frames := 0, cells := 0, slots := 0, locals := 0 }) (va_Pc [.ref h0] (cp D (XW h0 h1 h2 h3 y1 y2 y3 (n) (w) T P M) (XT y1 y2 y3) E (va_A [] sz) sz)) (va_Qi (fun (r : Int32) (_ : Unit) => r.toInt = ((cnt (bf P) w : Nat) : Int)) (fun _ _ => True) (va_A [] sz)) 0 0 (va_A [] sz) := by
  refine Met.ofW (cc := cX1_blanksInPattern) (maxL := 3) (ret := (some .int)) (by decide) rfl ?_
  intro p e s m args below meth c s₁ B hml hv
  obtain ⟨rfl, hsz, hP, hK, hE⟩ := hv
  have hx := B.exec
  have hb := B.bytes
  have hr := B.returns
  have hts := atoms_spec (ws := wsX1_blanksInPattern) B.pre
  have hown : s.vm.findClass RX1 = some m.cls := findClass_of_methodNamed B.named
  have hlocks := B.notSynchronized
  have hsz : s.heap.size = sz := hsz
  subst hsz
  have hA : ∀ q : Nat, s.heap.size ≤ q → (va_A [] s.heap.size) q := fun q h => Or.inr h
  have hS : va_S (va_A [] s.heap.size) s.heap s.heap [] := va_S.rf
  have inn : (nI n).toInt = (n : Int) := nI_toInt (by omega)
  have iww : (nI w).toInt = (w : Int) := nI_toInt (by omega)
  have hf_pattern := hts (.fieldLink RX1 13 "BlankMatcher" "pattern" "[I") (by decide +kernel)
  have hf_patternSize := hts (.fieldLink RX1 23 "BlankMatcher" "patternSize" "I") (by decide +kernel)
  have hpl : pl n w = n + 1 - w := rfl
  have hin0 : ∀ w ∈ wsX10, w ∈ wsX1_blanksInPattern := by decide +kernel
  have hl := lv_entry ([.ref h0]) (n := 3) (Nat.le_of_ble_eq_true rfl)
  rw [lg_entry_eq]
  generalize (lg_sl ([.ref h0]) ++ List.replicate (3 - (lg_sl ([.ref h0])).length) Slot.unset).toArray = ls at hl ⊢
  have hl : lv_has ls 3 [(0, .ref h0)] := hl
  refine lv_iconst (v := 0) hx hb dX1_blanksInPattern_0 (by decide) ?_
  refine lv_istore_n (lv' := [(1, .int 0), (0, .ref h0)]) hx hb dX1_blanksInPattern_1 rfl hl (by decide) rfl (fun ls hl => ?_)
  refine lv_iconst (v := 0) hx hb dX1_blanksInPattern_2 (by decide) ?_
  refine lv_istore_n (lv' := [(2, .int 0), (1, .int 0), (0, .ref h0)]) hx hb dX1_blanksInPattern_3 rfl hl (by decide) rfl (fun ls hl => ?_)
  have lp4 : ∀ (nf : Nat) (j : Nat) (x1 : Int32) (x2 : Int32), w - j < nf → (j ≤ w) → x1.toInt = ((cnt (bf P) j : Nat) : Int) → x2.toInt = (j : Int) → ∀ (H : Heap) (locs : List Loc), va_P D vwCl (XW h0 h1 h2 h3 y1 y2 y3 (n) (w) T P M) H → va_S (va_A [] s.heap.size) s.heap H locs → ∀ (ls : Array Slot), lv_has ls 3 [(0, .ref h0), (1, .int x1), (2, .int x2)] → W p l e (headSpec wsX1_blanksInPattern ({ frames := 0, cells := 0, slots := 0, locals := 0 })).room s m [.ref h0].toArray below meth c H locs 0 0 (MQ below (va_Qi (fun (r : Int32) (_ : Unit) => r.toInt = ((cnt (bf P) w : Nat) : Int)) (fun _ _ => True) (va_A [] s.heap.size)) [.ref h0].toArray s 0 0 (va_A [] s.heap.size)) (F0 m 4 ls []) := by
    intro nf
    induction nf with
    | zero => intros; omega
    | succ nf ih4 =>
      intro j x1 x2 hnf hj e_x1 e_x2 H locs hP hS ls hl
      have hcl := cnt_le (bf P) j
      refine lv_iload_n hx hb dX1_blanksInPattern_4 rfl (lv_at hl 2 rfl) ?_
      refine lv_aload_n hx hb dX1_blanksInPattern_5 rfl (lv_at hl 0 rfl) ?_
      refine va_get (D := D) (ci := 0) (v := .int (nI w)) (C := RX1) (T := TX1) (N := 5) hx hb hts hin0 hown hK hP 0 rfl rfl 4 (by decide) hf_patternSize (fun _ h9 => h9) rfl dX1_blanksInPattern_6 ?_
      refine z_icmp_ge (tgt := 30) hx hb dX1_blanksInPattern_9 (by decide) e_x2 iww (fun c9 => ?_) (fun c9 => ?_)
      · have _u := True.intro
        refine lv_iload_n hx hb dX1_blanksInPattern_30 rfl (lv_at hl 1 rfl) ?_
        refine W.widen (k := 0) (n := 0) (Nat.le_of_ble_eq_true rfl) (Nat.le_of_ble_eq_true rfl) ?_
        exact W.iret (v := x1) hx hb hr (fun t ht hW => ⟨⟨_, (), rfl, (Eq.trans e_x1 (by have q : j = w := (by omega); rw [q])), trivial⟩, hS.F ht⟩) hS.2.2 dX1_blanksInPattern_31
      · have _u := True.intro
        refine lv_aload_n hx hb dX1_blanksInPattern_12 rfl (lv_at hl 0 rfl) ?_
        refine va_get (D := D) (ci := 0) (v := .ref h2) (C := RX1) (T := TX1) (N := 5) hx hb hts hin0 hown hK hP 0 rfl rfl 1 (by decide) hf_pattern (fun _ h9 => h9) rfl dX1_blanksInPattern_13 ?_
        refine lv_iload_n hx hb dX1_blanksInPattern_16 rfl (lv_at hl 2 rfl) ?_
        refine z_iald hx hb hK hP 2 1 rfl rfl (j) e_x2 (by omega) (by omega) dX1_blanksInPattern_17 ?_
        refine z_if_ne (tgt := 24) hx hb dX1_blanksInPattern_18 (by decide) rfl (fun c18 => ?_) (fun c18 => ?_)
        · have _u := True.intro
          have q := cnt_f (f := bf P) (k := j) (bf_f c18)
          refine z_iinc (k := 2) (lv' := fun v => [(2, .int v), (0, .ref h0), (1, .int x1)]) hx hb dX1_blanksInPattern_24 hl rfl e_x2 (by decide) (by omega) (by omega) (by decide) (fun _ => rfl) (fun v24 ls e24 hl => ?_)
          refine lv_goto (tgt := 4) hx hb dX1_blanksInPattern_27 (by decide) ?_
          exact ih4 (j + 1) x1 v24 (by omega) (by omega) (Eq.trans e_x1 (by omega)) (Eq.trans e24 (by omega)) _ _ hP hS _ (lv_sub hl [1, 2, 0] rfl)
        · have _u := True.intro
          have q := cnt_t (f := bf P) (k := j) (bf_t c18)
          refine z_iinc (k := 1) (lv' := fun v => [(1, .int v), (0, .ref h0), (2, .int x2)]) hx hb dX1_blanksInPattern_21 hl rfl e_x1 (by decide) (by omega) (by omega) (by decide) (fun _ => rfl) (fun v21 ls e21 hl => ?_)
          refine z_iinc (k := 2) (lv' := fun v => [(2, .int v), (1, .int v21), (0, .ref h0)]) hx hb dX1_blanksInPattern_24 hl rfl e_x2 (by decide) (by omega) (by omega) (by decide) (fun _ => rfl) (fun v24 ls e24 hl => ?_)
          refine lv_goto (tgt := 4) hx hb dX1_blanksInPattern_27 (by decide) ?_
          exact ih4 (j + 1) v21 v24 (by omega) (by omega) (Eq.trans e21 (by omega)) (Eq.trans e24 (by omega)) _ _ hP hS _ (lv_sub hl [2, 1, 0] rfl)
  have hc0 := cnt_0 (bf P)
  exact lp4 ((w - 0) + 1) (0) 0 0 (by omega) (by omega) (Eq.trans (show (0 : Int32).toInt = 0 by decide) (by omega)) (Eq.trans (show (0 : Int32).toInt = 0 by decide) (by omega)) _ _ hP hS _ (lv_sub hl [2, 1, 0] rfl)

set_option maxHeartbeats 4000000 in
set_option maxRecDepth 100000 in
theorem c_X1_takePattern (l : Launch) (hlt : l.stackTraces = false) (D : va_G) (E : Nat × Nat × Nat) (h0 h1 h2 h3 : Nat) (y1 y2 y3 : ClassId) (sz n w : Nat) (T P M : Nat → Int32) (hn : n ≤ 64) (hw : w ≤ 24) (hT : SymF T) (hPt : SymF P) (hD0 : va_D (fun _ => True) (XW h0 h1 h2 h3 y1 y2 y3 (n) (w) T P M)) (x1 : Int32) (x2 : Int32) : vx_Met l yX1_takePattern wsX1_takePattern ({ frames := 7, cells := 1, slots := 6, locals := 112 }) (va_Pc [.ref h0, .int x1, .int x2] (cp D (XW h0 h1 h2 h3 y1 y2 y3 (n) (w) T P M) (XT y1 y2 y3) E (va_A (XW h0 h1 h2 h3 y1 y2 y3 (n) (w) T P M) sz) sz)) (va_Qi (fun (r : Int32) (_ : Unit) => r.toInt = ((cnt (bf (va_cpy T P x1.toInt.toNat 0 x2.toInt.toNat)) x2.toInt.toNat : Nat) : Int) ∧ kTP n x1.toInt x2.toInt = 0) (fun _ t => va_P D vwCl (XW h0 h1 h2 h3 y1 y2 y3 (n) (x2.toInt.toNat) T (va_cpy T P x1.toInt.toNat 0 x2.toInt.toNat) M) t.heap ∧ va_D (va_A (XW h0 h1 h2 h3 y1 y2 y3 (n) (w) T P M) sz) (XW h0 h1 h2 h3 y1 y2 y3 (n) (x2.toInt.toNat) T (va_cpy T P x1.toInt.toNat 0 x2.toInt.toNat) M)) (va_A (XW h0 h1 h2 h3 y1 y2 y3 (n) (w) T P M) sz)) (tX (fun X => (X = "java/lang/IllegalArgumentException" ∧ kTP n x1.toInt x2.toInt = 1) ∨ (X = "java/lang/IndexOutOfBoundsException" ∧ kTP n x1.toInt x2.toInt = 2)) sz) 1 6 (va_A (XW h0 h1 h2 h3 y1 y2 y3 (n) (w) T P M) sz) := by
  refine vx_ofW (cc := cX1_takePattern) (maxL := 3) (ret := (some .int)) (by decide) rfl ?_
  intro p e s m args below meth c s₁ B hml hnt hv
  obtain ⟨rfl, hsz, hP, hK, hE⟩ := hv
  have hx := B.exec
  have hb := B.bytes
  have hr := B.returns
  have hts := atoms_spec (ws := wsX1_takePattern) B.pre
  have hown : s.vm.findClass RX1 = some m.cls := findClass_of_methodNamed B.named
  have hlocks := B.notSynchronized
  have hsz : s.heap.size = sz := hsz
  subst hsz
  have hD := hD0.self (sz := s.heap.size)
  have hA : ∀ q : Nat, s.heap.size ≤ q → (va_A (XW h0 h1 h2 h3 y1 y2 y3 (n) (w) T P M) s.heap.size) q := fun q h => Or.inr h
  have hS : va_S (va_A (XW h0 h1 h2 h3 y1 y2 y3 (n) (w) T P M) s.heap.size) s.heap s.heap [] := va_S.rf
  have hEb := hE
  have hAb := hA
  have hE := XEnv.narrow0 hE (B := va_A [] s.heap.size) (fun q h => nA0 h)
  have hA : ∀ q : Nat, s.heap.size ≤ q → va_A [] s.heap.size q := fun q h => Or.inr h
  have hS : va_S (va_A [] s.heap.size) s.heap s.heap [] := va_S.rf
  have inn : (nI n).toInt = (n : Int) := nI_toInt (by omega)
  have iww : (nI w).toInt = (w : Int) := nI_toInt (by omega)
  have hf_pattern := hts (.fieldLink RX1 13 "BlankMatcher" "pattern" "[I") (by decide +kernel)
  have hf_patternSize := hts (.fieldLink RX1 23 "BlankMatcher" "patternSize" "I") (by decide +kernel)
  have hf_text := hts (.fieldLink RX1 9 "BlankMatcher" "text" "[I") (by decide +kernel)
  have hpl : pl n w = n + 1 - w := rfl
  have hin0 : ∀ w ∈ wsX10, w ∈ wsX1_takePattern := by decide +kernel
  have g_x1 := rg x1
  have g_x2 := rg x2
  have hl := lv_entry ([.ref h0, .int x1, .int x2]) (n := 3) (Nat.le_of_ble_eq_true rfl)
  rw [lg_entry_eq]
  generalize (lg_sl ([.ref h0, .int x1, .int x2]) ++ List.replicate (3 - (lg_sl ([.ref h0, .int x1, .int x2])).length) Slot.unset).toArray = ls at hl ⊢
  have hl : lv_has ls 3 [(0, .ref h0), (1, .int x1), (2, .int x2)] := hl
  refine lv_iload_n hx hb dX1_takePattern_0 rfl (lv_at hl 2 rfl) ?_
  refine z_if_lt (tgt := 10) hx hb dX1_takePattern_1 (by decide) rfl (fun c1 => ?_) (fun c1 => ?_)
  · have _u := True.intro
    exact xIAE_throw hx hb hlt hown hts (by decide +kernel) hE hS (hl.1.trans hml.symm) hnt dX1_takePattern_10 dX1_takePattern_13 dX1_takePattern_14 dX1_takePattern_16 dX1_takePattern_19 (xS_64) (Nat.le_of_ble_eq_true rfl) (Nat.le_of_ble_eq_true rfl) (Nat.le_of_ble_eq_true rfl) (Nat.le_of_ble_eq_true rfl) hlocks (Or.inl ⟨rfl, by unfold kTP; (repeat' split) <;> omega⟩) (fun z hz => nA0 (hS.2.2 z hz)) (Nat.le_of_ble_eq_true rfl) (Nat.le_of_ble_eq_true rfl)
  · have _u := True.intro
    refine lv_iload_n hx hb dX1_takePattern_4 rfl (lv_at hl 2 rfl) ?_
    refine lv_bipush (v := 24) hx hb dX1_takePattern_5 (by decide) ?_
    refine z_icmp_le (tgt := 20) hx hb dX1_takePattern_7 (by decide) rfl (show (24 : Int32).toInt = 24 by decide) (fun c7 => ?_) (fun c7 => ?_)
    · have _u := True.intro
      refine lv_aload_n hx hb dX1_takePattern_20 rfl (lv_at hl 0 rfl) ?_
      refine lv_iload_n hx hb dX1_takePattern_21 rfl (lv_at hl 1 rfl) ?_
      refine lv_iload_n hx hb dX1_takePattern_22 rfl (lv_at hl 2 rfl) ?_
      refine vx_callv (vx_runV (As := [.int x1, .int x2]) (rest := []) ⟨hx, hb, hml, hown, hts⟩ (c_X1_requirePartOfText l hlt D E h0 h1 h2 h3 y1 y2 y3 s.heap.size (n) (w) T P M hn hw hT hPt x1 x2 (by omega)) (cwV 2 hts gX1_takePattern_X1_requirePartOfText rfl rfl rfl (by decide +kernel) ⟨Nat.le_of_ble_eq_true rfl, Nat.le_of_ble_eq_true rfl⟩) ⟨cp.blind, va_recv hK hP (ci := 0) (q0 := 0) rfl rfl, fun U hU hW => ⟨rfl, cp.call hP hK hE hS (fr0 hS hA) hU hW⟩⟩ rfl rfl hl.1 rfl (lv_room (Nat.le_of_ble_eq_true rfl)) dX1_takePattern_23 ⟨Nat.le_of_ble_eq_true rfl, Nat.le_of_ble_eq_true rfl⟩) hS (fun q _ h => (fr0 hS hA) q h) (fr0 hS hA) (fun q _ h => fr0 hS hA q h) (fun X ce q9 u t H1 locs1 ht hvm _ hB hz1 hk1 hS hc1 hc2 hc3 => ?_) (fun u t H1 locs1 ht hvm e23 hB hz1 hk1 hS => ?_)
      · refine vx_out (fun x h => (hnt x h).elim) hlocks hc1 hc2 hc3 (fun t ht2 _ => tX.out hS ht2 (Or.inr ⟨hB.1, by have hB2 := hB.2; unfold kTP; (repeat' split) <;> omega⟩)) (fun z hz => nA0 (hS.2.2 z hz)) (Nat.le_of_ble_eq_true rfl) (Nat.le_of_ble_eq_true rfl)
      have hP := kp hP hk1
      generalize H1 = H at hP hS ⊢
      generalize locs1 = locs at hS ⊢
      obtain ⟨f23_0, f23_1⟩ := e23
      refine lv_aload_n hx hb dX1_takePattern_26 rfl (lv_at hl 0 rfl) ?_
      refine va_get (D := D) (ci := 0) (v := .ref h1) (C := RX1) (T := TX1) (N := 5) hx hb hts hin0 hown hK hP 0 rfl rfl 0 (by decide) hf_text (fun _ h9 => h9) rfl dX1_takePattern_27 ?_
      refine lv_iload_n hx hb dX1_takePattern_30 rfl (lv_at hl 1 rfl) ?_
      refine lv_aload_n hx hb dX1_takePattern_31 rfl (lv_at hl 0 rfl) ?_
      refine va_get (D := D) (ci := 0) (v := .ref h2) (C := RX1) (T := TX1) (N := 5) hx hb hts hin0 hown hK hP 0 rfl rfl 1 (by decide) hf_pattern (fun _ h9 => h9) rfl dX1_takePattern_32 ?_
      refine lv_iconst (v := 0) hx hb dX1_takePattern_35 (by decide) ?_
      refine lv_iload_n hx hb dX1_takePattern_36 rfl (lv_at hl 2 rfl) ?_
      have hS : va_S (va_A (XW h0 h1 h2 h3 y1 y2 y3 (n) (w) T P M) s.heap.size) s.heap _ _ := hS.mono0 (fun q h => nA0 h)
      have hE := hEb
      have hA := hAb
      have hsp : Int32.toNatClampNeg (x1) = x1.toInt.toNat := clN (Eq.trans rfl (by omega))
      have hdp : Int32.toNatClampNeg (0) = 0 := clN (Eq.trans (show (0 : Int32).toInt = 0 by decide) (by omega))
      have hnn : Int32.toNatClampNeg (x2) = x2.toInt.toNat := clN (Eq.trans rfl (by omega))
      refine va_copyi hx hb (by rw [hml]; exact hl.1.symm) hown (hts (.methodLink RX1 48 arraycopyName) (by decide +kernel)) (hts (.native arraycopyName) (by decide +kernel)) (hts (.static arraycopyName) (by decide +kernel)) (hts (.initialized "java/lang/System") (by decide +kernel)) hK hP hD hS 1 2 0 1 rfl rfl rfl rfl (by decide) (fun h => absurd ((zlt rfl i0).mp h) (by omega)) (fun h => absurd ((zlt (show (0 : Int32).toInt = 0 by decide) i0).mp h) (by omega)) (fun h => absurd ((zlt rfl i0).mp h) (by omega)) (by rw [hsp, hnn]; omega) (by rw [hdp, hnn]; omega) (fun _ _ => rfl) (Nat.le_of_ble_eq_true rfl) (Nat.le_of_ble_eq_true rfl) dX1_takePattern_37 (fun H locs hP hD hS => ?_)
      rw [hsp, hdp, hnn] at hP hD
      have hP : va_P D vwCl (XW h0 h1 h2 h3 y1 y2 y3 (n) (w) T (va_cpy T P x1.toInt.toNat 0 x2.toInt.toNat) M) H := hP
      have hD : va_D (va_A (XW h0 h1 h2 h3 y1 y2 y3 (n) (w) T P M) s.heap.size) (XW h0 h1 h2 h3 y1 y2 y3 (n) (w) T (va_cpy T P x1.toInt.toNat 0 x2.toInt.toNat) M) := hD
      refine lv_aload_n hx hb dX1_takePattern_40 rfl (lv_at hl 0 rfl) ?_
      refine lv_iload_n hx hb dX1_takePattern_41 rfl (lv_at hl 2 rfl) ?_
      refine lv_as (y := nI (x2.toInt.toNat)) (nIe (Eq.trans rfl (by omega))) ?_
      refine va_put (D := D) (ci := 0) (v := .int (nI (x2.toInt.toNat))) (ty := .int) (C := RX1) (T := TX1) (N := 5) hx hb hts hin0 tyX1 tyX1_ok nmX1 hown hK hP hD hS 0 rfl rfl 4 (by decide) hf_patternSize (fun _ h9 => h9) rfl (by decide +kernel) rfl rfl (Nat.le_of_ble_eq_true rfl) dX1_takePattern_42 (fun H locs hP hD hS => ?_)
      have hP : va_P D vwCl (XW h0 h1 h2 h3 y1 y2 y3 (n) (x2.toInt.toNat) T (va_cpy T P x1.toInt.toNat 0 x2.toInt.toNat) M) H := hP
      have hD : va_D (va_A (XW h0 h1 h2 h3 y1 y2 y3 (n) (w) T P M) s.heap.size) (XW h0 h1 h2 h3 y1 y2 y3 (n) (x2.toInt.toNat) T (va_cpy T P x1.toInt.toNat 0 x2.toInt.toNat) M) := hD
      refine lv_aload_n hx hb dX1_takePattern_45 rfl (lv_at hl 0 rfl) ?_
      refine va_calli (va_runV (As := []) (rest := []) ⟨hx, hb, hml, hown, hts⟩ (c_X1_blanksInPattern l D E h0 h1 h2 h3 y1 y2 y3 H.size (n) (x2.toInt.toNat) T (va_cpy T P x1.toInt.toNat 0 x2.toInt.toNat) M hn (by omega) hT (SymF.cpy hT hPt _ _ _)) (cwV 0 hts gX1_takePattern_X1_blanksInPattern rfl rfl rfl (by decide +kernel) ⟨Nat.le_of_ble_eq_true rfl, Nat.le_of_ble_eq_true rfl⟩) ⟨cp.blind, va_recv hK hP (ci := 0) (q0 := 0) rfl rfl, fun U hU hW => ⟨rfl, cp.call hP hK hE hS (fr0 hS hA) hU hW⟩⟩ rfl rfl hl.1 rfl (lv_room (Nat.le_of_ble_eq_true rfl)) dX1_takePattern_46 ⟨Nat.le_of_ble_eq_true rfl, Nat.le_of_ble_eq_true rfl⟩) hS (fun q _ h => (fr0 hS hA) q h) (fr0 hS hA) (fun v46 u t H1 locs1 ht hvm e46 hB hz1 hk1 hS => ?_)
      have hP := kp hP hk1
      generalize H1 = H at hP hS ⊢
      generalize locs1 = locs at hS ⊢
      refine vx_ret ?_
      refine W.widen (k := 1) (n := 6) (Nat.le_of_ble_eq_true rfl) (Nat.le_of_ble_eq_true rfl) ?_
      exact W.iret (v := v46) hx hb hr (fun t ht hW => ⟨⟨_, (), rfl, ⟨(Eq.trans e46 (rfl)), by unfold kTP; (repeat' split) <;> omega⟩, ⟨by rw [ht]; exact hP, hD⟩⟩, hS.F ht⟩) hS.2.2 dX1_takePattern_49
    · have _u := True.intro
      exact xIAE_throw hx hb hlt hown hts (by decide +kernel) hE hS (hl.1.trans hml.symm) hnt dX1_takePattern_10 dX1_takePattern_13 dX1_takePattern_14 dX1_takePattern_16 dX1_takePattern_19 (xS_64) (Nat.le_of_ble_eq_true rfl) (Nat.le_of_ble_eq_true rfl) (Nat.le_of_ble_eq_true rfl) (Nat.le_of_ble_eq_true rfl) hlocks (Or.inl ⟨rfl, by unfold kTP; (repeat' split) <;> omega⟩) (fun z hz => nA0 (hS.2.2 z hz)) (Nat.le_of_ble_eq_true rfl) (Nat.le_of_ble_eq_true rfl)

set_option maxHeartbeats 4000000 in
set_option maxRecDepth 100000 in
theorem c_X1_clearText (l : Launch) (D : va_G) (E : Nat × Nat × Nat) (h0 h1 h2 h3 : Nat) (y1 y2 y3 : ClassId) (sz n w : Nat) (T P M : Nat → Int32) (hn : n ≤ 64) (hw : w ≤ 24) (hT : SymF T) (hPt : SymF P) (hD0 : va_D (fun _ => True) (XW h0 h1 h2 h3 y1 y2 y3 (n) (w) T P M)) : Met l yX1_clearText wsX1_clearText ({ frames := 0, cells := 0, slots := 0, locals := 0 }) (va_Pc [.ref h0] (cp D (XW h0 h1 h2 h3 y1 y2 y3 (n) (w) T P M) (XT y1 y2 y3) E (va_A (XW h0 h1 h2 h3 y1 y2 y3 (n) (w) T P M) sz) sz)) (va_Qi (fun (r : Int32) (_ : Unit) => r.toInt = (n : Int)) (fun _ t => va_P D vwCl (XW h0 h1 h2 h3 y1 y2 y3 (0) (w) T P M) t.heap ∧ va_D (va_A (XW h0 h1 h2 h3 y1 y2 y3 (n) (w) T P M) sz) (XW h0 h1 h2 h3 y1 y2 y3 (0) (w) T P M)) (va_A (XW h0 h1 h2 h3 y1 y2 y3 (n) (w) T P M) sz)) 0 0 (va_A (XW h0 h1 h2 h3 y1 y2 y3 (n) (w) T P M) sz) := by
  refine Met.ofW (cc := cX1_clearText) (maxL := 2) (ret := (some .int)) (by decide) rfl ?_
  intro p e s m args below meth c s₁ B hml hv
  obtain ⟨rfl, hsz, hP, hK, hE⟩ := hv
  have hx := B.exec
  have hb := B.bytes
  have hr := B.returns
  have hts := atoms_spec (ws := wsX1_clearText) B.pre
  have hown : s.vm.findClass RX1 = some m.cls := findClass_of_methodNamed B.named
  have hlocks := B.notSynchronized
  have hsz : s.heap.size = sz := hsz
  subst hsz
  have hD := hD0.self (sz := s.heap.size)
  have hA : ∀ q : Nat, s.heap.size ≤ q → (va_A (XW h0 h1 h2 h3 y1 y2 y3 (n) (w) T P M) s.heap.size) q := fun q h => Or.inr h
  have hS : va_S (va_A (XW h0 h1 h2 h3 y1 y2 y3 (n) (w) T P M) s.heap.size) s.heap s.heap [] := va_S.rf
  have inn : (nI n).toInt = (n : Int) := nI_toInt (by omega)
  have iww : (nI w).toInt = (w : Int) := nI_toInt (by omega)
  have hf_textSize := hts (.fieldLink RX1 19 "BlankMatcher" "textSize" "I") (by decide +kernel)
  have hpl : pl n w = n + 1 - w := rfl
  have hin0 : ∀ w ∈ wsX10, w ∈ wsX1_clearText := by decide +kernel
  have hl := lv_entry ([.ref h0]) (n := 2) (Nat.le_of_ble_eq_true rfl)
  rw [lg_entry_eq]
  generalize (lg_sl ([.ref h0]) ++ List.replicate (2 - (lg_sl ([.ref h0])).length) Slot.unset).toArray = ls at hl ⊢
  have hl : lv_has ls 2 [(0, .ref h0)] := hl
  refine lv_aload_n hx hb dX1_clearText_0 rfl (lv_at hl 0 rfl) ?_
  refine va_get (D := D) (ci := 0) (v := .int (nI n)) (C := RX1) (T := TX1) (N := 5) hx hb hts hin0 hown hK hP 0 rfl rfl 3 (by decide) hf_textSize (fun _ h9 => h9) rfl dX1_clearText_1 ?_
  refine lv_istore_n (lv' := [(1, .int (nI n)), (0, .ref h0)]) hx hb dX1_clearText_4 rfl hl (by decide) rfl (fun ls hl => ?_)
  refine lv_aload_n hx hb dX1_clearText_5 rfl (lv_at hl 1 rfl) ?_
  refine lv_iconst (v := 0) hx hb dX1_clearText_6 (by decide) ?_
  refine lv_as (y := nI (0)) (nIe (Eq.trans (show (0 : Int32).toInt = 0 by decide) (by omega))) ?_
  refine va_put (D := D) (ci := 0) (v := .int (nI (0))) (ty := .int) (C := RX1) (T := TX1) (N := 5) hx hb hts hin0 tyX1 tyX1_ok nmX1 hown hK hP hD hS 0 rfl rfl 3 (by decide) hf_textSize (fun _ h9 => h9) rfl (by decide +kernel) rfl rfl (Nat.le_of_ble_eq_true rfl) dX1_clearText_7 (fun H locs hP hD hS => ?_)
  have hP : va_P D vwCl (XW h0 h1 h2 h3 y1 y2 y3 (0) (w) T P M) H := hP
  have hD : va_D (va_A (XW h0 h1 h2 h3 y1 y2 y3 (n) (w) T P M) s.heap.size) (XW h0 h1 h2 h3 y1 y2 y3 (0) (w) T P M) := hD
  refine lv_iload_n hx hb dX1_clearText_10 rfl (lv_at hl 0 rfl) ?_
  refine W.widen (k := 0) (n := 0) (Nat.le_of_ble_eq_true rfl) (Nat.le_of_ble_eq_true rfl) ?_
  exact W.iret (v := (nI n)) hx hb hr (fun t ht hW => ⟨⟨_, (), rfl, (Eq.trans inn (by omega)), ⟨by rw [ht]; exact hP, hD⟩⟩, hS.F ht⟩) hS.2.2 dX1_clearText_11

set_option maxHeartbeats 4000000 in
set_option maxRecDepth 100000 in
theorem c_X1_clearPattern (l : Launch) (D : va_G) (E : Nat × Nat × Nat) (h0 h1 h2 h3 : Nat) (y1 y2 y3 : ClassId) (sz n w : Nat) (T P M : Nat → Int32) (hn : n ≤ 64) (hw : w ≤ 24) (hT : SymF T) (hPt : SymF P) (hD0 : va_D (fun _ => True) (XW h0 h1 h2 h3 y1 y2 y3 (n) (w) T P M)) : Met l yX1_clearPattern wsX1_clearPattern ({ frames := 0, cells := 0, slots := 0, locals := 0 }) (va_Pc [.ref h0] (cp D (XW h0 h1 h2 h3 y1 y2 y3 (n) (w) T P M) (XT y1 y2 y3) E (va_A (XW h0 h1 h2 h3 y1 y2 y3 (n) (w) T P M) sz) sz)) (va_Qi (fun (r : Int32) (_ : Unit) => r.toInt = (w : Int)) (fun _ t => va_P D vwCl (XW h0 h1 h2 h3 y1 y2 y3 (n) (0) T P M) t.heap ∧ va_D (va_A (XW h0 h1 h2 h3 y1 y2 y3 (n) (w) T P M) sz) (XW h0 h1 h2 h3 y1 y2 y3 (n) (0) T P M)) (va_A (XW h0 h1 h2 h3 y1 y2 y3 (n) (w) T P M) sz)) 0 0 (va_A (XW h0 h1 h2 h3 y1 y2 y3 (n) (w) T P M) sz) := by
  refine Met.ofW (cc := cX1_clearPattern) (maxL := 2) (ret := (some .int)) (by decide) rfl ?_
  intro p e s m args below meth c s₁ B hml hv
  obtain ⟨rfl, hsz, hP, hK, hE⟩ := hv
  have hx := B.exec
  have hb := B.bytes
  have hr := B.returns
  have hts := atoms_spec (ws := wsX1_clearPattern) B.pre
  have hown : s.vm.findClass RX1 = some m.cls := findClass_of_methodNamed B.named
  have hlocks := B.notSynchronized
  have hsz : s.heap.size = sz := hsz
  subst hsz
  have hD := hD0.self (sz := s.heap.size)
  have hA : ∀ q : Nat, s.heap.size ≤ q → (va_A (XW h0 h1 h2 h3 y1 y2 y3 (n) (w) T P M) s.heap.size) q := fun q h => Or.inr h
  have hS : va_S (va_A (XW h0 h1 h2 h3 y1 y2 y3 (n) (w) T P M) s.heap.size) s.heap s.heap [] := va_S.rf
  have inn : (nI n).toInt = (n : Int) := nI_toInt (by omega)
  have iww : (nI w).toInt = (w : Int) := nI_toInt (by omega)
  have hf_patternSize := hts (.fieldLink RX1 23 "BlankMatcher" "patternSize" "I") (by decide +kernel)
  have hpl : pl n w = n + 1 - w := rfl
  have hin0 : ∀ w ∈ wsX10, w ∈ wsX1_clearPattern := by decide +kernel
  have hl := lv_entry ([.ref h0]) (n := 2) (Nat.le_of_ble_eq_true rfl)
  rw [lg_entry_eq]
  generalize (lg_sl ([.ref h0]) ++ List.replicate (2 - (lg_sl ([.ref h0])).length) Slot.unset).toArray = ls at hl ⊢
  have hl : lv_has ls 2 [(0, .ref h0)] := hl
  refine lv_aload_n hx hb dX1_clearPattern_0 rfl (lv_at hl 0 rfl) ?_
  refine va_get (D := D) (ci := 0) (v := .int (nI w)) (C := RX1) (T := TX1) (N := 5) hx hb hts hin0 hown hK hP 0 rfl rfl 4 (by decide) hf_patternSize (fun _ h9 => h9) rfl dX1_clearPattern_1 ?_
  refine lv_istore_n (lv' := [(1, .int (nI w)), (0, .ref h0)]) hx hb dX1_clearPattern_4 rfl hl (by decide) rfl (fun ls hl => ?_)
  refine lv_aload_n hx hb dX1_clearPattern_5 rfl (lv_at hl 1 rfl) ?_
  refine lv_iconst (v := 0) hx hb dX1_clearPattern_6 (by decide) ?_
  refine lv_as (y := nI (0)) (nIe (Eq.trans (show (0 : Int32).toInt = 0 by decide) (by omega))) ?_
  refine va_put (D := D) (ci := 0) (v := .int (nI (0))) (ty := .int) (C := RX1) (T := TX1) (N := 5) hx hb hts hin0 tyX1 tyX1_ok nmX1 hown hK hP hD hS 0 rfl rfl 4 (by decide) hf_patternSize (fun _ h9 => h9) rfl (by decide +kernel) rfl rfl (Nat.le_of_ble_eq_true rfl) dX1_clearPattern_7 (fun H locs hP hD hS => ?_)
  have hP : va_P D vwCl (XW h0 h1 h2 h3 y1 y2 y3 (n) (0) T P M) H := hP
  have hD : va_D (va_A (XW h0 h1 h2 h3 y1 y2 y3 (n) (w) T P M) s.heap.size) (XW h0 h1 h2 h3 y1 y2 y3 (n) (0) T P M) := hD
  refine lv_iload_n hx hb dX1_clearPattern_10 rfl (lv_at hl 0 rfl) ?_
  refine W.widen (k := 0) (n := 0) (Nat.le_of_ble_eq_true rfl) (Nat.le_of_ble_eq_true rfl) ?_
  exact W.iret (v := (nI w)) hx hb hr (fun t ht hW => ⟨⟨_, (), rfl, (Eq.trans iww (by omega)), ⟨by rw [ht]; exact hP, hD⟩⟩, hS.F ht⟩) hS.2.2 dX1_clearPattern_11

set_option maxHeartbeats 4000000 in
set_option maxRecDepth 100000 in
theorem c_X1_textLength (l : Launch) (D : va_G) (E : Nat × Nat × Nat) (h0 h1 h2 h3 : Nat) (y1 y2 y3 : ClassId) (sz n w : Nat) (T P M : Nat → Int32) (hn : n ≤ 64) (hw : w ≤ 24) (hT : SymF T) (hPt : SymF P) : Met l yX1_textLength wsX1_textLength ({ frames := 0, cells := 0, slots := 0, locals := 0 }) (va_Pc [.ref h0] (cp D (XW h0 h1 h2 h3 y1 y2 y3 (n) (w) T P M) (XT y1 y2 y3) E (va_A [] sz) sz)) (va_Qi (fun (r : Int32) (_ : Unit) => r.toInt = (n : Int)) (fun _ _ => True) (va_A [] sz)) 0 0 (va_A [] sz) := by
  refine Met.ofW (cc := cX1_textLength) (maxL := 1) (ret := (some .int)) (by decide) rfl ?_
  intro p e s m args below meth c s₁ B hml hv
  obtain ⟨rfl, hsz, hP, hK, hE⟩ := hv
  have hx := B.exec
  have hb := B.bytes
  have hr := B.returns
  have hts := atoms_spec (ws := wsX1_textLength) B.pre
  have hown : s.vm.findClass RX1 = some m.cls := findClass_of_methodNamed B.named
  have hlocks := B.notSynchronized
  have hsz : s.heap.size = sz := hsz
  subst hsz
  have hA : ∀ q : Nat, s.heap.size ≤ q → (va_A [] s.heap.size) q := fun q h => Or.inr h
  have hS : va_S (va_A [] s.heap.size) s.heap s.heap [] := va_S.rf
  have inn : (nI n).toInt = (n : Int) := nI_toInt (by omega)
  have iww : (nI w).toInt = (w : Int) := nI_toInt (by omega)
  have hf_textSize := hts (.fieldLink RX1 19 "BlankMatcher" "textSize" "I") (by decide +kernel)
  have hpl : pl n w = n + 1 - w := rfl
  have hin0 : ∀ w ∈ wsX10, w ∈ wsX1_textLength := by decide +kernel
  have hl := lv_entry ([.ref h0]) (n := 1) (Nat.le_of_ble_eq_true rfl)
  rw [lg_entry_eq]
  generalize (lg_sl ([.ref h0]) ++ List.replicate (1 - (lg_sl ([.ref h0])).length) Slot.unset).toArray = ls at hl ⊢
  have hl : lv_has ls 1 [(0, .ref h0)] := hl
  refine lv_aload_n hx hb dX1_textLength_0 rfl (lv_at hl 0 rfl) ?_
  refine va_get (D := D) (ci := 0) (v := .int (nI n)) (C := RX1) (T := TX1) (N := 5) hx hb hts hin0 hown hK hP 0 rfl rfl 3 (by decide) hf_textSize (fun _ h9 => h9) rfl dX1_textLength_1 ?_
  refine W.widen (k := 0) (n := 0) (Nat.le_of_ble_eq_true rfl) (Nat.le_of_ble_eq_true rfl) ?_
  exact W.iret (v := (nI n)) hx hb hr (fun t ht hW => ⟨⟨_, (), rfl, (Eq.trans inn (by omega)), trivial⟩, hS.F ht⟩) hS.2.2 dX1_textLength_4
