set_option maxHeartbeats 4000000 in
set_option maxRecDepth 100000 in
theorem c_X1_agree (l : Launch) (sz : Nat) (x1 : Int32) (x2 : Int32) : Met l yX1_agree wsX1_agree ({ frames := 0, cells := 0, slots := 0, locals := 0 }) (va_Pc [.int x1, .int x2] (cz sz)) (va_Qi (fun (r : Int32) (_ : Unit) => r.toInt = bI (ag x1 x2)) (fun _ _ => True) (va_A [] sz)) 0 0 (va_A [] sz) := by
  refine Met.ofW (cc := cX1_agree) (maxL := 2) (ret := (some .boolean)) (by decide) rfl ?_
  intro p e s m args below meth c s₁ B hml hv
  obtain ⟨rfl, hsz⟩ := hv
  have hx := B.exec
  have hb := B.bytes
  have hr := B.returns
  have hts := atoms_spec (ws := wsX1_agree) B.pre
  have hown : s.vm.findClass RX1 = some m.cls := findClass_of_methodNamed B.named
  have hlocks := B.notSynchronized
  have hsz : s.heap.size = sz := hsz
  subst hsz
  have hA : ∀ q : Nat, s.heap.size ≤ q → (va_A [] s.heap.size) q := fun q h => Or.inr h
  have hS : va_S (va_A [] s.heap.size) s.heap s.heap [] := va_S.rf
  have g_x1 := rg x1
  have g_x2 := rg x2
  have hl := lv_entry ([.int x1, .int x2]) (n := 2) (Nat.le_of_ble_eq_true rfl)
  rw [lg_entry_eq]
  generalize (lg_sl ([.int x1, .int x2]) ++ List.replicate (2 - (lg_sl ([.int x1, .int x2])).length) Slot.unset).toArray = ls at hl ⊢
  have hl : lv_has ls 2 [(0, .int x1), (1, .int x2)] := hl
  refine lv_iload_n hx hb dX1_agree_0 rfl (lv_at hl 0 rfl) ?_
  refine lv_iload_n hx hb dX1_agree_1 rfl (lv_at hl 1 rfl) ?_
  refine z_icmp_eq (tgt := 13) hx hb dX1_agree_2 (by decide) rfl rfl (fun c2 => ?_) (fun c2 => ?_)
  · have _u := True.intro
    refine lv_iconst (v := 1) hx hb dX1_agree_13 (by decide) ?_
    refine lv_goto (tgt := 18) hx hb dX1_agree_14 (by decide) ?_
    refine W.widen (k := 0) (n := 0) (Nat.le_of_ble_eq_true rfl) (Nat.le_of_ble_eq_true rfl) ?_
    have hpost : (1 : Int32).toInt = bI (ag x1 x2) := (by first | (rw [ag_eq c2]; decide) | (rw [ag_l c6]; decide) | (rw [ag_r c10]; decide) | (rw [ag_no c2 c6 c10]; decide))
    exact W.zret (v := 1) hx hb hr (bnar hpost) (fun t ht hW => ⟨⟨_, (), rfl, hpost, trivial⟩, hS.F ht⟩) hS.2.2 dX1_agree_18
  · have _u := True.intro
    refine lv_iload_n hx hb dX1_agree_5 rfl (lv_at hl 0 rfl) ?_
    refine z_if_eq (tgt := 13) hx hb dX1_agree_6 (by decide) rfl (fun c6 => ?_) (fun c6 => ?_)
    · have _u := True.intro
      refine lv_iconst (v := 1) hx hb dX1_agree_13 (by decide) ?_
      refine lv_goto (tgt := 18) hx hb dX1_agree_14 (by decide) ?_
      refine W.widen (k := 0) (n := 0) (Nat.le_of_ble_eq_true rfl) (Nat.le_of_ble_eq_true rfl) ?_
      have hpost : (1 : Int32).toInt = bI (ag x1 x2) := (by first | (rw [ag_eq c2]; decide) | (rw [ag_l c6]; decide) | (rw [ag_r c10]; decide) | (rw [ag_no c2 c6 c10]; decide))
      exact W.zret (v := 1) hx hb hr (bnar hpost) (fun t ht hW => ⟨⟨_, (), rfl, hpost, trivial⟩, hS.F ht⟩) hS.2.2 dX1_agree_18
    · have _u := True.intro
      refine lv_iload_n hx hb dX1_agree_9 rfl (lv_at hl 1 rfl) ?_
      refine z_if_ne (tgt := 17) hx hb dX1_agree_10 (by decide) rfl (fun c10 => ?_) (fun c10 => ?_)
      · have _u := True.intro
        refine lv_iconst (v := 0) hx hb dX1_agree_17 (by decide) ?_
        refine W.widen (k := 0) (n := 0) (Nat.le_of_ble_eq_true rfl) (Nat.le_of_ble_eq_true rfl) ?_
        have hpost : (0 : Int32).toInt = bI (ag x1 x2) := (by first | (rw [ag_eq c2]; decide) | (rw [ag_l c6]; decide) | (rw [ag_r c10]; decide) | (rw [ag_no c2 c6 c10]; decide))
        exact W.zret (v := 0) hx hb hr (bnar hpost) (fun t ht hW => ⟨⟨_, (), rfl, hpost, trivial⟩, hS.F ht⟩) hS.2.2 dX1_agree_18
      · have _u := True.intro
        refine lv_iconst (v := 1) hx hb dX1_agree_13 (by decide) ?_
        refine lv_goto (tgt := 18) hx hb dX1_agree_14 (by decide) ?_
        refine W.widen (k := 0) (n := 0) (Nat.le_of_ble_eq_true rfl) (Nat.le_of_ble_eq_true rfl) ?_
        have hpost : (1 : Int32).toInt = bI (ag x1 x2) := (by first | (rw [ag_eq c2]; decide) | (rw [ag_l c6]; decide) | (rw [ag_r c10]; decide) | (rw [ag_no c2 c6 c10]; decide))
        exact W.zret (v := 1) hx hb hr (bnar hpost) (fun t ht hW => ⟨⟨_, (), rfl, hpost, trivial⟩, hS.F ht⟩) hS.2.2 dX1_agree_18

set_option maxHeartbeats 4000000 in
set_option maxRecDepth 100000 in
theorem c_X1_requireSymbol (l : Launch) (hlt : l.stackTraces = false) (D : va_G) (E : Nat × Nat × Nat) (sz : Nat) (x1 : Int32) : vx_Met l yX1_requireSymbol wsX1_requireSymbol ({ frames := 6, cells := 1, slots := 6, locals := 90 }) (va_Pc [.int x1] (cp D [] [] E (va_A [] sz) sz)) (va_Qv (fun (_ : Unit) => 0 ≤ x1.toInt ∧ x1.toInt ≤ 26) (fun _ _ => True) (va_A [] sz)) (tX (fun X => X = "java/lang/IllegalArgumentException" ∧ ¬ (0 ≤ x1.toInt ∧ x1.toInt ≤ 26)) sz) 1 6 (va_A [] sz) := by
  refine vx_ofW (cc := cX1_requireSymbol) (maxL := 1) (ret := none) (by decide) rfl ?_
  intro p e s m args below meth c s₁ B hml hnt hv
  obtain ⟨rfl, hsz, hP, hK, hE⟩ := hv
  have hx := B.exec
  have hb := B.bytes
  have hr := B.returns
  have hts := atoms_spec (ws := wsX1_requireSymbol) B.pre
  have hown : s.vm.findClass RX1 = some m.cls := findClass_of_methodNamed B.named
  have hlocks := B.notSynchronized
  have hsz : s.heap.size = sz := hsz
  subst hsz
  have hA : ∀ q : Nat, s.heap.size ≤ q → (va_A [] s.heap.size) q := fun q h => Or.inr h
  have hS : va_S (va_A [] s.heap.size) s.heap s.heap [] := va_S.rf
  have g_x1 := rg x1
  have hl := lv_entry ([.int x1]) (n := 1) (Nat.le_of_ble_eq_true rfl)
  rw [lg_entry_eq]
  generalize (lg_sl ([.int x1]) ++ List.replicate (1 - (lg_sl ([.int x1])).length) Slot.unset).toArray = ls at hl ⊢
  have hl : lv_has ls 1 [(0, .int x1)] := hl
  refine lv_iload_n hx hb dX1_requireSymbol_0 rfl (lv_at hl 0 rfl) ?_
  refine z_if_lt (tgt := 10) hx hb dX1_requireSymbol_1 (by decide) rfl (fun c1 => ?_) (fun c1 => ?_)
  · have _u := True.intro
    exact xIAE_throw hx hb hlt hown hts (by decide +kernel) hE hS (hl.1.trans hml.symm) hnt dX1_requireSymbol_10 dX1_requireSymbol_13 dX1_requireSymbol_14 dX1_requireSymbol_16 dX1_requireSymbol_19 (xS_145) (Nat.le_of_ble_eq_true rfl) (Nat.le_of_ble_eq_true rfl) (Nat.le_of_ble_eq_true rfl) (Nat.le_of_ble_eq_true rfl) hlocks (⟨rfl, by omega⟩) (fun z hz => hS.2.2 z hz) (Nat.le_of_ble_eq_true rfl) (Nat.le_of_ble_eq_true rfl)
  · have _u := True.intro
    refine lv_iload_n hx hb dX1_requireSymbol_4 rfl (lv_at hl 0 rfl) ?_
    refine lv_bipush (v := 26) hx hb dX1_requireSymbol_5 (by decide) ?_
    refine z_icmp_le (tgt := 20) hx hb dX1_requireSymbol_7 (by decide) rfl (show (26 : Int32).toInt = 26 by decide) (fun c7 => ?_) (fun c7 => ?_)
    · have _u := True.intro
      refine vx_ret ?_
      refine W.widen (k := 1) (n := 6) (Nat.le_of_ble_eq_true rfl) (Nat.le_of_ble_eq_true rfl) ?_
      exact W.vret hx hb hr (fun t ht hW => ⟨⟨(), rfl, ⟨by omega, by omega⟩, trivial⟩, hS.F ht⟩) hS.2.2 dX1_requireSymbol_20
    · have _u := True.intro
      exact xIAE_throw hx hb hlt hown hts (by decide +kernel) hE hS (hl.1.trans hml.symm) hnt dX1_requireSymbol_10 dX1_requireSymbol_13 dX1_requireSymbol_14 dX1_requireSymbol_16 dX1_requireSymbol_19 (xS_145) (Nat.le_of_ble_eq_true rfl) (Nat.le_of_ble_eq_true rfl) (Nat.le_of_ble_eq_true rfl) (Nat.le_of_ble_eq_true rfl) hlocks (⟨rfl, by omega⟩) (fun z hz => hS.2.2 z hz) (Nat.le_of_ble_eq_true rfl) (Nat.le_of_ble_eq_true rfl)

set_option maxHeartbeats 4000000 in
set_option maxRecDepth 100000 in
theorem c_X1_requirePatternIndex (l : Launch) (hlt : l.stackTraces = false) (D : va_G) (E : Nat × Nat × Nat) (h0 h1 h2 h3 : Nat) (y1 y2 y3 : ClassId) (sz n w : Nat) (T P M : Nat → Int32) (hn : n ≤ 64) (hw : w ≤ 24) (hT : SymF T) (hPt : SymF P) (x1 : Int32) : vx_Met l yX1_requirePatternIndex wsX1_requirePatternIndex ({ frames := 6, cells := 1, slots := 6, locals := 90 }) (va_Pc [.ref h0, .int x1] (cp D (XW h0 h1 h2 h3 y1 y2 y3 (n) (w) T P M) (XT y1 y2 y3) E (va_A [] sz) sz)) (va_Qv (fun (_ : Unit) => 0 ≤ x1.toInt ∧ x1.toInt < (w : Int)) (fun _ _ => True) (va_A [] sz)) (tX (fun X => X = "java/lang/IndexOutOfBoundsException" ∧ ¬ (0 ≤ x1.toInt ∧ x1.toInt < (w : Int))) sz) 1 6 (va_A [] sz) := by
  refine vx_ofW (cc := cX1_requirePatternIndex) (maxL := 2) (ret := none) (by decide) rfl ?_
  intro p e s m args below meth c s₁ B hml hnt hv
  obtain ⟨rfl, hsz, hP, hK, hE⟩ := hv
  have hx := B.exec
  have hb := B.bytes
  have hr := B.returns
  have hts := atoms_spec (ws := wsX1_requirePatternIndex) B.pre
  have hown : s.vm.findClass RX1 = some m.cls := findClass_of_methodNamed B.named
  have hlocks := B.notSynchronized
  have hsz : s.heap.size = sz := hsz
  subst hsz
  have hA : ∀ q : Nat, s.heap.size ≤ q → (va_A [] s.heap.size) q := fun q h => Or.inr h
  have hS : va_S (va_A [] s.heap.size) s.heap s.heap [] := va_S.rf
  have inn : (nI n).toInt = (n : Int) := nI_toInt (by omega)
  have iww : (nI w).toInt = (w : Int) := nI_toInt (by omega)
  have hf_patternSize := hts (.fieldLink RX1 23 "BlankMatcher" "patternSize" "I") (by decide +kernel)
  have hpl : pl n w = n + 1 - w := rfl
  have hin0 : ∀ w ∈ wsX10, w ∈ wsX1_requirePatternIndex := by decide +kernel
  have g_x1 := rg x1
  have hl := lv_entry ([.ref h0, .int x1]) (n := 2) (Nat.le_of_ble_eq_true rfl)
  rw [lg_entry_eq]
  generalize (lg_sl ([.ref h0, .int x1]) ++ List.replicate (2 - (lg_sl ([.ref h0, .int x1])).length) Slot.unset).toArray = ls at hl ⊢
  have hl : lv_has ls 2 [(0, .ref h0), (1, .int x1)] := hl
  refine lv_iload_n hx hb dX1_requirePatternIndex_0 rfl (lv_at hl 1 rfl) ?_
  refine z_if_lt (tgt := 12) hx hb dX1_requirePatternIndex_1 (by decide) rfl (fun c1 => ?_) (fun c1 => ?_)
  · have _u := True.intro
    exact xIOB_throw hx hb hlt hown hts (by decide +kernel) hE hS (hl.1.trans hml.symm) hnt dX1_requirePatternIndex_12 dX1_requirePatternIndex_15 dX1_requirePatternIndex_16 dX1_requirePatternIndex_18 dX1_requirePatternIndex_21 (xS_147) (Nat.le_of_ble_eq_true rfl) (Nat.le_of_ble_eq_true rfl) (Nat.le_of_ble_eq_true rfl) (Nat.le_of_ble_eq_true rfl) hlocks (⟨rfl, by omega⟩) (fun z hz => hS.2.2 z hz) (Nat.le_of_ble_eq_true rfl) (Nat.le_of_ble_eq_true rfl)
  · have _u := True.intro
    refine lv_iload_n hx hb dX1_requirePatternIndex_4 rfl (lv_at hl 1 rfl) ?_
    refine lv_aload_n hx hb dX1_requirePatternIndex_5 rfl (lv_at hl 0 rfl) ?_
    refine va_get (D := D) (ci := 0) (v := .int (nI w)) (C := RX1) (T := TX1) (N := 5) hx hb hts hin0 hown hK hP 0 rfl rfl 4 (by decide) hf_patternSize (fun _ h9 => h9) rfl dX1_requirePatternIndex_6 ?_
    refine z_icmp_lt (tgt := 22) hx hb dX1_requirePatternIndex_9 (by decide) rfl iww (fun c9 => ?_) (fun c9 => ?_)
    · have _u := True.intro
      refine vx_ret ?_
      refine W.widen (k := 1) (n := 6) (Nat.le_of_ble_eq_true rfl) (Nat.le_of_ble_eq_true rfl) ?_
      exact W.vret hx hb hr (fun t ht hW => ⟨⟨(), rfl, ⟨by omega, by omega⟩, trivial⟩, hS.F ht⟩) hS.2.2 dX1_requirePatternIndex_22
    · have _u := True.intro
      exact xIOB_throw hx hb hlt hown hts (by decide +kernel) hE hS (hl.1.trans hml.symm) hnt dX1_requirePatternIndex_12 dX1_requirePatternIndex_15 dX1_requirePatternIndex_16 dX1_requirePatternIndex_18 dX1_requirePatternIndex_21 (xS_147) (Nat.le_of_ble_eq_true rfl) (Nat.le_of_ble_eq_true rfl) (Nat.le_of_ble_eq_true rfl) (Nat.le_of_ble_eq_true rfl) hlocks (⟨rfl, by omega⟩) (fun z hz => hS.2.2 z hz) (Nat.le_of_ble_eq_true rfl) (Nat.le_of_ble_eq_true rfl)

set_option maxHeartbeats 4000000 in
set_option maxRecDepth 100000 in
theorem c_X1_requirePartOfText (l : Launch) (hlt : l.stackTraces = false) (D : va_G) (E : Nat × Nat × Nat) (h0 h1 h2 h3 : Nat) (y1 y2 y3 : ClassId) (sz n w : Nat) (T P M : Nat → Int32) (hn : n ≤ 64) (hw : w ≤ 24) (hT : SymF T) (hPt : SymF P) (x1 : Int32) (x2 : Int32) (hm2 : 0 ≤ x2.toInt) : vx_Met l yX1_requirePartOfText wsX1_requirePartOfText ({ frames := 6, cells := 1, slots := 6, locals := 90 }) (va_Pc [.ref h0, .int x1, .int x2] (cp D (XW h0 h1 h2 h3 y1 y2 y3 (n) (w) T P M) (XT y1 y2 y3) E (va_A [] sz) sz)) (va_Qv (fun (_ : Unit) => 0 ≤ x1.toInt ∧ x1.toInt + x2.toInt ≤ (n : Int)) (fun _ _ => True) (va_A [] sz)) (tX (fun X => X = "java/lang/IndexOutOfBoundsException" ∧ ¬ (0 ≤ x1.toInt ∧ x1.toInt + x2.toInt ≤ (n : Int))) sz) 1 6 (va_A [] sz) := by
  refine vx_ofW (cc := cX1_requirePartOfText) (maxL := 3) (ret := none) (by decide) rfl ?_
  intro p e s m args below meth c s₁ B hml hnt hv
  obtain ⟨rfl, hsz, hP, hK, hE⟩ := hv
  have hx := B.exec
  have hb := B.bytes
  have hr := B.returns
  have hts := atoms_spec (ws := wsX1_requirePartOfText) B.pre
  have hown : s.vm.findClass RX1 = some m.cls := findClass_of_methodNamed B.named
  have hlocks := B.notSynchronized
  have hsz : s.heap.size = sz := hsz
  subst hsz
  have hA : ∀ q : Nat, s.heap.size ≤ q → (va_A [] s.heap.size) q := fun q h => Or.inr h
  have hS : va_S (va_A [] s.heap.size) s.heap s.heap [] := va_S.rf
  have inn : (nI n).toInt = (n : Int) := nI_toInt (by omega)
  have iww : (nI w).toInt = (w : Int) := nI_toInt (by omega)
  have hf_textSize := hts (.fieldLink RX1 19 "BlankMatcher" "textSize" "I") (by decide +kernel)
  have hpl : pl n w = n + 1 - w := rfl
  have hin0 : ∀ w ∈ wsX10, w ∈ wsX1_requirePartOfText := by decide +kernel
  have g_x1 := rg x1
  have g_x2 := rg x2
  have hl := lv_entry ([.ref h0, .int x1, .int x2]) (n := 3) (Nat.le_of_ble_eq_true rfl)
  rw [lg_entry_eq]
  generalize (lg_sl ([.ref h0, .int x1, .int x2]) ++ List.replicate (3 - (lg_sl ([.ref h0, .int x1, .int x2])).length) Slot.unset).toArray = ls at hl ⊢
  have hl : lv_has ls 3 [(0, .ref h0), (1, .int x1), (2, .int x2)] := hl
  refine lv_iload_n hx hb dX1_requirePartOfText_0 rfl (lv_at hl 1 rfl) ?_
  refine z_if_lt (tgt := 14) hx hb dX1_requirePartOfText_1 (by decide) rfl (fun c1 => ?_) (fun c1 => ?_)
  · have _u := True.intro
    exact xIOB_throw hx hb hlt hown hts (by decide +kernel) hE hS (hl.1.trans hml.symm) hnt dX1_requirePartOfText_14 dX1_requirePartOfText_17 dX1_requirePartOfText_18 dX1_requirePartOfText_20 dX1_requirePartOfText_23 (xS_149) (Nat.le_of_ble_eq_true rfl) (Nat.le_of_ble_eq_true rfl) (Nat.le_of_ble_eq_true rfl) (Nat.le_of_ble_eq_true rfl) hlocks (⟨rfl, by omega⟩) (fun z hz => hS.2.2 z hz) (Nat.le_of_ble_eq_true rfl) (Nat.le_of_ble_eq_true rfl)
  · have _u := True.intro
    refine lv_iload_n hx hb dX1_requirePartOfText_4 rfl (lv_at hl 1 rfl) ?_
    refine lv_aload_n hx hb dX1_requirePartOfText_5 rfl (lv_at hl 0 rfl) ?_
    refine va_get (D := D) (ci := 0) (v := .int (nI n)) (C := RX1) (T := TX1) (N := 5) hx hb hts hin0 hown hK hP 0 rfl rfl 3 (by decide) hf_textSize (fun _ h9 => h9) rfl dX1_requirePartOfText_6 ?_
    refine lv_iload_n hx hb dX1_requirePartOfText_9 rfl (lv_at hl 2 rfl) ?_
    refine z_isub hx hb dX1_requirePartOfText_10 inn rfl (by omega) (by omega) (fun v10 e10 => ?_)
    refine z_icmp_le (tgt := 24) hx hb dX1_requirePartOfText_11 (by decide) rfl e10 (fun c11 => ?_) (fun c11 => ?_)
    · have _u := True.intro
      refine vx_ret ?_
      refine W.widen (k := 1) (n := 6) (Nat.le_of_ble_eq_true rfl) (Nat.le_of_ble_eq_true rfl) ?_
      exact W.vret hx hb hr (fun t ht hW => ⟨⟨(), rfl, ⟨by omega, by omega⟩, trivial⟩, hS.F ht⟩) hS.2.2 dX1_requirePartOfText_24
    · have _u := True.intro
      exact xIOB_throw hx hb hlt hown hts (by decide +kernel) hE hS (hl.1.trans hml.symm) hnt dX1_requirePartOfText_14 dX1_requirePartOfText_17 dX1_requirePartOfText_18 dX1_requirePartOfText_20 dX1_requirePartOfText_23 (xS_149) (Nat.le_of_ble_eq_true rfl) (Nat.le_of_ble_eq_true rfl) (Nat.le_of_ble_eq_true rfl) (Nat.le_of_ble_eq_true rfl) hlocks (⟨rfl, by omega⟩) (fun z hz => hS.2.2 z hz) (Nat.le_of_ble_eq_true rfl) (Nat.le_of_ble_eq_true rfl)

set_option maxHeartbeats 4000000 in
set_option maxRecDepth 100000 in
theorem c_X1_places (l : Launch) (D : va_G) (E : Nat × Nat × Nat) (h0 h1 h2 h3 : Nat) (y1 y2 y3 : ClassId) (sz n w : Nat) (T P M : Nat → Int32) (hn : n ≤ 64) (hw : w ≤ 24) (hT : SymF T) (hPt : SymF P) : Met l yX1_places wsX1_places ({ frames := 0, cells := 0, slots := 0, locals := 0 }) (va_Pc [.ref h0] (cp D (XW h0 h1 h2 h3 y1 y2 y3 (n) (w) T P M) (XT y1 y2 y3) E (va_A [] sz) sz)) (va_Qi (fun (r : Int32) (_ : Unit) => r.toInt = ((pl n w : Nat) : Int)) (fun _ _ => True) (va_A [] sz)) 0 0 (va_A [] sz) := by
  refine Met.ofW (cc := cX1_places) (maxL := 1) (ret := (some .int)) (by decide) rfl ?_
  intro p e s m args below meth c s₁ B hml hv
  obtain ⟨rfl, hsz, hP, hK, hE⟩ := hv
  have hx := B.exec
  have hb := B.bytes
  have hr := B.returns
  have hts := atoms_spec (ws := wsX1_places) B.pre
  have hown : s.vm.findClass RX1 = some m.cls := findClass_of_methodNamed B.named
  have hlocks := B.notSynchronized
  have hsz : s.heap.size = sz := hsz
  subst hsz
  have hA : ∀ q : Nat, s.heap.size ≤ q → (va_A [] s.heap.size) q := fun q h => Or.inr h
  have hS : va_S (va_A [] s.heap.size) s.heap s.heap [] := va_S.rf
  have inn : (nI n).toInt = (n : Int) := nI_toInt (by omega)
  have iww : (nI w).toInt = (w : Int) := nI_toInt (by omega)
  have hf_patternSize := hts (.fieldLink RX1 23 "BlankMatcher" "patternSize" "I") (by decide +kernel)
  have hf_textSize := hts (.fieldLink RX1 19 "BlankMatcher" "textSize" "I") (by decide +kernel)
  have hpl : pl n w = n + 1 - w := rfl
  have hin0 : ∀ w ∈ wsX10, w ∈ wsX1_places := by decide +kernel
  have hl := lv_entry ([.ref h0]) (n := 1) (Nat.le_of_ble_eq_true rfl)
  rw [lg_entry_eq]
  generalize (lg_sl ([.ref h0]) ++ List.replicate (1 - (lg_sl ([.ref h0])).length) Slot.unset).toArray = ls at hl ⊢
  have hl : lv_has ls 1 [(0, .ref h0)] := hl
  refine lv_aload_n hx hb dX1_places_0 rfl (lv_at hl 0 rfl) ?_
  refine va_get (D := D) (ci := 0) (v := .int (nI w)) (C := RX1) (T := TX1) (N := 5) hx hb hts hin0 hown hK hP 0 rfl rfl 4 (by decide) hf_patternSize (fun _ h9 => h9) rfl dX1_places_1 ?_
  refine lv_aload_n hx hb dX1_places_4 rfl (lv_at hl 0 rfl) ?_
  refine va_get (D := D) (ci := 0) (v := .int (nI n)) (C := RX1) (T := TX1) (N := 5) hx hb hts hin0 hown hK hP 0 rfl rfl 3 (by decide) hf_textSize (fun _ h9 => h9) rfl dX1_places_5 ?_
  refine z_icmp_le (tgt := 15) hx hb dX1_places_8 (by decide) iww inn (fun c8 => ?_) (fun c8 => ?_)
  · have _u := True.intro
    refine lv_aload_n hx hb dX1_places_15 rfl (lv_at hl 0 rfl) ?_
    refine va_get (D := D) (ci := 0) (v := .int (nI n)) (C := RX1) (T := TX1) (N := 5) hx hb hts hin0 hown hK hP 0 rfl rfl 3 (by decide) hf_textSize (fun _ h9 => h9) rfl dX1_places_16 ?_
    refine lv_aload_n hx hb dX1_places_19 rfl (lv_at hl 0 rfl) ?_
    refine va_get (D := D) (ci := 0) (v := .int (nI w)) (C := RX1) (T := TX1) (N := 5) hx hb hts hin0 hown hK hP 0 rfl rfl 4 (by decide) hf_patternSize (fun _ h9 => h9) rfl dX1_places_20 ?_
    refine z_isub hx hb dX1_places_23 inn iww (by omega) (by omega) (fun v23 e23 => ?_)
    refine lv_iconst (v := 1) hx hb dX1_places_24 (by decide) ?_
    refine z_iadd hx hb dX1_places_25 e23 (show (1 : Int32).toInt = 1 by decide) (by omega) (by omega) (fun v25 e25 => ?_)
    refine W.widen (k := 0) (n := 0) (Nat.le_of_ble_eq_true rfl) (Nat.le_of_ble_eq_true rfl) ?_
    exact W.iret (v := v25) hx hb hr (fun t ht hW => ⟨⟨_, (), rfl, (Eq.trans e25 (by omega)), trivial⟩, hS.F ht⟩) hS.2.2 dX1_places_26
  · have _u := True.intro
    refine lv_iconst (v := 0) hx hb dX1_places_11 (by decide) ?_
    refine lv_goto (tgt := 26) hx hb dX1_places_12 (by decide) ?_
    refine W.widen (k := 0) (n := 0) (Nat.le_of_ble_eq_true rfl) (Nat.le_of_ble_eq_true rfl) ?_
    exact W.iret (v := 0) hx hb hr (fun t ht hW => ⟨⟨_, (), rfl, (Eq.trans (show (0 : Int32).toInt = 0 by decide) (by omega)), trivial⟩, hS.F ht⟩) hS.2.2 dX1_places_26

set_option maxHeartbeats 4000000 in
set_option maxRecDepth 100000 in
theorem c_X1_requirePlace (l : Launch) (hlt : l.stackTraces = false) (D : va_G) (E : Nat × Nat × Nat) (h0 h1 h2 h3 : Nat) (y1 y2 y3 : ClassId) (sz n w : Nat) (T P M : Nat → Int32) (hn : n ≤ 64) (hw : w ≤ 24) (hT : SymF T) (hPt : SymF P) (x1 : Int32) : vx_Met l yX1_requirePlace wsX1_requirePlace ({ frames := 6, cells := 1, slots := 6, locals := 90 }) (va_Pc [.ref h0, .int x1] (cp D (XW h0 h1 h2 h3 y1 y2 y3 (n) (w) T P M) (XT y1 y2 y3) E (va_A [] sz) sz)) (va_Qv (fun (_ : Unit) => 0 ≤ x1.toInt ∧ x1.toInt < ((pl n w : Nat) : Int)) (fun _ _ => True) (va_A [] sz)) (tX (fun X => X = "java/lang/IndexOutOfBoundsException" ∧ ¬ (0 ≤ x1.toInt ∧ x1.toInt < ((pl n w : Nat) : Int))) sz) 1 6 (va_A [] sz) := by
  refine vx_ofW (cc := cX1_requirePlace) (maxL := 2) (ret := none) (by decide) rfl ?_
  intro p e s m args below meth c s₁ B hml hnt hv
  obtain ⟨rfl, hsz, hP, hK, hE⟩ := hv
  have hx := B.exec
  have hb := B.bytes
  have hr := B.returns
  have hts := atoms_spec (ws := wsX1_requirePlace) B.pre
  have hown : s.vm.findClass RX1 = some m.cls := findClass_of_methodNamed B.named
  have hlocks := B.notSynchronized
  have hsz : s.heap.size = sz := hsz
  subst hsz
  have hA : ∀ q : Nat, s.heap.size ≤ q → (va_A [] s.heap.size) q := fun q h => Or.inr h
  have hS : va_S (va_A [] s.heap.size) s.heap s.heap [] := va_S.rf
  have inn : (nI n).toInt = (n : Int) := nI_toInt (by omega)
  have iww : (nI w).toInt = (w : Int) := nI_toInt (by omega)
  have hpl : pl n w = n + 1 - w := rfl
  have g_x1 := rg x1
  have hl := lv_entry ([.ref h0, .int x1]) (n := 2) (Nat.le_of_ble_eq_true rfl)
  rw [lg_entry_eq]
  generalize (lg_sl ([.ref h0, .int x1]) ++ List.replicate (2 - (lg_sl ([.ref h0, .int x1])).length) Slot.unset).toArray = ls at hl ⊢
  have hl : lv_has ls 2 [(0, .ref h0), (1, .int x1)] := hl
  refine lv_iload_n hx hb dX1_requirePlace_0 rfl (lv_at hl 1 rfl) ?_
  refine z_if_lt (tgt := 12) hx hb dX1_requirePlace_1 (by decide) rfl (fun c1 => ?_) (fun c1 => ?_)
  · have _u := True.intro
    exact xIOB_throw hx hb hlt hown hts (by decide +kernel) hE hS (hl.1.trans hml.symm) hnt dX1_requirePlace_12 dX1_requirePlace_15 dX1_requirePlace_16 dX1_requirePlace_18 dX1_requirePlace_21 (xS_151) (Nat.le_of_ble_eq_true rfl) (Nat.le_of_ble_eq_true rfl) (Nat.le_of_ble_eq_true rfl) (Nat.le_of_ble_eq_true rfl) hlocks (⟨rfl, by omega⟩) (fun z hz => hS.2.2 z hz) (Nat.le_of_ble_eq_true rfl) (Nat.le_of_ble_eq_true rfl)
  · have _u := True.intro
    refine lv_iload_n hx hb dX1_requirePlace_4 rfl (lv_at hl 1 rfl) ?_
    refine lv_aload_n hx hb dX1_requirePlace_5 rfl (lv_at hl 0 rfl) ?_
    refine va_calli (va_runV (As := []) (rest := [.int x1]) ⟨hx, hb, hml, hown, hts⟩ (c_X1_places l D E h0 h1 h2 h3 y1 y2 y3 s.heap.size (n) (w) T P M hn hw hT hPt) (cwV 0 hts gX1_requirePlace_X1_places rfl rfl rfl (by decide +kernel) ⟨Nat.le_of_ble_eq_true rfl, Nat.le_of_ble_eq_true rfl⟩) ⟨cp.blind, va_recv hK hP (ci := 0) (q0 := 0) rfl rfl, fun U hU hW => ⟨rfl, cp.call hP hK hE hS (fr0 hS hA) hU hW⟩⟩ rfl rfl hl.1 rfl (lv_room (Nat.le_of_ble_eq_true rfl)) dX1_requirePlace_6 ⟨Nat.le_of_ble_eq_true rfl, Nat.le_of_ble_eq_true rfl⟩) hS (fun q _ h => (fr0 hS hA) q h) (fr0 hS hA) (fun v6 u t H1 locs1 ht hvm e6 hB hz1 hk1 hS => ?_)
    have hP := kp hP hk1
    generalize H1 = H at hP hS ⊢
    generalize locs1 = locs at hS ⊢
    refine z_icmp_lt (tgt := 22) hx hb dX1_requirePlace_9 (by decide) rfl e6 (fun c9 => ?_) (fun c9 => ?_)
    · have _u := True.intro
      refine vx_ret ?_
      refine W.widen (k := 1) (n := 6) (Nat.le_of_ble_eq_true rfl) (Nat.le_of_ble_eq_true rfl) ?_
      exact W.vret hx hb hr (fun t ht hW => ⟨⟨(), rfl, ⟨by omega, by omega⟩, trivial⟩, hS.F ht⟩) hS.2.2 dX1_requirePlace_22
    · have _u := True.intro
      exact xIOB_throw hx hb hlt hown hts (by decide +kernel) hE hS (hl.1.trans hml.symm) hnt dX1_requirePlace_12 dX1_requirePlace_15 dX1_requirePlace_16 dX1_requirePlace_18 dX1_requirePlace_21 (xS_151) (Nat.le_of_ble_eq_true rfl) (Nat.le_of_ble_eq_true rfl) (Nat.le_of_ble_eq_true rfl) (Nat.le_of_ble_eq_true rfl) hlocks (⟨rfl, by omega⟩) (fun z hz => hS.2.2 z hz) (Nat.le_of_ble_eq_true rfl) (Nat.le_of_ble_eq_true rfl)

set_option maxHeartbeats 4000000 in
set_option maxRecDepth 100000 in
theorem c_X1_countMismatches (l : Launch) (D : va_G) (E : Nat × Nat × Nat) (h0 h1 h2 h3 : Nat) (y1 y2 y3 : ClassId) (sz n w : Nat) (T P M : Nat → Int32) (hn : n ≤ 64) (hw : w ≤ 24) (hT : SymF T) (hPt : SymF P) (x1 : Int32) (o : Nat) (e_o : x1.toInt = (o : Int)) (ho : o + w ≤ n) : Met l yX1_countMismatches wsX1_countMismatches ({ frames := 1, cells := 0, slots := 0, locals := 21 }) (va_Pc [.ref h0, .int x1] (cp D (XW h0 h1 h2 h3 y1 y2 y3 (n) (w) T P M) (XT y1 y2 y3) E (va_A [] sz) sz)) (va_Qi (fun (r : Int32) (_ : Unit) => r.toInt = ((mis T P o w : Nat) : Int)) (fun _ _ => True) (va_A [] sz)) 0 0 (va_A [] sz) := by
  refine Met.ofW (cc := cX1_countMismatches) (maxL := 4) (ret := (some .int)) (by decide) rfl ?_
  intro p e s m args below meth c s₁ B hml hv
  obtain ⟨rfl, hsz, hP, hK, hE⟩ := hv
  have hx := B.exec
  have hb := B.bytes
  have hr := B.returns
  have hts := atoms_spec (ws := wsX1_countMismatches) B.pre
  have hown : s.vm.findClass RX1 = some m.cls := findClass_of_methodNamed B.named
  have hlocks := B.notSynchronized
  have hsz : s.heap.size = sz := hsz
  subst hsz
  have hA : ∀ q : Nat, s.heap.size ≤ q → (va_A [] s.heap.size) q := fun q h => Or.inr h
  have hS : va_S (va_A [] s.heap.size) s.heap s.heap [] := va_S.rf
  have inn : (nI n).toInt = (n : Int) := nI_toInt (by omega)
  have iww : (nI w).toInt = (w : Int) := nI_toInt (by omega)
  have hf_pattern := hts (.fieldLink RX1 13 "BlankMatcher" "pattern" "[I") (by decide +kernel)
  have hf_patternSize := hts (.fieldLink RX1 23 "BlankMatcher" "patternSize" "I") (by decide +kernel)
  have hf_text := hts (.fieldLink RX1 9 "BlankMatcher" "text" "[I") (by decide +kernel)
  have hpl : pl n w = n + 1 - w := rfl
  have hin0 : ∀ w ∈ wsX10, w ∈ wsX1_countMismatches := by decide +kernel
  have g_x1 := rg x1
  have hl := lv_entry ([.ref h0, .int x1]) (n := 4) (Nat.le_of_ble_eq_true rfl)
  rw [lg_entry_eq]
  generalize (lg_sl ([.ref h0, .int x1]) ++ List.replicate (4 - (lg_sl ([.ref h0, .int x1])).length) Slot.unset).toArray = ls at hl ⊢
  have hl : lv_has ls 4 [(0, .ref h0), (1, .int x1)] := hl
  refine lv_iconst (v := 0) hx hb dX1_countMismatches_0 (by decide) ?_
  refine lv_istore_n (lv' := [(2, .int 0), (0, .ref h0), (1, .int x1)]) hx hb dX1_countMismatches_1 rfl hl (by decide) rfl (fun ls hl => ?_)
  refine lv_iconst (v := 0) hx hb dX1_countMismatches_2 (by decide) ?_
  refine lv_istore_n (lv' := [(3, .int 0), (2, .int 0), (0, .ref h0), (1, .int x1)]) hx hb dX1_countMismatches_3 rfl hl (by decide) rfl (fun ls hl => ?_)
  have lp4 : ∀ (nf : Nat) (j : Nat) (x2 : Int32) (x3 : Int32), w - j < nf → (j ≤ w) → x2.toInt = ((cnt (mf T P o) j : Nat) : Int) → x3.toInt = (j : Int) → ∀ (H : Heap) (locs : List Loc), va_P D vwCl (XW h0 h1 h2 h3 y1 y2 y3 (n) (w) T P M) H → va_S (va_A [] s.heap.size) s.heap H locs → ∀ (ls : Array Slot), lv_has ls 4 [(0, .ref h0), (1, .int x1), (2, .int x2), (3, .int x3)] → W p l e (headSpec wsX1_countMismatches ({ frames := 1, cells := 0, slots := 0, locals := 21 })).room s m [.ref h0, .int x1].toArray below meth c H locs 0 0 (MQ below (va_Qi (fun (r : Int32) (_ : Unit) => r.toInt = ((mis T P o w : Nat) : Int)) (fun _ _ => True) (va_A [] s.heap.size)) [.ref h0, .int x1].toArray s 0 0 (va_A [] s.heap.size)) (F0 m 4 ls []) := by
    intro nf
    induction nf with
    | zero => intros; omega
    | succ nf ih4 =>
      intro j x2 x3 hnf hj e_x2 e_x3 H locs hP hS ls hl
      have hcl := cnt_le (mf T P o) j
      refine lv_iload_n hx hb dX1_countMismatches_4 rfl (lv_at hl 3 rfl) ?_
      refine lv_aload_n hx hb dX1_countMismatches_5 rfl (lv_at hl 0 rfl) ?_
      refine va_get (D := D) (ci := 0) (v := .int (nI w)) (C := RX1) (T := TX1) (N := 5) hx hb hts hin0 hown hK hP 0 rfl rfl 4 (by decide) hf_patternSize (fun _ h9 => h9) rfl dX1_countMismatches_6 ?_
      refine z_icmp_ge (tgt := 41) hx hb dX1_countMismatches_9 (by decide) e_x3 iww (fun c9 => ?_) (fun c9 => ?_)
      · have _u := True.intro
        refine lv_iload_n hx hb dX1_countMismatches_41 rfl (lv_at hl 2 rfl) ?_
        refine W.widen (k := 0) (n := 0) (Nat.le_of_ble_eq_true rfl) (Nat.le_of_ble_eq_true rfl) ?_
        exact W.iret (v := x2) hx hb hr (fun t ht hW => ⟨⟨_, (), rfl, (Eq.trans e_x2 (by have q : j = w := (by omega); rw [q]; rfl)), trivial⟩, hS.F ht⟩) hS.2.2 dX1_countMismatches_42
      · have _u := True.intro
        refine lv_aload_n hx hb dX1_countMismatches_12 rfl (lv_at hl 0 rfl) ?_
        refine va_get (D := D) (ci := 0) (v := .ref h2) (C := RX1) (T := TX1) (N := 5) hx hb hts hin0 hown hK hP 0 rfl rfl 1 (by decide) hf_pattern (fun _ h9 => h9) rfl dX1_countMismatches_13 ?_
        refine lv_iload_n hx hb dX1_countMismatches_16 rfl (lv_at hl 3 rfl) ?_
        refine z_iald hx hb hK hP 2 1 rfl rfl (j) e_x3 (by omega) (by omega) dX1_countMismatches_17 ?_
        refine lv_aload_n hx hb dX1_countMismatches_18 rfl (lv_at hl 0 rfl) ?_
        refine va_get (D := D) (ci := 0) (v := .ref h1) (C := RX1) (T := TX1) (N := 5) hx hb hts hin0 hown hK hP 0 rfl rfl 0 (by decide) hf_text (fun _ h9 => h9) rfl dX1_countMismatches_19 ?_
        refine lv_iload_n hx hb dX1_countMismatches_22 rfl (lv_at hl 1 rfl) ?_
        refine lv_iload_n hx hb dX1_countMismatches_23 rfl (lv_at hl 3 rfl) ?_
        refine z_iadd hx hb dX1_countMismatches_24 e_o e_x3 (by omega) (by omega) (fun v24 e24 => ?_)
        refine z_iald hx hb hK hP 1 0 rfl rfl (o + j) e24 (by omega) (by omega) dX1_countMismatches_25 ?_
        refine va_calli (va_runS (As := [.int (P (j)), .int (T (o + j))]) (rest := []) ⟨hx, hb, hml, hown, hts⟩ (c_X1_agree l H.size (P (j)) (T (o + j))) (va_cwS 2 hts gX1_countMismatches_X1_agree rfl rfl rfl (by decide +kernel) ⟨Nat.le_of_ble_eq_true rfl, Nat.le_of_ble_eq_true rfl⟩) ⟨cz.blind, fun U hU hW => ⟨rfl, cz.call hU⟩⟩ rfl rfl hl.1 rfl (lv_room (Nat.le_of_ble_eq_true rfl)) dX1_countMismatches_26 ⟨Nat.le_of_ble_eq_true rfl, Nat.le_of_ble_eq_true rfl⟩) hS (fun q _ h => (fr0 hS hA) q h) (fr0 hS hA) (fun v26 u t H1 locs1 ht hvm e26 hB hz1 hk1 hS => ?_)
        have hP := kp hP hk1
        generalize H1 = H at hP hS ⊢
        generalize locs1 = locs at hS ⊢
        refine zb_if_ne (tgt := 35) hx hb dX1_countMismatches_29 (by decide) e26 (fun c29 => ?_) (fun c29 => ?_)
        · have _u := True.intro
          have q := cnt_f (f := mf T P o) (k := j) (mf_f c29)
          refine z_iinc (k := 3) (lv' := fun v => [(3, .int v), (0, .ref h0), (1, .int x1), (2, .int x2)]) hx hb dX1_countMismatches_35 hl rfl e_x3 (by decide) (by omega) (by omega) (by decide) (fun _ => rfl) (fun v35 ls e35 hl => ?_)
          refine lv_goto (tgt := 4) hx hb dX1_countMismatches_38 (by decide) ?_
          exact ih4 (j + 1) x2 v35 (by omega) (by omega) (Eq.trans e_x2 (by omega)) (Eq.trans e35 (by omega)) _ _ hP hS _ (lv_sub hl [1, 2, 3, 0] rfl)
        · have _u := True.intro
          have q := cnt_t (f := mf T P o) (k := j) (mf_t c29)
          refine z_iinc (k := 2) (lv' := fun v => [(2, .int v), (0, .ref h0), (1, .int x1), (3, .int x3)]) hx hb dX1_countMismatches_32 hl rfl e_x2 (by decide) (by omega) (by omega) (by decide) (fun _ => rfl) (fun v32 ls e32 hl => ?_)
          refine z_iinc (k := 3) (lv' := fun v => [(3, .int v), (2, .int v32), (0, .ref h0), (1, .int x1)]) hx hb dX1_countMismatches_35 hl rfl e_x3 (by decide) (by omega) (by omega) (by decide) (fun _ => rfl) (fun v35 ls e35 hl => ?_)
          refine lv_goto (tgt := 4) hx hb dX1_countMismatches_38 (by decide) ?_
          exact ih4 (j + 1) v32 v35 (by omega) (by omega) (Eq.trans e32 (by omega)) (Eq.trans e35 (by omega)) _ _ hP hS _ (lv_sub hl [2, 3, 1, 0] rfl)
  have hc0 := cnt_0 (mf T P o)
  exact lp4 ((w - 0) + 1) (0) 0 0 (by omega) (by omega) (Eq.trans (show (0 : Int32).toInt = 0 by decide) (by omega)) (Eq.trans (show (0 : Int32).toInt = 0 by decide) (by omega)) _ _ hP hS _ (lv_sub hl [2, 3, 1, 0] rfl)
