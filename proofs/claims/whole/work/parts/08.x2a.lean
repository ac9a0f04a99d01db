set_option maxHeartbeats 4000000 in
set_option maxRecDepth 100000 in
theorem c_X2_thrown (l : Launch) (D : va_G) (E : Nat × Nat × Nat) (g0 g1 g2 : Nat) (y4 y5 : ClassId) (sz n w : Nat) (th : Int32) (T P : Nat → Int32) (hn : n ≤ 64) (hw : w ≤ 24) (hT : SymF T) (hPt : SymF P) : Met l yX2_thrown wsX2_thrown ({ frames := 0, cells := 0, slots := 0, locals := 0 }) (va_Pc [.ref g0] (cp D (MW g0 g1 g2 y4 y5 th (n) (w) T P) (MT y4 y5) E (va_A [] sz) sz)) (va_Qi (fun (r : Int32) (_ : Unit) => r.toInt = th.toInt) (fun _ _ => True) (va_A [] sz)) 0 0 (va_A [] sz) := by
  refine Met.ofW (cc := cX2_thrown) (maxL := 1) (ret := (some .int)) (by decide) rfl ?_
  intro p e s m args below meth c s₁ B hml hv
  obtain ⟨rfl, hsz, hP, hK, hE⟩ := hv
  have hx := B.exec
  have hb := B.bytes
  have hr := B.returns
  have hts := atoms_spec (ws := wsX2_thrown) B.pre
  have hown : s.vm.findClass RX2 = some m.cls := findClass_of_methodNamed B.named
  have hlocks := B.notSynchronized
  have hsz : s.heap.size = sz := hsz
  subst hsz
  have hA : ∀ q : Nat, s.heap.size ≤ q → (va_A [] s.heap.size) q := fun q h => Or.inr h
  have hS : va_S (va_A [] s.heap.size) s.heap s.heap [] := va_S.rf
  have inn : (nI n).toInt = (n : Int) := nI_toInt (by omega)
  have iww : (nI w).toInt = (w : Int) := nI_toInt (by omega)
  have hf_thrown := hts (.fieldLink RX2 16 "BlankMatcherModel" "thrown" "I") (by decide +kernel)
  have hpl : pl n w = n + 1 - w := rfl
  have hin0 : ∀ w ∈ wsX20, w ∈ wsX2_thrown := by decide +kernel
  have hl := lv_entry ([.ref g0]) (n := 1) (Nat.le_of_ble_eq_true rfl)
  rw [lg_entry_eq]
  generalize (lg_sl ([.ref g0]) ++ List.replicate (1 - (lg_sl ([.ref g0])).length) Slot.unset).toArray = ls at hl ⊢
  have hl : lv_has ls 1 [(0, .ref g0)] := hl
  refine lv_aload_n hx hb dX2_thrown_0 rfl (lv_at hl 0 rfl) ?_
  refine va_get (D := D) (ci := 1) (v := .int th) (C := RX2) (T := TX2) (N := 5) hx hb hts hin0 hown hK hP 0 rfl rfl 0 (by decide) hf_thrown (fun _ h9 => h9) rfl dX2_thrown_1 ?_
  refine W.widen (k := 0) (n := 0) (Nat.le_of_ble_eq_true rfl) (Nat.le_of_ble_eq_true rfl) ?_
  exact W.iret (v := th) hx hb hr (fun t ht hW => ⟨⟨_, (), rfl, (Eq.trans rfl (rfl)), trivial⟩, hS.F ht⟩) hS.2.2 dX2_thrown_4

set_option maxHeartbeats 4000000 in
set_option maxRecDepth 100000 in
theorem c_X2_goesWell (l : Launch) (D : va_G) (E : Nat × Nat × Nat) (g0 g1 g2 : Nat) (y4 y5 : ClassId) (sz n w : Nat) (th : Int32) (T P : Nat → Int32) (hn : n ≤ 64) (hw : w ≤ 24) (hT : SymF T) (hPt : SymF P) (hD0 : va_D (fun _ => True) (MW g0 g1 g2 y4 y5 th (n) (w) T P)) (x1 : Int32) (kN : Nat) (e_kN : x1.toInt = (kN : Int)) : Met l yX2_goesWell wsX2_goesWell ({ frames := 0, cells := 0, slots := 0, locals := 0 }) (va_Pc [.ref g0, .int x1] (cp D (MW g0 g1 g2 y4 y5 th (n) (w) T P) (MT y4 y5) E (va_A (MW g0 g1 g2 y4 y5 th (n) (w) T P) sz) sz)) (va_Qi (fun (r : Int32) (_ : Unit) => r.toInt = bI (decide (kN = 0))) (fun _ t => va_P D vwCl (MW g0 g1 g2 y4 y5 x1 (n) (w) T P) t.heap ∧ va_D (va_A (MW g0 g1 g2 y4 y5 th (n) (w) T P) sz) (MW g0 g1 g2 y4 y5 x1 (n) (w) T P)) (va_A (MW g0 g1 g2 y4 y5 th (n) (w) T P) sz)) 0 0 (va_A (MW g0 g1 g2 y4 y5 th (n) (w) T P) sz) := by
  refine Met.ofW (cc := cX2_goesWell) (maxL := 2) (ret := (some .boolean)) (by decide) rfl ?_
  intro p e s m args below meth c s₁ B hml hv
  obtain ⟨rfl, hsz, hP, hK, hE⟩ := hv
  have hx := B.exec
  have hb := B.bytes
  have hr := B.returns
  have hts := atoms_spec (ws := wsX2_goesWell) B.pre
  have hown : s.vm.findClass RX2 = some m.cls := findClass_of_methodNamed B.named
  have hlocks := B.notSynchronized
  have hsz : s.heap.size = sz := hsz
  subst hsz
  have hD := hD0.self (sz := s.heap.size)
  have hA : ∀ q : Nat, s.heap.size ≤ q → (va_A (MW g0 g1 g2 y4 y5 th (n) (w) T P) s.heap.size) q := fun q h => Or.inr h
  have hS : va_S (va_A (MW g0 g1 g2 y4 y5 th (n) (w) T P) s.heap.size) s.heap s.heap [] := va_S.rf
  have inn : (nI n).toInt = (n : Int) := nI_toInt (by omega)
  have iww : (nI w).toInt = (w : Int) := nI_toInt (by omega)
  have hf_thrown := hts (.fieldLink RX2 16 "BlankMatcherModel" "thrown" "I") (by decide +kernel)
  have hpl : pl n w = n + 1 - w := rfl
  have hin0 : ∀ w ∈ wsX20, w ∈ wsX2_goesWell := by decide +kernel
  have g_x1 := rg x1
  have hl := lv_entry ([.ref g0, .int x1]) (n := 2) (Nat.le_of_ble_eq_true rfl)
  rw [lg_entry_eq]
  generalize (lg_sl ([.ref g0, .int x1]) ++ List.replicate (2 - (lg_sl ([.ref g0, .int x1])).length) Slot.unset).toArray = ls at hl ⊢
  have hl : lv_has ls 2 [(0, .ref g0), (1, .int x1)] := hl
  refine lv_aload_n hx hb dX2_goesWell_0 rfl (lv_at hl 0 rfl) ?_
  refine lv_iload_n hx hb dX2_goesWell_1 rfl (lv_at hl 1 rfl) ?_
  refine va_put (D := D) (ci := 1) (v := .int x1) (ty := .int) (C := RX2) (T := TX2) (N := 5) hx hb hts hin0 tyX2 tyX2_ok nmX2 hown hK hP hD hS 0 rfl rfl 0 (by decide) hf_thrown (fun _ h9 => h9) rfl (by decide +kernel) rfl rfl (Nat.le_of_ble_eq_true rfl) dX2_goesWell_2 (fun H locs hP hD hS => ?_)
  have hP : va_P D vwCl (MW g0 g1 g2 y4 y5 x1 (n) (w) T P) H := hP
  have hD : va_D (va_A (MW g0 g1 g2 y4 y5 th (n) (w) T P) s.heap.size) (MW g0 g1 g2 y4 y5 x1 (n) (w) T P) := hD
  refine lv_iload_n hx hb dX2_goesWell_5 rfl (lv_at hl 1 rfl) ?_
  refine z_if_ne (tgt := 13) hx hb dX2_goesWell_6 (by decide) e_kN (fun c6 => ?_) (fun c6 => ?_)
  · have _u := True.intro
    refine lv_iconst (v := 0) hx hb dX2_goesWell_13 (by decide) ?_
    refine W.widen (k := 0) (n := 0) (Nat.le_of_ble_eq_true rfl) (Nat.le_of_ble_eq_true rfl) ?_
    have hpost : (0 : Int32).toInt = bI (decide (kN = 0)) := (by first | (rw [decide_eq_false (show ¬ kN = 0 by omega)]; decide) | (rw [decide_eq_true (show kN = 0 by omega)]; decide))
    exact W.zret (v := 0) hx hb hr (bnar hpost) (fun t ht hW => ⟨⟨_, (), rfl, hpost, ⟨by rw [ht]; exact hP, hD⟩⟩, hS.F ht⟩) hS.2.2 dX2_goesWell_14
  · have _u := True.intro
    refine lv_iconst (v := 1) hx hb dX2_goesWell_9 (by decide) ?_
    refine lv_goto (tgt := 14) hx hb dX2_goesWell_10 (by decide) ?_
    refine W.widen (k := 0) (n := 0) (Nat.le_of_ble_eq_true rfl) (Nat.le_of_ble_eq_true rfl) ?_
    have hpost : (1 : Int32).toInt = bI (decide (kN = 0)) := (by first | (rw [decide_eq_false (show ¬ kN = 0 by omega)]; decide) | (rw [decide_eq_true (show kN = 0 by omega)]; decide))
    exact W.zret (v := 1) hx hb hr (bnar hpost) (fun t ht hW => ⟨⟨_, (), rfl, hpost, ⟨by rw [ht]; exact hP, hD⟩⟩, hS.F ht⟩) hS.2.2 dX2_goesWell_14

set_option maxHeartbeats 4000000 in
set_option maxRecDepth 100000 in
theorem c_X2_isSymbol (l : Launch) (sz : Nat) (x1 : Int32) : Met l yX2_isSymbol wsX2_isSymbol ({ frames := 0, cells := 0, slots := 0, locals := 0 }) (va_Pc [.int x1] (cz sz)) (va_Qi (fun (r : Int32) (_ : Unit) => r.toInt = bI (decide (0 ≤ x1.toInt ∧ x1.toInt ≤ 26))) (fun _ _ => True) (va_A [] sz)) 0 0 (va_A [] sz) := by
  refine Met.ofW (cc := cX2_isSymbol) (maxL := 1) (ret := (some .boolean)) (by decide) rfl ?_
  intro p e s m args below meth c s₁ B hml hv
  obtain ⟨rfl, hsz⟩ := hv
  have hx := B.exec
  have hb := B.bytes
  have hr := B.returns
  have hts := atoms_spec (ws := wsX2_isSymbol) B.pre
  have hown : s.vm.findClass RX2 = some m.cls := findClass_of_methodNamed B.named
  have hlocks := B.notSynchronized
  have hsz : s.heap.size = sz := hsz
  subst hsz
  have hA : ∀ q : Nat, s.heap.size ≤ q → (va_A [] s.heap.size) q := fun q h => Or.inr h
  have hS : va_S (va_A [] s.heap.size) s.heap s.heap [] := va_S.rf
  have g_x1 := rg x1
  have hl := lv_entry ([.int x1]) (n := 1) (Nat.le_of_ble_eq_true rfl)
  rw [lg_entry_eq]
  generalize (lg_sl ([.int x1]) ++ List.replicate (1 - (lg_sl ([.int x1])).length) Slot.unset).toArray = ls at hl ⊢
  have hl : lv_has ls 1 [(0, .int x1)] := hl
  refine lv_iload_n hx hb dX2_isSymbol_0 rfl (lv_at hl 0 rfl) ?_
  refine z_if_lt (tgt := 14) hx hb dX2_isSymbol_1 (by decide) rfl (fun c1 => ?_) (fun c1 => ?_)
  · have _u := True.intro
    refine lv_iconst (v := 0) hx hb dX2_isSymbol_14 (by decide) ?_
    refine W.widen (k := 0) (n := 0) (Nat.le_of_ble_eq_true rfl) (Nat.le_of_ble_eq_true rfl) ?_
    have hpost : (0 : Int32).toInt = bI (decide (0 ≤ x1.toInt ∧ x1.toInt ≤ 26)) := (by first | (rw [decide_eq_true (show 0 ≤ x1.toInt ∧ x1.toInt ≤ 26 by omega)]; decide) | (rw [decide_eq_false (show ¬ (0 ≤ x1.toInt ∧ x1.toInt ≤ 26) by omega)]; decide))
    exact W.zret (v := 0) hx hb hr (bnar hpost) (fun t ht hW => ⟨⟨_, (), rfl, hpost, trivial⟩, hS.F ht⟩) hS.2.2 dX2_isSymbol_15
  · have _u := True.intro
    refine lv_iload_n hx hb dX2_isSymbol_4 rfl (lv_at hl 0 rfl) ?_
    refine lv_bipush (v := 26) hx hb dX2_isSymbol_5 (by decide) ?_
    refine z_icmp_gt (tgt := 14) hx hb dX2_isSymbol_7 (by decide) rfl (show (26 : Int32).toInt = 26 by decide) (fun c7 => ?_) (fun c7 => ?_)
    · have _u := True.intro
      refine lv_iconst (v := 0) hx hb dX2_isSymbol_14 (by decide) ?_
      refine W.widen (k := 0) (n := 0) (Nat.le_of_ble_eq_true rfl) (Nat.le_of_ble_eq_true rfl) ?_
      have hpost : (0 : Int32).toInt = bI (decide (0 ≤ x1.toInt ∧ x1.toInt ≤ 26)) := (by first | (rw [decide_eq_true (show 0 ≤ x1.toInt ∧ x1.toInt ≤ 26 by omega)]; decide) | (rw [decide_eq_false (show ¬ (0 ≤ x1.toInt ∧ x1.toInt ≤ 26) by omega)]; decide))
      exact W.zret (v := 0) hx hb hr (bnar hpost) (fun t ht hW => ⟨⟨_, (), rfl, hpost, trivial⟩, hS.F ht⟩) hS.2.2 dX2_isSymbol_15
    · have _u := True.intro
      refine lv_iconst (v := 1) hx hb dX2_isSymbol_10 (by decide) ?_
      refine lv_goto (tgt := 15) hx hb dX2_isSymbol_11 (by decide) ?_
      refine W.widen (k := 0) (n := 0) (Nat.le_of_ble_eq_true rfl) (Nat.le_of_ble_eq_true rfl) ?_
      have hpost : (1 : Int32).toInt = bI (decide (0 ≤ x1.toInt ∧ x1.toInt ≤ 26)) := (by first | (rw [decide_eq_true (show 0 ≤ x1.toInt ∧ x1.toInt ≤ 26 by omega)]; decide) | (rw [decide_eq_false (show ¬ (0 ≤ x1.toInt ∧ x1.toInt ≤ 26) by omega)]; decide))
      exact W.zret (v := 1) hx hb hr (bnar hpost) (fun t ht hW => ⟨⟨_, (), rfl, hpost, trivial⟩, hS.F ht⟩) hS.2.2 dX2_isSymbol_15

set_option maxHeartbeats 4000000 in
set_option maxRecDepth 100000 in
theorem c_X2_agree (l : Launch) (sz : Nat) (x1 : Int32) (x2 : Int32) : Met l yX2_agree wsX2_agree ({ frames := 0, cells := 0, slots := 0, locals := 0 }) (va_Pc [.int x1, .int x2] (cz sz)) (va_Qi (fun (r : Int32) (_ : Unit) => r.toInt = bI (ag x1 x2)) (fun _ _ => True) (va_A [] sz)) 0 0 (va_A [] sz) := by
  refine Met.ofW (cc := cX2_agree) (maxL := 2) (ret := (some .boolean)) (by decide) rfl ?_
  intro p e s m args below meth c s₁ B hml hv
  obtain ⟨rfl, hsz⟩ := hv
  have hx := B.exec
  have hb := B.bytes
  have hr := B.returns
  have hts := atoms_spec (ws := wsX2_agree) B.pre
  have hown : s.vm.findClass RX2 = some m.cls := findClass_of_methodNamed B.named
  have hlocks := B.notSynchronized
  have hsz : s.heap.size = sz := hsz
  subst hsz
  have hA : ∀ q : Nat, s.heap.size ≤ q → (va_A [] s.heap.size) q := fun q h => Or.inr h
  have hS : va_S (va_A [] s.heap.size) s.heap s.heap [] := va_S.rf
  have g_x1 := rg x1
  have g_x2 := rg x2
  have hl := lv_entry ([.int x1, .int x2]) (n := 2) (Nat.le_of_ble_eq_true rfl)
  rw [lg_entry_eq]
  generalize (lg_sl ([.int x1, .int x2]) ++ List.replicate (2 - (lg_sl ([.int x1, .int x2])).length) Slot.unset).toArray = ls at hl ⊢
  have hl : lv_has ls 2 [(0, .int x1), (1, .int x2)] := hl
  refine lv_iload_n hx hb dX2_agree_0 rfl (lv_at hl 0 rfl) ?_
  refine lv_iload_n hx hb dX2_agree_1 rfl (lv_at hl 1 rfl) ?_
  refine z_icmp_eq (tgt := 13) hx hb dX2_agree_2 (by decide) rfl rfl (fun c2 => ?_) (fun c2 => ?_)
  · have _u := True.intro
    refine lv_iconst (v := 1) hx hb dX2_agree_13 (by decide) ?_
    refine lv_goto (tgt := 18) hx hb dX2_agree_14 (by decide) ?_
    refine W.widen (k := 0) (n := 0) (Nat.le_of_ble_eq_true rfl) (Nat.le_of_ble_eq_true rfl) ?_
    have hpost : (1 : Int32).toInt = bI (ag x1 x2) := (by first | (rw [ag_eq c2]; decide) | (rw [ag_l c6]; decide) | (rw [ag_r c10]; decide) | (rw [ag_no c2 c6 c10]; decide))
    exact W.zret (v := 1) hx hb hr (bnar hpost) (fun t ht hW => ⟨⟨_, (), rfl, hpost, trivial⟩, hS.F ht⟩) hS.2.2 dX2_agree_18
  · have _u := True.intro
    refine lv_iload_n hx hb dX2_agree_5 rfl (lv_at hl 0 rfl) ?_
    refine z_if_eq (tgt := 13) hx hb dX2_agree_6 (by decide) rfl (fun c6 => ?_) (fun c6 => ?_)
    · have _u := True.intro
      refine lv_iconst (v := 1) hx hb dX2_agree_13 (by decide) ?_
      refine lv_goto (tgt := 18) hx hb dX2_agree_14 (by decide) ?_
      refine W.widen (k := 0) (n := 0) (Nat.le_of_ble_eq_true rfl) (Nat.le_of_ble_eq_true rfl) ?_
      have hpost : (1 : Int32).toInt = bI (ag x1 x2) := (by first | (rw [ag_eq c2]; decide) | (rw [ag_l c6]; decide) | (rw [ag_r c10]; decide) | (rw [ag_no c2 c6 c10]; decide))
      exact W.zret (v := 1) hx hb hr (bnar hpost) (fun t ht hW => ⟨⟨_, (), rfl, hpost, trivial⟩, hS.F ht⟩) hS.2.2 dX2_agree_18
    · have _u := True.intro
      refine lv_iload_n hx hb dX2_agree_9 rfl (lv_at hl 1 rfl) ?_
      refine z_if_ne (tgt := 17) hx hb dX2_agree_10 (by decide) rfl (fun c10 => ?_) (fun c10 => ?_)
      · have _u := True.intro
        refine lv_iconst (v := 0) hx hb dX2_agree_17 (by decide) ?_
        refine W.widen (k := 0) (n := 0) (Nat.le_of_ble_eq_true rfl) (Nat.le_of_ble_eq_true rfl) ?_
        have hpost : (0 : Int32).toInt = bI (ag x1 x2) := (by first | (rw [ag_eq c2]; decide) | (rw [ag_l c6]; decide) | (rw [ag_r c10]; decide) | (rw [ag_no c2 c6 c10]; decide))
        exact W.zret (v := 0) hx hb hr (bnar hpost) (fun t ht hW => ⟨⟨_, (), rfl, hpost, trivial⟩, hS.F ht⟩) hS.2.2 dX2_agree_18
      · have _u := True.intro
        refine lv_iconst (v := 1) hx hb dX2_agree_13 (by decide) ?_
        refine lv_goto (tgt := 18) hx hb dX2_agree_14 (by decide) ?_
        refine W.widen (k := 0) (n := 0) (Nat.le_of_ble_eq_true rfl) (Nat.le_of_ble_eq_true rfl) ?_
        have hpost : (1 : Int32).toInt = bI (ag x1 x2) := (by first | (rw [ag_eq c2]; decide) | (rw [ag_l c6]; decide) | (rw [ag_r c10]; decide) | (rw [ag_no c2 c6 c10]; decide))
        exact W.zret (v := 1) hx hb hr (bnar hpost) (fun t ht hW => ⟨⟨_, (), rfl, hpost, trivial⟩, hS.F ht⟩) hS.2.2 dX2_agree_18

set_option maxHeartbeats 4000000 in
set_option maxRecDepth 100000 in
theorem c_X2_sign (l : Launch) (sz : Nat) (x1 : Int32) (za : Int) (e_za : x1.toInt = za) : Met l yX2_sign wsX2_sign ({ frames := 0, cells := 0, slots := 0, locals := 0 }) (va_Pc [.int x1] (cz sz)) (va_Qi (fun (r : Int32) (_ : Unit) => r.toInt = sgn za) (fun _ _ => True) (va_A [] sz)) 0 0 (va_A [] sz) := by
  refine Met.ofW (cc := cX2_sign) (maxL := 1) (ret := (some .int)) (by decide) rfl ?_
  intro p e s m args below meth c s₁ B hml hv
  obtain ⟨rfl, hsz⟩ := hv
  have hx := B.exec
  have hb := B.bytes
  have hr := B.returns
  have hts := atoms_spec (ws := wsX2_sign) B.pre
  have hown : s.vm.findClass RX2 = some m.cls := findClass_of_methodNamed B.named
  have hlocks := B.notSynchronized
  have hsz : s.heap.size = sz := hsz
  subst hsz
  have hA : ∀ q : Nat, s.heap.size ≤ q → (va_A [] s.heap.size) q := fun q h => Or.inr h
  have hS : va_S (va_A [] s.heap.size) s.heap s.heap [] := va_S.rf
  have g_x1 := rg x1
  have hl := lv_entry ([.int x1]) (n := 1) (Nat.le_of_ble_eq_true rfl)
  rw [lg_entry_eq]
  generalize (lg_sl ([.int x1]) ++ List.replicate (1 - (lg_sl ([.int x1])).length) Slot.unset).toArray = ls at hl ⊢
  have hl : lv_has ls 1 [(0, .int x1)] := hl
  refine lv_iload_n hx hb dX2_sign_0 rfl (lv_at hl 0 rfl) ?_
  refine z_if_ge (tgt := 8) hx hb dX2_sign_1 (by decide) e_za (fun c1 => ?_) (fun c1 => ?_)
  · have _u := True.intro
    refine lv_iload_n hx hb dX2_sign_8 rfl (lv_at hl 0 rfl) ?_
    refine z_if_le (tgt := 16) hx hb dX2_sign_9 (by decide) e_za (fun c9 => ?_) (fun c9 => ?_)
    · have _u := True.intro
      refine lv_iconst (v := 0) hx hb dX2_sign_16 (by decide) ?_
      refine W.widen (k := 0) (n := 0) (Nat.le_of_ble_eq_true rfl) (Nat.le_of_ble_eq_true rfl) ?_
      exact W.iret (v := 0) hx hb hr (fun t ht hW => ⟨⟨_, (), rfl, (Eq.trans (show (0 : Int32).toInt = 0 by decide) (by unfold sgn; (repeat' split) <;> omega)), trivial⟩, hS.F ht⟩) hS.2.2 dX2_sign_17
    · have _u := True.intro
      refine lv_iconst (v := 1) hx hb dX2_sign_12 (by decide) ?_
      refine lv_goto (tgt := 17) hx hb dX2_sign_13 (by decide) ?_
      refine W.widen (k := 0) (n := 0) (Nat.le_of_ble_eq_true rfl) (Nat.le_of_ble_eq_true rfl) ?_
      exact W.iret (v := 1) hx hb hr (fun t ht hW => ⟨⟨_, (), rfl, (Eq.trans (show (1 : Int32).toInt = 1 by decide) (by unfold sgn; (repeat' split) <;> omega)), trivial⟩, hS.F ht⟩) hS.2.2 dX2_sign_17
  · have _u := True.intro
    refine lv_iconst (v := (-1)) hx hb dX2_sign_4 (by decide) ?_
    refine lv_goto (tgt := 17) hx hb dX2_sign_5 (by decide) ?_
    refine W.widen (k := 0) (n := 0) (Nat.le_of_ble_eq_true rfl) (Nat.le_of_ble_eq_true rfl) ?_
    exact W.iret (v := (-1)) hx hb hr (fun t ht hW => ⟨⟨_, (), rfl, (Eq.trans (show (-1 : Int32).toInt = (-1) by decide) (by unfold sgn; (repeat' split) <;> omega)), trivial⟩, hS.F ht⟩) hS.2.2 dX2_sign_17

set_option maxHeartbeats 4000000 in
set_option maxRecDepth 100000 in
theorem c_X2_isInPattern (l : Launch) (D : va_G) (E : Nat × Nat × Nat) (g0 g1 g2 : Nat) (y4 y5 : ClassId) (sz n w : Nat) (th : Int32) (T P : Nat → Int32) (hn : n ≤ 64) (hw : w ≤ 24) (hT : SymF T) (hPt : SymF P) (x1 : Int32) : Met l yX2_isInPattern wsX2_isInPattern ({ frames := 0, cells := 0, slots := 0, locals := 0 }) (va_Pc [.ref g0, .int x1] (cp D (MW g0 g1 g2 y4 y5 th (n) (w) T P) (MT y4 y5) E (va_A [] sz) sz)) (va_Qi (fun (r : Int32) (_ : Unit) => r.toInt = bI (decide (0 ≤ x1.toInt ∧ x1.toInt < ((w : Nat) : Int)))) (fun _ _ => True) (va_A [] sz)) 0 0 (va_A [] sz) := by
  refine Met.ofW (cc := cX2_isInPattern) (maxL := 2) (ret := (some .boolean)) (by decide) rfl ?_
  intro p e s m args below meth c s₁ B hml hv
  obtain ⟨rfl, hsz, hP, hK, hE⟩ := hv
  have hx := B.exec
  have hb := B.bytes
  have hr := B.returns
  have hts := atoms_spec (ws := wsX2_isInPattern) B.pre
  have hown : s.vm.findClass RX2 = some m.cls := findClass_of_methodNamed B.named
  have hlocks := B.notSynchronized
  have hsz : s.heap.size = sz := hsz
  subst hsz
  have hA : ∀ q : Nat, s.heap.size ≤ q → (va_A [] s.heap.size) q := fun q h => Or.inr h
  have hS : va_S (va_A [] s.heap.size) s.heap s.heap [] := va_S.rf
  have inn : (nI n).toInt = (n : Int) := nI_toInt (by omega)
  have iww : (nI w).toInt = (w : Int) := nI_toInt (by omega)
  have hf_m := hts (.fieldLink RX2 30 "BlankMatcherModel" "m" "I") (by decide +kernel)
  have hpl : pl n w = n + 1 - w := rfl
  have hin0 : ∀ w ∈ wsX20, w ∈ wsX2_isInPattern := by decide +kernel
  have g_x1 := rg x1
  have hl := lv_entry ([.ref g0, .int x1]) (n := 2) (Nat.le_of_ble_eq_true rfl)
  rw [lg_entry_eq]
  generalize (lg_sl ([.ref g0, .int x1]) ++ List.replicate (2 - (lg_sl ([.ref g0, .int x1])).length) Slot.unset).toArray = ls at hl ⊢
  have hl : lv_has ls 2 [(0, .ref g0), (1, .int x1)] := hl
  refine lv_iload_n hx hb dX2_isInPattern_0 rfl (lv_at hl 1 rfl) ?_
  refine z_if_lt (tgt := 16) hx hb dX2_isInPattern_1 (by decide) rfl (fun c1 => ?_) (fun c1 => ?_)
  · have _u := True.intro
    refine lv_iconst (v := 0) hx hb dX2_isInPattern_16 (by decide) ?_
    refine W.widen (k := 0) (n := 0) (Nat.le_of_ble_eq_true rfl) (Nat.le_of_ble_eq_true rfl) ?_
    have hpost : (0 : Int32).toInt = bI (decide (0 ≤ x1.toInt ∧ x1.toInt < ((w : Nat) : Int))) := (by first | (rw [decide_eq_true (show 0 ≤ x1.toInt ∧ x1.toInt < ((w : Nat) : Int) by omega)]; decide) | (rw [decide_eq_false (show ¬ (0 ≤ x1.toInt ∧ x1.toInt < ((w : Nat) : Int)) by omega)]; decide))
    exact W.zret (v := 0) hx hb hr (bnar hpost) (fun t ht hW => ⟨⟨_, (), rfl, hpost, trivial⟩, hS.F ht⟩) hS.2.2 dX2_isInPattern_17
  · have _u := True.intro
    refine lv_iload_n hx hb dX2_isInPattern_4 rfl (lv_at hl 1 rfl) ?_
    refine lv_aload_n hx hb dX2_isInPattern_5 rfl (lv_at hl 0 rfl) ?_
    refine va_get (D := D) (ci := 1) (v := .int (nI w)) (C := RX2) (T := TX2) (N := 5) hx hb hts hin0 hown hK hP 0 rfl rfl 4 (by decide) hf_m (fun _ h9 => h9) rfl dX2_isInPattern_6 ?_
    refine z_icmp_ge (tgt := 16) hx hb dX2_isInPattern_9 (by decide) rfl iww (fun c9 => ?_) (fun c9 => ?_)
    · have _u := True.intro
      refine lv_iconst (v := 0) hx hb dX2_isInPattern_16 (by decide) ?_
      refine W.widen (k := 0) (n := 0) (Nat.le_of_ble_eq_true rfl) (Nat.le_of_ble_eq_true rfl) ?_
      have hpost : (0 : Int32).toInt = bI (decide (0 ≤ x1.toInt ∧ x1.toInt < ((w : Nat) : Int))) := (by first | (rw [decide_eq_true (show 0 ≤ x1.toInt ∧ x1.toInt < ((w : Nat) : Int) by omega)]; decide) | (rw [decide_eq_false (show ¬ (0 ≤ x1.toInt ∧ x1.toInt < ((w : Nat) : Int)) by omega)]; decide))
      exact W.zret (v := 0) hx hb hr (bnar hpost) (fun t ht hW => ⟨⟨_, (), rfl, hpost, trivial⟩, hS.F ht⟩) hS.2.2 dX2_isInPattern_17
    · have _u := True.intro
      refine lv_iconst (v := 1) hx hb dX2_isInPattern_12 (by decide) ?_
      refine lv_goto (tgt := 17) hx hb dX2_isInPattern_13 (by decide) ?_
      refine W.widen (k := 0) (n := 0) (Nat.le_of_ble_eq_true rfl) (Nat.le_of_ble_eq_true rfl) ?_
      have hpost : (1 : Int32).toInt = bI (decide (0 ≤ x1.toInt ∧ x1.toInt < ((w : Nat) : Int))) := (by first | (rw [decide_eq_true (show 0 ≤ x1.toInt ∧ x1.toInt < ((w : Nat) : Int) by omega)]; decide) | (rw [decide_eq_false (show ¬ (0 ≤ x1.toInt ∧ x1.toInt < ((w : Nat) : Int)) by omega)]; decide))
      exact W.zret (v := 1) hx hb hr (bnar hpost) (fun t ht hW => ⟨⟨_, (), rfl, hpost, trivial⟩, hS.F ht⟩) hS.2.2 dX2_isInPattern_17

set_option maxHeartbeats 4000000 in
set_option maxRecDepth 100000 in
theorem c_X2_placeMany (l : Launch) (D : va_G) (E : Nat × Nat × Nat) (g0 g1 g2 : Nat) (y4 y5 : ClassId) (sz n w : Nat) (th : Int32) (T P : Nat → Int32) (hn : n ≤ 64) (hw : w ≤ 24) (hT : SymF T) (hPt : SymF P) : Met l yX2_placeMany wsX2_placeMany ({ frames := 0, cells := 0, slots := 0, locals := 0 }) (va_Pc [.ref g0] (cp D (MW g0 g1 g2 y4 y5 th (n) (w) T P) (MT y4 y5) E (va_A [] sz) sz)) (va_Qi (fun (r : Int32) (_ : Unit) => r.toInt = ((pl n w : Nat) : Int)) (fun _ _ => True) (va_A [] sz)) 0 0 (va_A [] sz) := by
  refine Met.ofW (cc := cX2_placeMany) (maxL := 1) (ret := (some .int)) (by decide) rfl ?_
  intro p e s m args below meth c s₁ B hml hv
  obtain ⟨rfl, hsz, hP, hK, hE⟩ := hv
  have hx := B.exec
  have hb := B.bytes
  have hr := B.returns
  have hts := atoms_spec (ws := wsX2_placeMany) B.pre
  have hown : s.vm.findClass RX2 = some m.cls := findClass_of_methodNamed B.named
  have hlocks := B.notSynchronized
  have hsz : s.heap.size = sz := hsz
  subst hsz
  have hA : ∀ q : Nat, s.heap.size ≤ q → (va_A [] s.heap.size) q := fun q h => Or.inr h
  have hS : va_S (va_A [] s.heap.size) s.heap s.heap [] := va_S.rf
  have inn : (nI n).toInt = (n : Int) := nI_toInt (by omega)
  have iww : (nI w).toInt = (w : Int) := nI_toInt (by omega)
  have hf_m := hts (.fieldLink RX2 30 "BlankMatcherModel" "m" "I") (by decide +kernel)
  have hf_n := hts (.fieldLink RX2 24 "BlankMatcherModel" "n" "I") (by decide +kernel)
  have hpl : pl n w = n + 1 - w := rfl
  have hin0 : ∀ w ∈ wsX20, w ∈ wsX2_placeMany := by decide +kernel
  have hl := lv_entry ([.ref g0]) (n := 1) (Nat.le_of_ble_eq_true rfl)
  rw [lg_entry_eq]
  generalize (lg_sl ([.ref g0]) ++ List.replicate (1 - (lg_sl ([.ref g0])).length) Slot.unset).toArray = ls at hl ⊢
  have hl : lv_has ls 1 [(0, .ref g0)] := hl
  refine lv_aload_n hx hb dX2_placeMany_0 rfl (lv_at hl 0 rfl) ?_
  refine va_get (D := D) (ci := 1) (v := .int (nI n)) (C := RX2) (T := TX2) (N := 5) hx hb hts hin0 hown hK hP 0 rfl rfl 3 (by decide) hf_n (fun _ h9 => h9) rfl dX2_placeMany_1 ?_
  refine lv_aload_n hx hb dX2_placeMany_4 rfl (lv_at hl 0 rfl) ?_
  refine va_get (D := D) (ci := 1) (v := .int (nI w)) (C := RX2) (T := TX2) (N := 5) hx hb hts hin0 hown hK hP 0 rfl rfl 4 (by decide) hf_m (fun _ h9 => h9) rfl dX2_placeMany_5 ?_
  refine z_icmp_ge (tgt := 15) hx hb dX2_placeMany_8 (by decide) inn iww (fun c8 => ?_) (fun c8 => ?_)
  · have _u := True.intro
    refine lv_aload_n hx hb dX2_placeMany_15 rfl (lv_at hl 0 rfl) ?_
    refine va_get (D := D) (ci := 1) (v := .int (nI n)) (C := RX2) (T := TX2) (N := 5) hx hb hts hin0 hown hK hP 0 rfl rfl 3 (by decide) hf_n (fun _ h9 => h9) rfl dX2_placeMany_16 ?_
    refine lv_aload_n hx hb dX2_placeMany_19 rfl (lv_at hl 0 rfl) ?_
    refine va_get (D := D) (ci := 1) (v := .int (nI w)) (C := RX2) (T := TX2) (N := 5) hx hb hts hin0 hown hK hP 0 rfl rfl 4 (by decide) hf_m (fun _ h9 => h9) rfl dX2_placeMany_20 ?_
    refine z_isub hx hb dX2_placeMany_23 inn iww (by omega) (by omega) (fun v23 e23 => ?_)
    refine lv_iconst (v := 1) hx hb dX2_placeMany_24 (by decide) ?_
    refine z_iadd hx hb dX2_placeMany_25 e23 (show (1 : Int32).toInt = 1 by decide) (by omega) (by omega) (fun v25 e25 => ?_)
    refine W.widen (k := 0) (n := 0) (Nat.le_of_ble_eq_true rfl) (Nat.le_of_ble_eq_true rfl) ?_
    exact W.iret (v := v25) hx hb hr (fun t ht hW => ⟨⟨_, (), rfl, (Eq.trans e25 (by omega)), trivial⟩, hS.F ht⟩) hS.2.2 dX2_placeMany_26
  · have _u := True.intro
    refine lv_iconst (v := 0) hx hb dX2_placeMany_11 (by decide) ?_
    refine lv_goto (tgt := 26) hx hb dX2_placeMany_12 (by decide) ?_
    refine W.widen (k := 0) (n := 0) (Nat.le_of_ble_eq_true rfl) (Nat.le_of_ble_eq_true rfl) ?_
    exact W.iret (v := 0) hx hb hr (fun t ht hW => ⟨⟨_, (), rfl, (Eq.trans (show (0 : Int32).toInt = 0 by decide) (by omega)), trivial⟩, hS.F ht⟩) hS.2.2 dX2_placeMany_26

set_option maxHeartbeats 4000000 in
set_option maxRecDepth 100000 in
theorem c_X2_isPlace (l : Launch) (D : va_G) (E : Nat × Nat × Nat) (g0 g1 g2 : Nat) (y4 y5 : ClassId) (sz n w : Nat) (th : Int32) (T P : Nat → Int32) (hn : n ≤ 64) (hw : w ≤ 24) (hT : SymF T) (hPt : SymF P) (x1 : Int32) : Met l yX2_isPlace wsX2_isPlace ({ frames := 1, cells := 0, slots := 0, locals := 20 }) (va_Pc [.ref g0, .int x1] (cp D (MW g0 g1 g2 y4 y5 th (n) (w) T P) (MT y4 y5) E (va_A [] sz) sz)) (va_Qi (fun (r : Int32) (_ : Unit) => r.toInt = bI (decide (0 ≤ x1.toInt ∧ x1.toInt < ((pl n w : Nat) : Int)))) (fun _ _ => True) (va_A [] sz)) 0 0 (va_A [] sz) := by
  refine Met.ofW (cc := cX2_isPlace) (maxL := 2) (ret := (some .boolean)) (by decide) rfl ?_
  intro p e s m args below meth c s₁ B hml hv
  obtain ⟨rfl, hsz, hP, hK, hE⟩ := hv
  have hx := B.exec
  have hb := B.bytes
  have hr := B.returns
  have hts := atoms_spec (ws := wsX2_isPlace) B.pre
  have hown : s.vm.findClass RX2 = some m.cls := findClass_of_methodNamed B.named
  have hlocks := B.notSynchronized
  have hsz : s.heap.size = sz := hsz
  subst hsz
  have hA : ∀ q : Nat, s.heap.size ≤ q → (va_A [] s.heap.size) q := fun q h => Or.inr h
  have hS : va_S (va_A [] s.heap.size) s.heap s.heap [] := va_S.rf
  have inn : (nI n).toInt = (n : Int) := nI_toInt (by omega)
  have iww : (nI w).toInt = (w : Int) := nI_toInt (by omega)
  have hpl : pl n w = n + 1 - w := rfl
  have g_x1 := rg x1
  have hl := lv_entry ([.ref g0, .int x1]) (n := 2) (Nat.le_of_ble_eq_true rfl)
  rw [lg_entry_eq]
  generalize (lg_sl ([.ref g0, .int x1]) ++ List.replicate (2 - (lg_sl ([.ref g0, .int x1])).length) Slot.unset).toArray = ls at hl ⊢
  have hl : lv_has ls 2 [(0, .ref g0), (1, .int x1)] := hl
  refine lv_iload_n hx hb dX2_isPlace_0 rfl (lv_at hl 1 rfl) ?_
  refine z_if_lt (tgt := 16) hx hb dX2_isPlace_1 (by decide) rfl (fun c1 => ?_) (fun c1 => ?_)
  · have _u := True.intro
    refine lv_iconst (v := 0) hx hb dX2_isPlace_16 (by decide) ?_
    refine W.widen (k := 0) (n := 0) (Nat.le_of_ble_eq_true rfl) (Nat.le_of_ble_eq_true rfl) ?_
    have hpost : (0 : Int32).toInt = bI (decide (0 ≤ x1.toInt ∧ x1.toInt < ((pl n w : Nat) : Int))) := (by first | (rw [decide_eq_true (show 0 ≤ x1.toInt ∧ x1.toInt < ((pl n w : Nat) : Int) by omega)]; decide) | (rw [decide_eq_false (show ¬ (0 ≤ x1.toInt ∧ x1.toInt < ((pl n w : Nat) : Int)) by omega)]; decide))
    exact W.zret (v := 0) hx hb hr (bnar hpost) (fun t ht hW => ⟨⟨_, (), rfl, hpost, trivial⟩, hS.F ht⟩) hS.2.2 dX2_isPlace_17
  · have _u := True.intro
    refine lv_iload_n hx hb dX2_isPlace_4 rfl (lv_at hl 1 rfl) ?_
    refine lv_aload_n hx hb dX2_isPlace_5 rfl (lv_at hl 0 rfl) ?_
    refine va_calli (va_runV (As := []) (rest := [.int x1]) ⟨hx, hb, hml, hown, hts⟩ (c_X2_placeMany l D E g0 g1 g2 y4 y5 s.heap.size (n) (w) th T P hn hw hT hPt) (cwV 0 hts gX2_isPlace_X2_placeMany rfl rfl rfl (by decide +kernel) ⟨Nat.le_of_ble_eq_true rfl, Nat.le_of_ble_eq_true rfl⟩) ⟨cp.blind, va_recv hK hP (ci := 1) (q0 := 0) rfl rfl, fun U hU hW => ⟨rfl, cp.call hP hK hE hS (fr0 hS hA) hU hW⟩⟩ rfl rfl hl.1 rfl (lv_room (Nat.le_of_ble_eq_true rfl)) dX2_isPlace_6 ⟨Nat.le_of_ble_eq_true rfl, Nat.le_of_ble_eq_true rfl⟩) hS (fun q _ h => (fr0 hS hA) q h) (fr0 hS hA) (fun v6 u t H1 locs1 ht hvm e6 hB hz1 hk1 hS => ?_)
    have hP := kp hP hk1
    generalize H1 = H at hP hS ⊢
    generalize locs1 = locs at hS ⊢
    refine z_icmp_ge (tgt := 16) hx hb dX2_isPlace_9 (by decide) rfl e6 (fun c9 => ?_) (fun c9 => ?_)
    · have _u := True.intro
      refine lv_iconst (v := 0) hx hb dX2_isPlace_16 (by decide) ?_
      refine W.widen (k := 0) (n := 0) (Nat.le_of_ble_eq_true rfl) (Nat.le_of_ble_eq_true rfl) ?_
      have hpost : (0 : Int32).toInt = bI (decide (0 ≤ x1.toInt ∧ x1.toInt < ((pl n w : Nat) : Int))) := (by first | (rw [decide_eq_true (show 0 ≤ x1.toInt ∧ x1.toInt < ((pl n w : Nat) : Int) by omega)]; decide) | (rw [decide_eq_false (show ¬ (0 ≤ x1.toInt ∧ x1.toInt < ((pl n w : Nat) : Int)) by omega)]; decide))
      exact W.zret (v := 0) hx hb hr (bnar hpost) (fun t ht hW => ⟨⟨_, (), rfl, hpost, trivial⟩, hS.F ht⟩) hS.2.2 dX2_isPlace_17
    · have _u := True.intro
      refine lv_iconst (v := 1) hx hb dX2_isPlace_12 (by decide) ?_
      refine lv_goto (tgt := 17) hx hb dX2_isPlace_13 (by decide) ?_
      refine W.widen (k := 0) (n := 0) (Nat.le_of_ble_eq_true rfl) (Nat.le_of_ble_eq_true rfl) ?_
      have hpost : (1 : Int32).toInt = bI (decide (0 ≤ x1.toInt ∧ x1.toInt < ((pl n w : Nat) : Int))) := (by first | (rw [decide_eq_true (show 0 ≤ x1.toInt ∧ x1.toInt < ((pl n w : Nat) : Int) by omega)]; decide) | (rw [decide_eq_false (show ¬ (0 ≤ x1.toInt ∧ x1.toInt < ((pl n w : Nat) : Int)) by omega)]; decide))
      exact W.zret (v := 1) hx hb hr (bnar hpost) (fun t ht hW => ⟨⟨_, (), rfl, hpost, trivial⟩, hS.F ht⟩) hS.2.2 dX2_isPlace_17

set_option maxHeartbeats 4000000 in
set_option maxRecDepth 100000 in
theorem c_X2_countAt (l : Launch) (D : va_G) (E : Nat × Nat × Nat) (g0 g1 g2 : Nat) (y4 y5 : ClassId) (sz n w : Nat) (th : Int32) (T P : Nat → Int32) (hn : n ≤ 64) (hw : w ≤ 24) (hT : SymF T) (hPt : SymF P) (x1 : Int32) (o : Nat) (e_o : x1.toInt = (o : Int)) (ho : o + w ≤ n) : Met l yX2_countAt wsX2_countAt ({ frames := 1, cells := 0, slots := 0, locals := 21 }) (va_Pc [.ref g0, .int x1] (cp D (MW g0 g1 g2 y4 y5 th (n) (w) T P) (MT y4 y5) E (va_A [] sz) sz)) (va_Qi (fun (r : Int32) (_ : Unit) => r.toInt = ((mis T P o w : Nat) : Int)) (fun _ _ => True) (va_A [] sz)) 0 0 (va_A [] sz) := by
  refine Met.ofW (cc := cX2_countAt) (maxL := 4) (ret := (some .int)) (by decide) rfl ?_
  intro p e s m args below meth c s₁ B hml hv
  obtain ⟨rfl, hsz, hP, hK, hE⟩ := hv
  have hx := B.exec
  have hb := B.bytes
  have hr := B.returns
  have hts := atoms_spec (ws := wsX2_countAt) B.pre
  have hown : s.vm.findClass RX2 = some m.cls := findClass_of_methodNamed B.named
  have hlocks := B.notSynchronized
  have hsz : s.heap.size = sz := hsz
  subst hsz
  have hA : ∀ q : Nat, s.heap.size ≤ q → (va_A [] s.heap.size) q := fun q h => Or.inr h
  have hS : va_S (va_A [] s.heap.size) s.heap s.heap [] := va_S.rf
  have inn : (nI n).toInt = (n : Int) := nI_toInt (by omega)
  have iww : (nI w).toInt = (w : Int) := nI_toInt (by omega)
  have hf_m := hts (.fieldLink RX2 30 "BlankMatcherModel" "m" "I") (by decide +kernel)
  have hf_pattern := hts (.fieldLink RX2 13 "BlankMatcherModel" "pattern" "[I") (by decide +kernel)
  have hf_text := hts (.fieldLink RX2 7 "BlankMatcherModel" "text" "[I") (by decide +kernel)
  have hpl : pl n w = n + 1 - w := rfl
  have hin0 : ∀ w ∈ wsX20, w ∈ wsX2_countAt := by decide +kernel
  have g_x1 := rg x1
  have hl := lv_entry ([.ref g0, .int x1]) (n := 4) (Nat.le_of_ble_eq_true rfl)
  rw [lg_entry_eq]
  generalize (lg_sl ([.ref g0, .int x1]) ++ List.replicate (4 - (lg_sl ([.ref g0, .int x1])).length) Slot.unset).toArray = ls at hl ⊢
  have hl : lv_has ls 4 [(0, .ref g0), (1, .int x1)] := hl
  refine lv_iconst (v := 0) hx hb dX2_countAt_0 (by decide) ?_
  refine lv_istore_n (lv' := [(2, .int 0), (0, .ref g0), (1, .int x1)]) hx hb dX2_countAt_1 rfl hl (by decide) rfl (fun ls hl => ?_)
  refine lv_iconst (v := 0) hx hb dX2_countAt_2 (by decide) ?_
  refine lv_istore_n (lv' := [(3, .int 0), (2, .int 0), (0, .ref g0), (1, .int x1)]) hx hb dX2_countAt_3 rfl hl (by decide) rfl (fun ls hl => ?_)
  have lp4 : ∀ (nf : Nat) (j : Nat) (x2 : Int32) (x3 : Int32), w - j < nf → (j ≤ w) → x2.toInt = ((cnt (mf T P o) j : Nat) : Int) → x3.toInt = (j : Int) → ∀ (H : Heap) (locs : List Loc), va_P D vwCl (MW g0 g1 g2 y4 y5 th (n) (w) T P) H → va_S (va_A [] s.heap.size) s.heap H locs → ∀ (ls : Array Slot), lv_has ls 4 [(0, .ref g0), (1, .int x1), (2, .int x2), (3, .int x3)] → W p l e (headSpec wsX2_countAt ({ frames := 1, cells := 0, slots := 0, locals := 21 })).room s m [.ref g0, .int x1].toArray below meth c H locs 0 0 (MQ below (va_Qi (fun (r : Int32) (_ : Unit) => r.toInt = ((mis T P o w : Nat) : Int)) (fun _ _ => True) (va_A [] s.heap.size)) [.ref g0, .int x1].toArray s 0 0 (va_A [] s.heap.size)) (F0 m 4 ls []) := by
    intro nf
    induction nf with
    | zero => intros; omega
    | succ nf ih4 =>
      intro j x2 x3 hnf hj e_x2 e_x3 H locs hP hS ls hl
      have hcl := cnt_le (mf T P o) j
      refine lv_iload_n hx hb dX2_countAt_4 rfl (lv_at hl 3 rfl) ?_
      refine lv_aload_n hx hb dX2_countAt_5 rfl (lv_at hl 0 rfl) ?_
      refine va_get (D := D) (ci := 1) (v := .int (nI w)) (C := RX2) (T := TX2) (N := 5) hx hb hts hin0 hown hK hP 0 rfl rfl 4 (by decide) hf_m (fun _ h9 => h9) rfl dX2_countAt_6 ?_
      refine z_icmp_ge (tgt := 46) hx hb dX2_countAt_9 (by decide) e_x3 iww (fun c9 => ?_) (fun c9 => ?_)
      · have _u := True.intro
        refine lv_iload_n hx hb dX2_countAt_46 rfl (lv_at hl 2 rfl) ?_
        refine W.widen (k := 0) (n := 0) (Nat.le_of_ble_eq_true rfl) (Nat.le_of_ble_eq_true rfl) ?_
        exact W.iret (v := x2) hx hb hr (fun t ht hW => ⟨⟨_, (), rfl, (Eq.trans e_x2 (by have q : j = w := (by omega); rw [q]; rfl)), trivial⟩, hS.F ht⟩) hS.2.2 dX2_countAt_47
      · have _u := True.intro
        refine lv_iload_n hx hb dX2_countAt_12 rfl (lv_at hl 2 rfl) ?_
        refine lv_aload_n hx hb dX2_countAt_13 rfl (lv_at hl 0 rfl) ?_
        refine va_get (D := D) (ci := 1) (v := .ref g2) (C := RX2) (T := TX2) (N := 5) hx hb hts hin0 hown hK hP 0 rfl rfl 2 (by decide) hf_pattern (fun _ h9 => h9) rfl dX2_countAt_14 ?_
        refine lv_iload_n hx hb dX2_countAt_17 rfl (lv_at hl 3 rfl) ?_
        refine z_iald hx hb hK hP 2 1 rfl rfl (j) e_x3 (by omega) (by omega) dX2_countAt_18 ?_
        refine lv_aload_n hx hb dX2_countAt_19 rfl (lv_at hl 0 rfl) ?_
        refine va_get (D := D) (ci := 1) (v := .ref g1) (C := RX2) (T := TX2) (N := 5) hx hb hts hin0 hown hK hP 0 rfl rfl 1 (by decide) hf_text (fun _ h9 => h9) rfl dX2_countAt_20 ?_
        refine lv_iload_n hx hb dX2_countAt_23 rfl (lv_at hl 1 rfl) ?_
        refine lv_iload_n hx hb dX2_countAt_24 rfl (lv_at hl 3 rfl) ?_
        refine z_iadd hx hb dX2_countAt_25 e_o e_x3 (by omega) (by omega) (fun v25 e25 => ?_)
        refine z_iald hx hb hK hP 1 0 rfl rfl (o + j) e25 (by omega) (by omega) dX2_countAt_26 ?_
        refine va_calli (va_runS (As := [.int (P (j)), .int (T (o + j))]) (rest := [.int x2]) ⟨hx, hb, hml, hown, hts⟩ (c_X2_agree l H.size (P (j)) (T (o + j))) (va_cwS 2 hts gX2_countAt_X2_agree rfl rfl rfl (by decide +kernel) ⟨Nat.le_of_ble_eq_true rfl, Nat.le_of_ble_eq_true rfl⟩) ⟨cz.blind, fun U hU hW => ⟨rfl, cz.call hU⟩⟩ rfl rfl hl.1 rfl (lv_room (Nat.le_of_ble_eq_true rfl)) dX2_countAt_27 ⟨Nat.le_of_ble_eq_true rfl, Nat.le_of_ble_eq_true rfl⟩) hS (fun q _ h => (fr0 hS hA) q h) (fr0 hS hA) (fun v27 u t H1 locs1 ht hvm e27 hB hz1 hk1 hS => ?_)
        have hP := kp hP hk1
        generalize H1 = H at hP hS ⊢
        generalize locs1 = locs at hS ⊢
        refine zb_if_eq (tgt := 37) hx hb dX2_countAt_30 (by decide) e27 (fun c30 => ?_) (fun c30 => ?_)
        · have _u := True.intro
          have q := cnt_t (f := mf T P o) (k := j) (mf_t c30)
          refine lv_iconst (v := 1) hx hb dX2_countAt_37 (by decide) ?_
          refine z_iadd hx hb dX2_countAt_38 e_x2 (show (1 : Int32).toInt = 1 by decide) (by omega) (by omega) (fun v38 e38 => ?_)
          refine lv_istore_n (lv' := [(2, .int v38), (0, .ref g0), (1, .int x1), (3, .int x3)]) hx hb dX2_countAt_39 rfl hl (by decide) rfl (fun ls hl => ?_)
          refine z_iinc (k := 3) (lv' := fun v => [(3, .int v), (2, .int v38), (0, .ref g0), (1, .int x1)]) hx hb dX2_countAt_40 hl rfl e_x3 (by decide) (by omega) (by omega) (by decide) (fun _ => rfl) (fun v40 ls e40 hl => ?_)
          refine lv_goto (tgt := 4) hx hb dX2_countAt_43 (by decide) ?_
          exact ih4 (j + 1) v38 v40 (by omega) (by omega) (Eq.trans e38 (by omega)) (Eq.trans e40 (by omega)) _ _ hP hS _ (lv_sub hl [2, 3, 1, 0] rfl)
        · have _u := True.intro
          have q := cnt_f (f := mf T P o) (k := j) (mf_f c30)
          refine lv_iconst (v := 0) hx hb dX2_countAt_33 (by decide) ?_
          refine lv_goto (tgt := 38) hx hb dX2_countAt_34 (by decide) ?_
          refine z_iadd hx hb dX2_countAt_38 e_x2 (show (0 : Int32).toInt = 0 by decide) (by omega) (by omega) (fun v38 e38 => ?_)
          refine lv_istore_n (lv' := [(2, .int v38), (0, .ref g0), (1, .int x1), (3, .int x3)]) hx hb dX2_countAt_39 rfl hl (by decide) rfl (fun ls hl => ?_)
          refine z_iinc (k := 3) (lv' := fun v => [(3, .int v), (2, .int v38), (0, .ref g0), (1, .int x1)]) hx hb dX2_countAt_40 hl rfl e_x3 (by decide) (by omega) (by omega) (by decide) (fun _ => rfl) (fun v40 ls e40 hl => ?_)
          refine lv_goto (tgt := 4) hx hb dX2_countAt_43 (by decide) ?_
          exact ih4 (j + 1) v38 v40 (by omega) (by omega) (Eq.trans e38 (by omega)) (Eq.trans e40 (by omega)) _ _ hP hS _ (lv_sub hl [2, 3, 1, 0] rfl)
  have hc0 := cnt_0 (mf T P o)
  exact lp4 ((w - 0) + 1) (0) 0 0 (by omega) (by omega) (Eq.trans (show (0 : Int32).toInt = 0 by decide) (by omega)) (Eq.trans (show (0 : Int32).toInt = 0 by decide) (by omega)) _ _ hP hS _ (lv_sub hl [2, 3, 1, 0] rfl)

set_option maxHeartbeats 4000000 in
set_option maxRecDepth 100000 in
theorem c_X2_sumOf (l : Launch) (D : va_G) (E : Nat × Nat × Nat) (g0 g1 g2 : Nat) (y4 y5 : ClassId) (sz n w : Nat) (th : Int32) (T P : Nat → Int32) (hn : n ≤ 64) (hw : w ≤ 24) (hT : SymF T) (hPt : SymF P) (x1 : Int32) (o : Nat) (e_o : x1.toInt = (o : Int)) (ho : o + w ≤ n) : Met l yX2_sumOf wsX2_sumOf ({ frames := 0, cells := 0, slots := 0, locals := 0 }) (va_Pc [.ref g0, .int x1] (cp D (MW g0 g1 g2 y4 y5 th (n) (w) T P) (MT y4 y5) E (va_A [] sz) sz)) (va_Qi (fun (r : Int32) (_ : Unit) => r.toInt = (isum (sf T P o) w).toInt) (fun _ _ => True) (va_A [] sz)) 0 0 (va_A [] sz) := by
  refine Met.ofW (cc := cX2_sumOf) (maxL := 4) (ret := (some .int)) (by decide) rfl ?_
  intro p e s m args below meth c s₁ B hml hv
  obtain ⟨rfl, hsz, hP, hK, hE⟩ := hv
  have hx := B.exec
  have hb := B.bytes
  have hr := B.returns
  have hts := atoms_spec (ws := wsX2_sumOf) B.pre
  have hown : s.vm.findClass RX2 = some m.cls := findClass_of_methodNamed B.named
  have hlocks := B.notSynchronized
  have hsz : s.heap.size = sz := hsz
  subst hsz
  have hA : ∀ q : Nat, s.heap.size ≤ q → (va_A [] s.heap.size) q := fun q h => Or.inr h
  have hS : va_S (va_A [] s.heap.size) s.heap s.heap [] := va_S.rf
  have inn : (nI n).toInt = (n : Int) := nI_toInt (by omega)
  have iww : (nI w).toInt = (w : Int) := nI_toInt (by omega)
  have hf_m := hts (.fieldLink RX2 30 "BlankMatcherModel" "m" "I") (by decide +kernel)
  have hf_pattern := hts (.fieldLink RX2 13 "BlankMatcherModel" "pattern" "[I") (by decide +kernel)
  have hf_text := hts (.fieldLink RX2 7 "BlankMatcherModel" "text" "[I") (by decide +kernel)
  have hpl : pl n w = n + 1 - w := rfl
  have hin0 : ∀ w ∈ wsX20, w ∈ wsX2_sumOf := by decide +kernel
  have g_x1 := rg x1
  have hl := lv_entry ([.ref g0, .int x1]) (n := 4) (Nat.le_of_ble_eq_true rfl)
  rw [lg_entry_eq]
  generalize (lg_sl ([.ref g0, .int x1]) ++ List.replicate (4 - (lg_sl ([.ref g0, .int x1])).length) Slot.unset).toArray = ls at hl ⊢
  have hl : lv_has ls 4 [(0, .ref g0), (1, .int x1)] := hl
  refine lv_iconst (v := 0) hx hb dX2_sumOf_0 (by decide) ?_
  refine lv_istore_n (lv' := [(2, .int 0), (0, .ref g0), (1, .int x1)]) hx hb dX2_sumOf_1 rfl hl (by decide) rfl (fun ls hl => ?_)
  refine lv_iconst (v := 0) hx hb dX2_sumOf_2 (by decide) ?_
  refine lv_istore_n (lv' := [(3, .int 0), (2, .int 0), (0, .ref g0), (1, .int x1)]) hx hb dX2_sumOf_3 rfl hl (by decide) rfl (fun ls hl => ?_)
  have lp4 : ∀ (nf : Nat) (j : Nat) (x2 : Int32) (x3 : Int32), w - j < nf → (j ≤ w) → (x2 = isum (sf T P o) j) → x3.toInt = (j : Int) → ∀ (H : Heap) (locs : List Loc), va_P D vwCl (MW g0 g1 g2 y4 y5 th (n) (w) T P) H → va_S (va_A [] s.heap.size) s.heap H locs → ∀ (ls : Array Slot), lv_has ls 4 [(0, .ref g0), (1, .int x1), (2, .int x2), (3, .int x3)] → W p l e (headSpec wsX2_sumOf ({ frames := 0, cells := 0, slots := 0, locals := 0 })).room s m [.ref g0, .int x1].toArray below meth c H locs 0 0 (MQ below (va_Qi (fun (r : Int32) (_ : Unit) => r.toInt = (isum (sf T P o) w).toInt) (fun _ _ => True) (va_A [] s.heap.size)) [.ref g0, .int x1].toArray s 0 0 (va_A [] s.heap.size)) (F0 m 4 ls []) := by
    intro nf
    induction nf with
    | zero => intros; omega
    | succ nf ih4 =>
      intro j x2 x3 hnf hj hx2 e_x3 H locs hP hS ls hl
      refine lv_iload_n hx hb dX2_sumOf_4 rfl (lv_at hl 3 rfl) ?_
      refine lv_aload_n hx hb dX2_sumOf_5 rfl (lv_at hl 0 rfl) ?_
      refine va_get (D := D) (ci := 1) (v := .int (nI w)) (C := RX2) (T := TX2) (N := 5) hx hb hts hin0 hown hK hP 0 rfl rfl 4 (by decide) hf_m (fun _ h9 => h9) rfl dX2_sumOf_6 ?_
      refine z_icmp_ge (tgt := 36) hx hb dX2_sumOf_9 (by decide) e_x3 iww (fun c9 => ?_) (fun c9 => ?_)
      · have _u := True.intro
        have hj2 : j = w := by omega
        refine lv_iload_n hx hb dX2_sumOf_36 rfl (lv_at hl 2 rfl) ?_
        refine W.widen (k := 0) (n := 0) (Nat.le_of_ble_eq_true rfl) (Nat.le_of_ble_eq_true rfl) ?_
        exact W.iret (v := x2) hx hb hr (fun t ht hW => ⟨⟨_, (), rfl, (by rw [hx2, hj2]), trivial⟩, hS.F ht⟩) hS.2.2 dX2_sumOf_37
      · have _u := True.intro
        refine lv_iload_n hx hb dX2_sumOf_12 rfl (lv_at hl 2 rfl) ?_
        refine lv_aload_n hx hb dX2_sumOf_13 rfl (lv_at hl 0 rfl) ?_
        refine va_get (D := D) (ci := 1) (v := .ref g1) (C := RX2) (T := TX2) (N := 5) hx hb hts hin0 hown hK hP 0 rfl rfl 1 (by decide) hf_text (fun _ h9 => h9) rfl dX2_sumOf_14 ?_
        refine lv_iload_n hx hb dX2_sumOf_17 rfl (lv_at hl 1 rfl) ?_
        refine lv_iload_n hx hb dX2_sumOf_18 rfl (lv_at hl 3 rfl) ?_
        refine z_iadd hx hb dX2_sumOf_19 e_o e_x3 (by omega) (by omega) (fun v19 e19 => ?_)
        refine z_iald hx hb hK hP 1 0 rfl rfl (o + j) e19 (by omega) (by omega) dX2_sumOf_20 ?_
        refine lv_aload_n hx hb dX2_sumOf_21 rfl (lv_at hl 0 rfl) ?_
        refine va_get (D := D) (ci := 1) (v := .ref g2) (C := RX2) (T := TX2) (N := 5) hx hb hts hin0 hown hK hP 0 rfl rfl 2 (by decide) hf_pattern (fun _ h9 => h9) rfl dX2_sumOf_22 ?_
        refine lv_iload_n hx hb dX2_sumOf_25 rfl (lv_at hl 3 rfl) ?_
        refine z_iald hx hb hK hP 2 1 rfl rfl (j) e_x3 (by omega) (by omega) dX2_sumOf_26 ?_
        refine lv_isub hx hb dX2_sumOf_27 ?_
        refine lv_iadd hx hb dX2_sumOf_28 ?_
        refine lv_istore_n (lv' := [(2, .int (x2 + ((T (o + j)) - (P (j))))), (0, .ref g0), (1, .int x1), (3, .int x3)]) hx hb dX2_sumOf_29 rfl hl (by decide) rfl (fun ls hl => ?_)
        refine z_iinc (k := 3) (lv' := fun v => [(3, .int v), (2, .int (x2 + ((T (o + j)) - (P (j))))), (0, .ref g0), (1, .int x1)]) hx hb dX2_sumOf_30 hl rfl e_x3 (by decide) (by omega) (by omega) (by decide) (fun _ => rfl) (fun v30 ls e30 hl => ?_)
        refine lv_goto (tgt := 4) hx hb dX2_sumOf_33 (by decide) ?_
        exact ih4 (j + 1) (x2 + ((T (o + j)) - (P (j)))) v30 (by omega) (by omega) (by rw [hx2]; rfl) (Eq.trans e30 (by omega)) _ _ hP hS _ (lv_sub hl [2, 3, 1, 0] rfl)
  exact lp4 ((w - 0) + 1) (0) 0 0 (by omega) (by omega) (rfl) (Eq.trans (show (0 : Int32).toInt = 0 by decide) (by omega)) _ _ hP hS _ (lv_sub hl [2, 3, 1, 0] rfl)

set_option maxHeartbeats 4000000 in
set_option maxRecDepth 100000 in
theorem c_X2_isOrdered (l : Launch) (D : va_G) (E : Nat × Nat × Nat) (g0 g1 g2 : Nat) (y4 y5 : ClassId) (sz n w : Nat) (th : Int32) (T P : Nat → Int32) (hn : n ≤ 64) (hw : w ≤ 24) (hT : SymF T) (hPt : SymF P) (x1 : Int32) (o : Nat) (e_o : x1.toInt = (o : Int)) (ho : o + w ≤ n) : Met l yX2_isOrdered wsX2_isOrdered ({ frames := 1, cells := 0, slots := 0, locals := 20 }) (va_Pc [.ref g0, .int x1] (cp D (MW g0 g1 g2 y4 y5 th (n) (w) T P) (MT y4 y5) E (va_A [] sz) sz)) (va_Qi (fun (r : Int32) (_ : Unit) => r.toInt = bI (lik 2 T P w o)) (fun _ _ => True) (va_A [] sz)) 0 0 (va_A [] sz) := by
  refine Met.ofW (cc := cX2_isOrdered) (maxL := 5) (ret := (some .boolean)) (by decide) rfl ?_
  intro p e s m args below meth c s₁ B hml hv
  obtain ⟨rfl, hsz, hP, hK, hE⟩ := hv
  have hx := B.exec
  have hb := B.bytes
  have hr := B.returns
  have hts := atoms_spec (ws := wsX2_isOrdered) B.pre
  have hown : s.vm.findClass RX2 = some m.cls := findClass_of_methodNamed B.named
  have hlocks := B.notSynchronized
  have hsz : s.heap.size = sz := hsz
  subst hsz
  have hA : ∀ q : Nat, s.heap.size ≤ q → (va_A [] s.heap.size) q := fun q h => Or.inr h
  have hS : va_S (va_A [] s.heap.size) s.heap s.heap [] := va_S.rf
  have inn : (nI n).toInt = (n : Int) := nI_toInt (by omega)
  have iww : (nI w).toInt = (w : Int) := nI_toInt (by omega)
  have hf_m := hts (.fieldLink RX2 30 "BlankMatcherModel" "m" "I") (by decide +kernel)
  have hf_pattern := hts (.fieldLink RX2 13 "BlankMatcherModel" "pattern" "[I") (by decide +kernel)
  have hf_text := hts (.fieldLink RX2 7 "BlankMatcherModel" "text" "[I") (by decide +kernel)
  have hpl : pl n w = n + 1 - w := rfl
  have hin0 : ∀ w ∈ wsX20, w ∈ wsX2_isOrdered := by decide +kernel
  have g_x1 := rg x1
  have hl := lv_entry ([.ref g0, .int x1]) (n := 5) (Nat.le_of_ble_eq_true rfl)
  rw [lg_entry_eq]
  generalize (lg_sl ([.ref g0, .int x1]) ++ List.replicate (5 - (lg_sl ([.ref g0, .int x1])).length) Slot.unset).toArray = ls at hl ⊢
  have hl : lv_has ls 5 [(0, .ref g0), (1, .int x1)] := hl
  refine lv_iconst (v := 1) hx hb dX2_isOrdered_0 (by decide) ?_
  refine lv_istore_n (lv' := [(2, .int 1), (0, .ref g0), (1, .int x1)]) hx hb dX2_isOrdered_1 rfl hl (by decide) rfl (fun ls hl => ?_)
  refine lv_iconst (v := 0) hx hb dX2_isOrdered_2 (by decide) ?_
  refine lv_istore_n (lv' := [(3, .int 0), (2, .int 1), (0, .ref g0), (1, .int x1)]) hx hb dX2_isOrdered_3 rfl hl (by decide) rfl (fun ls hl => ?_)
  have lp4 : ∀ (nf : Nat) (i : Nat) (x2 : Int32) (x3 : Int32), w - i < nf → (i ≤ w) → x2.toInt = bI (allB (fun a => of1 T P o a) i) → x3.toInt = (i : Int) → ∀ (H : Heap) (locs : List Loc), va_P D vwCl (MW g0 g1 g2 y4 y5 th (n) (w) T P) H → va_S (va_A [] s.heap.size) s.heap H locs → ∀ (ls : Array Slot), lv_has ls 5 [(0, .ref g0), (1, .int x1), (2, .int x2), (3, .int x3)] → W p l e (headSpec wsX2_isOrdered ({ frames := 1, cells := 0, slots := 0, locals := 20 })).room s m [.ref g0, .int x1].toArray below meth c H locs 0 0 (MQ below (va_Qi (fun (r : Int32) (_ : Unit) => r.toInt = bI (lik 2 T P w o)) (fun _ _ => True) (va_A [] s.heap.size)) [.ref g0, .int x1].toArray s 0 0 (va_A [] s.heap.size)) (F0 m 4 ls []) := by
    intro nf
    induction nf with
    | zero => intros; omega
    | succ nf ih4 =>
      intro i x2 x3 hnf hi e_x2 e_x3 H locs hP hS ls hl
      refine lv_iload_n hx hb dX2_isOrdered_4 rfl (lv_at hl 3 rfl) ?_
      refine lv_aload_n hx hb dX2_isOrdered_5 rfl (lv_at hl 0 rfl) ?_
      refine va_get (D := D) (ci := 1) (v := .int (nI w)) (C := RX2) (T := TX2) (N := 5) hx hb hts hin0 hown hK hP 0 rfl rfl 4 (by decide) hf_m (fun _ h9 => h9) rfl dX2_isOrdered_6 ?_
      refine z_icmp_ge (tgt := 84) hx hb dX2_isOrdered_9 (by decide) e_x3 iww (fun c9 => ?_) (fun c9 => ?_)
      · have _u := True.intro
        refine lv_iload_n hx hb dX2_isOrdered_84 rfl (lv_at hl 2 rfl) ?_
        refine W.widen (k := 0) (n := 0) (Nat.le_of_ble_eq_true rfl) (Nat.le_of_ble_eq_true rfl) ?_
        have hpost : x2.toInt = bI (lik 2 T P w o) := (Eq.trans e_x2 (by rw [show i = w by omega]; rfl))
        exact W.zret (v := x2) hx hb hr (bnar hpost) (fun t ht hW => ⟨⟨_, (), rfl, hpost, trivial⟩, hS.F ht⟩) hS.2.2 dX2_isOrdered_85
      · have _u := True.intro
        refine lv_iconst (v := 0) hx hb dX2_isOrdered_12 (by decide) ?_
        refine lv_istore (lv' := [(4, .int 0), (0, .ref g0), (1, .int x1), (2, .int x2), (3, .int x3)]) hx hb dX2_isOrdered_13 hl (by decide) rfl (fun ls hl => ?_)
        have lp15 : ∀ (nf : Nat) (j : Nat) (x2 : Int32) (x4 : Int32), i - j < nf → (j ≤ i) → x2.toInt = bI (allB (fun a => of1 T P o a) i && allB (fun b => of2 T P o i b) j) → x4.toInt = (j : Int) → ∀ (H : Heap) (locs : List Loc), va_P D vwCl (MW g0 g1 g2 y4 y5 th (n) (w) T P) H → va_S (va_A [] s.heap.size) s.heap H locs → ∀ (ls : Array Slot), lv_has ls 5 [(0, .ref g0), (1, .int x1), (2, .int x2), (3, .int x3), (4, .int x4)] → W p l e (headSpec wsX2_isOrdered ({ frames := 1, cells := 0, slots := 0, locals := 20 })).room s m [.ref g0, .int x1].toArray below meth c H locs 0 0 (MQ below (va_Qi (fun (r : Int32) (_ : Unit) => r.toInt = bI (lik 2 T P w o)) (fun _ _ => True) (va_A [] s.heap.size)) [.ref g0, .int x1].toArray s 0 0 (va_A [] s.heap.size)) (F0 m 15 ls []) := by
          intro nf
          induction nf with
          | zero => intros; omega
          | succ nf ih15 =>
            intro j x2 x4 hnf hj e_x2 e_x4 H locs hP hS ls hl
            refine lv_iload hx hb dX2_isOrdered_15 (lv_at hl 4 rfl) ?_
            refine lv_iload_n hx hb dX2_isOrdered_17 rfl (lv_at hl 3 rfl) ?_
            refine z_icmp_ge (tgt := 78) hx hb dX2_isOrdered_18 (by decide) e_x4 e_x3 (fun c18 => ?_) (fun c18 => ?_)
            · have _u := True.intro
              refine z_iinc (k := 3) (lv' := fun v => [(3, .int v), (0, .ref g0), (1, .int x1), (2, .int x2), (4, .int x4)]) hx hb dX2_isOrdered_78 hl rfl e_x3 (by decide) (by omega) (by omega) (by decide) (fun _ => rfl) (fun v78 ls e78 hl => ?_)
              refine lv_goto (tgt := 4) hx hb dX2_isOrdered_81 (by decide) ?_
              exact ih4 (i + 1) x2 v78 (by omega) (by omega) (Eq.trans e_x2 (by rw [show j = i by omega]; exact congrArg bI (allB_s _ i).symm)) (Eq.trans e78 (by omega)) _ _ hP hS _ (lv_sub hl [1, 2, 3, 0] rfl)
            · have _u := True.intro
              refine lv_iload_n hx hb dX2_isOrdered_21 rfl (lv_at hl 2 rfl) ?_
              refine zb_if_eq (tgt := 70) hx hb dX2_isOrdered_22 (by decide) e_x2 (fun c22 => ?_) (fun c22 => ?_)
              · have _u := True.intro
                have qz : (allB (fun a => of1 T P o a) i && allB (fun b => of2 T P o i b) (j + 1)) = false := by rw [allB_s]; revert c22; cases allB (fun a => of1 T P o a) i <;> cases allB (fun b => of2 T P o i b) j <;> simp
                refine lv_iconst (v := 0) hx hb dX2_isOrdered_70 (by decide) ?_
                refine lv_istore_n (lv' := [(2, .int 0), (0, .ref g0), (1, .int x1), (3, .int x3), (4, .int x4)]) hx hb dX2_isOrdered_71 rfl hl (by decide) rfl (fun ls hl => ?_)
                refine z_iinc (k := 4) (lv' := fun v => [(4, .int v), (2, .int 0), (0, .ref g0), (1, .int x1), (3, .int x3)]) hx hb dX2_isOrdered_72 hl rfl e_x4 (by decide) (by omega) (by omega) (by decide) (fun _ => rfl) (fun v72 ls e72 hl => ?_)
                refine lv_goto (tgt := 15) hx hb dX2_isOrdered_75 (by decide) ?_
                exact ih15 (j + 1) 0 v72 (by omega) (by omega) (Eq.trans (show (0 : Int32).toInt = 0 by decide) (by rw [qz]; rfl)) (Eq.trans e72 (by omega)) _ _ hP hS _ (lv_sub hl [2, 3, 1, 4, 0] rfl)
              · have _u := True.intro
                refine lv_aload_n hx hb dX2_isOrdered_25 rfl (lv_at hl 0 rfl) ?_
                refine va_get (D := D) (ci := 1) (v := .ref g2) (C := RX2) (T := TX2) (N := 5) hx hb hts hin0 hown hK hP 0 rfl rfl 2 (by decide) hf_pattern (fun _ h9 => h9) rfl dX2_isOrdered_26 ?_
                refine lv_iload_n hx hb dX2_isOrdered_29 rfl (lv_at hl 3 rfl) ?_
                refine z_iald hx hb hK hP 2 1 rfl rfl (i) e_x3 (by omega) (by omega) dX2_isOrdered_30 ?_
                refine lv_aload_n hx hb dX2_isOrdered_31 rfl (lv_at hl 0 rfl) ?_
                refine va_get (D := D) (ci := 1) (v := .ref g2) (C := RX2) (T := TX2) (N := 5) hx hb hts hin0 hown hK hP 0 rfl rfl 2 (by decide) hf_pattern (fun _ h9 => h9) rfl dX2_isOrdered_32 ?_
                refine lv_iload hx hb dX2_isOrdered_35 (lv_at hl 4 rfl) ?_
                refine z_iald hx hb hK hP 2 1 rfl rfl (j) e_x4 (by omega) (by omega) dX2_isOrdered_37 ?_
                have s1 := hPt i
                have s2 := hPt j
                refine z_isub hx hb dX2_isOrdered_38 rfl rfl (by omega) (by omega) (fun v38 e38 => ?_)
                refine va_calli (va_runS (As := [.int v38]) (rest := []) ⟨hx, hb, hml, hown, hts⟩ (c_X2_sign l H.size v38 ((P (i)).toInt - (P (j)).toInt) e38) (va_cwS 1 hts gX2_isOrdered_X2_sign rfl rfl rfl (by decide +kernel) ⟨Nat.le_of_ble_eq_true rfl, Nat.le_of_ble_eq_true rfl⟩) ⟨cz.blind, fun U hU hW => ⟨rfl, cz.call hU⟩⟩ rfl rfl hl.1 rfl (lv_room (Nat.le_of_ble_eq_true rfl)) dX2_isOrdered_39 ⟨Nat.le_of_ble_eq_true rfl, Nat.le_of_ble_eq_true rfl⟩) hS (fun q _ h => (fr0 hS hA) q h) (fr0 hS hA) (fun v39 u t H1 locs1 ht hvm e39 hB hz1 hk1 hS => ?_)
                have hP := kp hP hk1
                generalize H1 = H at hP hS ⊢
                generalize locs1 = locs at hS ⊢
                refine lv_aload_n hx hb dX2_isOrdered_42 rfl (lv_at hl 0 rfl) ?_
                refine va_get (D := D) (ci := 1) (v := .ref g1) (C := RX2) (T := TX2) (N := 5) hx hb hts hin0 hown hK hP 0 rfl rfl 1 (by decide) hf_text (fun _ h9 => h9) rfl dX2_isOrdered_43 ?_
                refine lv_iload_n hx hb dX2_isOrdered_46 rfl (lv_at hl 1 rfl) ?_
                refine lv_iload_n hx hb dX2_isOrdered_47 rfl (lv_at hl 3 rfl) ?_
                refine z_iadd hx hb dX2_isOrdered_48 e_o e_x3 (by omega) (by omega) (fun v48 e48 => ?_)
                refine z_iald hx hb hK hP 1 0 rfl rfl (o + i) e48 (by omega) (by omega) dX2_isOrdered_49 ?_
                refine lv_aload_n hx hb dX2_isOrdered_50 rfl (lv_at hl 0 rfl) ?_
                refine va_get (D := D) (ci := 1) (v := .ref g1) (C := RX2) (T := TX2) (N := 5) hx hb hts hin0 hown hK hP 0 rfl rfl 1 (by decide) hf_text (fun _ h9 => h9) rfl dX2_isOrdered_51 ?_
                refine lv_iload_n hx hb dX2_isOrdered_54 rfl (lv_at hl 1 rfl) ?_
                refine lv_iload hx hb dX2_isOrdered_55 (lv_at hl 4 rfl) ?_
                refine z_iadd hx hb dX2_isOrdered_57 e_o e_x4 (by omega) (by omega) (fun v57 e57 => ?_)
                refine z_iald hx hb hK hP 1 0 rfl rfl (o + j) e57 (by omega) (by omega) dX2_isOrdered_58 ?_
                have s3 := hT (o + i)
                have s4 := hT (o + j)
                refine z_isub hx hb dX2_isOrdered_59 rfl rfl (by omega) (by omega) (fun v59 e59 => ?_)
                refine va_calli (va_runS (As := [.int v59]) (rest := [.int v39]) ⟨hx, hb, hml, hown, hts⟩ (c_X2_sign l H.size v59 ((T (o + i)).toInt - (T (o + j)).toInt) e59) (va_cwS 1 hts gX2_isOrdered_X2_sign rfl rfl rfl (by decide +kernel) ⟨Nat.le_of_ble_eq_true rfl, Nat.le_of_ble_eq_true rfl⟩) ⟨cz.blind, fun U hU hW => ⟨rfl, cz.call hU⟩⟩ rfl rfl hl.1 rfl (lv_room (Nat.le_of_ble_eq_true rfl)) dX2_isOrdered_60 ⟨Nat.le_of_ble_eq_true rfl, Nat.le_of_ble_eq_true rfl⟩) hS (fun q _ h => (fr0 hS hA) q h) (fr0 hS hA) (fun v60 u t H1 locs1 ht hvm e60 hB hz1 hk1 hS => ?_)
                have hP := kp hP hk1
                generalize H1 = H at hP hS ⊢
                generalize locs1 = locs at hS ⊢
                refine z_icmp_ne (tgt := 70) hx hb dX2_isOrdered_63 (by decide) e39 e60 (fun c63 => ?_) (fun c63 => ?_)
                · have _u := True.intro
                  have qz : (allB (fun a => of1 T P o a) i && allB (fun b => of2 T P o i b) (j + 1)) = false := by rw [allB_s, of2_sgn, decide_eq_false c63, Bool.and_false, Bool.and_false]
                  refine lv_iconst (v := 0) hx hb dX2_isOrdered_70 (by decide) ?_
                  refine lv_istore_n (lv' := [(2, .int 0), (0, .ref g0), (1, .int x1), (3, .int x3), (4, .int x4)]) hx hb dX2_isOrdered_71 rfl hl (by decide) rfl (fun ls hl => ?_)
                  refine z_iinc (k := 4) (lv' := fun v => [(4, .int v), (2, .int 0), (0, .ref g0), (1, .int x1), (3, .int x3)]) hx hb dX2_isOrdered_72 hl rfl e_x4 (by decide) (by omega) (by omega) (by decide) (fun _ => rfl) (fun v72 ls e72 hl => ?_)
                  refine lv_goto (tgt := 15) hx hb dX2_isOrdered_75 (by decide) ?_
                  exact ih15 (j + 1) 0 v72 (by omega) (by omega) (Eq.trans (show (0 : Int32).toInt = 0 by decide) (by rw [qz]; rfl)) (Eq.trans e72 (by omega)) _ _ hP hS _ (lv_sub hl [2, 3, 1, 4, 0] rfl)
                · have _u := True.intro
                  have qz : (allB (fun a => of1 T P o a) i && allB (fun b => of2 T P o i b) (j + 1)) = true := by rw [allB_s, of2_sgn, decide_eq_true c63, Bool.and_true]; exact c22
                  refine lv_iconst (v := 1) hx hb dX2_isOrdered_66 (by decide) ?_
                  refine lv_goto (tgt := 71) hx hb dX2_isOrdered_67 (by decide) ?_
                  refine lv_istore_n (lv' := [(2, .int 1), (0, .ref g0), (1, .int x1), (3, .int x3), (4, .int x4)]) hx hb dX2_isOrdered_71 rfl hl (by decide) rfl (fun ls hl => ?_)
                  refine z_iinc (k := 4) (lv' := fun v => [(4, .int v), (2, .int 1), (0, .ref g0), (1, .int x1), (3, .int x3)]) hx hb dX2_isOrdered_72 hl rfl e_x4 (by decide) (by omega) (by omega) (by decide) (fun _ => rfl) (fun v72 ls e72 hl => ?_)
                  refine lv_goto (tgt := 15) hx hb dX2_isOrdered_75 (by decide) ?_
                  exact ih15 (j + 1) 1 v72 (by omega) (by omega) (Eq.trans (show (1 : Int32).toInt = 1 by decide) (by rw [qz]; rfl)) (Eq.trans e72 (by omega)) _ _ hP hS _ (lv_sub hl [2, 3, 1, 4, 0] rfl)
        exact lp15 ((i - 0) + 1) (0) x2 0 (by omega) (by omega) (Eq.trans e_x2 (by rw [allB_0, Bool.and_true])) (Eq.trans (show (0 : Int32).toInt = 0 by decide) (by omega)) _ _ hP hS _ (lv_sub hl [1, 2, 3, 4, 0] rfl)
  exact lp4 ((w - 0) + 1) (0) 1 0 (by omega) (by omega) (Eq.trans (show (1 : Int32).toInt = 1 by decide) (rfl)) (Eq.trans (show (0 : Int32).toInt = 0 by decide) (by omega)) _ _ hP hS _ (lv_sub hl [2, 3, 1, 0] rfl)

set_option maxHeartbeats 4000000 in
set_option maxRecDepth 100000 in
theorem c_X2_isWanted (l : Launch) (D : va_G) (E : Nat × Nat × Nat) (g0 g1 g2 : Nat) (y4 y5 : ClassId) (sz n w : Nat) (th : Int32) (T P : Nat → Int32) (hn : n ≤ 64) (hw : w ≤ 24) (hT : SymF T) (hPt : SymF P) (x1 : Int32) (x2 : Int32) (kd : Nat) (e_kd : x1.toInt = (kd : Int)) (o : Nat) (e_o : x2.toInt = (o : Int)) (hkd : kd ≤ 2) (ho : o + w ≤ n) : Met l yX2_isWanted wsX2_isWanted ({ frames := 2, cells := 0, slots := 0, locals := 44 }) (va_Pc [.ref g0, .int x1, .int x2] (cp D (MW g0 g1 g2 y4 y5 th (n) (w) T P) (MT y4 y5) E (va_A [] sz) sz)) (va_Qi (fun (r : Int32) (_ : Unit) => r.toInt = bI (lik kd T P w o)) (fun _ _ => True) (va_A [] sz)) 0 0 (va_A [] sz) := by
  refine Met.ofW (cc := cX2_isWanted) (maxL := 3) (ret := (some .boolean)) (by decide) rfl ?_
  intro p e s m args below meth c s₁ B hml hv
  obtain ⟨rfl, hsz, hP, hK, hE⟩ := hv
  have hx := B.exec
  have hb := B.bytes
  have hr := B.returns
  have hts := atoms_spec (ws := wsX2_isWanted) B.pre
  have hown : s.vm.findClass RX2 = some m.cls := findClass_of_methodNamed B.named
  have hlocks := B.notSynchronized
  have hsz : s.heap.size = sz := hsz
  subst hsz
  have hA : ∀ q : Nat, s.heap.size ≤ q → (va_A [] s.heap.size) q := fun q h => Or.inr h
  have hS : va_S (va_A [] s.heap.size) s.heap s.heap [] := va_S.rf
  have inn : (nI n).toInt = (n : Int) := nI_toInt (by omega)
  have iww : (nI w).toInt = (w : Int) := nI_toInt (by omega)
  have hpl : pl n w = n + 1 - w := rfl
  have g_x1 := rg x1
  have g_x2 := rg x2
  have hl := lv_entry ([.ref g0, .int x1, .int x2]) (n := 3) (Nat.le_of_ble_eq_true rfl)
  rw [lg_entry_eq]
  generalize (lg_sl ([.ref g0, .int x1, .int x2]) ++ List.replicate (3 - (lg_sl ([.ref g0, .int x1, .int x2])).length) Slot.unset).toArray = ls at hl ⊢
  have hl : lv_has ls 3 [(0, .ref g0), (1, .int x1), (2, .int x2)] := hl
  refine lv_iload_n hx hb dX2_isWanted_0 rfl (lv_at hl 1 rfl) ?_
  refine z_if_ne (tgt := 20) hx hb dX2_isWanted_1 (by decide) e_kd (fun c1 => ?_) (fun c1 => ?_)
  · have _u := True.intro
    refine lv_iload_n hx hb dX2_isWanted_20 rfl (lv_at hl 1 rfl) ?_
    refine lv_iconst (v := 1) hx hb dX2_isWanted_21 (by decide) ?_
    refine z_icmp_ne (tgt := 41) hx hb dX2_isWanted_22 (by decide) e_kd (show (1 : Int32).toInt = 1 by decide) (fun c22 => ?_) (fun c22 => ?_)
    · have _u := True.intro
      have hk : kd = 2 := by omega
      refine lv_aload_n hx hb dX2_isWanted_41 rfl (lv_at hl 0 rfl) ?_
      refine lv_iload_n hx hb dX2_isWanted_42 rfl (lv_at hl 2 rfl) ?_
      refine va_calli (va_runV (As := [.int x2]) (rest := []) ⟨hx, hb, hml, hown, hts⟩ (c_X2_isOrdered l D E g0 g1 g2 y4 y5 s.heap.size (n) (w) th T P hn hw hT hPt x2 (o) (Eq.trans e_o (by omega)) (by omega)) (cwV 1 hts gX2_isWanted_X2_isOrdered rfl rfl rfl (by decide +kernel) ⟨Nat.le_of_ble_eq_true rfl, Nat.le_of_ble_eq_true rfl⟩) ⟨cp.blind, va_recv hK hP (ci := 1) (q0 := 0) rfl rfl, fun U hU hW => ⟨rfl, cp.call hP hK hE hS (fr0 hS hA) hU hW⟩⟩ rfl rfl hl.1 rfl (lv_room (Nat.le_of_ble_eq_true rfl)) dX2_isWanted_43 ⟨Nat.le_of_ble_eq_true rfl, Nat.le_of_ble_eq_true rfl⟩) hS (fun q _ h => (fr0 hS hA) q h) (fr0 hS hA) (fun v43 u t H1 locs1 ht hvm e43 hB hz1 hk1 hS => ?_)
      have hP := kp hP hk1
      generalize H1 = H at hP hS ⊢
      generalize locs1 = locs at hS ⊢
      refine W.widen (k := 0) (n := 0) (Nat.le_of_ble_eq_true rfl) (Nat.le_of_ble_eq_true rfl) ?_
      have hpost : v43.toInt = bI (lik kd T P w o) := (by first | (rw [hb2]; decide) | (rw [hk]; exact e43))
      exact W.zret (v := v43) hx hb hr (bnar hpost) (fun t ht hW => ⟨⟨_, (), rfl, hpost, trivial⟩, hS.F ht⟩) hS.2.2 dX2_isWanted_46
    · have _u := True.intro
      have hk : kd = 1 := by omega
      refine lv_aload_n hx hb dX2_isWanted_25 rfl (lv_at hl 0 rfl) ?_
      refine lv_iload_n hx hb dX2_isWanted_26 rfl (lv_at hl 2 rfl) ?_
      refine va_calli (va_runV (As := [.int x2]) (rest := []) ⟨hx, hb, hml, hown, hts⟩ (c_X2_sumOf l D E g0 g1 g2 y4 y5 s.heap.size (n) (w) th T P hn hw hT hPt x2 (o) (Eq.trans e_o (by omega)) (by omega)) (cwV 1 hts gX2_isWanted_X2_sumOf rfl rfl rfl (by decide +kernel) ⟨Nat.le_of_ble_eq_true rfl, Nat.le_of_ble_eq_true rfl⟩) ⟨cp.blind, va_recv hK hP (ci := 1) (q0 := 0) rfl rfl, fun U hU hW => ⟨rfl, cp.call hP hK hE hS (fr0 hS hA) hU hW⟩⟩ rfl rfl hl.1 rfl (lv_room (Nat.le_of_ble_eq_true rfl)) dX2_isWanted_27 ⟨Nat.le_of_ble_eq_true rfl, Nat.le_of_ble_eq_true rfl⟩) hS (fun q _ h => (fr0 hS hA) q h) (fr0 hS hA) (fun v27 u t H1 locs1 ht hvm e27 hB hz1 hk1 hS => ?_)
      have hP := kp hP hk1
      generalize H1 = H at hP hS ⊢
      generalize locs1 = locs at hS ⊢
      refine z_if_ne (tgt := 37) hx hb dX2_isWanted_30 (by decide) e27 (fun c30 => ?_) (fun c30 => ?_)
      · have _u := True.intro
        have hb2 : lik kd T P w o = false := by rw [hk]; exact lik1_f (fun q => c30 (by rw [q]; decide))
        refine lv_iconst (v := 0) hx hb dX2_isWanted_37 (by decide) ?_
        refine lv_goto (tgt := 46) hx hb dX2_isWanted_38 (by decide) ?_
        refine W.widen (k := 0) (n := 0) (Nat.le_of_ble_eq_true rfl) (Nat.le_of_ble_eq_true rfl) ?_
        have hpost : (0 : Int32).toInt = bI (lik kd T P w o) := (by first | (rw [hb2]; decide) | (rw [hk]; exact (show (0 : Int32).toInt = 0 by decide)))
        exact W.zret (v := 0) hx hb hr (bnar hpost) (fun t ht hW => ⟨⟨_, (), rfl, hpost, trivial⟩, hS.F ht⟩) hS.2.2 dX2_isWanted_46
      · have _u := True.intro
        have hb2 : lik kd T P w o = true := by rw [hk]; exact lik1_t (Int32.toInt_inj.mp c30)
        refine lv_iconst (v := 1) hx hb dX2_isWanted_33 (by decide) ?_
        refine lv_goto (tgt := 46) hx hb dX2_isWanted_34 (by decide) ?_
        refine W.widen (k := 0) (n := 0) (Nat.le_of_ble_eq_true rfl) (Nat.le_of_ble_eq_true rfl) ?_
        have hpost : (1 : Int32).toInt = bI (lik kd T P w o) := (by first | (rw [hb2]; decide) | (rw [hk]; exact (show (1 : Int32).toInt = 1 by decide)))
        exact W.zret (v := 1) hx hb hr (bnar hpost) (fun t ht hW => ⟨⟨_, (), rfl, hpost, trivial⟩, hS.F ht⟩) hS.2.2 dX2_isWanted_46
  · have _u := True.intro
    have hk : kd = 0 := by omega
    refine lv_aload_n hx hb dX2_isWanted_4 rfl (lv_at hl 0 rfl) ?_
    refine lv_iload_n hx hb dX2_isWanted_5 rfl (lv_at hl 2 rfl) ?_
    refine va_calli (va_runV (As := [.int x2]) (rest := []) ⟨hx, hb, hml, hown, hts⟩ (c_X2_countAt l D E g0 g1 g2 y4 y5 s.heap.size (n) (w) th T P hn hw hT hPt x2 (o) (Eq.trans e_o (by omega)) (by omega)) (cwV 1 hts gX2_isWanted_X2_countAt rfl rfl rfl (by decide +kernel) ⟨Nat.le_of_ble_eq_true rfl, Nat.le_of_ble_eq_true rfl⟩) ⟨cp.blind, va_recv hK hP (ci := 1) (q0 := 0) rfl rfl, fun U hU hW => ⟨rfl, cp.call hP hK hE hS (fr0 hS hA) hU hW⟩⟩ rfl rfl hl.1 rfl (lv_room (Nat.le_of_ble_eq_true rfl)) dX2_isWanted_6 ⟨Nat.le_of_ble_eq_true rfl, Nat.le_of_ble_eq_true rfl⟩) hS (fun q _ h => (fr0 hS hA) q h) (fr0 hS hA) (fun v6 u t H1 locs1 ht hvm e6 hB hz1 hk1 hS => ?_)
    have hP := kp hP hk1
    generalize H1 = H at hP hS ⊢
    generalize locs1 = locs at hS ⊢
    refine z_if_ne (tgt := 16) hx hb dX2_isWanted_9 (by decide) e6 (fun c9 => ?_) (fun c9 => ?_)
    · have _u := True.intro
      have hb2 : lik kd T P w o = false := by rw [hk, lik0_m]; exact decide_eq_false (by omega)
      refine lv_iconst (v := 0) hx hb dX2_isWanted_16 (by decide) ?_
      refine lv_goto (tgt := 46) hx hb dX2_isWanted_17 (by decide) ?_
      refine W.widen (k := 0) (n := 0) (Nat.le_of_ble_eq_true rfl) (Nat.le_of_ble_eq_true rfl) ?_
      have hpost : (0 : Int32).toInt = bI (lik kd T P w o) := (by first | (rw [hb2]; decide) | (rw [hk]; exact (show (0 : Int32).toInt = 0 by decide)))
      exact W.zret (v := 0) hx hb hr (bnar hpost) (fun t ht hW => ⟨⟨_, (), rfl, hpost, trivial⟩, hS.F ht⟩) hS.2.2 dX2_isWanted_46
    · have _u := True.intro
      have hb2 : lik kd T P w o = true := by rw [hk, lik0_m]; exact decide_eq_true (by omega)
      refine lv_iconst (v := 1) hx hb dX2_isWanted_12 (by decide) ?_
      refine lv_goto (tgt := 46) hx hb dX2_isWanted_13 (by decide) ?_
      refine W.widen (k := 0) (n := 0) (Nat.le_of_ble_eq_true rfl) (Nat.le_of_ble_eq_true rfl) ?_
      have hpost : (1 : Int32).toInt = bI (lik kd T P w o) := (by first | (rw [hb2]; decide) | (rw [hk]; exact (show (1 : Int32).toInt = 1 by decide)))
      exact W.zret (v := 1) hx hb hr (bnar hpost) (fun t ht hW => ⟨⟨_, (), rfl, hpost, trivial⟩, hS.F ht⟩) hS.2.2 dX2_isWanted_46

set_option maxHeartbeats 4000000 in
set_option maxRecDepth 100000 in
theorem c_X2_wanted (l : Launch) (D : va_G) (E : Nat × Nat × Nat) (g0 g1 g2 : Nat) (y4 y5 : ClassId) (sz n w : Nat) (th : Int32) (T P : Nat → Int32) (hn : n ≤ 64) (hw : w ≤ 24) (hT : SymF T) (hPt : SymF P) (x1 : Int32) (kd : Nat) (e_kd : x1.toInt = (kd : Int)) (hkd : kd ≤ 2) : Met l yX2_wanted wsX2_wanted ({ frames := 3, cells := 0, slots := 0, locals := 66 }) (va_Pc [.ref g0, .int x1] (cp D (MW g0 g1 g2 y4 y5 th (n) (w) T P) (MT y4 y5) E (va_A [] sz) sz)) (va_Qi (fun (r : Int32) (_ : Unit) => r.toInt = ((cnt (lik kd T P w) (pl n w) : Nat) : Int)) (fun _ _ => True) (va_A [] sz)) 0 0 (va_A [] sz) := by
  refine Met.ofW (cc := cX2_wanted) (maxL := 4) (ret := (some .int)) (by decide) rfl ?_
  intro p e s m args below meth c s₁ B hml hv
  obtain ⟨rfl, hsz, hP, hK, hE⟩ := hv
  have hx := B.exec
  have hb := B.bytes
  have hr := B.returns
  have hts := atoms_spec (ws := wsX2_wanted) B.pre
  have hown : s.vm.findClass RX2 = some m.cls := findClass_of_methodNamed B.named
  have hlocks := B.notSynchronized
  have hsz : s.heap.size = sz := hsz
  subst hsz
  have hA : ∀ q : Nat, s.heap.size ≤ q → (va_A [] s.heap.size) q := fun q h => Or.inr h
  have hS : va_S (va_A [] s.heap.size) s.heap s.heap [] := va_S.rf
  have inn : (nI n).toInt = (n : Int) := nI_toInt (by omega)
  have iww : (nI w).toInt = (w : Int) := nI_toInt (by omega)
  have hpl : pl n w = n + 1 - w := rfl
  have g_x1 := rg x1
  have hl := lv_entry ([.ref g0, .int x1]) (n := 4) (Nat.le_of_ble_eq_true rfl)
  rw [lg_entry_eq]
  generalize (lg_sl ([.ref g0, .int x1]) ++ List.replicate (4 - (lg_sl ([.ref g0, .int x1])).length) Slot.unset).toArray = ls at hl ⊢
  have hl : lv_has ls 4 [(0, .ref g0), (1, .int x1)] := hl
  refine lv_iconst (v := 0) hx hb dX2_wanted_0 (by decide) ?_
  refine lv_istore_n (lv' := [(2, .int 0), (0, .ref g0), (1, .int x1)]) hx hb dX2_wanted_1 rfl hl (by decide) rfl (fun ls hl => ?_)
  refine lv_iconst (v := 0) hx hb dX2_wanted_2 (by decide) ?_
  refine lv_istore_n (lv' := [(3, .int 0), (2, .int 0), (0, .ref g0), (1, .int x1)]) hx hb dX2_wanted_3 rfl hl (by decide) rfl (fun ls hl => ?_)
  have lp4 : ∀ (nf : Nat) (j : Nat) (x2 : Int32) (x3 : Int32), pl n w - j < nf → (j ≤ pl n w) → x2.toInt = ((cnt (lik kd T P w) j : Nat) : Int) → x3.toInt = (j : Int) → ∀ (H : Heap) (locs : List Loc), va_P D vwCl (MW g0 g1 g2 y4 y5 th (n) (w) T P) H → va_S (va_A [] s.heap.size) s.heap H locs → ∀ (ls : Array Slot), lv_has ls 4 [(0, .ref g0), (1, .int x1), (2, .int x2), (3, .int x3)] → W p l e (headSpec wsX2_wanted ({ frames := 3, cells := 0, slots := 0, locals := 66 })).room s m [.ref g0, .int x1].toArray below meth c H locs 0 0 (MQ below (va_Qi (fun (r : Int32) (_ : Unit) => r.toInt = ((cnt (lik kd T P w) (pl n w) : Nat) : Int)) (fun _ _ => True) (va_A [] s.heap.size)) [.ref g0, .int x1].toArray s 0 0 (va_A [] s.heap.size)) (F0 m 4 ls []) := by
    intro nf
    induction nf with
    | zero => intros; omega
    | succ nf ih4 =>
      intro j x2 x3 hnf hj e_x2 e_x3 H locs hP hS ls hl
      have hcl := cnt_le (lik kd T P w) j
      refine lv_iload_n hx hb dX2_wanted_4 rfl (lv_at hl 3 rfl) ?_
      refine lv_aload_n hx hb dX2_wanted_5 rfl (lv_at hl 0 rfl) ?_
      refine va_calli (va_runV (As := []) (rest := [.int x3]) ⟨hx, hb, hml, hown, hts⟩ (c_X2_placeMany l D E g0 g1 g2 y4 y5 H.size (n) (w) th T P hn hw hT hPt) (cwV 0 hts gX2_wanted_X2_placeMany rfl rfl rfl (by decide +kernel) ⟨Nat.le_of_ble_eq_true rfl, Nat.le_of_ble_eq_true rfl⟩) ⟨cp.blind, va_recv hK hP (ci := 1) (q0 := 0) rfl rfl, fun U hU hW => ⟨rfl, cp.call hP hK hE hS (fr0 hS hA) hU hW⟩⟩ rfl rfl hl.1 rfl (lv_room (Nat.le_of_ble_eq_true rfl)) dX2_wanted_6 ⟨Nat.le_of_ble_eq_true rfl, Nat.le_of_ble_eq_true rfl⟩) hS (fun q _ h => (fr0 hS hA) q h) (fr0 hS hA) (fun v6 u t H1 locs1 ht hvm e6 hB hz1 hk1 hS => ?_)
      have hP := kp hP hk1
      generalize H1 = H at hP hS ⊢
      generalize locs1 = locs at hS ⊢
      refine z_icmp_ge (tgt := 35) hx hb dX2_wanted_9 (by decide) e_x3 e6 (fun c9 => ?_) (fun c9 => ?_)
      · have _u := True.intro
        refine lv_iload_n hx hb dX2_wanted_35 rfl (lv_at hl 2 rfl) ?_
        refine W.widen (k := 0) (n := 0) (Nat.le_of_ble_eq_true rfl) (Nat.le_of_ble_eq_true rfl) ?_
        exact W.iret (v := x2) hx hb hr (fun t ht hW => ⟨⟨_, (), rfl, (Eq.trans e_x2 (by have q : j = pl n w := (by omega); rw [q])), trivial⟩, hS.F ht⟩) hS.2.2 dX2_wanted_36
      · have _u := True.intro
        refine lv_iload_n hx hb dX2_wanted_12 rfl (lv_at hl 2 rfl) ?_
        refine lv_aload_n hx hb dX2_wanted_13 rfl (lv_at hl 0 rfl) ?_
        refine lv_iload_n hx hb dX2_wanted_14 rfl (lv_at hl 1 rfl) ?_
        refine lv_iload_n hx hb dX2_wanted_15 rfl (lv_at hl 3 rfl) ?_
        refine va_calli (va_runV (As := [.int x1, .int x3]) (rest := [.int x2]) ⟨hx, hb, hml, hown, hts⟩ (c_X2_isWanted l D E g0 g1 g2 y4 y5 H.size (n) (w) th T P hn hw hT hPt x1 x3 (kd) (Eq.trans e_kd (by omega)) (j) (Eq.trans e_x3 (by omega)) (by omega) (by omega)) (cwV 2 hts gX2_wanted_X2_isWanted rfl rfl rfl (by decide +kernel) ⟨Nat.le_of_ble_eq_true rfl, Nat.le_of_ble_eq_true rfl⟩) ⟨cp.blind, va_recv hK hP (ci := 1) (q0 := 0) rfl rfl, fun U hU hW => ⟨rfl, cp.call hP hK hE hS (fr0 hS hA) hU hW⟩⟩ rfl rfl hl.1 rfl (lv_room (Nat.le_of_ble_eq_true rfl)) dX2_wanted_16 ⟨Nat.le_of_ble_eq_true rfl, Nat.le_of_ble_eq_true rfl⟩) hS (fun q _ h => (fr0 hS hA) q h) (fr0 hS hA) (fun v16 u t H1 locs1 ht hvm e16 hB hz1 hk1 hS => ?_)
        have hP := kp hP hk1
        generalize H1 = H at hP hS ⊢
        generalize locs1 = locs at hS ⊢
        refine zb_if_eq (tgt := 26) hx hb dX2_wanted_19 (by decide) e16 (fun c19 => ?_) (fun c19 => ?_)
        · have _u := True.intro
          have q := cnt_f (f := lik kd T P w) (k := j) c19
          refine lv_iconst (v := 0) hx hb dX2_wanted_26 (by decide) ?_
          refine z_iadd hx hb dX2_wanted_27 e_x2 (show (0 : Int32).toInt = 0 by decide) (by omega) (by omega) (fun v27 e27 => ?_)
          refine lv_istore_n (lv' := [(2, .int v27), (0, .ref g0), (1, .int x1), (3, .int x3)]) hx hb dX2_wanted_28 rfl hl (by decide) rfl (fun ls hl => ?_)
          refine z_iinc (k := 3) (lv' := fun v => [(3, .int v), (2, .int v27), (0, .ref g0), (1, .int x1)]) hx hb dX2_wanted_29 hl rfl e_x3 (by decide) (by omega) (by omega) (by decide) (fun _ => rfl) (fun v29 ls e29 hl => ?_)
          refine lv_goto (tgt := 4) hx hb dX2_wanted_32 (by decide) ?_
          exact ih4 (j + 1) v27 v29 (by omega) (by omega) (Eq.trans e27 (by omega)) (Eq.trans e29 (by omega)) _ _ hP hS _ (lv_sub hl [2, 3, 1, 0] rfl)
        · have _u := True.intro
          have q := cnt_t (f := lik kd T P w) (k := j) c19
          refine lv_iconst (v := 1) hx hb dX2_wanted_22 (by decide) ?_
          refine lv_goto (tgt := 27) hx hb dX2_wanted_23 (by decide) ?_
          refine z_iadd hx hb dX2_wanted_27 e_x2 (show (1 : Int32).toInt = 1 by decide) (by omega) (by omega) (fun v27 e27 => ?_)
          refine lv_istore_n (lv' := [(2, .int v27), (0, .ref g0), (1, .int x1), (3, .int x3)]) hx hb dX2_wanted_28 rfl hl (by decide) rfl (fun ls hl => ?_)
          refine z_iinc (k := 3) (lv' := fun v => [(3, .int v), (2, .int v27), (0, .ref g0), (1, .int x1)]) hx hb dX2_wanted_29 hl rfl e_x3 (by decide) (by omega) (by omega) (by decide) (fun _ => rfl) (fun v29 ls e29 hl => ?_)
          refine lv_goto (tgt := 4) hx hb dX2_wanted_32 (by decide) ?_
          exact ih4 (j + 1) v27 v29 (by omega) (by omega) (Eq.trans e27 (by omega)) (Eq.trans e29 (by omega)) _ _ hP hS _ (lv_sub hl [2, 3, 1, 0] rfl)
  have hc0 := cnt_0 (lik kd T P w)
  exact lp4 ((pl n w - 0) + 1) (0) 0 0 (by omega) (by omega) (Eq.trans (show (0 : Int32).toInt = 0 by decide) (by omega)) (Eq.trans (show (0 : Int32).toInt = 0 by decide) (by omega)) _ _ hP hS _ (lv_sub hl [2, 3, 1, 0] rfl)

set_option maxHeartbeats 4000000 in
set_option maxRecDepth 100000 in
theorem c_X2_find (l : Launch) (D : va_G) (E : Nat × Nat × Nat) (g0 g1 g2 : Nat) (y4 y5 : ClassId) (sz n w : Nat) (th : Int32) (T P : Nat → Int32) (hn : n ≤ 64) (hw : w ≤ 24) (hT : SymF T) (hPt : SymF P) (x1 : Int32) (x2 : Int32) (kd : Nat) (e_kd : x1.toInt = (kd : Int)) (hkd : kd ≤ 2) (hnum : 0 ≤ x2.toInt ∧ x2.toInt < ((cnt (lik kd T P w) (pl n w) : Nat) : Int)) : Met l yX2_find wsX2_find ({ frames := 3, cells := 0, slots := 0, locals := 66 }) (va_Pc [.ref g0, .int x1, .int x2] (cp D (MW g0 g1 g2 y4 y5 th (n) (w) T P) (MT y4 y5) E (va_A [] sz) sz)) (va_Qi (fun (r : Int32) (_ : Unit) => r.toInt = fnd kd T P w n x2.toInt) (fun _ _ => True) (va_A [] sz)) 0 0 (va_A [] sz) := by
  refine Met.ofW (cc := cX2_find) (maxL := 5) (ret := (some .int)) (by decide) rfl ?_
  intro p e s m args below meth c s₁ B hml hv
  obtain ⟨rfl, hsz, hP, hK, hE⟩ := hv
  have hx := B.exec
  have hb := B.bytes
  have hr := B.returns
  have hts := atoms_spec (ws := wsX2_find) B.pre
  have hown : s.vm.findClass RX2 = some m.cls := findClass_of_methodNamed B.named
  have hlocks := B.notSynchronized
  have hsz : s.heap.size = sz := hsz
  subst hsz
  have hA : ∀ q : Nat, s.heap.size ≤ q → (va_A [] s.heap.size) q := fun q h => Or.inr h
  have hS : va_S (va_A [] s.heap.size) s.heap s.heap [] := va_S.rf
  have inn : (nI n).toInt = (n : Int) := nI_toInt (by omega)
  have iww : (nI w).toInt = (w : Int) := nI_toInt (by omega)
  have hpl : pl n w = n + 1 - w := rfl
  have g_x1 := rg x1
  have g_x2 := rg x2
  have hl := lv_entry ([.ref g0, .int x1, .int x2]) (n := 5) (Nat.le_of_ble_eq_true rfl)
  rw [lg_entry_eq]
  generalize (lg_sl ([.ref g0, .int x1, .int x2]) ++ List.replicate (5 - (lg_sl ([.ref g0, .int x1, .int x2])).length) Slot.unset).toArray = ls at hl ⊢
  have hl : lv_has ls 5 [(0, .ref g0), (1, .int x1), (2, .int x2)] := hl
  obtain ⟨tg, hg1, hg2, hg3, hg4⟩ := fnd_tg hnum
  refine lv_iload_n hx hb dX2_find_0 rfl (lv_at hl 2 rfl) ?_
  refine lv_istore_n (lv' := [(3, .int x2), (0, .ref g0), (1, .int x1), (2, .int x2)]) hx hb dX2_find_1 rfl hl (by decide) rfl (fun ls hl => ?_)
  refine lv_iconst (v := 0) hx hb dX2_find_2 (by decide) ?_
  refine lv_istore (lv' := [(4, .int 0), (3, .int x2), (0, .ref g0), (1, .int x1), (2, .int x2)]) hx hb dX2_find_3 hl (by decide) rfl (fun ls hl => ?_)
  have lp5 : ∀ (nf : Nat) (j : Nat) (x3 : Int32) (x4 : Int32), tg - j < nf → (j ≤ tg) → x3.toInt = (x2.toInt - ((cnt (lik kd T P w) j : Nat) : Int)) → x4.toInt = (j : Int) → ∀ (H : Heap) (locs : List Loc), va_P D vwCl (MW g0 g1 g2 y4 y5 th (n) (w) T P) H → va_S (va_A [] s.heap.size) s.heap H locs → ∀ (ls : Array Slot), lv_has ls 5 [(0, .ref g0), (1, .int x1), (2, .int x2), (3, .int x3), (4, .int x4)] → W p l e (headSpec wsX2_find ({ frames := 3, cells := 0, slots := 0, locals := 66 })).room s m [.ref g0, .int x1, .int x2].toArray below meth c H locs 0 0 (MQ below (va_Qi (fun (r : Int32) (_ : Unit) => r.toInt = fnd kd T P w n x2.toInt) (fun _ _ => True) (va_A [] s.heap.size)) [.ref g0, .int x1, .int x2].toArray s 0 0 (va_A [] s.heap.size)) (F0 m 5 ls []) := by
    intro nf
    induction nf with
    | zero => intros; omega
    | succ nf ih5 =>
      intro j x3 x4 hnf hj e_x3 e_x4 H locs hP hS ls hl
      have hcl := cnt_le (lik kd T P w) j
      have hmo := cnt_mono (lik kd T P w) hj
      refine lv_iload_n hx hb dX2_find_5 rfl (lv_at hl 3 rfl) ?_
      refine z_if_gt (tgt := 19) hx hb dX2_find_6 (by decide) e_x3 (fun c6 => ?_) (fun c6 => ?_)
      · have _u := True.intro
        have hne : j ≠ tg := fun q => by rw [q] at c6; omega
        refine lv_iload_n hx hb dX2_find_19 rfl (lv_at hl 3 rfl) ?_
        refine lv_aload_n hx hb dX2_find_20 rfl (lv_at hl 0 rfl) ?_
        refine lv_iload_n hx hb dX2_find_21 rfl (lv_at hl 1 rfl) ?_
        refine lv_iload hx hb dX2_find_22 (lv_at hl 4 rfl) ?_
        refine va_calli (va_runV (As := [.int x1, .int x4]) (rest := [.int x3]) ⟨hx, hb, hml, hown, hts⟩ (c_X2_isWanted l D E g0 g1 g2 y4 y5 H.size (n) (w) th T P hn hw hT hPt x1 x4 (kd) (Eq.trans e_kd (by omega)) (j) (Eq.trans e_x4 (by omega)) (by omega) (by omega)) (cwV 2 hts gX2_find_X2_isWanted rfl rfl rfl (by decide +kernel) ⟨Nat.le_of_ble_eq_true rfl, Nat.le_of_ble_eq_true rfl⟩) ⟨cp.blind, va_recv hK hP (ci := 1) (q0 := 0) rfl rfl, fun U hU hW => ⟨rfl, cp.call hP hK hE hS (fr0 hS hA) hU hW⟩⟩ rfl rfl hl.1 rfl (lv_room (Nat.le_of_ble_eq_true rfl)) dX2_find_24 ⟨Nat.le_of_ble_eq_true rfl, Nat.le_of_ble_eq_true rfl⟩) hS (fun q _ h => (fr0 hS hA) q h) (fr0 hS hA) (fun v24 u t H1 locs1 ht hvm e24 hB hz1 hk1 hS => ?_)
        have hP := kp hP hk1
        generalize H1 = H at hP hS ⊢
        generalize locs1 = locs at hS ⊢
        refine zb_if_eq (tgt := 34) hx hb dX2_find_27 (by decide) e24 (fun c27 => ?_) (fun c27 => ?_)
        · have _u := True.intro
          have q := cnt_f (f := lik kd T P w) (k := j) c27
          refine lv_iconst (v := 0) hx hb dX2_find_34 (by decide) ?_
          refine z_isub hx hb dX2_find_35 e_x3 (show (0 : Int32).toInt = 0 by decide) (by omega) (by omega) (fun v35 e35 => ?_)
          refine lv_istore_n (lv' := [(3, .int v35), (0, .ref g0), (1, .int x1), (2, .int x2), (4, .int x4)]) hx hb dX2_find_36 rfl hl (by decide) rfl (fun ls hl => ?_)
          refine z_iinc (k := 4) (lv' := fun v => [(4, .int v), (3, .int v35), (0, .ref g0), (1, .int x1), (2, .int x2)]) hx hb dX2_find_37 hl rfl e_x4 (by decide) (by omega) (by omega) (by decide) (fun _ => rfl) (fun v37 ls e37 hl => ?_)
          refine lv_goto (tgt := 5) hx hb dX2_find_40 (by decide) ?_
          exact ih5 (j + 1) v35 v37 (by omega) (by omega) (Eq.trans e35 (by omega)) (Eq.trans e37 (by omega)) _ _ hP hS _ (lv_sub hl [2, 3, 4, 1, 0] rfl)
        · have _u := True.intro
          have q := cnt_t (f := lik kd T P w) (k := j) c27
          refine lv_iconst (v := 1) hx hb dX2_find_30 (by decide) ?_
          refine lv_goto (tgt := 35) hx hb dX2_find_31 (by decide) ?_
          refine z_isub hx hb dX2_find_35 e_x3 (show (1 : Int32).toInt = 1 by decide) (by omega) (by omega) (fun v35 e35 => ?_)
          refine lv_istore_n (lv' := [(3, .int v35), (0, .ref g0), (1, .int x1), (2, .int x2), (4, .int x4)]) hx hb dX2_find_36 rfl hl (by decide) rfl (fun ls hl => ?_)
          refine z_iinc (k := 4) (lv' := fun v => [(4, .int v), (3, .int v35), (0, .ref g0), (1, .int x1), (2, .int x2)]) hx hb dX2_find_37 hl rfl e_x4 (by decide) (by omega) (by omega) (by decide) (fun _ => rfl) (fun v37 ls e37 hl => ?_)
          refine lv_goto (tgt := 5) hx hb dX2_find_40 (by decide) ?_
          exact ih5 (j + 1) v35 v37 (by omega) (by omega) (Eq.trans e35 (by omega)) (Eq.trans e37 (by omega)) _ _ hP hS _ (lv_sub hl [2, 3, 4, 1, 0] rfl)
      · have _u := True.intro
        refine lv_aload_n hx hb dX2_find_9 rfl (lv_at hl 0 rfl) ?_
        refine lv_iload_n hx hb dX2_find_10 rfl (lv_at hl 1 rfl) ?_
        refine lv_iload hx hb dX2_find_11 (lv_at hl 4 rfl) ?_
        refine va_calli (va_runV (As := [.int x1, .int x4]) (rest := []) ⟨hx, hb, hml, hown, hts⟩ (c_X2_isWanted l D E g0 g1 g2 y4 y5 H.size (n) (w) th T P hn hw hT hPt x1 x4 (kd) (Eq.trans e_kd (by omega)) (j) (Eq.trans e_x4 (by omega)) (by omega) (by omega)) (cwV 2 hts gX2_find_X2_isWanted rfl rfl rfl (by decide +kernel) ⟨Nat.le_of_ble_eq_true rfl, Nat.le_of_ble_eq_true rfl⟩) ⟨cp.blind, va_recv hK hP (ci := 1) (q0 := 0) rfl rfl, fun U hU hW => ⟨rfl, cp.call hP hK hE hS (fr0 hS hA) hU hW⟩⟩ rfl rfl hl.1 rfl (lv_room (Nat.le_of_ble_eq_true rfl)) dX2_find_13 ⟨Nat.le_of_ble_eq_true rfl, Nat.le_of_ble_eq_true rfl⟩) hS (fun q _ h => (fr0 hS hA) q h) (fr0 hS hA) (fun v13 u t H1 locs1 ht hvm e13 hB hz1 hk1 hS => ?_)
        have hP := kp hP hk1
        generalize H1 = H at hP hS ⊢
        generalize locs1 = locs at hS ⊢
        refine zb_if_ne (tgt := 43) hx hb dX2_find_16 (by decide) e13 (fun c16 => ?_) (fun c16 => ?_)
        · have _u := True.intro
          refine lv_iload hx hb dX2_find_43 (lv_at hl 4 rfl) ?_
          refine W.widen (k := 0) (n := 0) (Nat.le_of_ble_eq_true rfl) (Nat.le_of_ble_eq_true rfl) ?_
          exact W.iret (v := x4) hx hb hr (fun t ht hW => ⟨⟨_, (), rfl, (Eq.trans e_x4 (by rw [hg4, nth_un (f := lik kd T P w) c16 hg2 (by omega)])), trivial⟩, hS.F ht⟩) hS.2.2 dX2_find_45
        · have _u := True.intro
          have hne : j ≠ tg := fun q => by rw [q, hg2] at c16; cases c16
          refine lv_iload_n hx hb dX2_find_19 rfl (lv_at hl 3 rfl) ?_
          refine lv_aload_n hx hb dX2_find_20 rfl (lv_at hl 0 rfl) ?_
          refine lv_iload_n hx hb dX2_find_21 rfl (lv_at hl 1 rfl) ?_
          refine lv_iload hx hb dX2_find_22 (lv_at hl 4 rfl) ?_
          refine va_calli (va_runV (As := [.int x1, .int x4]) (rest := [.int x3]) ⟨hx, hb, hml, hown, hts⟩ (c_X2_isWanted l D E g0 g1 g2 y4 y5 H.size (n) (w) th T P hn hw hT hPt x1 x4 (kd) (Eq.trans e_kd (by omega)) (j) (Eq.trans e_x4 (by omega)) (by omega) (by omega)) (cwV 2 hts gX2_find_X2_isWanted rfl rfl rfl (by decide +kernel) ⟨Nat.le_of_ble_eq_true rfl, Nat.le_of_ble_eq_true rfl⟩) ⟨cp.blind, va_recv hK hP (ci := 1) (q0 := 0) rfl rfl, fun U hU hW => ⟨rfl, cp.call hP hK hE hS (fr0 hS hA) hU hW⟩⟩ rfl rfl hl.1 rfl (lv_room (Nat.le_of_ble_eq_true rfl)) dX2_find_24 ⟨Nat.le_of_ble_eq_true rfl, Nat.le_of_ble_eq_true rfl⟩) hS (fun q _ h => (fr0 hS hA) q h) (fr0 hS hA) (fun v24 u t H1 locs1 ht hvm e24 hB hz1 hk1 hS => ?_)
          have hP := kp hP hk1
          generalize H1 = H at hP hS ⊢
          generalize locs1 = locs at hS ⊢
          refine zb_if_eq (tgt := 34) hx hb dX2_find_27 (by decide) e24 (fun c27 => ?_) (fun c27 => ?_)
          · have _u := True.intro
            have q := cnt_f (f := lik kd T P w) (k := j) c27
            refine lv_iconst (v := 0) hx hb dX2_find_34 (by decide) ?_
            refine z_isub hx hb dX2_find_35 e_x3 (show (0 : Int32).toInt = 0 by decide) (by omega) (by omega) (fun v35 e35 => ?_)
            refine lv_istore_n (lv' := [(3, .int v35), (0, .ref g0), (1, .int x1), (2, .int x2), (4, .int x4)]) hx hb dX2_find_36 rfl hl (by decide) rfl (fun ls hl => ?_)
            refine z_iinc (k := 4) (lv' := fun v => [(4, .int v), (3, .int v35), (0, .ref g0), (1, .int x1), (2, .int x2)]) hx hb dX2_find_37 hl rfl e_x4 (by decide) (by omega) (by omega) (by decide) (fun _ => rfl) (fun v37 ls e37 hl => ?_)
            refine lv_goto (tgt := 5) hx hb dX2_find_40 (by decide) ?_
            exact ih5 (j + 1) v35 v37 (by omega) (by omega) (Eq.trans e35 (by omega)) (Eq.trans e37 (by omega)) _ _ hP hS _ (lv_sub hl [2, 3, 4, 1, 0] rfl)
          · have _u := True.intro
            have q := cnt_t (f := lik kd T P w) (k := j) c27
            refine lv_iconst (v := 1) hx hb dX2_find_30 (by decide) ?_
            refine lv_goto (tgt := 35) hx hb dX2_find_31 (by decide) ?_
            refine z_isub hx hb dX2_find_35 e_x3 (show (1 : Int32).toInt = 1 by decide) (by omega) (by omega) (fun v35 e35 => ?_)
            refine lv_istore_n (lv' := [(3, .int v35), (0, .ref g0), (1, .int x1), (2, .int x2), (4, .int x4)]) hx hb dX2_find_36 rfl hl (by decide) rfl (fun ls hl => ?_)
            refine z_iinc (k := 4) (lv' := fun v => [(4, .int v), (3, .int v35), (0, .ref g0), (1, .int x1), (2, .int x2)]) hx hb dX2_find_37 hl rfl e_x4 (by decide) (by omega) (by omega) (by decide) (fun _ => rfl) (fun v37 ls e37 hl => ?_)
            refine lv_goto (tgt := 5) hx hb dX2_find_40 (by decide) ?_
            exact ih5 (j + 1) v35 v37 (by omega) (by omega) (Eq.trans e35 (by omega)) (Eq.trans e37 (by omega)) _ _ hP hS _ (lv_sub hl [2, 3, 4, 1, 0] rfl)
  have hc0 := cnt_0 (lik kd T P w)
  exact lp5 ((tg - 0) + 1) (0) x2 0 (by omega) (by omega) (Eq.trans rfl (by omega)) (Eq.trans (show (0 : Int32).toInt = 0 by decide) (by omega)) _ _ hP hS _ (lv_sub hl [2, 3, 4, 1, 0] rfl)

set_option maxHeartbeats 4000000 in
set_option maxRecDepth 100000 in
theorem c_X2_isNumber (l : Launch) (D : va_G) (E : Nat × Nat × Nat) (g0 g1 g2 : Nat) (y4 y5 : ClassId) (sz n w : Nat) (th : Int32) (T P : Nat → Int32) (hn : n ≤ 64) (hw : w ≤ 24) (hT : SymF T) (hPt : SymF P) (x1 : Int32) (x2 : Int32) (kd : Nat) (e_kd : x1.toInt = (kd : Int)) (hkd : kd ≤ 2) : Met l yX2_isNumber wsX2_isNumber ({ frames := 4, cells := 0, slots := 0, locals := 89 }) (va_Pc [.ref g0, .int x1, .int x2] (cp D (MW g0 g1 g2 y4 y5 th (n) (w) T P) (MT y4 y5) E (va_A [] sz) sz)) (va_Qi (fun (r : Int32) (_ : Unit) => r.toInt = bI (decide (0 ≤ x2.toInt ∧ x2.toInt < ((cnt (lik kd T P w) (pl n w) : Nat) : Int)))) (fun _ _ => True) (va_A [] sz)) 0 0 (va_A [] sz) := by
  refine Met.ofW (cc := cX2_isNumber) (maxL := 3) (ret := (some .boolean)) (by decide) rfl ?_
  intro p e s m args below meth c s₁ B hml hv
  obtain ⟨rfl, hsz, hP, hK, hE⟩ := hv
  have hx := B.exec
  have hb := B.bytes
  have hr := B.returns
  have hts := atoms_spec (ws := wsX2_isNumber) B.pre
  have hown : s.vm.findClass RX2 = some m.cls := findClass_of_methodNamed B.named
  have hlocks := B.notSynchronized
  have hsz : s.heap.size = sz := hsz
  subst hsz
  have hA : ∀ q : Nat, s.heap.size ≤ q → (va_A [] s.heap.size) q := fun q h => Or.inr h
  have hS : va_S (va_A [] s.heap.size) s.heap s.heap [] := va_S.rf
  have inn : (nI n).toInt = (n : Int) := nI_toInt (by omega)
  have iww : (nI w).toInt = (w : Int) := nI_toInt (by omega)
  have hpl : pl n w = n + 1 - w := rfl
  have g_x1 := rg x1
  have g_x2 := rg x2
  have hl := lv_entry ([.ref g0, .int x1, .int x2]) (n := 3) (Nat.le_of_ble_eq_true rfl)
  rw [lg_entry_eq]
  generalize (lg_sl ([.ref g0, .int x1, .int x2]) ++ List.replicate (3 - (lg_sl ([.ref g0, .int x1, .int x2])).length) Slot.unset).toArray = ls at hl ⊢
  have hl : lv_has ls 3 [(0, .ref g0), (1, .int x1), (2, .int x2)] := hl
  refine lv_iload_n hx hb dX2_isNumber_0 rfl (lv_at hl 2 rfl) ?_
  refine z_if_lt (tgt := 17) hx hb dX2_isNumber_1 (by decide) rfl (fun c1 => ?_) (fun c1 => ?_)
  · have _u := True.intro
    refine lv_iconst (v := 0) hx hb dX2_isNumber_17 (by decide) ?_
    refine W.widen (k := 0) (n := 0) (Nat.le_of_ble_eq_true rfl) (Nat.le_of_ble_eq_true rfl) ?_
    have hpost : (0 : Int32).toInt = bI (decide (0 ≤ x2.toInt ∧ x2.toInt < ((cnt (lik kd T P w) (pl n w) : Nat) : Int))) := (by first | (rw [decide_eq_true (show 0 ≤ x2.toInt ∧ x2.toInt < ((cnt (lik kd T P w) (pl n w) : Nat) : Int) by omega)]; decide) | (rw [decide_eq_false (show ¬ (0 ≤ x2.toInt ∧ x2.toInt < ((cnt (lik kd T P w) (pl n w) : Nat) : Int)) by omega)]; decide))
    exact W.zret (v := 0) hx hb hr (bnar hpost) (fun t ht hW => ⟨⟨_, (), rfl, hpost, trivial⟩, hS.F ht⟩) hS.2.2 dX2_isNumber_18
  · have _u := True.intro
    refine lv_iload_n hx hb dX2_isNumber_4 rfl (lv_at hl 2 rfl) ?_
    refine lv_aload_n hx hb dX2_isNumber_5 rfl (lv_at hl 0 rfl) ?_
    refine lv_iload_n hx hb dX2_isNumber_6 rfl (lv_at hl 1 rfl) ?_
    refine va_calli (va_runV (As := [.int x1]) (rest := [.int x2]) ⟨hx, hb, hml, hown, hts⟩ (c_X2_wanted l D E g0 g1 g2 y4 y5 s.heap.size (n) (w) th T P hn hw hT hPt x1 (kd) (Eq.trans e_kd (by omega)) (by omega)) (cwV 1 hts gX2_isNumber_X2_wanted rfl rfl rfl (by decide +kernel) ⟨Nat.le_of_ble_eq_true rfl, Nat.le_of_ble_eq_true rfl⟩) ⟨cp.blind, va_recv hK hP (ci := 1) (q0 := 0) rfl rfl, fun U hU hW => ⟨rfl, cp.call hP hK hE hS (fr0 hS hA) hU hW⟩⟩ rfl rfl hl.1 rfl (lv_room (Nat.le_of_ble_eq_true rfl)) dX2_isNumber_7 ⟨Nat.le_of_ble_eq_true rfl, Nat.le_of_ble_eq_true rfl⟩) hS (fun q _ h => (fr0 hS hA) q h) (fr0 hS hA) (fun v7 u t H1 locs1 ht hvm e7 hB hz1 hk1 hS => ?_)
    have hP := kp hP hk1
    generalize H1 = H at hP hS ⊢
    generalize locs1 = locs at hS ⊢
    refine z_icmp_ge (tgt := 17) hx hb dX2_isNumber_10 (by decide) rfl e7 (fun c10 => ?_) (fun c10 => ?_)
    · have _u := True.intro
      refine lv_iconst (v := 0) hx hb dX2_isNumber_17 (by decide) ?_
      refine W.widen (k := 0) (n := 0) (Nat.le_of_ble_eq_true rfl) (Nat.le_of_ble_eq_true rfl) ?_
      have hpost : (0 : Int32).toInt = bI (decide (0 ≤ x2.toInt ∧ x2.toInt < ((cnt (lik kd T P w) (pl n w) : Nat) : Int))) := (by first | (rw [decide_eq_true (show 0 ≤ x2.toInt ∧ x2.toInt < ((cnt (lik kd T P w) (pl n w) : Nat) : Int) by omega)]; decide) | (rw [decide_eq_false (show ¬ (0 ≤ x2.toInt ∧ x2.toInt < ((cnt (lik kd T P w) (pl n w) : Nat) : Int)) by omega)]; decide))
      exact W.zret (v := 0) hx hb hr (bnar hpost) (fun t ht hW => ⟨⟨_, (), rfl, hpost, trivial⟩, hS.F ht⟩) hS.2.2 dX2_isNumber_18
    · have _u := True.intro
      refine lv_iconst (v := 1) hx hb dX2_isNumber_13 (by decide) ?_
      refine lv_goto (tgt := 18) hx hb dX2_isNumber_14 (by decide) ?_
      refine W.widen (k := 0) (n := 0) (Nat.le_of_ble_eq_true rfl) (Nat.le_of_ble_eq_true rfl) ?_
      have hpost : (1 : Int32).toInt = bI (decide (0 ≤ x2.toInt ∧ x2.toInt < ((cnt (lik kd T P w) (pl n w) : Nat) : Int))) := (by first | (rw [decide_eq_true (show 0 ≤ x2.toInt ∧ x2.toInt < ((cnt (lik kd T P w) (pl n w) : Nat) : Int) by omega)]; decide) | (rw [decide_eq_false (show ¬ (0 ≤ x2.toInt ∧ x2.toInt < ((cnt (lik kd T P w) (pl n w) : Nat) : Int)) by omega)]; decide))
      exact W.zret (v := 1) hx hb hr (bnar hpost) (fun t ht hW => ⟨⟨_, (), rfl, hpost, trivial⟩, hS.F ht⟩) hS.2.2 dX2_isNumber_18

set_option maxHeartbeats 4000000 in
set_option maxRecDepth 100000 in
theorem c_X2_comesAgain (l : Launch) (D : va_G) (E : Nat × Nat × Nat) (g0 g1 g2 : Nat) (y4 y5 : ClassId) (sz n w : Nat) (th : Int32) (T P : Nat → Int32) (hn : n ≤ 64) (hw : w ≤ 24) (hT : SymF T) (hPt : SymF P) (x1 : Int32) (p1 : Nat) (e_p1 : x1.toInt = (p1 : Int)) (hp : 1 ≤ p1) : Met l yX2_comesAgain wsX2_comesAgain ({ frames := 1, cells := 0, slots := 0, locals := 21 }) (va_Pc [.ref g0, .int x1] (cp D (MW g0 g1 g2 y4 y5 th (n) (w) T P) (MT y4 y5) E (va_A [] sz) sz)) (va_Qi (fun (r : Int32) (_ : Unit) => r.toInt = bI (per T n p1)) (fun _ _ => True) (va_A [] sz)) 0 0 (va_A [] sz) := by
  refine Met.ofW (cc := cX2_comesAgain) (maxL := 4) (ret := (some .boolean)) (by decide) rfl ?_
  intro p e s m args below meth c s₁ B hml hv
  obtain ⟨rfl, hsz, hP, hK, hE⟩ := hv
  have hx := B.exec
  have hb := B.bytes
  have hr := B.returns
  have hts := atoms_spec (ws := wsX2_comesAgain) B.pre
  have hown : s.vm.findClass RX2 = some m.cls := findClass_of_methodNamed B.named
  have hlocks := B.notSynchronized
  have hsz : s.heap.size = sz := hsz
  subst hsz
  have hA : ∀ q : Nat, s.heap.size ≤ q → (va_A [] s.heap.size) q := fun q h => Or.inr h
  have hS : va_S (va_A [] s.heap.size) s.heap s.heap [] := va_S.rf
  have inn : (nI n).toInt = (n : Int) := nI_toInt (by omega)
  have iww : (nI w).toInt = (w : Int) := nI_toInt (by omega)
  have hf_n := hts (.fieldLink RX2 24 "BlankMatcherModel" "n" "I") (by decide +kernel)
  have hf_text := hts (.fieldLink RX2 7 "BlankMatcherModel" "text" "[I") (by decide +kernel)
  have hpl : pl n w = n + 1 - w := rfl
  have hin0 : ∀ w ∈ wsX20, w ∈ wsX2_comesAgain := by decide +kernel
  have g_x1 := rg x1
  have hl := lv_entry ([.ref g0, .int x1]) (n := 4) (Nat.le_of_ble_eq_true rfl)
  rw [lg_entry_eq]
  generalize (lg_sl ([.ref g0, .int x1]) ++ List.replicate (4 - (lg_sl ([.ref g0, .int x1])).length) Slot.unset).toArray = ls at hl ⊢
  have hl : lv_has ls 4 [(0, .ref g0), (1, .int x1)] := hl
  refine lv_iconst (v := 1) hx hb dX2_comesAgain_0 (by decide) ?_
  refine lv_istore_n (lv' := [(2, .int 1), (0, .ref g0), (1, .int x1)]) hx hb dX2_comesAgain_1 rfl hl (by decide) rfl (fun ls hl => ?_)
  refine lv_iconst (v := 0) hx hb dX2_comesAgain_2 (by decide) ?_
  refine lv_istore_n (lv' := [(3, .int 0), (2, .int 1), (0, .ref g0), (1, .int x1)]) hx hb dX2_comesAgain_3 rfl hl (by decide) rfl (fun ls hl => ?_)
  have lp4 : ∀ (nf : Nat) (j : Nat) (x2 : Int32) (x3 : Int32), 64 - j < nf → (j ≤ n - p1) → x2.toInt = bI (allB (pf T p1) j) → x3.toInt = (j : Int) → ∀ (H : Heap) (locs : List Loc), va_P D vwCl (MW g0 g1 g2 y4 y5 th (n) (w) T P) H → va_S (va_A [] s.heap.size) s.heap H locs → ∀ (ls : Array Slot), lv_has ls 4 [(0, .ref g0), (1, .int x1), (2, .int x2), (3, .int x3)] → W p l e (headSpec wsX2_comesAgain ({ frames := 1, cells := 0, slots := 0, locals := 21 })).room s m [.ref g0, .int x1].toArray below meth c H locs 0 0 (MQ below (va_Qi (fun (r : Int32) (_ : Unit) => r.toInt = bI (per T n p1)) (fun _ _ => True) (va_A [] s.heap.size)) [.ref g0, .int x1].toArray s 0 0 (va_A [] s.heap.size)) (F0 m 4 ls []) := by
    intro nf
    induction nf with
    | zero => intros; omega
    | succ nf ih4 =>
      intro j x2 x3 hnf hj e_x2 e_x3 H locs hP hS ls hl
      refine lv_iload_n hx hb dX2_comesAgain_4 rfl (lv_at hl 3 rfl) ?_
      refine lv_aload_n hx hb dX2_comesAgain_5 rfl (lv_at hl 0 rfl) ?_
      refine va_get (D := D) (ci := 1) (v := .int (nI n)) (C := RX2) (T := TX2) (N := 5) hx hb hts hin0 hown hK hP 0 rfl rfl 3 (by decide) hf_n (fun _ h9 => h9) rfl dX2_comesAgain_6 ?_
      refine lv_iload_n hx hb dX2_comesAgain_9 rfl (lv_at hl 1 rfl) ?_
      refine z_isub hx hb dX2_comesAgain_10 inn e_p1 (by omega) (by omega) (fun v10 e10 => ?_)
      refine z_icmp_ge (tgt := 50) hx hb dX2_comesAgain_11 (by decide) e_x3 e10 (fun c11 => ?_) (fun c11 => ?_)
      · have _u := True.intro
        refine lv_iload_n hx hb dX2_comesAgain_50 rfl (lv_at hl 2 rfl) ?_
        refine W.widen (k := 0) (n := 0) (Nat.le_of_ble_eq_true rfl) (Nat.le_of_ble_eq_true rfl) ?_
        have hpost : x2.toInt = bI (per T n p1) := (Eq.trans e_x2 (by rw [show j = n - p1 by omega]; rfl))
        exact W.zret (v := x2) hx hb hr (bnar hpost) (fun t ht hW => ⟨⟨_, (), rfl, hpost, trivial⟩, hS.F ht⟩) hS.2.2 dX2_comesAgain_51
      · have _u := True.intro
        refine lv_iload_n hx hb dX2_comesAgain_14 rfl (lv_at hl 2 rfl) ?_
        refine zb_if_eq (tgt := 42) hx hb dX2_comesAgain_15 (by decide) e_x2 (fun c15 => ?_) (fun c15 => ?_)
        · have _u := True.intro
          have qz : allB (pf T p1) (j + 1) = false := by rw [allB_s, c15]; rfl
          refine lv_iconst (v := 0) hx hb dX2_comesAgain_42 (by decide) ?_
          refine lv_istore_n (lv' := [(2, .int 0), (0, .ref g0), (1, .int x1), (3, .int x3)]) hx hb dX2_comesAgain_43 rfl hl (by decide) rfl (fun ls hl => ?_)
          refine z_iinc (k := 3) (lv' := fun v => [(3, .int v), (2, .int 0), (0, .ref g0), (1, .int x1)]) hx hb dX2_comesAgain_44 hl rfl e_x3 (by decide) (by omega) (by omega) (by decide) (fun _ => rfl) (fun v44 ls e44 hl => ?_)
          refine lv_goto (tgt := 4) hx hb dX2_comesAgain_47 (by decide) ?_
          exact ih4 (j + 1) 0 v44 (by omega) (by omega) (Eq.trans (show (0 : Int32).toInt = 0 by decide) (by rw [qz]; rfl)) (Eq.trans e44 (by omega)) _ _ hP hS _ (lv_sub hl [2, 3, 1, 0] rfl)
        · have _u := True.intro
          refine lv_aload_n hx hb dX2_comesAgain_18 rfl (lv_at hl 0 rfl) ?_
          refine va_get (D := D) (ci := 1) (v := .ref g1) (C := RX2) (T := TX2) (N := 5) hx hb hts hin0 hown hK hP 0 rfl rfl 1 (by decide) hf_text (fun _ h9 => h9) rfl dX2_comesAgain_19 ?_
          refine lv_iload_n hx hb dX2_comesAgain_22 rfl (lv_at hl 3 rfl) ?_
          refine z_iald hx hb hK hP 1 0 rfl rfl (j) e_x3 (by omega) (by omega) dX2_comesAgain_23 ?_
          refine lv_aload_n hx hb dX2_comesAgain_24 rfl (lv_at hl 0 rfl) ?_
          refine va_get (D := D) (ci := 1) (v := .ref g1) (C := RX2) (T := TX2) (N := 5) hx hb hts hin0 hown hK hP 0 rfl rfl 1 (by decide) hf_text (fun _ h9 => h9) rfl dX2_comesAgain_25 ?_
          refine lv_iload_n hx hb dX2_comesAgain_28 rfl (lv_at hl 3 rfl) ?_
          refine lv_iload_n hx hb dX2_comesAgain_29 rfl (lv_at hl 1 rfl) ?_
          refine z_iadd hx hb dX2_comesAgain_30 e_x3 e_p1 (by omega) (by omega) (fun v30 e30 => ?_)
          refine z_iald hx hb hK hP 1 0 rfl rfl (j + p1) e30 (by omega) (by omega) dX2_comesAgain_31 ?_
          refine va_calli (va_runS (As := [.int (T (j)), .int (T (j + p1))]) (rest := []) ⟨hx, hb, hml, hown, hts⟩ (c_X2_agree l H.size (T (j)) (T (j + p1))) (va_cwS 2 hts gX2_comesAgain_X2_agree rfl rfl rfl (by decide +kernel) ⟨Nat.le_of_ble_eq_true rfl, Nat.le_of_ble_eq_true rfl⟩) ⟨cz.blind, fun U hU hW => ⟨rfl, cz.call hU⟩⟩ rfl rfl hl.1 rfl (lv_room (Nat.le_of_ble_eq_true rfl)) dX2_comesAgain_32 ⟨Nat.le_of_ble_eq_true rfl, Nat.le_of_ble_eq_true rfl⟩) hS (fun q _ h => (fr0 hS hA) q h) (fr0 hS hA) (fun v32 u t H1 locs1 ht hvm e32 hB hz1 hk1 hS => ?_)
          have hP := kp hP hk1
          generalize H1 = H at hP hS ⊢
          generalize locs1 = locs at hS ⊢
          refine zb_if_eq (tgt := 42) hx hb dX2_comesAgain_35 (by decide) e32 (fun c35 => ?_) (fun c35 => ?_)
          · have _u := True.intro
            have qz : allB (pf T p1) (j + 1) = false := by rw [allB_s, show pf T p1 j = false from c35, Bool.and_false]
            refine lv_iconst (v := 0) hx hb dX2_comesAgain_42 (by decide) ?_
            refine lv_istore_n (lv' := [(2, .int 0), (0, .ref g0), (1, .int x1), (3, .int x3)]) hx hb dX2_comesAgain_43 rfl hl (by decide) rfl (fun ls hl => ?_)
            refine z_iinc (k := 3) (lv' := fun v => [(3, .int v), (2, .int 0), (0, .ref g0), (1, .int x1)]) hx hb dX2_comesAgain_44 hl rfl e_x3 (by decide) (by omega) (by omega) (by decide) (fun _ => rfl) (fun v44 ls e44 hl => ?_)
            refine lv_goto (tgt := 4) hx hb dX2_comesAgain_47 (by decide) ?_
            exact ih4 (j + 1) 0 v44 (by omega) (by omega) (Eq.trans (show (0 : Int32).toInt = 0 by decide) (by rw [qz]; rfl)) (Eq.trans e44 (by omega)) _ _ hP hS _ (lv_sub hl [2, 3, 1, 0] rfl)
          · have _u := True.intro
            have qz : allB (pf T p1) (j + 1) = true := by rw [allB_s, c15, show pf T p1 j = true from c35]; rfl
            refine lv_iconst (v := 1) hx hb dX2_comesAgain_38 (by decide) ?_
            refine lv_goto (tgt := 43) hx hb dX2_comesAgain_39 (by decide) ?_
            refine lv_istore_n (lv' := [(2, .int 1), (0, .ref g0), (1, .int x1), (3, .int x3)]) hx hb dX2_comesAgain_43 rfl hl (by decide) rfl (fun ls hl => ?_)
            refine z_iinc (k := 3) (lv' := fun v => [(3, .int v), (2, .int 1), (0, .ref g0), (1, .int x1)]) hx hb dX2_comesAgain_44 hl rfl e_x3 (by decide) (by omega) (by omega) (by decide) (fun _ => rfl) (fun v44 ls e44 hl => ?_)
            refine lv_goto (tgt := 4) hx hb dX2_comesAgain_47 (by decide) ?_
            exact ih4 (j + 1) 1 v44 (by omega) (by omega) (Eq.trans (show (1 : Int32).toInt = 1 by decide) (by rw [qz]; rfl)) (Eq.trans e44 (by omega)) _ _ hP hS _ (lv_sub hl [2, 3, 1, 0] rfl)
  exact lp4 ((64 - 0) + 1) (0) 1 0 (by omega) (by omega) (Eq.trans (show (1 : Int32).toInt = 1 by decide) (rfl)) (Eq.trans (show (0 : Int32).toInt = 0 by decide) (by omega)) _ _ hP hS _ (lv_sub hl [2, 3, 1, 0] rfl)
