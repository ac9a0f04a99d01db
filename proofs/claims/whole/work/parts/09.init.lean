set_option maxHeartbeats 4000000 in
set_option maxRecDepth 100000 in
theorem c_X1_init (l : Launch) (D : va_G) (h0 : Nat) (sz : Nat) : Met l yX1_init wsX1_init ({ frames := 1, cells := 3, slots := 153, locals := 40 }) (va_Pc [.ref h0] (fun U => U.heap.size = sz ∧ va_P D vwCl [(h0, .inr (0, [.null, .null, .null, .int 0, .int 0]))] U.heap ∧ va_K D vwCl [] U)) (va_Qv (fun _ : Unit => True) (fun _ t => ∃ (h1 h2 h3 : Nat) (y1 y2 y3 : ClassId), va_P D vwCl (XW h0 h1 h2 h3 y1 y2 y3 0 0 (fun _ => 0) (fun _ => 0) (fun _ => 0)) t.heap ∧ va_K D vwCl (XT y1 y2 y3) t ∧ va_D (va_A [(h0, .inr (0, [.null, .null, .null, .int 0, .int 0]))] sz) (XW h0 h1 h2 h3 y1 y2 y3 0 0 (fun _ => 0) (fun _ => 0) (fun _ => 0))) (va_A [(h0, .inr (0, [.null, .null, .null, .int 0, .int 0]))] sz)) 3 153 (va_A [(h0, .inr (0, [.null, .null, .null, .int 0, .int 0]))] sz) := by
  refine Met.ofW (cc := cX1_init) (maxL := 1) (ret := none) (by decide) rfl ?_
  intro p e s m args below meth c s₁ B hml hv
  obtain ⟨rfl, hsz, hP, hK⟩ := hv
  have hx := B.exec
  have hb := B.bytes
  have hr := B.returns
  have hts := atoms_spec (ws := wsX1_init) B.pre
  have hown : s.vm.findClass RX1 = some m.cls := findClass_of_methodNamed B.named
  have hlocks := B.notSynchronized
  have hin : meth.name = "<init>" := (name_of_methodNamed B.named B.method).1
  subst hsz
  have hD : va_D (va_A [(h0, .inr (0, [.null, .null, .null, .int 0, .int 0]))] s.heap.size) [(h0, .inr (0, [.null, .null, .null, .int 0, .int 0]))] := (show va_D (fun _ => True) [(h0, .inr (0, [.null, .null, .null, .int 0, .int 0]))] from ⟨fun i j p q h1 h2 _ => by
      rcases i with _ | i <;> rcases j with _ | j <;> simp at h1 h2 ⊢, fun _ _ _ => trivial⟩).self
  have hA : ∀ q : Nat, s.heap.size ≤ q → (va_A [(h0, .inr (0, [.null, .null, .null, .int 0, .int 0]))] s.heap.size) q := fun q h => Or.inr h
  have hS : va_S (va_A [(h0, .inr (0, [.null, .null, .null, .int 0, .int 0]))] s.heap.size) s.heap s.heap [] := va_S.rf
  have hin0 : ∀ w ∈ wsX10, w ∈ wsX1_init := by decide +kernel
  have hl := lv_entry ([.ref h0]) (n := 1) (Nat.le_of_ble_eq_true rfl)
  rw [lg_entry_eq]
  generalize (lg_sl ([.ref h0]) ++ List.replicate (1 - (lg_sl ([.ref h0])).length) Slot.unset).toArray = ls at hl ⊢
  have hl : lv_has ls 1 [(0, .ref h0)] := hl
  refine lv_aload_n hx hb dX1_init_0 rfl (lv_at hl 0 rfl) ?_
  refine W.objInit hx hb hown (hts (.methodLink RX1 1 objectInit) (by decide +kernel)) (hts (.instanceMethod objectInit) (by decide +kernel)) (hts (.code objectInit ⟨#[0xb1]⟩ 1 none) (by decide +kernel)) rfl (by rw [hml]; exact hl.1) rfl dX1_init_1 (Nat.le_of_ble_eq_true rfl) (Nat.le_of_ble_eq_true rfl) ?_
  refine W.eq (g2 := F0 m 4 ls []) rfl ?_
  refine lv_aload_n hx hb dX1_init_4 rfl (lv_at hl 0 rfl) ?_
  refine lv_bipush (v := 64) hx hb dX1_init_5 (by decide) ?_
  refine va_newa (atype := .int) (ty := .int) (a0 := (64, .inl (fun _ => 0))) (N' := 64) hx hb (hts (.arrayClass .int) (by decide +kernel)) rfl hK hP hD hS hA (fun _ => rfl) (by decide) (by decide) (Nat.le_of_ble_eq_true rfl) (Nat.le_of_ble_eq_true rfl) (Nat.le_of_ble_eq_true rfl) dX1_init_7 (fun q1 z1 H hK hP hD hS => ?_)
  have hP : va_P D vwCl [(h0, .inr (0, [.null, .null, .null, .int 0, .int 0])), (q1, .inl (z1, 64, .inl (fun _ => 0)))] H := hP
  have hD : va_D (va_A [(h0, .inr (0, [.null, .null, .null, .int 0, .int 0]))] s.heap.size) [(h0, .inr (0, [.null, .null, .null, .int 0, .int 0])), (q1, .inl (z1, 64, .inl (fun _ => 0)))] := hD
  have hK : va_K D vwCl [(z1, .int)] s := hK
  refine va_putF (D := D) (ci := 0) (v := .ref q1) (ty := .array .int) (C := RX1) (T := TX1) (N := 5) hx hb hts hin0 tyX1 tyX1_ok nmX1 hown hK hP hD hS 0 rfl rfl 0 (by decide) (hts (.fieldLink RX1 9 "BlankMatcher" "text" "[I") (by decide +kernel)) (fun _ h9 => h9) rfl hin rfl (by decide +kernel) rfl rfl (Nat.le_of_ble_eq_true rfl) dX1_init_9 (fun H locs hP hD hS => ?_)
  have hP : va_P D vwCl [(h0, .inr (0, [.ref q1, .null, .null, .int 0, .int 0])), (q1, .inl (z1, 64, .inl (fun _ => 0)))] H := hP
  have hD : va_D (va_A [(h0, .inr (0, [.null, .null, .null, .int 0, .int 0]))] s.heap.size) [(h0, .inr (0, [.ref q1, .null, .null, .int 0, .int 0])), (q1, .inl (z1, 64, .inl (fun _ => 0)))] := hD
  refine lv_aload_n hx hb dX1_init_12 rfl (lv_at hl 0 rfl) ?_
  refine lv_bipush (v := 24) hx hb dX1_init_13 (by decide) ?_
  refine va_newa (atype := .int) (ty := .int) (a0 := (24, .inl (fun _ => 0))) (N' := 24) hx hb (hts (.arrayClass .int) (by decide +kernel)) rfl hK hP hD hS hA (fun _ => rfl) (by decide) (by decide) (Nat.le_of_ble_eq_true rfl) (Nat.le_of_ble_eq_true rfl) (Nat.le_of_ble_eq_true rfl) dX1_init_15 (fun q2 z2 H hK hP hD hS => ?_)
  have hP : va_P D vwCl [(h0, .inr (0, [.ref q1, .null, .null, .int 0, .int 0])), (q1, .inl (z1, 64, .inl (fun _ => 0))), (q2, .inl (z2, 24, .inl (fun _ => 0)))] H := hP
  have hD : va_D (va_A [(h0, .inr (0, [.null, .null, .null, .int 0, .int 0]))] s.heap.size) [(h0, .inr (0, [.ref q1, .null, .null, .int 0, .int 0])), (q1, .inl (z1, 64, .inl (fun _ => 0))), (q2, .inl (z2, 24, .inl (fun _ => 0)))] := hD
  have hK : va_K D vwCl [(z1, .int), (z2, .int)] s := hK
  refine va_putF (D := D) (ci := 0) (v := .ref q2) (ty := .array .int) (C := RX1) (T := TX1) (N := 5) hx hb hts hin0 tyX1 tyX1_ok nmX1 hown hK hP hD hS 0 rfl rfl 1 (by decide) (hts (.fieldLink RX1 13 "BlankMatcher" "pattern" "[I") (by decide +kernel)) (fun _ h9 => h9) rfl hin rfl (by decide +kernel) rfl rfl (Nat.le_of_ble_eq_true rfl) dX1_init_17 (fun H locs hP hD hS => ?_)
  have hP : va_P D vwCl [(h0, .inr (0, [.ref q1, .ref q2, .null, .int 0, .int 0])), (q1, .inl (z1, 64, .inl (fun _ => 0))), (q2, .inl (z2, 24, .inl (fun _ => 0)))] H := hP
  have hD : va_D (va_A [(h0, .inr (0, [.null, .null, .null, .int 0, .int 0]))] s.heap.size) [(h0, .inr (0, [.ref q1, .ref q2, .null, .int 0, .int 0])), (q1, .inl (z1, 64, .inl (fun _ => 0))), (q2, .inl (z2, 24, .inl (fun _ => 0)))] := hD
  refine lv_aload_n hx hb dX1_init_20 rfl (lv_at hl 0 rfl) ?_
  refine lv_bipush (v := 65) hx hb dX1_init_21 (by decide) ?_
  refine va_newa (atype := .int) (ty := .int) (a0 := (65, .inl (fun _ => 0))) (N' := 65) hx hb (hts (.arrayClass .int) (by decide +kernel)) rfl hK hP hD hS hA (fun _ => rfl) (by decide) (by decide) (Nat.le_of_ble_eq_true rfl) (Nat.le_of_ble_eq_true rfl) (Nat.le_of_ble_eq_true rfl) dX1_init_23 (fun q3 z3 H hK hP hD hS => ?_)
  have hP : va_P D vwCl [(h0, .inr (0, [.ref q1, .ref q2, .null, .int 0, .int 0])), (q1, .inl (z1, 64, .inl (fun _ => 0))), (q2, .inl (z2, 24, .inl (fun _ => 0))), (q3, .inl (z3, 65, .inl (fun _ => 0)))] H := hP
  have hD : va_D (va_A [(h0, .inr (0, [.null, .null, .null, .int 0, .int 0]))] s.heap.size) [(h0, .inr (0, [.ref q1, .ref q2, .null, .int 0, .int 0])), (q1, .inl (z1, 64, .inl (fun _ => 0))), (q2, .inl (z2, 24, .inl (fun _ => 0))), (q3, .inl (z3, 65, .inl (fun _ => 0)))] := hD
  have hK : va_K D vwCl [(z1, .int), (z2, .int), (z3, .int)] s := hK
  refine va_putF (D := D) (ci := 0) (v := .ref q3) (ty := .array .int) (C := RX1) (T := TX1) (N := 5) hx hb hts hin0 tyX1 tyX1_ok nmX1 hown hK hP hD hS 0 rfl rfl 2 (by decide) (hts (.fieldLink RX1 16 "BlankMatcher" "mismatchesByPlace" "[I") (by decide +kernel)) (fun _ h9 => h9) rfl hin rfl (by decide +kernel) rfl rfl (Nat.le_of_ble_eq_true rfl) dX1_init_25 (fun H locs hP hD hS => ?_)
  have hP : va_P D vwCl [(h0, .inr (0, [.ref q1, .ref q2, .ref q3, .int 0, .int 0])), (q1, .inl (z1, 64, .inl (fun _ => 0))), (q2, .inl (z2, 24, .inl (fun _ => 0))), (q3, .inl (z3, 65, .inl (fun _ => 0)))] H := hP
  have hD : va_D (va_A [(h0, .inr (0, [.null, .null, .null, .int 0, .int 0]))] s.heap.size) [(h0, .inr (0, [.ref q1, .ref q2, .ref q3, .int 0, .int 0])), (q1, .inl (z1, 64, .inl (fun _ => 0))), (q2, .inl (z2, 24, .inl (fun _ => 0))), (q3, .inl (z3, 65, .inl (fun _ => 0)))] := hD
  refine lv_aload_n hx hb dX1_init_28 rfl (lv_at hl 0 rfl) ?_
  refine lv_iconst (v := 0) hx hb dX1_init_29 (by decide) ?_
  refine va_put (D := D) (ci := 0) (v := .int 0) (ty := .int) (C := RX1) (T := TX1) (N := 5) hx hb hts hin0 tyX1 tyX1_ok nmX1 hown hK hP hD hS 0 rfl rfl 3 (by decide) (hts (.fieldLink RX1 19 "BlankMatcher" "textSize" "I") (by decide +kernel)) (fun _ h9 => h9) rfl (by decide +kernel) rfl rfl (Nat.le_of_ble_eq_true rfl) dX1_init_30 (fun H locs hP hD hS => ?_)
  have hP : va_P D vwCl [(h0, .inr (0, [.ref q1, .ref q2, .ref q3, .int 0, .int 0])), (q1, .inl (z1, 64, .inl (fun _ => 0))), (q2, .inl (z2, 24, .inl (fun _ => 0))), (q3, .inl (z3, 65, .inl (fun _ => 0)))] H := hP
  have hD : va_D (va_A [(h0, .inr (0, [.null, .null, .null, .int 0, .int 0]))] s.heap.size) [(h0, .inr (0, [.ref q1, .ref q2, .ref q3, .int 0, .int 0])), (q1, .inl (z1, 64, .inl (fun _ => 0))), (q2, .inl (z2, 24, .inl (fun _ => 0))), (q3, .inl (z3, 65, .inl (fun _ => 0)))] := hD
  refine lv_aload_n hx hb dX1_init_33 rfl (lv_at hl 0 rfl) ?_
  refine lv_iconst (v := 0) hx hb dX1_init_34 (by decide) ?_
  refine va_put (D := D) (ci := 0) (v := .int 0) (ty := .int) (C := RX1) (T := TX1) (N := 5) hx hb hts hin0 tyX1 tyX1_ok nmX1 hown hK hP hD hS 0 rfl rfl 4 (by decide) (hts (.fieldLink RX1 23 "BlankMatcher" "patternSize" "I") (by decide +kernel)) (fun _ h9 => h9) rfl (by decide +kernel) rfl rfl (Nat.le_of_ble_eq_true rfl) dX1_init_35 (fun H locs hP hD hS => ?_)
  have hP : va_P D vwCl [(h0, .inr (0, [.ref q1, .ref q2, .ref q3, .int 0, .int 0])), (q1, .inl (z1, 64, .inl (fun _ => 0))), (q2, .inl (z2, 24, .inl (fun _ => 0))), (q3, .inl (z3, 65, .inl (fun _ => 0)))] H := hP
  have hD : va_D (va_A [(h0, .inr (0, [.null, .null, .null, .int 0, .int 0]))] s.heap.size) [(h0, .inr (0, [.ref q1, .ref q2, .ref q3, .int 0, .int 0])), (q1, .inl (z1, 64, .inl (fun _ => 0))), (q2, .inl (z2, 24, .inl (fun _ => 0))), (q3, .inl (z3, 65, .inl (fun _ => 0)))] := hD
  exact W.vret hx hb hr (fun t ht hW => ⟨⟨(), rfl, trivial, q1, q2, q3, z1, z2, z3, by rw [ht]; exact hP, va_K.moved hW.alike hK, hD⟩, hS.F ht⟩) hS.2.2 dX1_init_38
set_option maxHeartbeats 4000000 in
set_option maxRecDepth 100000 in
theorem c_X2_init (l : Launch) (D : va_G) (g0 : Nat) (sz : Nat) : Met l yX2_init wsX2_init ({ frames := 1, cells := 2, slots := 88, locals := 40 }) (va_Pc [.ref g0] (fun U => U.heap.size = sz ∧ va_P D vwCl [(g0, .inr (1, [.int 0, .null, .null, .int 0, .int 0]))] U.heap ∧ va_K D vwCl [] U)) (va_Qv (fun _ : Unit => True) (fun _ t => ∃ (g1 g2 : Nat) (y4 y5 : ClassId), va_P D vwCl (MW g0 g1 g2 y4 y5 0 0 0 (fun _ => 0) (fun _ => 0)) t.heap ∧ va_K D vwCl (MT y4 y5) t ∧ va_D (va_A [(g0, .inr (1, [.int 0, .null, .null, .int 0, .int 0]))] sz) (MW g0 g1 g2 y4 y5 0 0 0 (fun _ => 0) (fun _ => 0))) (va_A [(g0, .inr (1, [.int 0, .null, .null, .int 0, .int 0]))] sz)) 2 88 (va_A [(g0, .inr (1, [.int 0, .null, .null, .int 0, .int 0]))] sz) := by
  refine Met.ofW (cc := cX2_init) (maxL := 1) (ret := none) (by decide) rfl ?_
  intro p e s m args below meth c s₁ B hml hv
  obtain ⟨rfl, hsz, hP, hK⟩ := hv
  have hx := B.exec
  have hb := B.bytes
  have hr := B.returns
  have hts := atoms_spec (ws := wsX2_init) B.pre
  have hown : s.vm.findClass RX2 = some m.cls := findClass_of_methodNamed B.named
  have hlocks := B.notSynchronized
  have hin : meth.name = "<init>" := (name_of_methodNamed B.named B.method).1
  subst hsz
  have hD : va_D (va_A [(g0, .inr (1, [.int 0, .null, .null, .int 0, .int 0]))] s.heap.size) [(g0, .inr (1, [.int 0, .null, .null, .int 0, .int 0]))] := (show va_D (fun _ => True) [(g0, .inr (1, [.int 0, .null, .null, .int 0, .int 0]))] from ⟨fun i j p q h1 h2 _ => by
      rcases i with _ | i <;> rcases j with _ | j <;> simp at h1 h2 ⊢, fun _ _ _ => trivial⟩).self
  have hA : ∀ q : Nat, s.heap.size ≤ q → (va_A [(g0, .inr (1, [.int 0, .null, .null, .int 0, .int 0]))] s.heap.size) q := fun q h => Or.inr h
  have hS : va_S (va_A [(g0, .inr (1, [.int 0, .null, .null, .int 0, .int 0]))] s.heap.size) s.heap s.heap [] := va_S.rf
  have hin0 : ∀ w ∈ wsX20, w ∈ wsX2_init := by decide +kernel
  have hl := lv_entry ([.ref g0]) (n := 1) (Nat.le_of_ble_eq_true rfl)
  rw [lg_entry_eq]
  generalize (lg_sl ([.ref g0]) ++ List.replicate (1 - (lg_sl ([.ref g0])).length) Slot.unset).toArray = ls at hl ⊢
  have hl : lv_has ls 1 [(0, .ref g0)] := hl
  refine lv_aload_n hx hb dX2_init_0 rfl (lv_at hl 0 rfl) ?_
  refine W.objInit hx hb hown (hts (.methodLink RX2 1 objectInit) (by decide +kernel)) (hts (.instanceMethod objectInit) (by decide +kernel)) (hts (.code objectInit ⟨#[0xb1]⟩ 1 none) (by decide +kernel)) rfl (by rw [hml]; exact hl.1) rfl dX2_init_1 (Nat.le_of_ble_eq_true rfl) (Nat.le_of_ble_eq_true rfl) ?_
  refine W.eq (g2 := F0 m 4 ls []) rfl ?_
  refine lv_aload_n hx hb dX2_init_4 rfl (lv_at hl 0 rfl) ?_
  refine lv_bipush (v := 64) hx hb dX2_init_5 (by decide) ?_
  refine va_newa (atype := .int) (ty := .int) (a0 := (64, .inl (fun _ => 0))) (N' := 64) hx hb (hts (.arrayClass .int) (by decide +kernel)) rfl hK hP hD hS hA (fun _ => rfl) (by decide) (by decide) (Nat.le_of_ble_eq_true rfl) (Nat.le_of_ble_eq_true rfl) (Nat.le_of_ble_eq_true rfl) dX2_init_7 (fun q1 z1 H hK hP hD hS => ?_)
  have hP : va_P D vwCl [(g0, .inr (1, [.int 0, .null, .null, .int 0, .int 0])), (q1, .inl (z1, 64, .inl (fun _ => 0)))] H := hP
  have hD : va_D (va_A [(g0, .inr (1, [.int 0, .null, .null, .int 0, .int 0]))] s.heap.size) [(g0, .inr (1, [.int 0, .null, .null, .int 0, .int 0])), (q1, .inl (z1, 64, .inl (fun _ => 0)))] := hD
  have hK : va_K D vwCl [(z1, .int)] s := hK
  refine va_putF (D := D) (ci := 1) (v := .ref q1) (ty := .array .int) (C := RX2) (T := TX2) (N := 5) hx hb hts hin0 tyX2 tyX2_ok nmX2 hown hK hP hD hS 0 rfl rfl 1 (by decide) (hts (.fieldLink RX2 7 "BlankMatcherModel" "text" "[I") (by decide +kernel)) (fun _ h9 => h9) rfl hin rfl (by decide +kernel) rfl rfl (Nat.le_of_ble_eq_true rfl) dX2_init_9 (fun H locs hP hD hS => ?_)
  have hP : va_P D vwCl [(g0, .inr (1, [.int 0, .ref q1, .null, .int 0, .int 0])), (q1, .inl (z1, 64, .inl (fun _ => 0)))] H := hP
  have hD : va_D (va_A [(g0, .inr (1, [.int 0, .null, .null, .int 0, .int 0]))] s.heap.size) [(g0, .inr (1, [.int 0, .ref q1, .null, .int 0, .int 0])), (q1, .inl (z1, 64, .inl (fun _ => 0)))] := hD
  refine lv_aload_n hx hb dX2_init_12 rfl (lv_at hl 0 rfl) ?_
  refine lv_bipush (v := 24) hx hb dX2_init_13 (by decide) ?_
  refine va_newa (atype := .int) (ty := .int) (a0 := (24, .inl (fun _ => 0))) (N' := 24) hx hb (hts (.arrayClass .int) (by decide +kernel)) rfl hK hP hD hS hA (fun _ => rfl) (by decide) (by decide) (Nat.le_of_ble_eq_true rfl) (Nat.le_of_ble_eq_true rfl) (Nat.le_of_ble_eq_true rfl) dX2_init_15 (fun q2 z2 H hK hP hD hS => ?_)
  have hP : va_P D vwCl [(g0, .inr (1, [.int 0, .ref q1, .null, .int 0, .int 0])), (q1, .inl (z1, 64, .inl (fun _ => 0))), (q2, .inl (z2, 24, .inl (fun _ => 0)))] H := hP
  have hD : va_D (va_A [(g0, .inr (1, [.int 0, .null, .null, .int 0, .int 0]))] s.heap.size) [(g0, .inr (1, [.int 0, .ref q1, .null, .int 0, .int 0])), (q1, .inl (z1, 64, .inl (fun _ => 0))), (q2, .inl (z2, 24, .inl (fun _ => 0)))] := hD
  have hK : va_K D vwCl [(z1, .int), (z2, .int)] s := hK
  refine va_putF (D := D) (ci := 1) (v := .ref q2) (ty := .array .int) (C := RX2) (T := TX2) (N := 5) hx hb hts hin0 tyX2 tyX2_ok nmX2 hown hK hP hD hS 0 rfl rfl 2 (by decide) (hts (.fieldLink RX2 13 "BlankMatcherModel" "pattern" "[I") (by decide +kernel)) (fun _ h9 => h9) rfl hin rfl (by decide +kernel) rfl rfl (Nat.le_of_ble_eq_true rfl) dX2_init_17 (fun H locs hP hD hS => ?_)
  have hP : va_P D vwCl [(g0, .inr (1, [.int 0, .ref q1, .ref q2, .int 0, .int 0])), (q1, .inl (z1, 64, .inl (fun _ => 0))), (q2, .inl (z2, 24, .inl (fun _ => 0)))] H := hP
  have hD : va_D (va_A [(g0, .inr (1, [.int 0, .null, .null, .int 0, .int 0]))] s.heap.size) [(g0, .inr (1, [.int 0, .ref q1, .ref q2, .int 0, .int 0])), (q1, .inl (z1, 64, .inl (fun _ => 0))), (q2, .inl (z2, 24, .inl (fun _ => 0)))] := hD
  exact W.vret hx hb hr (fun t ht hW => ⟨⟨(), rfl, trivial, q1, q2, z1, z2, by rw [ht]; exact hP, va_K.moved hW.alike hK, hD⟩, hS.F ht⟩) hS.2.2 dX2_init_20
