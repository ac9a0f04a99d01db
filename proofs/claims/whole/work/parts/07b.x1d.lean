set_option maxHeartbeats 4000000 in
set_option maxRecDepth 100000 in
theorem c_X1_patternLength (l : Launch) (D : va_G) (E : Nat × Nat × Nat) (h0 h1 h2 h3 : Nat) (y1 y2 y3 : ClassId) (sz n w : Nat) (T P M : Nat → Int32) (hn : n ≤ 64) (hw : w ≤ 24) (hT : SymF T) (hPt : SymF P) : Met l yX1_patternLength wsX1_patternLength ({ frames := 0, cells := 0, slots := 0, locals := 0 }) (va_Pc [.ref h0] (cp D (XW h0 h1 h2 h3 y1 y2 y3 (n) (w) T P M) (XT y1 y2 y3) E (va_A [] sz) sz)) (va_Qi (fun (r : Int32) (_ : Unit) => r.toInt = (w : Int)) (fun _ _ => True) (va_A [] sz)) 0 0 (va_A [] sz) := by
  refine Met.ofW (cc := cX1_patternLength) (maxL := 1) (ret := (some .int)) (by decide) rfl ?_
  intro p e s m args below meth c s₁ B hml hv
  obtain ⟨rfl, hsz, hP, hK, hE⟩ := hv
  have hx := B.exec
  have hb := B.bytes
  have hr := B.returns
  have hts := atoms_spec (ws := wsX1_patternLength) B.pre
  have hown : s.vm.findClass RX1 = some m.cls := findClass_of_methodNamed B.named
  have hlocks := B.notSynchronized
  have hsz : s.heap.size = sz := hsz
  subst hsz
  have hA : ∀ q : Nat, s.heap.size ≤ q → (va_A [] s.heap.size) q := fun q h => Or.inr h
  have hS : va_S (va_A [] s.heap.size) s.heap s.heap [] := va_S.rf
  have inn : (nI n).toInt = (n : Int) := nI_toInt (by omega)
  have iww : (nI w).toInt = (w : Int) := nI_toInt (by omega)
  have hf_patternSize := hts (.fieldLink RX1 23 "BlankMatcher" "patternSize" "I") (by decide +kernel)
  have hpl : pl n w = n + 1 - w := rfl
  have hin0 : ∀ w ∈ wsX10, w ∈ wsX1_patternLength := by decide +kernel
  have hl := lv_entry ([.ref h0]) (n := 1) (Nat.le_of_ble_eq_true rfl)
  rw [lg_entry_eq]
  generalize (lg_sl ([.ref h0]) ++ List.replicate (1 - (lg_sl ([.ref h0])).length) Slot.unset).toArray = ls at hl ⊢
  have hl : lv_has ls 1 [(0, .ref h0)] := hl
  refine lv_aload_n hx hb dX1_patternLength_0 rfl (lv_at hl 0 rfl) ?_
  refine va_get (D := D) (ci := 0) (v := .int (nI w)) (C := RX1) (T := TX1) (N := 5) hx hb hts hin0 hown hK hP 0 rfl rfl 4 (by decide) hf_patternSize (fun _ h9 => h9) rfl dX1_patternLength_1 ?_
  refine W.widen (k := 0) (n := 0) (Nat.le_of_ble_eq_true rfl) (Nat.le_of_ble_eq_true rfl) ?_
  exact W.iret (v := (nI w)) hx hb hr (fun t ht hW => ⟨⟨_, (), rfl, (Eq.trans iww (by omega)), trivial⟩, hS.F ht⟩) hS.2.2 dX1_patternLength_4

set_option maxHeartbeats 4000000 in
set_option maxRecDepth 100000 in
theorem c_X1_product (l : Launch) (hlt : l.stackTraces = false) (D : va_G) (E : Nat × Nat × Nat) (h0 h1 h2 h3 : Nat) (y1 y2 y3 : ClassId) (sz n w : Nat) (T P M : Nat → Int32) (hn : n ≤ 64) (hw : w ≤ 24) (hT : SymF T) (hPt : SymF P) (x1 : Int32) : vx_Met l yX1_product wsX1_product ({ frames := 6, cells := 1, slots := 6, locals := 90 }) (va_Pc [.ref h0, .int x1] (cp D (XW h0 h1 h2 h3 y1 y2 y3 (n) (w) T P M) (XT y1 y2 y3) E (va_A [] sz) sz)) (va_Qi (fun (r : Int32) (_ : Unit) => r.toInt = (isum (pg T P n w x1.toInt.toNat) w).toInt ∧ kNeg x1.toInt = 0) (fun _ _ => True) (va_A [] sz)) (tX (fun X => X = "java/lang/IllegalArgumentException" ∧ kNeg x1.toInt = 1) sz) 1 6 (va_A [] sz) := by
  refine vx_ofW (cc := cX1_product) (maxL := 5) (ret := (some .int)) (by decide) rfl ?_
  intro p e s m args below meth c s₁ B hml hnt hv
  obtain ⟨rfl, hsz, hP, hK, hE⟩ := hv
  have hx := B.exec
  have hb := B.bytes
  have hr := B.returns
  have hts := atoms_spec (ws := wsX1_product) B.pre
  have hown : s.vm.findClass RX1 = some m.cls := findClass_of_methodNamed B.named
  have hlocks := B.notSynchronized
  have hsz : s.heap.size = sz := hsz
  subst hsz
  have hA : ∀ q : Nat, s.heap.size ≤ q → (va_A [] s.heap.size) q := fun q h => Or.inr h
  have hS : va_S (va_A [] s.heap.size) s.heap s.heap [] := va_S.rf
  have inn : (nI n).toInt = (n : Int) := nI_toInt (by omega)
  have iww : (nI w).toInt = (w : Int) := nI_toInt (by omega)
  have hf_pattern := hts (.fieldLink RX1 13 "BlankMatcher" "pattern" "[I") (by decide +kernel)
  have hf_patternSize := hts (.fieldLink RX1 23 "BlankMatcher" "patternSize" "I") (by decide +kernel)
  have hf_text := hts (.fieldLink RX1 9 "BlankMatcher" "text" "[I") (by decide +kernel)
  have hf_textSize := hts (.fieldLink RX1 19 "BlankMatcher" "textSize" "I") (by decide +kernel)
  have hpl : pl n w = n + 1 - w := rfl
  have hin0 : ∀ w ∈ wsX10, w ∈ wsX1_product := by decide +kernel
  have g_x1 := rg x1
  have hl := lv_entry ([.ref h0, .int x1]) (n := 5) (Nat.le_of_ble_eq_true rfl)
  rw [lg_entry_eq]
  generalize (lg_sl ([.ref h0, .int x1]) ++ List.replicate (5 - (lg_sl ([.ref h0, .int x1])).length) Slot.unset).toArray = ls at hl ⊢
  have hl : lv_has ls 5 [(0, .ref h0), (1, .int x1)] := hl
  refine lv_iload_n hx hb dX1_product_0 rfl (lv_at hl 1 rfl) ?_
  refine z_if_ge (tgt := 14) hx hb dX1_product_1 (by decide) rfl (fun c1 => ?_) (fun c1 => ?_)
  · have _u := True.intro
    obtain ⟨k, ek⟩ : ∃ k : Nat, x1.toInt = (k : Int) := ⟨x1.toInt.toNat, by omega⟩
    have ek2 : x1.toInt.toNat = k := by omega
    refine lv_iconst (v := 0) hx hb dX1_product_14 (by decide) ?_
    refine lv_istore_n (lv' := [(2, .int 0), (0, .ref h0), (1, .int x1)]) hx hb dX1_product_15 rfl hl (by decide) rfl (fun ls hl => ?_)
    refine lv_iconst (v := 0) hx hb dX1_product_16 (by decide) ?_
    refine lv_istore_n (lv' := [(3, .int 0), (2, .int 0), (0, .ref h0), (1, .int x1)]) hx hb dX1_product_17 rfl hl (by decide) rfl (fun ls hl => ?_)
    have lp18 : ∀ (nf : Nat) (i : Nat) (x2 : Int32) (x3 : Int32), n - i < nf → (i ≤ n) → (x2 = isum (cg T P w k) i) → x3.toInt = (i : Int) → ∀ (H : Heap) (locs : List Loc), va_P D vwCl (XW h0 h1 h2 h3 y1 y2 y3 (n) (w) T P M) H → va_S (va_A [] s.heap.size) s.heap H locs → ∀ (ls : Array Slot), lv_has ls 5 [(0, .ref h0), (1, .int x1), (2, .int x2), (3, .int x3)] → W p l e (headSpec wsX1_product ({ frames := 6, cells := 1, slots := 6, locals := 90 })).room s m [.ref h0, .int x1].toArray below meth c H locs 0 0 (vx_MQ below (va_Qi (fun (r : Int32) (_ : Unit) => r.toInt = (isum (pg T P n w x1.toInt.toNat) w).toInt ∧ kNeg x1.toInt = 0) (fun _ _ => True) (va_A [] s.heap.size)) (tX (fun X => X = "java/lang/IllegalArgumentException" ∧ kNeg x1.toInt = 1) s.heap.size) [.ref h0, .int x1].toArray s 1 6 (va_A [] s.heap.size)) (F0 m 18 ls []) := by
      intro nf
      induction nf with
      | zero => intros; omega
      | succ nf ih18 =>
        intro i x2 x3 hnf hj hx2 e_x3 H locs hP hS ls hl
        refine lv_iload_n hx hb dX1_product_18 rfl (lv_at hl 3 rfl) ?_
        refine lv_aload_n hx hb dX1_product_19 rfl (lv_at hl 0 rfl) ?_
        refine va_get (D := D) (ci := 0) (v := .int (nI n)) (C := RX1) (T := TX1) (N := 5) hx hb hts hin0 hown hK hP 0 rfl rfl 3 (by decide) hf_textSize (fun _ h9 => h9) rfl dX1_product_20 ?_
        refine z_icmp_ge (tgt := 75) hx hb dX1_product_23 (by decide) e_x3 inn (fun c23 => ?_) (fun c23 => ?_)
        · have _u := True.intro
          have hj2 : i = n := by omega
          refine lv_iload_n hx hb dX1_product_75 rfl (lv_at hl 2 rfl) ?_
          refine vx_ret ?_
          refine W.widen (k := 1) (n := 6) (Nat.le_of_ble_eq_true rfl) (Nat.le_of_ble_eq_true rfl) ?_
          exact W.iret (v := x2) hx hb hr (fun t ht hW => ⟨⟨_, (), rfl, ⟨(by rw [hx2, hj2, prod_eq, ek2]), by unfold kNeg; (repeat' split) <;> omega⟩, trivial⟩, hS.F ht⟩) hS.2.2 dX1_product_76
        · have _u := True.intro
          refine lv_aload_n hx hb dX1_product_26 rfl (lv_at hl 0 rfl) ?_
          refine va_get (D := D) (ci := 0) (v := .int (nI w)) (C := RX1) (T := TX1) (N := 5) hx hb hts hin0 hown hK hP 0 rfl rfl 4 (by decide) hf_patternSize (fun _ h9 => h9) rfl dX1_product_27 ?_
          refine lv_iconst (v := 1) hx hb dX1_product_30 (by decide) ?_
          refine z_isub hx hb dX1_product_31 iww (show (1 : Int32).toInt = 1 by decide) (by omega) (by omega) (fun v31 e31 => ?_)
          refine lv_iload_n hx hb dX1_product_32 rfl (lv_at hl 1 rfl) ?_
          refine lv_iload_n hx hb dX1_product_33 rfl (lv_at hl 3 rfl) ?_
          refine z_isub hx hb dX1_product_34 rfl e_x3 (by omega) (by omega) (fun v34 e34 => ?_)
          refine z_isub hx hb dX1_product_35 e31 e34 (by omega) (by omega) (fun v35 e35 => ?_)
          refine lv_istore (lv' := [(4, .int v35), (0, .ref h0), (1, .int x1), (2, .int x2), (3, .int x3)]) hx hb dX1_product_36 hl (by decide) rfl (fun ls hl => ?_)
          refine lv_iload hx hb dX1_product_38 (lv_at hl 0 rfl) ?_
          refine z_if_lt (tgt := 69) hx hb dX1_product_40 (by decide) e35 (fun c40 => ?_) (fun c40 => ?_)
          · have _u := True.intro
            refine z_iinc (k := 4) (lv' := fun v => [(3, .int v), (4, .int v35), (0, .ref h0), (1, .int x1), (2, .int x2)]) hx hb dX1_product_69 hl rfl e_x3 (by decide) (by omega) (by omega) (by decide) (fun _ => rfl) (fun v69 ls e69 hl => ?_)
            refine lv_goto (tgt := 18) hx hb dX1_product_72 (by decide) ?_
            exact ih18 (i + 1) x2 v69 (by omega) (by omega) (by first | (rw [hx2, isum_s, cg_t (by omega) (by omega)]) | (rw [hx2, isum_s, cg_f (by omega), Int32.add_zero])) (Eq.trans e69 (by omega)) _ _ hP hS _ (lv_sub hl [2, 3, 4, 0] rfl)
          · have _u := True.intro
            refine lv_iload hx hb dX1_product_43 (lv_at hl 0 rfl) ?_
            refine lv_aload_n hx hb dX1_product_45 rfl (lv_at hl 1 rfl) ?_
            refine va_get (D := D) (ci := 0) (v := .int (nI w)) (C := RX1) (T := TX1) (N := 5) hx hb hts hin0 hown hK hP 0 rfl rfl 4 (by decide) hf_patternSize (fun _ h9 => h9) rfl dX1_product_46 ?_
            refine z_icmp_ge (tgt := 69) hx hb dX1_product_49 (by decide) e35 iww (fun c49 => ?_) (fun c49 => ?_)
            · have _u := True.intro
              refine z_iinc (k := 4) (lv' := fun v => [(3, .int v), (4, .int v35), (0, .ref h0), (1, .int x1), (2, .int x2)]) hx hb dX1_product_69 hl rfl e_x3 (by decide) (by omega) (by omega) (by decide) (fun _ => rfl) (fun v69 ls e69 hl => ?_)
              refine lv_goto (tgt := 18) hx hb dX1_product_72 (by decide) ?_
              exact ih18 (i + 1) x2 v69 (by omega) (by omega) (by first | (rw [hx2, isum_s, cg_t (by omega) (by omega)]) | (rw [hx2, isum_s, cg_f (by omega), Int32.add_zero])) (Eq.trans e69 (by omega)) _ _ hP hS _ (lv_sub hl [2, 3, 4, 0] rfl)
            · have _u := True.intro
              refine lv_iload_n hx hb dX1_product_52 rfl (lv_at hl 3 rfl) ?_
              refine lv_aload_n hx hb dX1_product_53 rfl (lv_at hl 1 rfl) ?_
              refine va_get (D := D) (ci := 0) (v := .ref h1) (C := RX1) (T := TX1) (N := 5) hx hb hts hin0 hown hK hP 0 rfl rfl 0 (by decide) hf_text (fun _ h9 => h9) rfl dX1_product_54 ?_
              refine lv_iload_n hx hb dX1_product_57 rfl (lv_at hl 4 rfl) ?_
              refine z_iald hx hb hK hP 1 0 rfl rfl (i) e_x3 (by omega) (by omega) dX1_product_58 ?_
              refine lv_aload_n hx hb dX1_product_59 rfl (lv_at hl 1 rfl) ?_
              refine va_get (D := D) (ci := 0) (v := .ref h2) (C := RX1) (T := TX1) (N := 5) hx hb hts hin0 hown hK hP 0 rfl rfl 1 (by decide) hf_pattern (fun _ h9 => h9) rfl dX1_product_60 ?_
              refine lv_iload hx hb dX1_product_63 (lv_at hl 0 rfl) ?_
              refine z_iald hx hb hK hP 2 1 rfl rfl (w + i - (k + 1)) e35 (by omega) (by omega) dX1_product_65 ?_
              refine lv_imul hx hb dX1_product_66 ?_
              refine lv_iadd hx hb dX1_product_67 ?_
              refine lv_istore_n (lv' := [(2, .int (x2 + ((T (i)) * (P (w + i - (k + 1)))))), (4, .int v35), (0, .ref h0), (1, .int x1), (3, .int x3)]) hx hb dX1_product_68 rfl hl (by decide) rfl (fun ls hl => ?_)
              refine z_iinc (k := 4) (lv' := fun v => [(3, .int v), (2, .int (x2 + ((T (i)) * (P (w + i - (k + 1)))))), (4, .int v35), (0, .ref h0), (1, .int x1)]) hx hb dX1_product_69 hl rfl e_x3 (by decide) (by omega) (by omega) (by decide) (fun _ => rfl) (fun v69 ls e69 hl => ?_)
              refine lv_goto (tgt := 18) hx hb dX1_product_72 (by decide) ?_
              exact ih18 (i + 1) (x2 + ((T (i)) * (P (w + i - (k + 1))))) v69 (by omega) (by omega) (by first | (rw [hx2, isum_s, cg_t (by omega) (by omega)]) | (rw [hx2, isum_s, cg_f (by omega), Int32.add_zero])) (Eq.trans e69 (by omega)) _ _ hP hS _ (lv_sub hl [3, 4, 1, 0] rfl)
    exact lp18 ((n - 0) + 1) (0) 0 0 (by omega) (by omega) (rfl) (Eq.trans (show (0 : Int32).toInt = 0 by decide) (by omega)) _ _ hP hS _ (lv_sub hl [2, 3, 1, 0] rfl)
  · have _u := True.intro
    exact xIAE_throw hx hb hlt hown hts (by decide +kernel) hE hS (hl.1.trans hml.symm) hnt dX1_product_4 dX1_product_7 dX1_product_8 dX1_product_10 dX1_product_13 (xS_70) (Nat.le_of_ble_eq_true rfl) (Nat.le_of_ble_eq_true rfl) (Nat.le_of_ble_eq_true rfl) (Nat.le_of_ble_eq_true rfl) hlocks (⟨rfl, by unfold kNeg; (repeat' split) <;> omega⟩) (fun z hz => hS.2.2 z hz) (Nat.le_of_ble_eq_true rfl) (Nat.le_of_ble_eq_true rfl)

set_option maxHeartbeats 4000000 in
set_option maxRecDepth 100000 in
theorem c_X1_difference (l : Launch) (hlt : l.stackTraces = false) (D : va_G) (E : Nat × Nat × Nat) (h0 h1 h2 h3 : Nat) (y1 y2 y3 : ClassId) (sz n w : Nat) (T P M : Nat → Int32) (hn : n ≤ 64) (hw : w ≤ 24) (hT : SymF T) (hPt : SymF P) (x1 : Int32) : vx_Met l yX1_difference wsX1_difference ({ frames := 7, cells := 1, slots := 6, locals := 111 }) (va_Pc [.ref h0, .int x1] (cp D (XW h0 h1 h2 h3 y1 y2 y3 (n) (w) T P M) (XT y1 y2 y3) E (va_A [] sz) sz)) (va_Qi (fun (r : Int32) (_ : Unit) => r.toInt = (isum (df T P x1.toInt.toNat) w).toInt ∧ kPl (pl n w) x1.toInt = 0) (fun _ _ => True) (va_A [] sz)) (tX (fun X => X = "java/lang/IndexOutOfBoundsException" ∧ kPl (pl n w) x1.toInt = 1) sz) 1 6 (va_A [] sz) := by
  refine vx_ofW (cc := cX1_difference) (maxL := 6) (ret := (some .int)) (by decide) rfl ?_
  intro p e s m args below meth c s₁ B hml hnt hv
  obtain ⟨rfl, hsz, hP, hK, hE⟩ := hv
  have hx := B.exec
  have hb := B.bytes
  have hr := B.returns
  have hts := atoms_spec (ws := wsX1_difference) B.pre
  have hown : s.vm.findClass RX1 = some m.cls := findClass_of_methodNamed B.named
  have hlocks := B.notSynchronized
  have hsz : s.heap.size = sz := hsz
  subst hsz
  have hA : ∀ q : Nat, s.heap.size ≤ q → (va_A [] s.heap.size) q := fun q h => Or.inr h
  have hS : va_S (va_A [] s.heap.size) s.heap s.heap [] := va_S.rf
  have inn : (nI n).toInt = (n : Int) := nI_toInt (by omega)
  have iww : (nI w).toInt = (w : Int) := nI_toInt (by omega)
  have hf_pattern := hts (.fieldLink RX1 13 "BlankMatcher" "pattern" "[I") (by decide +kernel)
  have hf_patternSize := hts (.fieldLink RX1 23 "BlankMatcher" "patternSize" "I") (by decide +kernel)
  have hf_text := hts (.fieldLink RX1 9 "BlankMatcher" "text" "[I") (by decide +kernel)
  have hpl : pl n w = n + 1 - w := rfl
  have hin0 : ∀ w ∈ wsX10, w ∈ wsX1_difference := by decide +kernel
  have g_x1 := rg x1
  have hl := lv_entry ([.ref h0, .int x1]) (n := 6) (Nat.le_of_ble_eq_true rfl)
  rw [lg_entry_eq]
  generalize (lg_sl ([.ref h0, .int x1]) ++ List.replicate (6 - (lg_sl ([.ref h0, .int x1])).length) Slot.unset).toArray = ls at hl ⊢
  have hl : lv_has ls 6 [(0, .ref h0), (1, .int x1)] := hl
  refine lv_aload_n hx hb dX1_difference_0 rfl (lv_at hl 0 rfl) ?_
  refine lv_iload_n hx hb dX1_difference_1 rfl (lv_at hl 1 rfl) ?_
  refine vx_callv (vx_runV (As := [.int x1]) (rest := []) ⟨hx, hb, hml, hown, hts⟩ (c_X1_requirePlace l hlt D E h0 h1 h2 h3 y1 y2 y3 s.heap.size (n) (w) T P M hn hw hT hPt x1) (cwV 1 hts gX1_difference_X1_requirePlace rfl rfl rfl (by decide +kernel) ⟨Nat.le_of_ble_eq_true rfl, Nat.le_of_ble_eq_true rfl⟩) ⟨cp.blind, va_recv hK hP (ci := 0) (q0 := 0) rfl rfl, fun U hU hW => ⟨rfl, cp.call hP hK hE hS (fr0 hS hA) hU hW⟩⟩ rfl rfl hl.1 rfl (lv_room (Nat.le_of_ble_eq_true rfl)) dX1_difference_2 ⟨Nat.le_of_ble_eq_true rfl, Nat.le_of_ble_eq_true rfl⟩) hS (fun q _ h => (fr0 hS hA) q h) (fr0 hS hA) (fun q _ h => fr0 hS hA q h) (fun X ce q9 u t H1 locs1 ht hvm _ hB hz1 hk1 hS hc1 hc2 hc3 => ?_) (fun u t H1 locs1 ht hvm e2 hB hz1 hk1 hS => ?_)
  · refine vx_out (fun x h => (hnt x h).elim) hlocks hc1 hc2 hc3 (fun t ht2 _ => tX.out hS ht2 (⟨hB.1, by have hB2 := hB.2; unfold kPl; (repeat' split) <;> omega⟩)) (fun z hz => hS.2.2 z hz) (Nat.le_of_ble_eq_true rfl) (Nat.le_of_ble_eq_true rfl)
  have hP := kp hP hk1
  generalize H1 = H at hP hS ⊢
  generalize locs1 = locs at hS ⊢
  obtain ⟨f2_0, f2_1⟩ := e2
  obtain ⟨o, eo⟩ : ∃ o : Nat, x1.toInt = (o : Int) := ⟨x1.toInt.toNat, by omega⟩
  have ho : o + w ≤ n := by omega
  have ho2 : x1.toInt.toNat = o := by omega
  refine lv_iconst (v := 0) hx hb dX1_difference_5 (by decide) ?_
  refine lv_istore_n (lv' := [(2, .int 0), (0, .ref h0), (1, .int x1)]) hx hb dX1_difference_6 rfl hl (by decide) rfl (fun ls hl => ?_)
  refine lv_iconst (v := 0) hx hb dX1_difference_7 (by decide) ?_
  refine lv_istore_n (lv' := [(3, .int 0), (2, .int 0), (0, .ref h0), (1, .int x1)]) hx hb dX1_difference_8 rfl hl (by decide) rfl (fun ls hl => ?_)
  have lp9 : ∀ (nf : Nat) (j : Nat) (x2 : Int32) (x3 : Int32), w - j < nf → (j ≤ w) → (x2 = isum (df T P o) j) → x3.toInt = (j : Int) → ∀ (H : Heap) (locs : List Loc), va_P D vwCl (XW h0 h1 h2 h3 y1 y2 y3 (n) (w) T P M) H → va_S (va_A [] s.heap.size) s.heap H locs → ∀ (ls : Array Slot), lv_has ls 6 [(0, .ref h0), (1, .int x1), (2, .int x2), (3, .int x3)] → W p l e (headSpec wsX1_difference ({ frames := 7, cells := 1, slots := 6, locals := 111 })).room s m [.ref h0, .int x1].toArray below meth c H locs 1 6 (vx_MQ below (va_Qi (fun (r : Int32) (_ : Unit) => r.toInt = (isum (df T P x1.toInt.toNat) w).toInt ∧ kPl (pl n w) x1.toInt = 0) (fun _ _ => True) (va_A [] s.heap.size)) (tX (fun X => X = "java/lang/IndexOutOfBoundsException" ∧ kPl (pl n w) x1.toInt = 1) s.heap.size) [.ref h0, .int x1].toArray s 1 6 (va_A [] s.heap.size)) (F0 m 9 ls []) := by
    intro nf
    induction nf with
    | zero => intros; omega
    | succ nf ih9 =>
      intro j x2 x3 hnf hj hx2 e_x3 H locs hP hS ls hl
      refine lv_iload_n hx hb dX1_difference_9 rfl (lv_at hl 3 rfl) ?_
      refine lv_aload_n hx hb dX1_difference_10 rfl (lv_at hl 0 rfl) ?_
      refine va_get (D := D) (ci := 0) (v := .int (nI w)) (C := RX1) (T := TX1) (N := 5) hx hb hts hin0 hown hK hP 0 rfl rfl 4 (by decide) hf_patternSize (fun _ h9 => h9) rfl dX1_difference_11 ?_
      refine z_icmp_ge (tgt := 61) hx hb dX1_difference_14 (by decide) e_x3 iww (fun c14 => ?_) (fun c14 => ?_)
      · have _u := True.intro
        have hj2 : j = w := by omega
        refine lv_iload_n hx hb dX1_difference_61 rfl (lv_at hl 2 rfl) ?_
        refine vx_ret ?_
        refine W.widen (k := 1) (n := 6) (Nat.le_of_ble_eq_true rfl) (Nat.le_of_ble_eq_true rfl) ?_
        exact W.iret (v := x2) hx hb hr (fun t ht hW => ⟨⟨_, (), rfl, ⟨(by rw [hx2, hj2, ho2]), by unfold kPl; (repeat' split) <;> omega⟩, trivial⟩, hS.F ht⟩) hS.2.2 dX1_difference_62
      · have _u := True.intro
        refine lv_aload_n hx hb dX1_difference_17 rfl (lv_at hl 0 rfl) ?_
        refine va_get (D := D) (ci := 0) (v := .ref h2) (C := RX1) (T := TX1) (N := 5) hx hb hts hin0 hown hK hP 0 rfl rfl 1 (by decide) hf_pattern (fun _ h9 => h9) rfl dX1_difference_18 ?_
        refine lv_iload_n hx hb dX1_difference_21 rfl (lv_at hl 3 rfl) ?_
        refine z_iald hx hb hK hP 2 1 rfl rfl (j) e_x3 (by omega) (by omega) dX1_difference_22 ?_
        refine lv_istore (lv' := [(4, .int (P (j))), (0, .ref h0), (1, .int x1), (2, .int x2), (3, .int x3)]) hx hb dX1_difference_23 hl (by decide) rfl (fun ls hl => ?_)
        refine lv_aload_n hx hb dX1_difference_25 rfl (lv_at hl 1 rfl) ?_
        refine va_get (D := D) (ci := 0) (v := .ref h1) (C := RX1) (T := TX1) (N := 5) hx hb hts hin0 hown hK hP 0 rfl rfl 0 (by decide) hf_text (fun _ h9 => h9) rfl dX1_difference_26 ?_
        refine lv_iload_n hx hb dX1_difference_29 rfl (lv_at hl 2 rfl) ?_
        refine lv_iload_n hx hb dX1_difference_30 rfl (lv_at hl 4 rfl) ?_
        refine z_iadd hx hb dX1_difference_31 rfl e_x3 (by omega) (by omega) (fun v31 e31 => ?_)
        refine z_iald hx hb hK hP 1 0 rfl rfl (o + j) e31 (by omega) (by omega) dX1_difference_32 ?_
        refine lv_istore (lv' := [(5, .int (T (o + j))), (4, .int (P (j))), (0, .ref h0), (1, .int x1), (2, .int x2), (3, .int x3)]) hx hb dX1_difference_33 hl (by decide) rfl (fun ls hl => ?_)
        refine lv_iload_n hx hb dX1_difference_35 rfl (lv_at hl 4 rfl) ?_
        refine lv_iload hx hb dX1_difference_36 (lv_at hl 1 rfl) ?_
        refine lv_iload hx hb dX1_difference_38 (lv_at hl 0 rfl) ?_
        refine lv_imul hx hb dX1_difference_40 ?_
        refine lv_iload hx hb dX1_difference_41 (lv_at hl 1 rfl) ?_
        refine lv_iload hx hb dX1_difference_43 (lv_at hl 0 rfl) ?_
        refine lv_isub hx hb dX1_difference_45 ?_
        refine lv_imul hx hb dX1_difference_46 ?_
        refine lv_iload hx hb dX1_difference_47 (lv_at hl 1 rfl) ?_
        refine lv_iload hx hb dX1_difference_49 (lv_at hl 0 rfl) ?_
        refine lv_isub hx hb dX1_difference_51 ?_
        refine lv_imul hx hb dX1_difference_52 ?_
        refine lv_iadd hx hb dX1_difference_53 ?_
        refine lv_istore_n (lv' := [(2, .int (x2 + ((((P (j)) * (T (o + j))) * ((P (j)) - (T (o + j)))) * ((P (j)) - (T (o + j)))))), (5, .int (T (o + j))), (4, .int (P (j))), (0, .ref h0), (1, .int x1), (3, .int x3)]) hx hb dX1_difference_54 rfl hl (by decide) rfl (fun ls hl => ?_)
        refine z_iinc (k := 5) (lv' := fun v => [(3, .int v), (2, .int (x2 + ((((P (j)) * (T (o + j))) * ((P (j)) - (T (o + j)))) * ((P (j)) - (T (o + j)))))), (5, .int (T (o + j))), (4, .int (P (j))), (0, .ref h0), (1, .int x1)]) hx hb dX1_difference_55 hl rfl e_x3 (by decide) (by omega) (by omega) (by decide) (fun _ => rfl) (fun v55 ls e55 hl => ?_)
        refine lv_goto (tgt := 9) hx hb dX1_difference_58 (by decide) ?_
        exact ih9 (j + 1) (x2 + ((((P (j)) * (T (o + j))) * ((P (j)) - (T (o + j)))) * ((P (j)) - (T (o + j))))) v55 (by omega) (by omega) (by rw [hx2]; rfl) (Eq.trans e55 (by omega)) _ _ hP hS _ (lv_sub hl [4, 5, 1, 0] rfl)
  exact lp9 ((w - 0) + 1) (0) 0 0 (by omega) (by omega) (rfl) (Eq.trans (show (0 : Int32).toInt = 0 by decide) (by omega)) _ _ hP hS _ (lv_sub hl [2, 3, 1, 0] rfl)

set_option maxHeartbeats 4000000 in
set_option maxRecDepth 100000 in
theorem c_X1_matches (l : Launch) (D : va_G) (E : Nat × Nat × Nat) (h0 h1 h2 h3 : Nat) (y1 y2 y3 : ClassId) (sz n w : Nat) (T P M : Nat → Int32) (hn : n ≤ 64) (hw : w ≤ 24) (hT : SymF T) (hPt : SymF P) (hEd : E.1 ≠ E.2.1 ∧ E.1 ≠ E.2.2 ∧ E.2.1 ≠ E.2.2) : Met l yX1_matches wsX1_matches ({ frames := 5, cells := 0, slots := 0, locals := 111 }) (va_Pc [.ref h0] (cp D (XW h0 h1 h2 h3 y1 y2 y3 (n) (w) T P M) (XT y1 y2 y3) E (va_A [] sz) sz)) (va_Qi (fun (r : Int32) (_ : Unit) => r.toInt = ((cnt (lik 0 T P w) (pl n w) : Nat) : Int)) (fun _ _ => True) (va_A [] sz)) 0 0 (va_A [] sz) := by
  refine Met.ofW (cc := cX1_matches) (maxL := 1) (ret := (some .int)) (by decide) rfl ?_
  intro p e s m args below meth c s₁ B hml hv
  obtain ⟨rfl, hsz, hP, hK, hE⟩ := hv
  have hx := B.exec
  have hb := B.bytes
  have hr := B.returns
  have hts := atoms_spec (ws := wsX1_matches) B.pre
  have hown : s.vm.findClass RX1 = some m.cls := findClass_of_methodNamed B.named
  have hlocks := B.notSynchronized
  have hsz : s.heap.size = sz := hsz
  subst hsz
  have hA : ∀ q : Nat, s.heap.size ≤ q → (va_A [] s.heap.size) q := fun q h => Or.inr h
  have hS : va_S (va_A [] s.heap.size) s.heap s.heap [] := va_S.rf
  have inn : (nI n).toInt = (n : Int) := nI_toInt (by omega)
  have iww : (nI w).toInt = (w : Int) := nI_toInt (by omega)
  have hpl : pl n w = n + 1 - w := rfl
  have hl := lv_entry ([.ref h0]) (n := 1) (Nat.le_of_ble_eq_true rfl)
  rw [lg_entry_eq]
  generalize (lg_sl ([.ref h0]) ++ List.replicate (1 - (lg_sl ([.ref h0])).length) Slot.unset).toArray = ls at hl ⊢
  have hl : lv_has ls 1 [(0, .ref h0)] := hl
  refine lv_aload_n hx hb dX1_matches_0 rfl (lv_at hl 0 rfl) ?_
  refine va_gets hx hb hE.2.2.2.1 hS hown (hts (.fieldLink RX1 75 "BlankMatcher$Likeness" "SYMBOLS" "LBlankMatcher$Likeness;") (by decide +kernel)) (fun _ h9 => h9) dX1_matches_1 ?_
  refine va_calli (va_runV (As := [.ref E.1]) (rest := []) ⟨hx, hb, hml, hown, hts⟩ (c_X1_countLike l D E h0 h1 h2 h3 y1 y2 y3 s.heap.size (n) (w) T P M hn hw hT hPt E.1 (0) (Or.inl ⟨rfl, rfl⟩) (hEd)) (cwV 1 hts gX1_matches_X1_countLike rfl rfl rfl (by decide +kernel) ⟨Nat.le_of_ble_eq_true rfl, Nat.le_of_ble_eq_true rfl⟩) ⟨cp.blind, va_recv hK hP (ci := 0) (q0 := 0) rfl rfl, fun U hU hW => ⟨rfl, cp.call hP hK hE hS (fr0 hS hA) hU hW⟩⟩ rfl rfl hl.1 rfl (lv_room (Nat.le_of_ble_eq_true rfl)) dX1_matches_4 ⟨Nat.le_of_ble_eq_true rfl, Nat.le_of_ble_eq_true rfl⟩) hS (fun q _ h => (fr0 hS hA) q h) (fr0 hS hA) (fun v4 u t H1 locs1 ht hvm e4 hB hz1 hk1 hS => ?_)
  have hP := kp hP hk1
  generalize H1 = H at hP hS ⊢
  generalize locs1 = locs at hS ⊢
  refine W.widen (k := 0) (n := 0) (Nat.le_of_ble_eq_true rfl) (Nat.le_of_ble_eq_true rfl) ?_
  exact W.iret (v := v4) hx hb hr (fun t ht hW => ⟨⟨_, (), rfl, (Eq.trans e4 (by omega)), trivial⟩, hS.F ht⟩) hS.2.2 dX1_matches_7

set_option maxHeartbeats 4000000 in
set_option maxRecDepth 100000 in
theorem c_X1_match (l : Launch) (hlt : l.stackTraces = false) (D : va_G) (E : Nat × Nat × Nat) (h0 h1 h2 h3 : Nat) (y1 y2 y3 : ClassId) (sz n w : Nat) (T P M : Nat → Int32) (hn : n ≤ 64) (hw : w ≤ 24) (hT : SymF T) (hPt : SymF P) (x1 : Int32) (hEd : E.1 ≠ E.2.1 ∧ E.1 ≠ E.2.2 ∧ E.2.1 ≠ E.2.2) : vx_Met l yX1_match wsX1_match ({ frames := 7, cells := 1, slots := 6, locals := 135 }) (va_Pc [.ref h0, .int x1] (cp D (XW h0 h1 h2 h3 y1 y2 y3 (n) (w) T P M) (XT y1 y2 y3) E (va_A [] sz) sz)) (va_Qi (fun (r : Int32) (_ : Unit) => r.toInt = fnd 0 T P w n x1.toInt ∧ kMt 0 T P w n x1.toInt = 0) (fun _ _ => True) (va_A [] sz)) (tX (fun X => X = "java/lang/IndexOutOfBoundsException" ∧ kMt 0 T P w n x1.toInt = 1) sz) 1 6 (va_A [] sz) := by
  refine vx_ofW (cc := cX1_match) (maxL := 2) (ret := (some .int)) (by decide) rfl ?_
  intro p e s m args below meth c s₁ B hml hnt hv
  obtain ⟨rfl, hsz, hP, hK, hE⟩ := hv
  have hx := B.exec
  have hb := B.bytes
  have hr := B.returns
  have hts := atoms_spec (ws := wsX1_match) B.pre
  have hown : s.vm.findClass RX1 = some m.cls := findClass_of_methodNamed B.named
  have hlocks := B.notSynchronized
  have hsz : s.heap.size = sz := hsz
  subst hsz
  have hA : ∀ q : Nat, s.heap.size ≤ q → (va_A [] s.heap.size) q := fun q h => Or.inr h
  have hS : va_S (va_A [] s.heap.size) s.heap s.heap [] := va_S.rf
  have inn : (nI n).toInt = (n : Int) := nI_toInt (by omega)
  have iww : (nI w).toInt = (w : Int) := nI_toInt (by omega)
  have hpl : pl n w = n + 1 - w := rfl
  have g_x1 := rg x1
  have hl := lv_entry ([.ref h0, .int x1]) (n := 2) (Nat.le_of_ble_eq_true rfl)
  rw [lg_entry_eq]
  generalize (lg_sl ([.ref h0, .int x1]) ++ List.replicate (2 - (lg_sl ([.ref h0, .int x1])).length) Slot.unset).toArray = ls at hl ⊢
  have hl : lv_has ls 2 [(0, .ref h0), (1, .int x1)] := hl
  refine lv_aload_n hx hb dX1_match_0 rfl (lv_at hl 0 rfl) ?_
  refine va_gets hx hb hE.2.2.2.1 hS hown (hts (.fieldLink RX1 75 "BlankMatcher$Likeness" "SYMBOLS" "LBlankMatcher$Likeness;") (by decide +kernel)) (fun _ h9 => h9) dX1_match_1 ?_
  refine lv_iload_n hx hb dX1_match_4 rfl (lv_at hl 1 rfl) ?_
  refine vx_calli (vx_runV (As := [.ref E.1, .int x1]) (rest := []) ⟨hx, hb, hml, hown, hts⟩ (c_X1_requireLike l hlt D E h0 h1 h2 h3 y1 y2 y3 s.heap.size (n) (w) T P M hn hw hT hPt E.1 x1 (0) (Or.inl ⟨rfl, rfl⟩) (hEd)) (cwV 2 hts gX1_match_X1_requireLike rfl rfl rfl (by decide +kernel) ⟨Nat.le_of_ble_eq_true rfl, Nat.le_of_ble_eq_true rfl⟩) ⟨cp.blind, va_recv hK hP (ci := 0) (q0 := 0) rfl rfl, fun U hU hW => ⟨rfl, cp.call hP hK hE hS (fr0 hS hA) hU hW⟩⟩ rfl rfl hl.1 rfl (lv_room (Nat.le_of_ble_eq_true rfl)) dX1_match_5 ⟨Nat.le_of_ble_eq_true rfl, Nat.le_of_ble_eq_true rfl⟩) hS (fun q _ h => (fr0 hS hA) q h) (fr0 hS hA) (fun q _ h => fr0 hS hA q h) (fun X ce q9 u t H1 locs1 ht hvm _ hB hz1 hk1 hS hc1 hc2 hc3 => ?_) (fun v5 u t H1 locs1 ht hvm e5 hB hz1 hk1 hS => ?_)
  · refine vx_out (fun x h => (hnt x h).elim) hlocks hc1 hc2 hc3 (fun t ht2 _ => tX.out hS ht2 (⟨hB.1, fnd_k1 hB.2⟩)) (fun z hz => hS.2.2 z hz) (Nat.le_of_ble_eq_true rfl) (Nat.le_of_ble_eq_true rfl)
  have hP := kp hP hk1
  generalize H1 = H at hP hS ⊢
  generalize locs1 = locs at hS ⊢
  obtain ⟨e5, f5_0⟩ := e5
  refine vx_ret ?_
  refine W.widen (k := 1) (n := 6) (Nat.le_of_ble_eq_true rfl) (Nat.le_of_ble_eq_true rfl) ?_
  exact W.iret (v := v5) hx hb hr (fun t ht hW => ⟨⟨_, (), rfl, ⟨(Eq.trans e5 (by omega)), fnd_k0 f5_0⟩, trivial⟩, hS.F ht⟩) hS.2.2 dX1_match_8

set_option maxHeartbeats 4000000 in
set_option maxRecDepth 100000 in
theorem c_X1_sumMatches (l : Launch) (D : va_G) (E : Nat × Nat × Nat) (h0 h1 h2 h3 : Nat) (y1 y2 y3 : ClassId) (sz n w : Nat) (T P M : Nat → Int32) (hn : n ≤ 64) (hw : w ≤ 24) (hT : SymF T) (hPt : SymF P) (hEd : E.1 ≠ E.2.1 ∧ E.1 ≠ E.2.2 ∧ E.2.1 ≠ E.2.2) : Met l yX1_sumMatches wsX1_sumMatches ({ frames := 5, cells := 0, slots := 0, locals := 111 }) (va_Pc [.ref h0] (cp D (XW h0 h1 h2 h3 y1 y2 y3 (n) (w) T P M) (XT y1 y2 y3) E (va_A [] sz) sz)) (va_Qi (fun (r : Int32) (_ : Unit) => r.toInt = ((cnt (lik 1 T P w) (pl n w) : Nat) : Int)) (fun _ _ => True) (va_A [] sz)) 0 0 (va_A [] sz) := by
  refine Met.ofW (cc := cX1_sumMatches) (maxL := 1) (ret := (some .int)) (by decide) rfl ?_
  intro p e s m args below meth c s₁ B hml hv
  obtain ⟨rfl, hsz, hP, hK, hE⟩ := hv
  have hx := B.exec
  have hb := B.bytes
  have hr := B.returns
  have hts := atoms_spec (ws := wsX1_sumMatches) B.pre
  have hown : s.vm.findClass RX1 = some m.cls := findClass_of_methodNamed B.named
  have hlocks := B.notSynchronized
  have hsz : s.heap.size = sz := hsz
  subst hsz
  have hA : ∀ q : Nat, s.heap.size ≤ q → (va_A [] s.heap.size) q := fun q h => Or.inr h
  have hS : va_S (va_A [] s.heap.size) s.heap s.heap [] := va_S.rf
  have inn : (nI n).toInt = (n : Int) := nI_toInt (by omega)
  have iww : (nI w).toInt = (w : Int) := nI_toInt (by omega)
  have hpl : pl n w = n + 1 - w := rfl
  have hl := lv_entry ([.ref h0]) (n := 1) (Nat.le_of_ble_eq_true rfl)
  rw [lg_entry_eq]
  generalize (lg_sl ([.ref h0]) ++ List.replicate (1 - (lg_sl ([.ref h0])).length) Slot.unset).toArray = ls at hl ⊢
  have hl : lv_has ls 1 [(0, .ref h0)] := hl
  refine lv_aload_n hx hb dX1_sumMatches_0 rfl (lv_at hl 0 rfl) ?_
  refine va_gets hx hb hE.2.2.2.2.1 hS hown (hts (.fieldLink RX1 134 "BlankMatcher$Likeness" "SUM" "LBlankMatcher$Likeness;") (by decide +kernel)) (fun _ h9 => h9) dX1_sumMatches_1 ?_
  refine va_calli (va_runV (As := [.ref E.2.1]) (rest := []) ⟨hx, hb, hml, hown, hts⟩ (c_X1_countLike l D E h0 h1 h2 h3 y1 y2 y3 s.heap.size (n) (w) T P M hn hw hT hPt E.2.1 (1) (Or.inr (Or.inl ⟨rfl, rfl⟩)) (hEd)) (cwV 1 hts gX1_sumMatches_X1_countLike rfl rfl rfl (by decide +kernel) ⟨Nat.le_of_ble_eq_true rfl, Nat.le_of_ble_eq_true rfl⟩) ⟨cp.blind, va_recv hK hP (ci := 0) (q0 := 0) rfl rfl, fun U hU hW => ⟨rfl, cp.call hP hK hE hS (fr0 hS hA) hU hW⟩⟩ rfl rfl hl.1 rfl (lv_room (Nat.le_of_ble_eq_true rfl)) dX1_sumMatches_4 ⟨Nat.le_of_ble_eq_true rfl, Nat.le_of_ble_eq_true rfl⟩) hS (fun q _ h => (fr0 hS hA) q h) (fr0 hS hA) (fun v4 u t H1 locs1 ht hvm e4 hB hz1 hk1 hS => ?_)
  have hP := kp hP hk1
  generalize H1 = H at hP hS ⊢
  generalize locs1 = locs at hS ⊢
  refine W.widen (k := 0) (n := 0) (Nat.le_of_ble_eq_true rfl) (Nat.le_of_ble_eq_true rfl) ?_
  exact W.iret (v := v4) hx hb hr (fun t ht hW => ⟨⟨_, (), rfl, (Eq.trans e4 (by omega)), trivial⟩, hS.F ht⟩) hS.2.2 dX1_sumMatches_7

set_option maxHeartbeats 4000000 in
set_option maxRecDepth 100000 in
theorem c_X1_sumMatch (l : Launch) (hlt : l.stackTraces = false) (D : va_G) (E : Nat × Nat × Nat) (h0 h1 h2 h3 : Nat) (y1 y2 y3 : ClassId) (sz n w : Nat) (T P M : Nat → Int32) (hn : n ≤ 64) (hw : w ≤ 24) (hT : SymF T) (hPt : SymF P) (x1 : Int32) (hEd : E.1 ≠ E.2.1 ∧ E.1 ≠ E.2.2 ∧ E.2.1 ≠ E.2.2) : vx_Met l yX1_sumMatch wsX1_sumMatch ({ frames := 7, cells := 1, slots := 6, locals := 135 }) (va_Pc [.ref h0, .int x1] (cp D (XW h0 h1 h2 h3 y1 y2 y3 (n) (w) T P M) (XT y1 y2 y3) E (va_A [] sz) sz)) (va_Qi (fun (r : Int32) (_ : Unit) => r.toInt = fnd 1 T P w n x1.toInt ∧ kMt 1 T P w n x1.toInt = 0) (fun _ _ => True) (va_A [] sz)) (tX (fun X => X = "java/lang/IndexOutOfBoundsException" ∧ kMt 1 T P w n x1.toInt = 1) sz) 1 6 (va_A [] sz) := by
  refine vx_ofW (cc := cX1_sumMatch) (maxL := 2) (ret := (some .int)) (by decide) rfl ?_
  intro p e s m args below meth c s₁ B hml hnt hv
  obtain ⟨rfl, hsz, hP, hK, hE⟩ := hv
  have hx := B.exec
  have hb := B.bytes
  have hr := B.returns
  have hts := atoms_spec (ws := wsX1_sumMatch) B.pre
  have hown : s.vm.findClass RX1 = some m.cls := findClass_of_methodNamed B.named
  have hlocks := B.notSynchronized
  have hsz : s.heap.size = sz := hsz
  subst hsz
  have hA : ∀ q : Nat, s.heap.size ≤ q → (va_A [] s.heap.size) q := fun q h => Or.inr h
  have hS : va_S (va_A [] s.heap.size) s.heap s.heap [] := va_S.rf
  have inn : (nI n).toInt = (n : Int) := nI_toInt (by omega)
  have iww : (nI w).toInt = (w : Int) := nI_toInt (by omega)
  have hpl : pl n w = n + 1 - w := rfl
  have g_x1 := rg x1
  have hl := lv_entry ([.ref h0, .int x1]) (n := 2) (Nat.le_of_ble_eq_true rfl)
  rw [lg_entry_eq]
  generalize (lg_sl ([.ref h0, .int x1]) ++ List.replicate (2 - (lg_sl ([.ref h0, .int x1])).length) Slot.unset).toArray = ls at hl ⊢
  have hl : lv_has ls 2 [(0, .ref h0), (1, .int x1)] := hl
  refine lv_aload_n hx hb dX1_sumMatch_0 rfl (lv_at hl 0 rfl) ?_
  refine va_gets hx hb hE.2.2.2.2.1 hS hown (hts (.fieldLink RX1 134 "BlankMatcher$Likeness" "SUM" "LBlankMatcher$Likeness;") (by decide +kernel)) (fun _ h9 => h9) dX1_sumMatch_1 ?_
  refine lv_iload_n hx hb dX1_sumMatch_4 rfl (lv_at hl 1 rfl) ?_
  refine vx_calli (vx_runV (As := [.ref E.2.1, .int x1]) (rest := []) ⟨hx, hb, hml, hown, hts⟩ (c_X1_requireLike l hlt D E h0 h1 h2 h3 y1 y2 y3 s.heap.size (n) (w) T P M hn hw hT hPt E.2.1 x1 (1) (Or.inr (Or.inl ⟨rfl, rfl⟩)) (hEd)) (cwV 2 hts gX1_sumMatch_X1_requireLike rfl rfl rfl (by decide +kernel) ⟨Nat.le_of_ble_eq_true rfl, Nat.le_of_ble_eq_true rfl⟩) ⟨cp.blind, va_recv hK hP (ci := 0) (q0 := 0) rfl rfl, fun U hU hW => ⟨rfl, cp.call hP hK hE hS (fr0 hS hA) hU hW⟩⟩ rfl rfl hl.1 rfl (lv_room (Nat.le_of_ble_eq_true rfl)) dX1_sumMatch_5 ⟨Nat.le_of_ble_eq_true rfl, Nat.le_of_ble_eq_true rfl⟩) hS (fun q _ h => (fr0 hS hA) q h) (fr0 hS hA) (fun q _ h => fr0 hS hA q h) (fun X ce q9 u t H1 locs1 ht hvm _ hB hz1 hk1 hS hc1 hc2 hc3 => ?_) (fun v5 u t H1 locs1 ht hvm e5 hB hz1 hk1 hS => ?_)
  · refine vx_out (fun x h => (hnt x h).elim) hlocks hc1 hc2 hc3 (fun t ht2 _ => tX.out hS ht2 (⟨hB.1, fnd_k1 hB.2⟩)) (fun z hz => hS.2.2 z hz) (Nat.le_of_ble_eq_true rfl) (Nat.le_of_ble_eq_true rfl)
  have hP := kp hP hk1
  generalize H1 = H at hP hS ⊢
  generalize locs1 = locs at hS ⊢
  obtain ⟨e5, f5_0⟩ := e5
  refine vx_ret ?_
  refine W.widen (k := 1) (n := 6) (Nat.le_of_ble_eq_true rfl) (Nat.le_of_ble_eq_true rfl) ?_
  exact W.iret (v := v5) hx hb hr (fun t ht hW => ⟨⟨_, (), rfl, ⟨(Eq.trans e5 (by omega)), fnd_k0 f5_0⟩, trivial⟩, hS.F ht⟩) hS.2.2 dX1_sumMatch_8

set_option maxHeartbeats 4000000 in
set_option maxRecDepth 100000 in
theorem c_X1_orderMatches (l : Launch) (D : va_G) (E : Nat × Nat × Nat) (h0 h1 h2 h3 : Nat) (y1 y2 y3 : ClassId) (sz n w : Nat) (T P M : Nat → Int32) (hn : n ≤ 64) (hw : w ≤ 24) (hT : SymF T) (hPt : SymF P) (hEd : E.1 ≠ E.2.1 ∧ E.1 ≠ E.2.2 ∧ E.2.1 ≠ E.2.2) : Met l yX1_orderMatches wsX1_orderMatches ({ frames := 5, cells := 0, slots := 0, locals := 111 }) (va_Pc [.ref h0] (cp D (XW h0 h1 h2 h3 y1 y2 y3 (n) (w) T P M) (XT y1 y2 y3) E (va_A [] sz) sz)) (va_Qi (fun (r : Int32) (_ : Unit) => r.toInt = ((cnt (lik 2 T P w) (pl n w) : Nat) : Int)) (fun _ _ => True) (va_A [] sz)) 0 0 (va_A [] sz) := by
  refine Met.ofW (cc := cX1_orderMatches) (maxL := 1) (ret := (some .int)) (by decide) rfl ?_
  intro p e s m args below meth c s₁ B hml hv
  obtain ⟨rfl, hsz, hP, hK, hE⟩ := hv
  have hx := B.exec
  have hb := B.bytes
  have hr := B.returns
  have hts := atoms_spec (ws := wsX1_orderMatches) B.pre
  have hown : s.vm.findClass RX1 = some m.cls := findClass_of_methodNamed B.named
  have hlocks := B.notSynchronized
  have hsz : s.heap.size = sz := hsz
  subst hsz
  have hA : ∀ q : Nat, s.heap.size ≤ q → (va_A [] s.heap.size) q := fun q h => Or.inr h
  have hS : va_S (va_A [] s.heap.size) s.heap s.heap [] := va_S.rf
  have inn : (nI n).toInt = (n : Int) := nI_toInt (by omega)
  have iww : (nI w).toInt = (w : Int) := nI_toInt (by omega)
  have hpl : pl n w = n + 1 - w := rfl
  have hl := lv_entry ([.ref h0]) (n := 1) (Nat.le_of_ble_eq_true rfl)
  rw [lg_entry_eq]
  generalize (lg_sl ([.ref h0]) ++ List.replicate (1 - (lg_sl ([.ref h0])).length) Slot.unset).toArray = ls at hl ⊢
  have hl : lv_has ls 1 [(0, .ref h0)] := hl
  refine lv_aload_n hx hb dX1_orderMatches_0 rfl (lv_at hl 0 rfl) ?_
  refine va_gets hx hb hE.2.2.2.2.2 hS hown (hts (.fieldLink RX1 137 "BlankMatcher$Likeness" "ORDER" "LBlankMatcher$Likeness;") (by decide +kernel)) (fun _ h9 => h9) dX1_orderMatches_1 ?_
  refine va_calli (va_runV (As := [.ref E.2.2]) (rest := []) ⟨hx, hb, hml, hown, hts⟩ (c_X1_countLike l D E h0 h1 h2 h3 y1 y2 y3 s.heap.size (n) (w) T P M hn hw hT hPt E.2.2 (2) (Or.inr (Or.inr ⟨rfl, rfl⟩)) (hEd)) (cwV 1 hts gX1_orderMatches_X1_countLike rfl rfl rfl (by decide +kernel) ⟨Nat.le_of_ble_eq_true rfl, Nat.le_of_ble_eq_true rfl⟩) ⟨cp.blind, va_recv hK hP (ci := 0) (q0 := 0) rfl rfl, fun U hU hW => ⟨rfl, cp.call hP hK hE hS (fr0 hS hA) hU hW⟩⟩ rfl rfl hl.1 rfl (lv_room (Nat.le_of_ble_eq_true rfl)) dX1_orderMatches_4 ⟨Nat.le_of_ble_eq_true rfl, Nat.le_of_ble_eq_true rfl⟩) hS (fun q _ h => (fr0 hS hA) q h) (fr0 hS hA) (fun v4 u t H1 locs1 ht hvm e4 hB hz1 hk1 hS => ?_)
  have hP := kp hP hk1
  generalize H1 = H at hP hS ⊢
  generalize locs1 = locs at hS ⊢
  refine W.widen (k := 0) (n := 0) (Nat.le_of_ble_eq_true rfl) (Nat.le_of_ble_eq_true rfl) ?_
  exact W.iret (v := v4) hx hb hr (fun t ht hW => ⟨⟨_, (), rfl, (Eq.trans e4 (by omega)), trivial⟩, hS.F ht⟩) hS.2.2 dX1_orderMatches_7

set_option maxHeartbeats 4000000 in
set_option maxRecDepth 100000 in
theorem c_X1_orderMatch (l : Launch) (hlt : l.stackTraces = false) (D : va_G) (E : Nat × Nat × Nat) (h0 h1 h2 h3 : Nat) (y1 y2 y3 : ClassId) (sz n w : Nat) (T P M : Nat → Int32) (hn : n ≤ 64) (hw : w ≤ 24) (hT : SymF T) (hPt : SymF P) (x1 : Int32) (hEd : E.1 ≠ E.2.1 ∧ E.1 ≠ E.2.2 ∧ E.2.1 ≠ E.2.2) : vx_Met l yX1_orderMatch wsX1_orderMatch ({ frames := 7, cells := 1, slots := 6, locals := 135 }) (va_Pc [.ref h0, .int x1] (cp D (XW h0 h1 h2 h3 y1 y2 y3 (n) (w) T P M) (XT y1 y2 y3) E (va_A [] sz) sz)) (va_Qi (fun (r : Int32) (_ : Unit) => r.toInt = fnd 2 T P w n x1.toInt ∧ kMt 2 T P w n x1.toInt = 0) (fun _ _ => True) (va_A [] sz)) (tX (fun X => X = "java/lang/IndexOutOfBoundsException" ∧ kMt 2 T P w n x1.toInt = 1) sz) 1 6 (va_A [] sz) := by
  refine vx_ofW (cc := cX1_orderMatch) (maxL := 2) (ret := (some .int)) (by decide) rfl ?_
  intro p e s m args below meth c s₁ B hml hnt hv
  obtain ⟨rfl, hsz, hP, hK, hE⟩ := hv
  have hx := B.exec
  have hb := B.bytes
  have hr := B.returns
  have hts := atoms_spec (ws := wsX1_orderMatch) B.pre
  have hown : s.vm.findClass RX1 = some m.cls := findClass_of_methodNamed B.named
  have hlocks := B.notSynchronized
  have hsz : s.heap.size = sz := hsz
  subst hsz
  have hA : ∀ q : Nat, s.heap.size ≤ q → (va_A [] s.heap.size) q := fun q h => Or.inr h
  have hS : va_S (va_A [] s.heap.size) s.heap s.heap [] := va_S.rf
  have inn : (nI n).toInt = (n : Int) := nI_toInt (by omega)
  have iww : (nI w).toInt = (w : Int) := nI_toInt (by omega)
  have hpl : pl n w = n + 1 - w := rfl
  have g_x1 := rg x1
  have hl := lv_entry ([.ref h0, .int x1]) (n := 2) (Nat.le_of_ble_eq_true rfl)
  rw [lg_entry_eq]
  generalize (lg_sl ([.ref h0, .int x1]) ++ List.replicate (2 - (lg_sl ([.ref h0, .int x1])).length) Slot.unset).toArray = ls at hl ⊢
  have hl : lv_has ls 2 [(0, .ref h0), (1, .int x1)] := hl
  refine lv_aload_n hx hb dX1_orderMatch_0 rfl (lv_at hl 0 rfl) ?_
  refine va_gets hx hb hE.2.2.2.2.2 hS hown (hts (.fieldLink RX1 137 "BlankMatcher$Likeness" "ORDER" "LBlankMatcher$Likeness;") (by decide +kernel)) (fun _ h9 => h9) dX1_orderMatch_1 ?_
  refine lv_iload_n hx hb dX1_orderMatch_4 rfl (lv_at hl 1 rfl) ?_
  refine vx_calli (vx_runV (As := [.ref E.2.2, .int x1]) (rest := []) ⟨hx, hb, hml, hown, hts⟩ (c_X1_requireLike l hlt D E h0 h1 h2 h3 y1 y2 y3 s.heap.size (n) (w) T P M hn hw hT hPt E.2.2 x1 (2) (Or.inr (Or.inr ⟨rfl, rfl⟩)) (hEd)) (cwV 2 hts gX1_orderMatch_X1_requireLike rfl rfl rfl (by decide +kernel) ⟨Nat.le_of_ble_eq_true rfl, Nat.le_of_ble_eq_true rfl⟩) ⟨cp.blind, va_recv hK hP (ci := 0) (q0 := 0) rfl rfl, fun U hU hW => ⟨rfl, cp.call hP hK hE hS (fr0 hS hA) hU hW⟩⟩ rfl rfl hl.1 rfl (lv_room (Nat.le_of_ble_eq_true rfl)) dX1_orderMatch_5 ⟨Nat.le_of_ble_eq_true rfl, Nat.le_of_ble_eq_true rfl⟩) hS (fun q _ h => (fr0 hS hA) q h) (fr0 hS hA) (fun q _ h => fr0 hS hA q h) (fun X ce q9 u t H1 locs1 ht hvm _ hB hz1 hk1 hS hc1 hc2 hc3 => ?_) (fun v5 u t H1 locs1 ht hvm e5 hB hz1 hk1 hS => ?_)
  · refine vx_out (fun x h => (hnt x h).elim) hlocks hc1 hc2 hc3 (fun t ht2 _ => tX.out hS ht2 (⟨hB.1, fnd_k1 hB.2⟩)) (fun z hz => hS.2.2 z hz) (Nat.le_of_ble_eq_true rfl) (Nat.le_of_ble_eq_true rfl)
  have hP := kp hP hk1
  generalize H1 = H at hP hS ⊢
  generalize locs1 = locs at hS ⊢
  obtain ⟨e5, f5_0⟩ := e5
  refine vx_ret ?_
  refine W.widen (k := 1) (n := 6) (Nat.le_of_ble_eq_true rfl) (Nat.le_of_ble_eq_true rfl) ?_
  exact W.iret (v := v5) hx hb hr (fun t ht hW => ⟨⟨_, (), rfl, ⟨(Eq.trans e5 (by omega)), fnd_k0 f5_0⟩, trivial⟩, hS.F ht⟩) hS.2.2 dX1_orderMatch_8

set_option maxHeartbeats 4000000 in
set_option maxRecDepth 100000 in
theorem c_X1_apart (l : Launch) (D : va_G) (E : Nat × Nat × Nat) (h0 h1 h2 h3 : Nat) (y1 y2 y3 : ClassId) (sz n w : Nat) (T P M : Nat → Int32) (hn : n ≤ 64) (hw : w ≤ 24) (hT : SymF T) (hPt : SymF P) : Met l yX1_apart wsX1_apart ({ frames := 3, cells := 0, slots := 0, locals := 65 }) (va_Pc [.ref h0] (cp D (XW h0 h1 h2 h3 y1 y2 y3 (n) (w) T P M) (XT y1 y2 y3) E (va_A [] sz) sz)) (va_Qi (fun (r : Int32) (_ : Unit) => r.toInt = (((apk (lik 0 T P w) w (pl n w)).1 : Nat) : Int)) (fun _ _ => True) (va_A [] sz)) 0 0 (va_A [] sz) := by
  refine Met.ofW (cc := cX1_apart) (maxL := 5) (ret := (some .int)) (by decide) rfl ?_
  intro p e s m args below meth c s₁ B hml hv
  obtain ⟨rfl, hsz, hP, hK, hE⟩ := hv
  have hx := B.exec
  have hb := B.bytes
  have hr := B.returns
  have hts := atoms_spec (ws := wsX1_apart) B.pre
  have hown : s.vm.findClass RX1 = some m.cls := findClass_of_methodNamed B.named
  have hlocks := B.notSynchronized
  have hsz : s.heap.size = sz := hsz
  subst hsz
  have hA : ∀ q : Nat, s.heap.size ≤ q → (va_A [] s.heap.size) q := fun q h => Or.inr h
  have hS : va_S (va_A [] s.heap.size) s.heap s.heap [] := va_S.rf
  have inn : (nI n).toInt = (n : Int) := nI_toInt (by omega)
  have iww : (nI w).toInt = (w : Int) := nI_toInt (by omega)
  have hf_patternSize := hts (.fieldLink RX1 23 "BlankMatcher" "patternSize" "I") (by decide +kernel)
  have hpl : pl n w = n + 1 - w := rfl
  have hin0 : ∀ w ∈ wsX10, w ∈ wsX1_apart := by decide +kernel
  have hl := lv_entry ([.ref h0]) (n := 5) (Nat.le_of_ble_eq_true rfl)
  rw [lg_entry_eq]
  generalize (lg_sl ([.ref h0]) ++ List.replicate (5 - (lg_sl ([.ref h0])).length) Slot.unset).toArray = ls at hl ⊢
  have hl : lv_has ls 5 [(0, .ref h0)] := hl
  refine lv_aload_n hx hb dX1_apart_0 rfl (lv_at hl 0 rfl) ?_
  refine va_calli (va_runV (As := []) (rest := []) ⟨hx, hb, hml, hown, hts⟩ (c_X1_places l D E h0 h1 h2 h3 y1 y2 y3 s.heap.size (n) (w) T P M hn hw hT hPt) (cwV 0 hts gX1_apart_X1_places rfl rfl rfl (by decide +kernel) ⟨Nat.le_of_ble_eq_true rfl, Nat.le_of_ble_eq_true rfl⟩) ⟨cp.blind, va_recv hK hP (ci := 0) (q0 := 0) rfl rfl, fun U hU hW => ⟨rfl, cp.call hP hK hE hS (fr0 hS hA) hU hW⟩⟩ rfl rfl hl.1 rfl (lv_room (Nat.le_of_ble_eq_true rfl)) dX1_apart_1 ⟨Nat.le_of_ble_eq_true rfl, Nat.le_of_ble_eq_true rfl⟩) hS (fun q _ h => (fr0 hS hA) q h) (fr0 hS hA) (fun v1 u t H1 locs1 ht hvm e1 hB hz1 hk1 hS => ?_)
  have hP := kp hP hk1
  generalize H1 = H at hP hS ⊢
  generalize locs1 = locs at hS ⊢
  refine lv_istore_n (lv' := [(1, .int v1), (0, .ref h0)]) hx hb dX1_apart_4 rfl hl (by decide) rfl (fun ls hl => ?_)
  refine lv_iconst (v := 1) hx hb dX1_apart_5 (by decide) ?_
  refine lv_aload_n hx hb dX1_apart_6 rfl (lv_at hl 1 rfl) ?_
  refine va_get (D := D) (ci := 0) (v := .int (nI w)) (C := RX1) (T := TX1) (N := 5) hx hb hts hin0 hown hK hP 0 rfl rfl 4 (by decide) hf_patternSize (fun _ h9 => h9) rfl dX1_apart_7 ?_
  refine va_mmax hx hb (by rw [hml]; exact hl.1.symm) hown (hts (.methodLink RX1 92 Lib.Math.max.name) (by decide +kernel)) (hts (.static Lib.Math.max.name) (by decide +kernel)) (hts (.initialized "java/lang/Math") (by decide +kernel)) (hts (.code Lib.Math.max.name Lib.Math.max.code 2 (some .int)) (by decide +kernel)) (Nat.le_of_ble_eq_true rfl) (Nat.le_of_ble_eq_true rfl) (Nat.le_of_ble_eq_true rfl) (Nat.le_of_ble_eq_true rfl) dX1_apart_10 ?_
  refine lv_topi (fun v10 q10 => ?_)
  have e10 : v10.toInt = ((max 1 w : Nat) : Int) := by
    rw [q10]; split <;> rename_i h <;> rw [zlt (show (1 : Int32).toInt = 1 by decide) iww] at h <;> first | (rw [iww]; omega) | (rw [show (1 : Int32).toInt = 1 by decide]; omega)
  refine lv_istore_n (lv' := [(2, .int v10), (1, .int v1), (0, .ref h0)]) hx hb dX1_apart_13 rfl hl (by decide) rfl (fun ls hl => ?_)
  refine lv_iconst (v := 0) hx hb dX1_apart_14 (by decide) ?_
  refine lv_istore_n (lv' := [(3, .int 0), (2, .int v10), (1, .int v1), (0, .ref h0)]) hx hb dX1_apart_15 rfl hl (by decide) rfl (fun ls hl => ?_)
  refine lv_iconst (v := 0) hx hb dX1_apart_16 (by decide) ?_
  refine lv_istore (lv' := [(4, .int 0), (3, .int 0), (2, .int v10), (1, .int v1), (0, .ref h0)]) hx hb dX1_apart_17 hl (by decide) rfl (fun ls hl => ?_)
  have lp19 : ∀ (nf : Nat) (j : Nat) (tk : Nat) (x3 : Int32) (x4 : Int32), pl n w - j < nf → (tk = (apk (lik 0 T P w) w (min j (pl n w))).1) → (j < pl n w → (apk (lik 0 T P w) w j).2 ≤ j) → (j ≤ pl n w + 24) → x3.toInt = (tk : Int) → x4.toInt = (j : Int) → ∀ (H : Heap) (locs : List Loc), va_P D vwCl (XW h0 h1 h2 h3 y1 y2 y3 (n) (w) T P M) H → va_S (va_A [] s.heap.size) s.heap H locs → ∀ (ls : Array Slot), lv_has ls 5 [(0, .ref h0), (1, .int v1), (2, .int v10), (3, .int x3), (4, .int x4)] → W p l e (headSpec wsX1_apart ({ frames := 3, cells := 0, slots := 0, locals := 65 })).room s m [.ref h0].toArray below meth c H locs 0 0 (MQ below (va_Qi (fun (r : Int32) (_ : Unit) => r.toInt = (((apk (lik 0 T P w) w (pl n w)).1 : Nat) : Int)) (fun _ _ => True) (va_A [] s.heap.size)) [.ref h0].toArray s 0 0 (va_A [] s.heap.size)) (F0 m 19 ls []) := by
    intro nf
    induction nf with
    | zero => intros; omega
    | succ nf ih19 =>
      intro j tk x3 x4 hnf htk hs2 hjm e_x3 e_x4 H locs hP hS ls hl
      have hcl := apk_le (lik 0 T P w) w (min j (pl n w))
      refine lv_iload hx hb dX1_apart_19 (lv_at hl 4 rfl) ?_
      refine lv_iload_n hx hb dX1_apart_21 rfl (lv_at hl 1 rfl) ?_
      refine z_icmp_ge (tgt := 52) hx hb dX1_apart_22 (by decide) e_x4 e1 (fun c22 => ?_) (fun c22 => ?_)
      · have _u := True.intro
        refine lv_iload_n hx hb dX1_apart_52 rfl (lv_at hl 3 rfl) ?_
        refine W.widen (k := 0) (n := 0) (Nat.le_of_ble_eq_true rfl) (Nat.le_of_ble_eq_true rfl) ?_
        exact W.iret (v := x3) hx hb hr (fun t ht hW => ⟨⟨_, (), rfl, (Eq.trans e_x3 (by rw [htk, show min j (pl n w) = pl n w by omega])), trivial⟩, hS.F ht⟩) hS.2.2 dX1_apart_53
      · have _u := True.intro
        refine lv_aload_n hx hb dX1_apart_25 rfl (lv_at hl 0 rfl) ?_
        refine lv_iload hx hb dX1_apart_26 (lv_at hl 4 rfl) ?_
        refine va_calli (va_runV (As := [.int x4]) (rest := []) ⟨hx, hb, hml, hown, hts⟩ (c_X1_hasSymbols l D E h0 h1 h2 h3 y1 y2 y3 H.size (n) (w) T P M hn hw hT hPt x4 (j) (Eq.trans e_x4 (by omega)) (by omega)) (cwV 1 hts gX1_apart_X1_hasSymbols rfl rfl rfl (by decide +kernel) ⟨Nat.le_of_ble_eq_true rfl, Nat.le_of_ble_eq_true rfl⟩) ⟨cp.blind, va_recv hK hP (ci := 0) (q0 := 0) rfl rfl, fun U hU hW => ⟨rfl, cp.call hP hK hE hS (fr0 hS hA) hU hW⟩⟩ rfl rfl hl.1 rfl (lv_room (Nat.le_of_ble_eq_true rfl)) dX1_apart_28 ⟨Nat.le_of_ble_eq_true rfl, Nat.le_of_ble_eq_true rfl⟩) hS (fun q _ h => (fr0 hS hA) q h) (fr0 hS hA) (fun v28 u t H1 locs1 ht hvm e28 hB hz1 hk1 hS => ?_)
        have hP := kp hP hk1
        generalize H1 = H at hP hS ⊢
        generalize locs1 = locs at hS ⊢
        refine zb_if_eq (tgt := 46) hx hb dX1_apart_31 (by decide) e28 (fun c31 => ?_) (fun c31 => ?_)
        · have _u := True.intro
          have mm : min j (pl n w) = j := by omega
          have aq := apk_f (f := (lik 0 T P w)) (w := w) (k := j) (fun q => by rw [c31] at q; exact absurd q.2 (by decide))
          obtain ⟨gj, egj⟩ : ∃ g : Nat, g = j + 1 := ⟨_, rfl⟩
          obtain ⟨gt, egt⟩ : ∃ g : Nat, g = tk := ⟨_, rfl⟩
          have t2 : gt = (apk (lik 0 T P w) w (min gj (pl n w))).1 := by rw [egt, egj, show min (j + 1) (pl n w) = j + 1 by omega, aq, htk, mm]
          have t3 : gj < pl n w → (apk (lik 0 T P w) w gj).2 ≤ gj := fun _ => by rw [egj, aq]; exact Nat.le_succ_of_le (hs2 (by omega))
          refine z_iinc (k := 4) (lv' := fun v => [(4, .int v), (0, .ref h0), (1, .int v1), (2, .int v10), (3, .int x3)]) hx hb dX1_apart_46 hl rfl e_x4 (by decide) (by omega) (by omega) (by decide) (fun _ => rfl) (fun v46 ls e46 hl => ?_)
          refine lv_goto (tgt := 19) hx hb dX1_apart_49 (by decide) ?_
          exact ih19 (gj) (gt) x3 v46 (by omega) (t2) (t3) (by omega) (Eq.trans e_x3 (by omega)) (Eq.trans e46 (by omega)) _ _ hP hS _ (lv_sub hl [1, 2, 3, 4, 0] rfl)
        · have _u := True.intro
          have mm : min j (pl n w) = j := by omega
          obtain ⟨gj, egj⟩ : ∃ g : Nat, g = j + max 1 w := ⟨_, rfl⟩
          obtain ⟨gt, egt⟩ : ∃ g : Nat, g = tk + 1 := ⟨_, rfl⟩
          have t2 : gt = (apk (lik 0 T P w) w (min gj (pl n w))).1 := by rw [apk_hit2 (hs2 (by omega)) c31 (by omega) (by omega), egt, htk, mm]
          have t3 : gj < pl n w → (apk (lik 0 T P w) w gj).2 ≤ gj := fun _ => by rw [apk_hit2 (hs2 (by omega)) c31 (by omega) (by omega)]; show j + w ≤ gj; omega
          refine z_iinc (k := 3) (lv' := fun v => [(3, .int v), (0, .ref h0), (1, .int v1), (2, .int v10), (4, .int x4)]) hx hb dX1_apart_34 hl rfl e_x3 (by decide) (by omega) (by omega) (by decide) (fun _ => rfl) (fun v34 ls e34 hl => ?_)
          refine lv_iload hx hb dX1_apart_37 (lv_at hl 4 rfl) ?_
          refine lv_iload_n hx hb dX1_apart_39 rfl (lv_at hl 3 rfl) ?_
          refine z_iadd hx hb dX1_apart_40 e_x4 e10 (by omega) (by omega) (fun v40 e40 => ?_)
          refine lv_istore (lv' := [(4, .int v40), (3, .int v34), (0, .ref h0), (1, .int v1), (2, .int v10)]) hx hb dX1_apart_41 hl (by decide) rfl (fun ls hl => ?_)
          refine lv_goto (tgt := 19) hx hb dX1_apart_43 (by decide) ?_
          exact ih19 (gj) (gt) v34 v40 (by omega) (t2) (t3) (by omega) (Eq.trans e34 (by omega)) (Eq.trans e40 (by omega)) _ _ hP hS _ (lv_sub hl [2, 3, 4, 1, 0] rfl)
  exact lp19 ((pl n w - 0) + 1) (0) (0) 0 0 (by omega) (by rw [show min 0 (pl n w) = 0 by omega]; rfl) (fun _ => Nat.le_refl _) (by omega) (Eq.trans (show (0 : Int32).toInt = 0 by decide) (by omega)) (Eq.trans (show (0 : Int32).toInt = 0 by decide) (by omega)) _ _ hP hS _ (lv_sub hl [4, 3, 2, 1, 0] rfl)
