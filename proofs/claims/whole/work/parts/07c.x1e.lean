set_option maxHeartbeats 4000000 in
set_option maxRecDepth 100000 in
theorem c_X1_mismatches (l : Launch) (hlt : l.stackTraces = false) (D : va_G) (E : Nat × Nat × Nat) (h0 h1 h2 h3 : Nat) (y1 y2 y3 : ClassId) (sz n w : Nat) (T P M : Nat → Int32) (hn : n ≤ 64) (hw : w ≤ 24) (hT : SymF T) (hPt : SymF P) (x1 : Int32) : vx_Met l yX1_mismatches wsX1_mismatches ({ frames := 7, cells := 1, slots := 6, locals := 111 }) (va_Pc [.ref h0, .int x1] (cp D (XW h0 h1 h2 h3 y1 y2 y3 (n) (w) T P M) (XT y1 y2 y3) E (va_A [] sz) sz)) (va_Qi (fun (r : Int32) (_ : Unit) => r.toInt = ((mis T P x1.toInt.toNat w : Nat) : Int) ∧ kPl (pl n w) x1.toInt = 0) (fun _ _ => True) (va_A [] sz)) (tX (fun X => X = "java/lang/IndexOutOfBoundsException" ∧ kPl (pl n w) x1.toInt = 1) sz) 1 6 (va_A [] sz) := by
  refine vx_ofW (cc := cX1_mismatches) (maxL := 2) (ret := (some .int)) (by decide) rfl ?_
  intro p e s m args below meth c s₁ B hml hnt hv
  obtain ⟨rfl, hsz, hP, hK, hE⟩ := hv
  have hx := B.exec
  have hb := B.bytes
  have hr := B.returns
  have hts := atoms_spec (ws := wsX1_mismatches) B.pre
  have hown : s.vm.findClass RX1 = some m.cls := findClass_of_methodNamed B.named
  have hlocks := B.notSynchronized
  have hsz : s.heap.size = sz := hsz
  subst hsz
  have hA : ∀ q : Nat, s.heap.size ≤ q → (va_A [] s.heap.size) q := fun q h => Or.inr h
  have hS : va_S (va_A [] s.heap.size) s.heap s.heap [] := va_S.rf
  have inn : (nI n).toInt = (n : Int) := nI_toInt (by omega)
  have iww : (nI w).toInt = (w : Int) := nI_toInt (by omega)
  have hpl : pl n w = n + 1 - w := rfl
  have g_x1 := rg x1
  have hl := lv_entry ([.ref h0, .int x1]) (n := 2) (Nat.le_of_ble_eq_true rfl)
  rw [lg_entry_eq]
  generalize (lg_sl ([.ref h0, .int x1]) ++ List.replicate (2 - (lg_sl ([.ref h0, .int x1])).length) Slot.unset).toArray = ls at hl ⊢
  have hl : lv_has ls 2 [(0, .ref h0), (1, .int x1)] := hl
  refine lv_aload_n hx hb dX1_mismatches_0 rfl (lv_at hl 0 rfl) ?_
  refine lv_iload_n hx hb dX1_mismatches_1 rfl (lv_at hl 1 rfl) ?_
  refine vx_callv (vx_runV (As := [.int x1]) (rest := []) ⟨hx, hb, hml, hown, hts⟩ (c_X1_requirePlace l hlt D E h0 h1 h2 h3 y1 y2 y3 s.heap.size (n) (w) T P M hn hw hT hPt x1) (cwV 1 hts gX1_mismatches_X1_requirePlace rfl rfl rfl (by decide +kernel) ⟨Nat.le_of_ble_eq_true rfl, Nat.le_of_ble_eq_true rfl⟩) ⟨cp.blind, va_recv hK hP (ci := 0) (q0 := 0) rfl rfl, fun U hU hW => ⟨rfl, cp.call hP hK hE hS (fr0 hS hA) hU hW⟩⟩ rfl rfl hl.1 rfl (lv_room (Nat.le_of_ble_eq_true rfl)) dX1_mismatches_2 ⟨Nat.le_of_ble_eq_true rfl, Nat.le_of_ble_eq_true rfl⟩) hS (fun q _ h => (fr0 hS hA) q h) (fr0 hS hA) (fun q _ h => fr0 hS hA q h) (fun X ce q9 u t H1 locs1 ht hvm _ hB hz1 hk1 hS hc1 hc2 hc3 => ?_) (fun u t H1 locs1 ht hvm e2 hB hz1 hk1 hS => ?_)
  · refine vx_out (fun x h => (hnt x h).elim) hlocks hc1 hc2 hc3 (fun t ht2 _ => tX.out hS ht2 (⟨hB.1, by have hB2 := hB.2; unfold kPl; (repeat' split) <;> omega⟩)) (fun z hz => hS.2.2 z hz) (Nat.le_of_ble_eq_true rfl) (Nat.le_of_ble_eq_true rfl)
  have hP := kp hP hk1
  generalize H1 = H at hP hS ⊢
  generalize locs1 = locs at hS ⊢
  obtain ⟨f2_0, f2_1⟩ := e2
  refine lv_aload_n hx hb dX1_mismatches_5 rfl (lv_at hl 0 rfl) ?_
  refine lv_iload_n hx hb dX1_mismatches_6 rfl (lv_at hl 1 rfl) ?_
  refine va_calli (va_runV (As := [.int x1]) (rest := []) ⟨hx, hb, hml, hown, hts⟩ (c_X1_countMismatches l D E h0 h1 h2 h3 y1 y2 y3 H.size (n) (w) T P M hn hw hT hPt x1 (x1.toInt.toNat) (Eq.trans rfl (by omega)) (by omega)) (cwV 1 hts gX1_mismatches_X1_countMismatches rfl rfl rfl (by decide +kernel) ⟨Nat.le_of_ble_eq_true rfl, Nat.le_of_ble_eq_true rfl⟩) ⟨cp.blind, va_recv hK hP (ci := 0) (q0 := 0) rfl rfl, fun U hU hW => ⟨rfl, cp.call hP hK hE hS (fr0 hS hA) hU hW⟩⟩ rfl rfl hl.1 rfl (lv_room (Nat.le_of_ble_eq_true rfl)) dX1_mismatches_7 ⟨Nat.le_of_ble_eq_true rfl, Nat.le_of_ble_eq_true rfl⟩) hS (fun q _ h => (fr0 hS hA) q h) (fr0 hS hA) (fun v7 u t H1 locs1 ht hvm e7 hB hz1 hk1 hS => ?_)
  have hP := kp hP hk1
  generalize H1 = H at hP hS ⊢
  generalize locs1 = locs at hS ⊢
  refine vx_ret ?_
  refine W.widen (k := 1) (n := 6) (Nat.le_of_ble_eq_true rfl) (Nat.le_of_ble_eq_true rfl) ?_
  exact W.iret (v := v7) hx hb hr (fun t ht hW => ⟨⟨_, (), rfl, ⟨(Eq.trans e7 (rfl)), by unfold kPl; (repeat' split) <;> omega⟩, trivial⟩, hS.F ht⟩) hS.2.2 dX1_mismatches_10

set_option maxHeartbeats 4000000 in
set_option maxRecDepth 100000 in
theorem c_X1_mismatchesOf (l : Launch) (hlt : l.stackTraces = false) (D : va_G) (E : Nat × Nat × Nat) (h0 h1 h2 h3 : Nat) (y1 y2 y3 : ClassId) (sz n w : Nat) (T P M : Nat → Int32) (hn : n ≤ 64) (hw : w ≤ 24) (hT : SymF T) (hPt : SymF P) (x1 : Int32) (x2 : Int32) : vx_Met l yX1_mismatchesOf wsX1_mismatchesOf ({ frames := 7, cells := 1, slots := 6, locals := 111 }) (va_Pc [.ref h0, .int x1, .int x2] (cp D (XW h0 h1 h2 h3 y1 y2 y3 (n) (w) T P M) (XT y1 y2 y3) E (va_A [] sz) sz)) (va_Qi (fun (r : Int32) (_ : Unit) => r.toInt = ((cnt (mof T P x2 x1.toInt.toNat) w : Nat) : Int) ∧ kMO (pl n w) x1.toInt x2.toInt = 0) (fun _ _ => True) (va_A [] sz)) (tX (fun X => (X = "java/lang/IllegalArgumentException" ∧ kMO (pl n w) x1.toInt x2.toInt = 1) ∨ (X = "java/lang/IndexOutOfBoundsException" ∧ kMO (pl n w) x1.toInt x2.toInt = 2)) sz) 1 6 (va_A [] sz) := by
  refine vx_ofW (cc := cX1_mismatchesOf) (maxL := 5) (ret := (some .int)) (by decide) rfl ?_
  intro p e s m args below meth c s₁ B hml hnt hv
  obtain ⟨rfl, hsz, hP, hK, hE⟩ := hv
  have hx := B.exec
  have hb := B.bytes
  have hr := B.returns
  have hts := atoms_spec (ws := wsX1_mismatchesOf) B.pre
  have hown : s.vm.findClass RX1 = some m.cls := findClass_of_methodNamed B.named
  have hlocks := B.notSynchronized
  have hsz : s.heap.size = sz := hsz
  subst hsz
  have hA : ∀ q : Nat, s.heap.size ≤ q → (va_A [] s.heap.size) q := fun q h => Or.inr h
  have hS : va_S (va_A [] s.heap.size) s.heap s.heap [] := va_S.rf
  have inn : (nI n).toInt = (n : Int) := nI_toInt (by omega)
  have iww : (nI w).toInt = (w : Int) := nI_toInt (by omega)
  have hf_pattern := hts (.fieldLink RX1 13 "BlankMatcher" "pattern" "[I") (by decide +kernel)
  have hf_patternSize := hts (.fieldLink RX1 23 "BlankMatcher" "patternSize" "I") (by decide +kernel)
  have hf_text := hts (.fieldLink RX1 9 "BlankMatcher" "text" "[I") (by decide +kernel)
  have hpl : pl n w = n + 1 - w := rfl
  have hin0 : ∀ w ∈ wsX10, w ∈ wsX1_mismatchesOf := by decide +kernel
  have g_x1 := rg x1
  have g_x2 := rg x2
  have hl := lv_entry ([.ref h0, .int x1, .int x2]) (n := 5) (Nat.le_of_ble_eq_true rfl)
  rw [lg_entry_eq]
  generalize (lg_sl ([.ref h0, .int x1, .int x2]) ++ List.replicate (5 - (lg_sl ([.ref h0, .int x1, .int x2])).length) Slot.unset).toArray = ls at hl ⊢
  have hl : lv_has ls 5 [(0, .ref h0), (1, .int x1), (2, .int x2)] := hl
  refine lv_iload_n hx hb dX1_mismatchesOf_0 rfl (lv_at hl 2 rfl) ?_
  refine lv_iconst (v := 1) hx hb dX1_mismatchesOf_1 (by decide) ?_
  refine z_icmp_lt (tgt := 11) hx hb dX1_mismatchesOf_2 (by decide) rfl (show (1 : Int32).toInt = 1 by decide) (fun c2 => ?_) (fun c2 => ?_)
  · have _u := True.intro
    exact xIAE_throw hx hb hlt hown hts (by decide +kernel) hE hS (hl.1.trans hml.symm) hnt dX1_mismatchesOf_11 dX1_mismatchesOf_14 dX1_mismatchesOf_15 dX1_mismatchesOf_17 dX1_mismatchesOf_20 (xS_106) (Nat.le_of_ble_eq_true rfl) (Nat.le_of_ble_eq_true rfl) (Nat.le_of_ble_eq_true rfl) (Nat.le_of_ble_eq_true rfl) hlocks (Or.inl ⟨rfl, by unfold kMO; (repeat' split) <;> omega⟩) (fun z hz => hS.2.2 z hz) (Nat.le_of_ble_eq_true rfl) (Nat.le_of_ble_eq_true rfl)
  · have _u := True.intro
    refine lv_iload_n hx hb dX1_mismatchesOf_5 rfl (lv_at hl 2 rfl) ?_
    refine lv_bipush (v := 26) hx hb dX1_mismatchesOf_6 (by decide) ?_
    refine z_icmp_le (tgt := 21) hx hb dX1_mismatchesOf_8 (by decide) rfl (show (26 : Int32).toInt = 26 by decide) (fun c8 => ?_) (fun c8 => ?_)
    · have _u := True.intro
      refine lv_aload_n hx hb dX1_mismatchesOf_21 rfl (lv_at hl 0 rfl) ?_
      refine lv_iload_n hx hb dX1_mismatchesOf_22 rfl (lv_at hl 1 rfl) ?_
      refine vx_callv (vx_runV (As := [.int x1]) (rest := []) ⟨hx, hb, hml, hown, hts⟩ (c_X1_requirePlace l hlt D E h0 h1 h2 h3 y1 y2 y3 s.heap.size (n) (w) T P M hn hw hT hPt x1) (cwV 1 hts gX1_mismatchesOf_X1_requirePlace rfl rfl rfl (by decide +kernel) ⟨Nat.le_of_ble_eq_true rfl, Nat.le_of_ble_eq_true rfl⟩) ⟨cp.blind, va_recv hK hP (ci := 0) (q0 := 0) rfl rfl, fun U hU hW => ⟨rfl, cp.call hP hK hE hS (fr0 hS hA) hU hW⟩⟩ rfl rfl hl.1 rfl (lv_room (Nat.le_of_ble_eq_true rfl)) dX1_mismatchesOf_23 ⟨Nat.le_of_ble_eq_true rfl, Nat.le_of_ble_eq_true rfl⟩) hS (fun q _ h => (fr0 hS hA) q h) (fr0 hS hA) (fun q _ h => fr0 hS hA q h) (fun X ce q9 u t H1 locs1 ht hvm _ hB hz1 hk1 hS hc1 hc2 hc3 => ?_) (fun u t H1 locs1 ht hvm e23 hB hz1 hk1 hS => ?_)
      · refine vx_out (fun x h => (hnt x h).elim) hlocks hc1 hc2 hc3 (fun t ht2 _ => tX.out hS ht2 (Or.inr ⟨hB.1, by have hB2 := hB.2; unfold kMO; (repeat' split) <;> omega⟩)) (fun z hz => hS.2.2 z hz) (Nat.le_of_ble_eq_true rfl) (Nat.le_of_ble_eq_true rfl)
      have hP := kp hP hk1
      generalize H1 = H at hP hS ⊢
      generalize locs1 = locs at hS ⊢
      obtain ⟨f23_0, f23_1⟩ := e23
      obtain ⟨o, eo⟩ : ∃ o : Nat, x1.toInt = (o : Int) := ⟨x1.toInt.toNat, by omega⟩
      have ho : o + w ≤ n := by omega
      have ho2 : x1.toInt.toNat = o := by omega
      refine lv_iconst (v := 0) hx hb dX1_mismatchesOf_26 (by decide) ?_
      refine lv_istore_n (lv' := [(3, .int 0), (0, .ref h0), (1, .int x1), (2, .int x2)]) hx hb dX1_mismatchesOf_27 rfl hl (by decide) rfl (fun ls hl => ?_)
      refine lv_iconst (v := 0) hx hb dX1_mismatchesOf_28 (by decide) ?_
      refine lv_istore (lv' := [(4, .int 0), (3, .int 0), (0, .ref h0), (1, .int x1), (2, .int x2)]) hx hb dX1_mismatchesOf_29 hl (by decide) rfl (fun ls hl => ?_)
      have lp31 : ∀ (nf : Nat) (j : Nat) (x3 : Int32) (x4 : Int32), w - j < nf → (j ≤ w) → x3.toInt = ((cnt (mof T P x2 o) j : Nat) : Int) → x4.toInt = (j : Int) → ∀ (H : Heap) (locs : List Loc), va_P D vwCl (XW h0 h1 h2 h3 y1 y2 y3 (n) (w) T P M) H → va_S (va_A [] s.heap.size) s.heap H locs → ∀ (ls : Array Slot), lv_has ls 5 [(0, .ref h0), (1, .int x1), (2, .int x2), (3, .int x3), (4, .int x4)] → W p l e (headSpec wsX1_mismatchesOf ({ frames := 7, cells := 1, slots := 6, locals := 111 })).room s m [.ref h0, .int x1, .int x2].toArray below meth c H locs 1 6 (vx_MQ below (va_Qi (fun (r : Int32) (_ : Unit) => r.toInt = ((cnt (mof T P x2 x1.toInt.toNat) w : Nat) : Int) ∧ kMO (pl n w) x1.toInt x2.toInt = 0) (fun _ _ => True) (va_A [] s.heap.size)) (tX (fun X => (X = "java/lang/IllegalArgumentException" ∧ kMO (pl n w) x1.toInt x2.toInt = 1) ∨ (X = "java/lang/IndexOutOfBoundsException" ∧ kMO (pl n w) x1.toInt x2.toInt = 2)) s.heap.size) [.ref h0, .int x1, .int x2].toArray s 1 6 (va_A [] s.heap.size)) (F0 m 31 ls []) := by
        intro nf
        induction nf with
        | zero => intros; omega
        | succ nf ih31 =>
          intro j x3 x4 hnf hj e_x3 e_x4 H locs hP hS ls hl
          have hcl := cnt_le (mof T P x2 o) j
          refine lv_iload hx hb dX1_mismatchesOf_31 (lv_at hl 4 rfl) ?_
          refine lv_aload_n hx hb dX1_mismatchesOf_33 rfl (lv_at hl 0 rfl) ?_
          refine va_get (D := D) (ci := 0) (v := .int (nI w)) (C := RX1) (T := TX1) (N := 5) hx hb hts hin0 hown hK hP 0 rfl rfl 4 (by decide) hf_patternSize (fun _ h9 => h9) rfl dX1_mismatchesOf_34 ?_
          refine z_icmp_ge (tgt := 82) hx hb dX1_mismatchesOf_37 (by decide) e_x4 iww (fun c37 => ?_) (fun c37 => ?_)
          · have _u := True.intro
            refine lv_iload_n hx hb dX1_mismatchesOf_82 rfl (lv_at hl 3 rfl) ?_
            refine vx_ret ?_
            refine W.widen (k := 1) (n := 6) (Nat.le_of_ble_eq_true rfl) (Nat.le_of_ble_eq_true rfl) ?_
            exact W.iret (v := x3) hx hb hr (fun t ht hW => ⟨⟨_, (), rfl, ⟨(Eq.trans e_x3 (by have q : j = w := (by omega); rw [q, ho2])), by unfold kMO; (repeat' split) <;> omega⟩, trivial⟩, hS.F ht⟩) hS.2.2 dX1_mismatchesOf_83
          · have _u := True.intro
            refine lv_aload_n hx hb dX1_mismatchesOf_40 rfl (lv_at hl 0 rfl) ?_
            refine va_get (D := D) (ci := 0) (v := .ref h2) (C := RX1) (T := TX1) (N := 5) hx hb hts hin0 hown hK hP 0 rfl rfl 1 (by decide) hf_pattern (fun _ h9 => h9) rfl dX1_mismatchesOf_41 ?_
            refine lv_iload hx hb dX1_mismatchesOf_44 (lv_at hl 4 rfl) ?_
            refine z_iald hx hb hK hP 2 1 rfl rfl (j) e_x4 (by omega) (by omega) dX1_mismatchesOf_46 ?_
            refine lv_iload_n hx hb dX1_mismatchesOf_47 rfl (lv_at hl 2 rfl) ?_
            refine z_icmp_ne (tgt := 76) hx hb dX1_mismatchesOf_48 (by decide) rfl rfl (fun c48 => ?_) (fun c48 => ?_)
            · have _u := True.intro
              have q := cnt_f (f := mof T P x2 o) (k := j) (mof_f1 c48)
              refine z_iinc (k := 4) (lv' := fun v => [(4, .int v), (0, .ref h0), (1, .int x1), (2, .int x2), (3, .int x3)]) hx hb dX1_mismatchesOf_76 hl rfl e_x4 (by decide) (by omega) (by omega) (by decide) (fun _ => rfl) (fun v76 ls e76 hl => ?_)
              refine lv_goto (tgt := 31) hx hb dX1_mismatchesOf_79 (by decide) ?_
              exact ih31 (j + 1) x3 v76 (by omega) (by omega) (Eq.trans e_x3 (by omega)) (Eq.trans e76 (by omega)) _ _ hP hS _ (lv_sub hl [1, 2, 3, 4, 0] rfl)
            · have _u := True.intro
              refine lv_aload_n hx hb dX1_mismatchesOf_51 rfl (lv_at hl 0 rfl) ?_
              refine va_get (D := D) (ci := 0) (v := .ref h2) (C := RX1) (T := TX1) (N := 5) hx hb hts hin0 hown hK hP 0 rfl rfl 1 (by decide) hf_pattern (fun _ h9 => h9) rfl dX1_mismatchesOf_52 ?_
              refine lv_iload hx hb dX1_mismatchesOf_55 (lv_at hl 4 rfl) ?_
              refine z_iald hx hb hK hP 2 1 rfl rfl (j) e_x4 (by omega) (by omega) dX1_mismatchesOf_57 ?_
              refine lv_aload_n hx hb dX1_mismatchesOf_58 rfl (lv_at hl 0 rfl) ?_
              refine va_get (D := D) (ci := 0) (v := .ref h1) (C := RX1) (T := TX1) (N := 5) hx hb hts hin0 hown hK hP 0 rfl rfl 0 (by decide) hf_text (fun _ h9 => h9) rfl dX1_mismatchesOf_59 ?_
              refine lv_iload_n hx hb dX1_mismatchesOf_62 rfl (lv_at hl 1 rfl) ?_
              refine lv_iload hx hb dX1_mismatchesOf_63 (lv_at hl 4 rfl) ?_
              refine z_iadd hx hb dX1_mismatchesOf_65 rfl e_x4 (by omega) (by omega) (fun v65 e65 => ?_)
              refine z_iald hx hb hK hP 1 0 rfl rfl (o + j) e65 (by omega) (by omega) dX1_mismatchesOf_66 ?_
              refine va_calli (va_runS (As := [.int (P (j)), .int (T (o + j))]) (rest := []) ⟨hx, hb, hml, hown, hts⟩ (c_X1_agree l H.size (P (j)) (T (o + j))) (va_cwS 2 hts gX1_mismatchesOf_X1_agree rfl rfl rfl (by decide +kernel) ⟨Nat.le_of_ble_eq_true rfl, Nat.le_of_ble_eq_true rfl⟩) ⟨cz.blind, fun U hU hW => ⟨rfl, cz.call hU⟩⟩ rfl rfl hl.1 rfl (lv_room (Nat.le_of_ble_eq_true rfl)) dX1_mismatchesOf_67 ⟨Nat.le_of_ble_eq_true rfl, Nat.le_of_ble_eq_true rfl⟩) hS (fun q _ h => (fr0 hS hA) q h) (fr0 hS hA) (fun v67 u t H1 locs1 ht hvm e67 hB hz1 hk1 hS => ?_)
              have hP := kp hP hk1
              generalize H1 = H at hP hS ⊢
              generalize locs1 = locs at hS ⊢
              refine zb_if_ne (tgt := 76) hx hb dX1_mismatchesOf_70 (by decide) e67 (fun c70 => ?_) (fun c70 => ?_)
              · have _u := True.intro
                have q := cnt_f (f := mof T P x2 o) (k := j) (mof_f2 c70)
                refine z_iinc (k := 4) (lv' := fun v => [(4, .int v), (0, .ref h0), (1, .int x1), (2, .int x2), (3, .int x3)]) hx hb dX1_mismatchesOf_76 hl rfl e_x4 (by decide) (by omega) (by omega) (by decide) (fun _ => rfl) (fun v76 ls e76 hl => ?_)
                refine lv_goto (tgt := 31) hx hb dX1_mismatchesOf_79 (by decide) ?_
                exact ih31 (j + 1) x3 v76 (by omega) (by omega) (Eq.trans e_x3 (by omega)) (Eq.trans e76 (by omega)) _ _ hP hS _ (lv_sub hl [1, 2, 3, 4, 0] rfl)
              · have _u := True.intro
                have q := cnt_t (f := mof T P x2 o) (k := j) (mof_t c48 c70)
                refine z_iinc (k := 3) (lv' := fun v => [(3, .int v), (0, .ref h0), (1, .int x1), (2, .int x2), (4, .int x4)]) hx hb dX1_mismatchesOf_73 hl rfl e_x3 (by decide) (by omega) (by omega) (by decide) (fun _ => rfl) (fun v73 ls e73 hl => ?_)
                refine z_iinc (k := 4) (lv' := fun v => [(4, .int v), (3, .int v73), (0, .ref h0), (1, .int x1), (2, .int x2)]) hx hb dX1_mismatchesOf_76 hl rfl e_x4 (by decide) (by omega) (by omega) (by decide) (fun _ => rfl) (fun v76 ls e76 hl => ?_)
                refine lv_goto (tgt := 31) hx hb dX1_mismatchesOf_79 (by decide) ?_
                exact ih31 (j + 1) v73 v76 (by omega) (by omega) (Eq.trans e73 (by omega)) (Eq.trans e76 (by omega)) _ _ hP hS _ (lv_sub hl [2, 3, 4, 1, 0] rfl)
      have hc0 := cnt_0 (mof T P x2 o)
      exact lp31 ((w - 0) + 1) (0) 0 0 (by omega) (by omega) (Eq.trans (show (0 : Int32).toInt = 0 by decide) (by omega)) (Eq.trans (show (0 : Int32).toInt = 0 by decide) (by omega)) _ _ hP hS _ (lv_sub hl [2, 3, 4, 1, 0] rfl)
    · have _u := True.intro
      exact xIAE_throw hx hb hlt hown hts (by decide +kernel) hE hS (hl.1.trans hml.symm) hnt dX1_mismatchesOf_11 dX1_mismatchesOf_14 dX1_mismatchesOf_15 dX1_mismatchesOf_17 dX1_mismatchesOf_20 (xS_106) (Nat.le_of_ble_eq_true rfl) (Nat.le_of_ble_eq_true rfl) (Nat.le_of_ble_eq_true rfl) (Nat.le_of_ble_eq_true rfl) hlocks (Or.inl ⟨rfl, by unfold kMO; (repeat' split) <;> omega⟩) (fun z hz => hS.2.2 z hz) (Nat.le_of_ble_eq_true rfl) (Nat.le_of_ble_eq_true rfl)

set_option maxHeartbeats 4000000 in
set_option maxRecDepth 100000 in
theorem c_X1_nextMismatch (l : Launch) (hlt : l.stackTraces = false) (D : va_G) (E : Nat × Nat × Nat) (h0 h1 h2 h3 : Nat) (y1 y2 y3 : ClassId) (sz n w : Nat) (T P M : Nat → Int32) (hn : n ≤ 64) (hw : w ≤ 24) (hT : SymF T) (hPt : SymF P) (x1 : Int32) (x2 : Int32) : vx_Met l yX1_nextMismatch wsX1_nextMismatch ({ frames := 7, cells := 1, slots := 6, locals := 111 }) (va_Pc [.ref h0, .int x1, .int x2] (cp D (XW h0 h1 h2 h3 y1 y2 y3 (n) (w) T P M) (XT y1 y2 y3) E (va_A [] sz) sz)) (va_Qi (fun (r : Int32) (_ : Unit) => r.toInt = fmis T P x1.toInt.toNat x2.toInt.toNat w ∧ kNM (pl n w) x1.toInt x2.toInt = 0) (fun _ _ => True) (va_A [] sz)) (tX (fun X => (X = "java/lang/IllegalArgumentException" ∧ kNM (pl n w) x1.toInt x2.toInt = 1) ∨ (X = "java/lang/IndexOutOfBoundsException" ∧ kNM (pl n w) x1.toInt x2.toInt = 2)) sz) 1 6 (va_A [] sz) := by
  refine vx_ofW (cc := cX1_nextMismatch) (maxL := 3) (ret := (some .int)) (by decide) rfl ?_
  intro p e s m args below meth c s₁ B hml hnt hv
  obtain ⟨rfl, hsz, hP, hK, hE⟩ := hv
  have hx := B.exec
  have hb := B.bytes
  have hr := B.returns
  have hts := atoms_spec (ws := wsX1_nextMismatch) B.pre
  have hown : s.vm.findClass RX1 = some m.cls := findClass_of_methodNamed B.named
  have hlocks := B.notSynchronized
  have hsz : s.heap.size = sz := hsz
  subst hsz
  have hA : ∀ q : Nat, s.heap.size ≤ q → (va_A [] s.heap.size) q := fun q h => Or.inr h
  have hS : va_S (va_A [] s.heap.size) s.heap s.heap [] := va_S.rf
  have inn : (nI n).toInt = (n : Int) := nI_toInt (by omega)
  have iww : (nI w).toInt = (w : Int) := nI_toInt (by omega)
  have hpl : pl n w = n + 1 - w := rfl
  have g_x1 := rg x1
  have g_x2 := rg x2
  have hl := lv_entry ([.ref h0, .int x1, .int x2]) (n := 3) (Nat.le_of_ble_eq_true rfl)
  rw [lg_entry_eq]
  generalize (lg_sl ([.ref h0, .int x1, .int x2]) ++ List.replicate (3 - (lg_sl ([.ref h0, .int x1, .int x2])).length) Slot.unset).toArray = ls at hl ⊢
  have hl : lv_has ls 3 [(0, .ref h0), (1, .int x1), (2, .int x2)] := hl
  refine lv_iload_n hx hb dX1_nextMismatch_0 rfl (lv_at hl 2 rfl) ?_
  refine z_if_ge (tgt := 14) hx hb dX1_nextMismatch_1 (by decide) rfl (fun c1 => ?_) (fun c1 => ?_)
  · have _u := True.intro
    refine lv_aload_n hx hb dX1_nextMismatch_14 rfl (lv_at hl 0 rfl) ?_
    refine lv_iload_n hx hb dX1_nextMismatch_15 rfl (lv_at hl 1 rfl) ?_
    refine vx_callv (vx_runV (As := [.int x1]) (rest := []) ⟨hx, hb, hml, hown, hts⟩ (c_X1_requirePlace l hlt D E h0 h1 h2 h3 y1 y2 y3 s.heap.size (n) (w) T P M hn hw hT hPt x1) (cwV 1 hts gX1_nextMismatch_X1_requirePlace rfl rfl rfl (by decide +kernel) ⟨Nat.le_of_ble_eq_true rfl, Nat.le_of_ble_eq_true rfl⟩) ⟨cp.blind, va_recv hK hP (ci := 0) (q0 := 0) rfl rfl, fun U hU hW => ⟨rfl, cp.call hP hK hE hS (fr0 hS hA) hU hW⟩⟩ rfl rfl hl.1 rfl (lv_room (Nat.le_of_ble_eq_true rfl)) dX1_nextMismatch_16 ⟨Nat.le_of_ble_eq_true rfl, Nat.le_of_ble_eq_true rfl⟩) hS (fun q _ h => (fr0 hS hA) q h) (fr0 hS hA) (fun q _ h => fr0 hS hA q h) (fun X ce q9 u t H1 locs1 ht hvm _ hB hz1 hk1 hS hc1 hc2 hc3 => ?_) (fun u t H1 locs1 ht hvm e16 hB hz1 hk1 hS => ?_)
    · refine vx_out (fun x h => (hnt x h).elim) hlocks hc1 hc2 hc3 (fun t ht2 _ => tX.out hS ht2 (Or.inr ⟨hB.1, by have hB2 := hB.2; unfold kNM; (repeat' split) <;> omega⟩)) (fun z hz => hS.2.2 z hz) (Nat.le_of_ble_eq_true rfl) (Nat.le_of_ble_eq_true rfl)
    have hP := kp hP hk1
    generalize H1 = H at hP hS ⊢
    generalize locs1 = locs at hS ⊢
    obtain ⟨f16_0, f16_1⟩ := e16
    refine lv_aload_n hx hb dX1_nextMismatch_19 rfl (lv_at hl 0 rfl) ?_
    refine lv_iload_n hx hb dX1_nextMismatch_20 rfl (lv_at hl 1 rfl) ?_
    refine lv_iload_n hx hb dX1_nextMismatch_21 rfl (lv_at hl 2 rfl) ?_
    refine va_calli (va_runV (As := [.int x1, .int x2]) (rest := []) ⟨hx, hb, hml, hown, hts⟩ (c_X1_firstMismatch l D E h0 h1 h2 h3 y1 y2 y3 H.size (n) (w) T P M hn hw hT hPt x1 x2 (x1.toInt.toNat) (Eq.trans rfl (by omega)) (x2.toInt.toNat) (Eq.trans rfl (by omega)) (by omega)) (cwV 2 hts gX1_nextMismatch_X1_firstMismatch rfl rfl rfl (by decide +kernel) ⟨Nat.le_of_ble_eq_true rfl, Nat.le_of_ble_eq_true rfl⟩) ⟨cp.blind, va_recv hK hP (ci := 0) (q0 := 0) rfl rfl, fun U hU hW => ⟨rfl, cp.call hP hK hE hS (fr0 hS hA) hU hW⟩⟩ rfl rfl hl.1 rfl (lv_room (Nat.le_of_ble_eq_true rfl)) dX1_nextMismatch_22 ⟨Nat.le_of_ble_eq_true rfl, Nat.le_of_ble_eq_true rfl⟩) hS (fun q _ h => (fr0 hS hA) q h) (fr0 hS hA) (fun v22 u t H1 locs1 ht hvm e22 hB hz1 hk1 hS => ?_)
    have hP := kp hP hk1
    generalize H1 = H at hP hS ⊢
    generalize locs1 = locs at hS ⊢
    refine vx_ret ?_
    refine W.widen (k := 1) (n := 6) (Nat.le_of_ble_eq_true rfl) (Nat.le_of_ble_eq_true rfl) ?_
    exact W.iret (v := v22) hx hb hr (fun t ht hW => ⟨⟨_, (), rfl, ⟨(Eq.trans e22 (rfl)), by unfold kNM; (repeat' split) <;> omega⟩, trivial⟩, hS.F ht⟩) hS.2.2 dX1_nextMismatch_25
  · have _u := True.intro
    exact xIAE_throw hx hb hlt hown hts (by decide +kernel) hE hS (hl.1.trans hml.symm) hnt dX1_nextMismatch_4 dX1_nextMismatch_7 dX1_nextMismatch_8 dX1_nextMismatch_10 dX1_nextMismatch_13 (xS_112) (Nat.le_of_ble_eq_true rfl) (Nat.le_of_ble_eq_true rfl) (Nat.le_of_ble_eq_true rfl) (Nat.le_of_ble_eq_true rfl) hlocks (Or.inl ⟨rfl, by unfold kNM; (repeat' split) <;> omega⟩) (fun z hz => hS.2.2 z hz) (Nat.le_of_ble_eq_true rfl) (Nat.le_of_ble_eq_true rfl)

set_option maxHeartbeats 4000000 in
set_option maxRecDepth 100000 in
theorem c_X1_agreement (l : Launch) (hlt : l.stackTraces = false) (D : va_G) (E : Nat × Nat × Nat) (h0 h1 h2 h3 : Nat) (y1 y2 y3 : ClassId) (sz n w : Nat) (T P M : Nat → Int32) (hn : n ≤ 64) (hw : w ≤ 24) (hT : SymF T) (hPt : SymF P) (x1 : Int32) (x2 : Int32) : vx_Met l yX1_agreement wsX1_agreement ({ frames := 6, cells := 1, slots := 6, locals := 90 }) (va_Pc [.ref h0, .int x1, .int x2] (cp D (XW h0 h1 h2 h3 y1 y2 y3 (n) (w) T P M) (XT y1 y2 y3) E (va_A [] sz) sz)) (va_Qi (fun (r : Int32) (_ : Unit) => r.toInt = ((agr T P n w x1.toInt.toNat x2.toInt.toNat : Nat) : Int) ∧ kAg n w x1.toInt x2.toInt = 0) (fun _ _ => True) (va_A [] sz)) (tX (fun X => X = "java/lang/IllegalArgumentException" ∧ kAg n w x1.toInt x2.toInt = 1) sz) 1 6 (va_A [] sz) := by
  refine vx_ofW (cc := cX1_agreement) (maxL := 5) (ret := (some .int)) (by decide) rfl ?_
  intro p e s m args below meth c s₁ B hml hnt hv
  obtain ⟨rfl, hsz, hP, hK, hE⟩ := hv
  have hx := B.exec
  have hb := B.bytes
  have hr := B.returns
  have hts := atoms_spec (ws := wsX1_agreement) B.pre
  have hown : s.vm.findClass RX1 = some m.cls := findClass_of_methodNamed B.named
  have hlocks := B.notSynchronized
  have hsz : s.heap.size = sz := hsz
  subst hsz
  have hA : ∀ q : Nat, s.heap.size ≤ q → (va_A [] s.heap.size) q := fun q h => Or.inr h
  have hS : va_S (va_A [] s.heap.size) s.heap s.heap [] := va_S.rf
  have inn : (nI n).toInt = (n : Int) := nI_toInt (by omega)
  have iww : (nI w).toInt = (w : Int) := nI_toInt (by omega)
  have hf_pattern := hts (.fieldLink RX1 13 "BlankMatcher" "pattern" "[I") (by decide +kernel)
  have hf_patternSize := hts (.fieldLink RX1 23 "BlankMatcher" "patternSize" "I") (by decide +kernel)
  have hf_text := hts (.fieldLink RX1 9 "BlankMatcher" "text" "[I") (by decide +kernel)
  have hf_textSize := hts (.fieldLink RX1 19 "BlankMatcher" "textSize" "I") (by decide +kernel)
  have hpl : pl n w = n + 1 - w := rfl
  have hin0 : ∀ w ∈ wsX10, w ∈ wsX1_agreement := by decide +kernel
  have g_x1 := rg x1
  have g_x2 := rg x2
  have hl := lv_entry ([.ref h0, .int x1, .int x2]) (n := 5) (Nat.le_of_ble_eq_true rfl)
  rw [lg_entry_eq]
  generalize (lg_sl ([.ref h0, .int x1, .int x2]) ++ List.replicate (5 - (lg_sl ([.ref h0, .int x1, .int x2])).length) Slot.unset).toArray = ls at hl ⊢
  have hl : lv_has ls 5 [(0, .ref h0), (1, .int x1), (2, .int x2)] := hl
  refine lv_iload_n hx hb dX1_agreement_0 rfl (lv_at hl 1 rfl) ?_
  refine z_if_lt (tgt := 12) hx hb dX1_agreement_1 (by decide) rfl (fun c1 => ?_) (fun c1 => ?_)
  · have _u := True.intro
    exact xIAE_throw hx hb hlt hown hts (by decide +kernel) hE hS (hl.1.trans hml.symm) hnt dX1_agreement_12 dX1_agreement_15 dX1_agreement_16 dX1_agreement_18 dX1_agreement_21 (xS_117) (Nat.le_of_ble_eq_true rfl) (Nat.le_of_ble_eq_true rfl) (Nat.le_of_ble_eq_true rfl) (Nat.le_of_ble_eq_true rfl) hlocks (⟨rfl, by unfold kAg; (repeat' split) <;> omega⟩) (fun z hz => hS.2.2 z hz) (Nat.le_of_ble_eq_true rfl) (Nat.le_of_ble_eq_true rfl)
  · have _u := True.intro
    refine lv_iload_n hx hb dX1_agreement_4 rfl (lv_at hl 1 rfl) ?_
    refine lv_aload_n hx hb dX1_agreement_5 rfl (lv_at hl 0 rfl) ?_
    refine va_get (D := D) (ci := 0) (v := .int (nI n)) (C := RX1) (T := TX1) (N := 5) hx hb hts hin0 hown hK hP 0 rfl rfl 3 (by decide) hf_textSize (fun _ h9 => h9) rfl dX1_agreement_6 ?_
    refine z_icmp_le (tgt := 22) hx hb dX1_agreement_9 (by decide) rfl inn (fun c9 => ?_) (fun c9 => ?_)
    · have _u := True.intro
      refine lv_iload_n hx hb dX1_agreement_22 rfl (lv_at hl 2 rfl) ?_
      refine z_if_lt (tgt := 34) hx hb dX1_agreement_23 (by decide) rfl (fun c23 => ?_) (fun c23 => ?_)
      · have _u := True.intro
        exact xIAE_throw hx hb hlt hown hts (by decide +kernel) hE hS (hl.1.trans hml.symm) hnt dX1_agreement_34 dX1_agreement_37 dX1_agreement_38 dX1_agreement_40 dX1_agreement_43 (xS_119) (Nat.le_of_ble_eq_true rfl) (Nat.le_of_ble_eq_true rfl) (Nat.le_of_ble_eq_true rfl) (Nat.le_of_ble_eq_true rfl) hlocks (⟨rfl, by unfold kAg; (repeat' split) <;> omega⟩) (fun z hz => hS.2.2 z hz) (Nat.le_of_ble_eq_true rfl) (Nat.le_of_ble_eq_true rfl)
      · have _u := True.intro
        refine lv_iload_n hx hb dX1_agreement_26 rfl (lv_at hl 2 rfl) ?_
        refine lv_aload_n hx hb dX1_agreement_27 rfl (lv_at hl 0 rfl) ?_
        refine va_get (D := D) (ci := 0) (v := .int (nI w)) (C := RX1) (T := TX1) (N := 5) hx hb hts hin0 hown hK hP 0 rfl rfl 4 (by decide) hf_patternSize (fun _ h9 => h9) rfl dX1_agreement_28 ?_
        refine z_icmp_le (tgt := 44) hx hb dX1_agreement_31 (by decide) rfl iww (fun c31 => ?_) (fun c31 => ?_)
        · have _u := True.intro
          refine lv_aload_n hx hb dX1_agreement_44 rfl (lv_at hl 0 rfl) ?_
          refine va_get (D := D) (ci := 0) (v := .int (nI n)) (C := RX1) (T := TX1) (N := 5) hx hb hts hin0 hown hK hP 0 rfl rfl 3 (by decide) hf_textSize (fun _ h9 => h9) rfl dX1_agreement_45 ?_
          refine lv_iload_n hx hb dX1_agreement_48 rfl (lv_at hl 1 rfl) ?_
          refine z_isub hx hb dX1_agreement_49 inn rfl (by omega) (by omega) (fun v49 e49 => ?_)
          refine lv_aload_n hx hb dX1_agreement_50 rfl (lv_at hl 0 rfl) ?_
          refine va_get (D := D) (ci := 0) (v := .int (nI w)) (C := RX1) (T := TX1) (N := 5) hx hb hts hin0 hown hK hP 0 rfl rfl 4 (by decide) hf_patternSize (fun _ h9 => h9) rfl dX1_agreement_51 ?_
          refine lv_iload_n hx hb dX1_agreement_54 rfl (lv_at hl 2 rfl) ?_
          refine z_isub hx hb dX1_agreement_55 iww rfl (by omega) (by omega) (fun v55 e55 => ?_)
          refine va_mmin hx hb (by rw [hml]; exact hl.1.symm) hown (hts (.methodLink RX1 121 Lib.Math.min.name) (by decide +kernel)) (hts (.static Lib.Math.min.name) (by decide +kernel)) (hts (.initialized "java/lang/Math") (by decide +kernel)) (hts (.code Lib.Math.min.name Lib.Math.min.code 2 (some .int)) (by decide +kernel)) (Nat.le_of_ble_eq_true rfl) (Nat.le_of_ble_eq_true rfl) (Nat.le_of_ble_eq_true rfl) (Nat.le_of_ble_eq_true rfl) dX1_agreement_56 ?_
          refine lv_topi (fun v56 q56 => ?_)
          have e56 : v56.toInt = (((min (n - x1.toInt.toNat) (w - x2.toInt.toNat)) : Nat) : Int) := by
            rw [q56]; split <;> rename_i h <;> rw [zlt e55 e49] at h <;> first | (rw [e55]; omega) | (rw [e49]; omega)
          refine lv_istore_n (lv' := [(3, .int v56), (0, .ref h0), (1, .int x1), (2, .int x2)]) hx hb dX1_agreement_59 rfl hl (by decide) rfl (fun ls hl => ?_)
          refine lv_iconst (v := 0) hx hb dX1_agreement_60 (by decide) ?_
          refine lv_istore (lv' := [(4, .int 0), (3, .int v56), (0, .ref h0), (1, .int x1), (2, .int x2)]) hx hb dX1_agreement_61 hl (by decide) rfl (fun ls hl => ?_)
          have lp63 : ∀ (nf : Nat) (j : Nat) (x4 : Int32), (min (n - x1.toInt.toNat) (w - x2.toInt.toNat)) - j < nf → (j ≤ (min (n - x1.toInt.toNat) (w - x2.toInt.toNat))) → (∀ i, 0 ≤ i → i < j → naf T P x1.toInt.toNat x2.toInt.toNat i = false) → x4.toInt = (j : Int) → ∀ (H : Heap) (locs : List Loc), va_P D vwCl (XW h0 h1 h2 h3 y1 y2 y3 (n) (w) T P M) H → va_S (va_A [] s.heap.size) s.heap H locs → ∀ (ls : Array Slot), lv_has ls 5 [(0, .ref h0), (1, .int x1), (2, .int x2), (3, .int v56), (4, .int x4)] → W p l e (headSpec wsX1_agreement ({ frames := 6, cells := 1, slots := 6, locals := 90 })).room s m [.ref h0, .int x1, .int x2].toArray below meth c H locs 0 0 (vx_MQ below (va_Qi (fun (r : Int32) (_ : Unit) => r.toInt = ((agr T P n w x1.toInt.toNat x2.toInt.toNat : Nat) : Int) ∧ kAg n w x1.toInt x2.toInt = 0) (fun _ _ => True) (va_A [] s.heap.size)) (tX (fun X => X = "java/lang/IllegalArgumentException" ∧ kAg n w x1.toInt x2.toInt = 1) s.heap.size) [.ref h0, .int x1, .int x2].toArray s 1 6 (va_A [] s.heap.size)) (F0 m 63 ls []) := by
            intro nf
            induction nf with
            | zero => intros; omega
            | succ nf ih63 =>
              intro j x4 hnf hj hz e_x4 H locs hP hS ls hl
              refine lv_iload hx hb dX1_agreement_63 (lv_at hl 4 rfl) ?_
              refine lv_iload_n hx hb dX1_agreement_65 rfl (lv_at hl 3 rfl) ?_
              refine z_icmp_ge (tgt := 99) hx hb dX1_agreement_66 (by decide) e_x4 e56 (fun c66 => ?_) (fun c66 => ?_)
              · have _u := True.intro
                have qq : agr T P n w x1.toInt.toNat x2.toInt.toNat = j := (fst_no (fun i hi => hz i (Nat.zero_le i) (by omega))).trans (by omega)
                refine lv_iload hx hb dX1_agreement_99 (lv_at hl 4 rfl) ?_
                refine vx_ret ?_
                refine W.widen (k := 1) (n := 6) (Nat.le_of_ble_eq_true rfl) (Nat.le_of_ble_eq_true rfl) ?_
                exact W.iret (v := x4) hx hb hr (fun t ht hW => ⟨⟨_, (), rfl, ⟨(Eq.trans e_x4 (by rw [qq])), by unfold kAg; (repeat' split) <;> omega⟩, trivial⟩, hS.F ht⟩) hS.2.2 dX1_agreement_101
              · have _u := True.intro
                refine lv_aload_n hx hb dX1_agreement_69 rfl (lv_at hl 0 rfl) ?_
                refine va_get (D := D) (ci := 0) (v := .ref h1) (C := RX1) (T := TX1) (N := 5) hx hb hts hin0 hown hK hP 0 rfl rfl 0 (by decide) hf_text (fun _ h9 => h9) rfl dX1_agreement_70 ?_
                refine lv_iload_n hx hb dX1_agreement_73 rfl (lv_at hl 1 rfl) ?_
                refine lv_iload hx hb dX1_agreement_74 (lv_at hl 4 rfl) ?_
                refine z_iadd hx hb dX1_agreement_76 rfl e_x4 (by omega) (by omega) (fun v76 e76 => ?_)
                refine z_iald hx hb hK hP 1 0 rfl rfl (x1.toInt.toNat + j) e76 (by omega) (by omega) dX1_agreement_77 ?_
                refine lv_aload_n hx hb dX1_agreement_78 rfl (lv_at hl 0 rfl) ?_
                refine va_get (D := D) (ci := 0) (v := .ref h2) (C := RX1) (T := TX1) (N := 5) hx hb hts hin0 hown hK hP 0 rfl rfl 1 (by decide) hf_pattern (fun _ h9 => h9) rfl dX1_agreement_79 ?_
                refine lv_iload_n hx hb dX1_agreement_82 rfl (lv_at hl 2 rfl) ?_
                refine lv_iload hx hb dX1_agreement_83 (lv_at hl 4 rfl) ?_
                refine z_iadd hx hb dX1_agreement_85 rfl e_x4 (by omega) (by omega) (fun v85 e85 => ?_)
                refine z_iald hx hb hK hP 2 1 rfl rfl (x2.toInt.toNat + j) e85 (by omega) (by omega) dX1_agreement_86 ?_
                refine va_calli (va_runS (As := [.int (T (x1.toInt.toNat + j)), .int (P (x2.toInt.toNat + j))]) (rest := []) ⟨hx, hb, hml, hown, hts⟩ (c_X1_agree l H.size (T (x1.toInt.toNat + j)) (P (x2.toInt.toNat + j))) (va_cwS 2 hts gX1_agreement_X1_agree rfl rfl rfl (by decide +kernel) ⟨Nat.le_of_ble_eq_true rfl, Nat.le_of_ble_eq_true rfl⟩) ⟨cz.blind, fun U hU hW => ⟨rfl, cz.call hU⟩⟩ rfl rfl hl.1 rfl (lv_room (Nat.le_of_ble_eq_true rfl)) dX1_agreement_87 ⟨Nat.le_of_ble_eq_true rfl, Nat.le_of_ble_eq_true rfl⟩) hS (fun q _ h => (fr0 hS hA) q h) (fr0 hS hA) (fun v87 u t H1 locs1 ht hvm e87 hB hz1 hk1 hS => ?_)
                have hP := kp hP hk1
                generalize H1 = H at hP hS ⊢
                generalize locs1 = locs at hS ⊢
                refine zb_if_eq (tgt := 99) hx hb dX1_agreement_90 (by decide) e87 (fun c90 => ?_) (fun c90 => ?_)
                · have _u := True.intro
                  have qq : agr T P n w x1.toInt.toNat x2.toInt.toNat = j := fst_eq (by omega) (naf_t c90) (fun i hi => hz i (Nat.zero_le i) hi)
                  refine lv_iload hx hb dX1_agreement_99 (lv_at hl 4 rfl) ?_
                  refine vx_ret ?_
                  refine W.widen (k := 1) (n := 6) (Nat.le_of_ble_eq_true rfl) (Nat.le_of_ble_eq_true rfl) ?_
                  exact W.iret (v := x4) hx hb hr (fun t ht hW => ⟨⟨_, (), rfl, ⟨(Eq.trans e_x4 (by rw [qq])), by unfold kAg; (repeat' split) <;> omega⟩, trivial⟩, hS.F ht⟩) hS.2.2 dX1_agreement_101
                · have _u := True.intro
                  refine z_iinc (k := 4) (lv' := fun v => [(4, .int v), (0, .ref h0), (1, .int x1), (2, .int x2), (3, .int v56)]) hx hb dX1_agreement_93 hl rfl e_x4 (by decide) (by omega) (by omega) (by decide) (fun _ => rfl) (fun v93 ls e93 hl => ?_)
                  refine lv_goto (tgt := 63) hx hb dX1_agreement_96 (by decide) ?_
                  exact ih63 (j + 1) v93 (by omega) (by omega) (ltS hz (naf_f c90)) (Eq.trans e93 (by omega)) _ _ hP hS _ (lv_sub hl [1, 2, 3, 4, 0] rfl)
          exact lp63 (((min (n - x1.toInt.toNat) (w - x2.toInt.toNat)) - 0) + 1) (0) 0 (by omega) (by omega) (fun i h1 h2 => absurd h1 (by omega)) (Eq.trans (show (0 : Int32).toInt = 0 by decide) (by omega)) _ _ hP hS _ (lv_sub hl [2, 3, 4, 1, 0] rfl)
        · have _u := True.intro
          exact xIAE_throw hx hb hlt hown hts (by decide +kernel) hE hS (hl.1.trans hml.symm) hnt dX1_agreement_34 dX1_agreement_37 dX1_agreement_38 dX1_agreement_40 dX1_agreement_43 (xS_119) (Nat.le_of_ble_eq_true rfl) (Nat.le_of_ble_eq_true rfl) (Nat.le_of_ble_eq_true rfl) (Nat.le_of_ble_eq_true rfl) hlocks (⟨rfl, by unfold kAg; (repeat' split) <;> omega⟩) (fun z hz => hS.2.2 z hz) (Nat.le_of_ble_eq_true rfl) (Nat.le_of_ble_eq_true rfl)
    · have _u := True.intro
      exact xIAE_throw hx hb hlt hown hts (by decide +kernel) hE hS (hl.1.trans hml.symm) hnt dX1_agreement_12 dX1_agreement_15 dX1_agreement_16 dX1_agreement_18 dX1_agreement_21 (xS_117) (Nat.le_of_ble_eq_true rfl) (Nat.le_of_ble_eq_true rfl) (Nat.le_of_ble_eq_true rfl) (Nat.le_of_ble_eq_true rfl) hlocks (⟨rfl, by unfold kAg; (repeat' split) <;> omega⟩) (fun z hz => hS.2.2 z hz) (Nat.le_of_ble_eq_true rfl) (Nat.le_of_ble_eq_true rfl)

set_option maxHeartbeats 4000000 in
set_option maxRecDepth 100000 in
theorem c_X1_within (l : Launch) (hlt : l.stackTraces = false) (D : va_G) (E : Nat × Nat × Nat) (h0 h1 h2 h3 : Nat) (y1 y2 y3 : ClassId) (sz n w : Nat) (T P M : Nat → Int32) (hn : n ≤ 64) (hw : w ≤ 24) (hT : SymF T) (hPt : SymF P) (x1 : Int32) : vx_Met l yX1_within wsX1_within ({ frames := 6, cells := 1, slots := 6, locals := 90 }) (va_Pc [.ref h0, .int x1] (cp D (XW h0 h1 h2 h3 y1 y2 y3 (n) (w) T P M) (XT y1 y2 y3) E (va_A [] sz) sz)) (va_Qi (fun (r : Int32) (_ : Unit) => r.toInt = ((cnt (wf T P w x1.toInt) (pl n w) : Nat) : Int) ∧ kNeg x1.toInt = 0) (fun _ _ => True) (va_A [] sz)) (tX (fun X => X = "java/lang/IllegalArgumentException" ∧ kNeg x1.toInt = 1) sz) 1 6 (va_A [] sz) := by
  refine vx_ofW (cc := cX1_within) (maxL := 5) (ret := (some .int)) (by decide) rfl ?_
  intro p e s m args below meth c s₁ B hml hnt hv
  obtain ⟨rfl, hsz, hP, hK, hE⟩ := hv
  have hx := B.exec
  have hb := B.bytes
  have hr := B.returns
  have hts := atoms_spec (ws := wsX1_within) B.pre
  have hown : s.vm.findClass RX1 = some m.cls := findClass_of_methodNamed B.named
  have hlocks := B.notSynchronized
  have hsz : s.heap.size = sz := hsz
  subst hsz
  have hA : ∀ q : Nat, s.heap.size ≤ q → (va_A [] s.heap.size) q := fun q h => Or.inr h
  have hS : va_S (va_A [] s.heap.size) s.heap s.heap [] := va_S.rf
  have inn : (nI n).toInt = (n : Int) := nI_toInt (by omega)
  have iww : (nI w).toInt = (w : Int) := nI_toInt (by omega)
  have hpl : pl n w = n + 1 - w := rfl
  have g_x1 := rg x1
  have hl := lv_entry ([.ref h0, .int x1]) (n := 5) (Nat.le_of_ble_eq_true rfl)
  rw [lg_entry_eq]
  generalize (lg_sl ([.ref h0, .int x1]) ++ List.replicate (5 - (lg_sl ([.ref h0, .int x1])).length) Slot.unset).toArray = ls at hl ⊢
  have hl : lv_has ls 5 [(0, .ref h0), (1, .int x1)] := hl
  refine lv_iload_n hx hb dX1_within_0 rfl (lv_at hl 1 rfl) ?_
  refine z_if_ge (tgt := 14) hx hb dX1_within_1 (by decide) rfl (fun c1 => ?_) (fun c1 => ?_)
  · have _u := True.intro
    refine lv_aload_n hx hb dX1_within_14 rfl (lv_at hl 0 rfl) ?_
    refine va_calli (va_runV (As := []) (rest := []) ⟨hx, hb, hml, hown, hts⟩ (c_X1_places l D E h0 h1 h2 h3 y1 y2 y3 s.heap.size (n) (w) T P M hn hw hT hPt) (cwV 0 hts gX1_within_X1_places rfl rfl rfl (by decide +kernel) ⟨Nat.le_of_ble_eq_true rfl, Nat.le_of_ble_eq_true rfl⟩) ⟨cp.blind, va_recv hK hP (ci := 0) (q0 := 0) rfl rfl, fun U hU hW => ⟨rfl, cp.call hP hK hE hS (fr0 hS hA) hU hW⟩⟩ rfl rfl hl.1 rfl (lv_room (Nat.le_of_ble_eq_true rfl)) dX1_within_15 ⟨Nat.le_of_ble_eq_true rfl, Nat.le_of_ble_eq_true rfl⟩) hS (fun q _ h => (fr0 hS hA) q h) (fr0 hS hA) (fun v15 u t H1 locs1 ht hvm e15 hB hz1 hk1 hS => ?_)
    have hP := kp hP hk1
    generalize H1 = H at hP hS ⊢
    generalize locs1 = locs at hS ⊢
    refine lv_istore_n (lv' := [(2, .int v15), (0, .ref h0), (1, .int x1)]) hx hb dX1_within_18 rfl hl (by decide) rfl (fun ls hl => ?_)
    refine lv_iconst (v := 0) hx hb dX1_within_19 (by decide) ?_
    refine lv_istore_n (lv' := [(3, .int 0), (2, .int v15), (0, .ref h0), (1, .int x1)]) hx hb dX1_within_20 rfl hl (by decide) rfl (fun ls hl => ?_)
    refine lv_iconst (v := 0) hx hb dX1_within_21 (by decide) ?_
    refine lv_istore (lv' := [(4, .int 0), (3, .int 0), (2, .int v15), (0, .ref h0), (1, .int x1)]) hx hb dX1_within_22 hl (by decide) rfl (fun ls hl => ?_)
    have lp24 : ∀ (nf : Nat) (j : Nat) (x3 : Int32) (x4 : Int32), pl n w - j < nf → (j ≤ pl n w) → x3.toInt = ((cnt (wf T P w x1.toInt) j : Nat) : Int) → x4.toInt = (j : Int) → ∀ (H : Heap) (locs : List Loc), va_P D vwCl (XW h0 h1 h2 h3 y1 y2 y3 (n) (w) T P M) H → va_S (va_A [] s.heap.size) s.heap H locs → ∀ (ls : Array Slot), lv_has ls 5 [(0, .ref h0), (1, .int x1), (2, .int v15), (3, .int x3), (4, .int x4)] → W p l e (headSpec wsX1_within ({ frames := 6, cells := 1, slots := 6, locals := 90 })).room s m [.ref h0, .int x1].toArray below meth c H locs 0 0 (vx_MQ below (va_Qi (fun (r : Int32) (_ : Unit) => r.toInt = ((cnt (wf T P w x1.toInt) (pl n w) : Nat) : Int) ∧ kNeg x1.toInt = 0) (fun _ _ => True) (va_A [] s.heap.size)) (tX (fun X => X = "java/lang/IllegalArgumentException" ∧ kNeg x1.toInt = 1) s.heap.size) [.ref h0, .int x1].toArray s 1 6 (va_A [] s.heap.size)) (F0 m 24 ls []) := by
      intro nf
      induction nf with
      | zero => intros; omega
      | succ nf ih24 =>
        intro j x3 x4 hnf hj e_x3 e_x4 H locs hP hS ls hl
        have hcl := cnt_le (wf T P w x1.toInt) j
        refine lv_iload hx hb dX1_within_24 (lv_at hl 4 rfl) ?_
        refine lv_iload_n hx hb dX1_within_26 rfl (lv_at hl 2 rfl) ?_
        refine z_icmp_ge (tgt := 49) hx hb dX1_within_27 (by decide) e_x4 e15 (fun c27 => ?_) (fun c27 => ?_)
        · have _u := True.intro
          refine lv_iload_n hx hb dX1_within_49 rfl (lv_at hl 3 rfl) ?_
          refine vx_ret ?_
          refine W.widen (k := 1) (n := 6) (Nat.le_of_ble_eq_true rfl) (Nat.le_of_ble_eq_true rfl) ?_
          exact W.iret (v := x3) hx hb hr (fun t ht hW => ⟨⟨_, (), rfl, ⟨(Eq.trans e_x3 (by have q : j = pl n w := (by omega); rw [q])), by unfold kNeg; (repeat' split) <;> omega⟩, trivial⟩, hS.F ht⟩) hS.2.2 dX1_within_50
        · have _u := True.intro
          refine lv_aload_n hx hb dX1_within_30 rfl (lv_at hl 0 rfl) ?_
          refine lv_iload hx hb dX1_within_31 (lv_at hl 4 rfl) ?_
          refine va_calli (va_runV (As := [.int x4]) (rest := []) ⟨hx, hb, hml, hown, hts⟩ (c_X1_countMismatches l D E h0 h1 h2 h3 y1 y2 y3 H.size (n) (w) T P M hn hw hT hPt x4 (j) (Eq.trans e_x4 (by omega)) (by omega)) (cwV 1 hts gX1_within_X1_countMismatches rfl rfl rfl (by decide +kernel) ⟨Nat.le_of_ble_eq_true rfl, Nat.le_of_ble_eq_true rfl⟩) ⟨cp.blind, va_recv hK hP (ci := 0) (q0 := 0) rfl rfl, fun U hU hW => ⟨rfl, cp.call hP hK hE hS (fr0 hS hA) hU hW⟩⟩ rfl rfl hl.1 rfl (lv_room (Nat.le_of_ble_eq_true rfl)) dX1_within_33 ⟨Nat.le_of_ble_eq_true rfl, Nat.le_of_ble_eq_true rfl⟩) hS (fun q _ h => (fr0 hS hA) q h) (fr0 hS hA) (fun v33 u t H1 locs1 ht hvm e33 hB hz1 hk1 hS => ?_)
          have hP := kp hP hk1
          generalize H1 = H at hP hS ⊢
          generalize locs1 = locs at hS ⊢
          refine lv_iload_n hx hb dX1_within_36 rfl (lv_at hl 1 rfl) ?_
          refine z_icmp_gt (tgt := 43) hx hb dX1_within_37 (by decide) e33 rfl (fun c37 => ?_) (fun c37 => ?_)
          · have _u := True.intro
            have q := cnt_f (f := wf T P w x1.toInt) (k := j) (decide_eq_false (by omega))
            refine z_iinc (k := 4) (lv' := fun v => [(4, .int v), (0, .ref h0), (1, .int x1), (2, .int v15), (3, .int x3)]) hx hb dX1_within_43 hl rfl e_x4 (by decide) (by omega) (by omega) (by decide) (fun _ => rfl) (fun v43 ls e43 hl => ?_)
            refine lv_goto (tgt := 24) hx hb dX1_within_46 (by decide) ?_
            exact ih24 (j + 1) x3 v43 (by omega) (by omega) (Eq.trans e_x3 (by omega)) (Eq.trans e43 (by omega)) _ _ hP hS _ (lv_sub hl [1, 2, 3, 4, 0] rfl)
          · have _u := True.intro
            have q := cnt_t (f := wf T P w x1.toInt) (k := j) (decide_eq_true (by omega))
            refine z_iinc (k := 3) (lv' := fun v => [(3, .int v), (0, .ref h0), (1, .int x1), (2, .int v15), (4, .int x4)]) hx hb dX1_within_40 hl rfl e_x3 (by decide) (by omega) (by omega) (by decide) (fun _ => rfl) (fun v40 ls e40 hl => ?_)
            refine z_iinc (k := 4) (lv' := fun v => [(4, .int v), (3, .int v40), (0, .ref h0), (1, .int x1), (2, .int v15)]) hx hb dX1_within_43 hl rfl e_x4 (by decide) (by omega) (by omega) (by decide) (fun _ => rfl) (fun v43 ls e43 hl => ?_)
            refine lv_goto (tgt := 24) hx hb dX1_within_46 (by decide) ?_
            exact ih24 (j + 1) v40 v43 (by omega) (by omega) (Eq.trans e40 (by omega)) (Eq.trans e43 (by omega)) _ _ hP hS _ (lv_sub hl [2, 3, 4, 1, 0] rfl)
    have hc0 := cnt_0 (wf T P w x1.toInt)
    exact lp24 ((pl n w - 0) + 1) (0) 0 0 (by omega) (by omega) (Eq.trans (show (0 : Int32).toInt = 0 by decide) (by omega)) (Eq.trans (show (0 : Int32).toInt = 0 by decide) (by omega)) _ _ hP hS _ (lv_sub hl [3, 4, 2, 1, 0] rfl)
  · have _u := True.intro
    exact xIAE_throw hx hb hlt hown hts (by decide +kernel) hE hS (hl.1.trans hml.symm) hnt dX1_within_4 dX1_within_7 dX1_within_8 dX1_within_10 dX1_within_13 (xS_124) (Nat.le_of_ble_eq_true rfl) (Nat.le_of_ble_eq_true rfl) (Nat.le_of_ble_eq_true rfl) (Nat.le_of_ble_eq_true rfl) hlocks (⟨rfl, by unfold kNeg; (repeat' split) <;> omega⟩) (fun z hz => hS.2.2 z hz) (Nat.le_of_ble_eq_true rfl) (Nat.le_of_ble_eq_true rfl)

set_option maxHeartbeats 4000000 in
set_option maxRecDepth 100000 in
theorem c_X1_placeOfRank (l : Launch) (D : va_G) (E : Nat × Nat × Nat) (h0 h1 h2 h3 : Nat) (y1 y2 y3 : ClassId) (sz n w : Nat) (T P M : Nat → Int32) (hn : n ≤ 64) (hw : w ≤ 24) (hT : SymF T) (hPt : SymF P) (x1 : Int32) (x2 : Int32) (rk : Nat) (e_rk : x1.toInt = (rk : Int)) (q : Nat) (e_q : x2.toInt = (q : Int)) (hq : q ≤ 65) (hM : ∀ p, p < q → (M p).toInt = ((mis T P p w : Nat) : Int)) (hr0 : rk < q) : Met l yX1_placeOfRank wsX1_placeOfRank ({ frames := 0, cells := 0, slots := 0, locals := 0 }) (va_Pc [.ref h0, .int x1, .int x2] (cp D (XW h0 h1 h2 h3 y1 y2 y3 (n) (w) T P M) (XT y1 y2 y3) E (va_A [] sz) sz)) (va_Qi (fun (r : Int32) (_ : Unit) => r.toInt = ((rkP (fun p => mis T P p w) q rk : Nat) : Int)) (fun _ _ => True) (va_A [] sz)) 0 0 (va_A [] sz) := by
  refine Met.ofW (cc := cX1_placeOfRank) (maxL := 6) (ret := (some .int)) (by decide) rfl ?_
  intro p e s m args below meth c s₁ B hml hv
  obtain ⟨rfl, hsz, hP, hK, hE⟩ := hv
  have hx := B.exec
  have hb := B.bytes
  have hr := B.returns
  have hts := atoms_spec (ws := wsX1_placeOfRank) B.pre
  have hown : s.vm.findClass RX1 = some m.cls := findClass_of_methodNamed B.named
  have hlocks := B.notSynchronized
  have hsz : s.heap.size = sz := hsz
  subst hsz
  have hA : ∀ q : Nat, s.heap.size ≤ q → (va_A [] s.heap.size) q := fun q h => Or.inr h
  have hS : va_S (va_A [] s.heap.size) s.heap s.heap [] := va_S.rf
  have inn : (nI n).toInt = (n : Int) := nI_toInt (by omega)
  have iww : (nI w).toInt = (w : Int) := nI_toInt (by omega)
  have hf_mismatchesByPlace := hts (.fieldLink RX1 16 "BlankMatcher" "mismatchesByPlace" "[I") (by decide +kernel)
  have hf_patternSize := hts (.fieldLink RX1 23 "BlankMatcher" "patternSize" "I") (by decide +kernel)
  have hpl : pl n w = n + 1 - w := rfl
  have hin0 : ∀ w ∈ wsX10, w ∈ wsX1_placeOfRank := by decide +kernel
  have g_x1 := rg x1
  have g_x2 := rg x2
  have hl := lv_entry ([.ref h0, .int x1, .int x2]) (n := 6) (Nat.le_of_ble_eq_true rfl)
  rw [lg_entry_eq]
  generalize (lg_sl ([.ref h0, .int x1, .int x2]) ++ List.replicate (6 - (lg_sl ([.ref h0, .int x1, .int x2])).length) Slot.unset).toArray = ls at hl ⊢
  have hl : lv_has ls 6 [(0, .ref h0), (1, .int x1), (2, .int x2)] := hl
  refine lv_iconst (v := 0) hx hb dX1_placeOfRank_0 (by decide) ?_
  refine lv_istore_n (lv' := [(3, .int 0), (0, .ref h0), (1, .int x1), (2, .int x2)]) hx hb dX1_placeOfRank_1 rfl hl (by decide) rfl (fun ls hl => ?_)
  refine lv_iconst (v := 0) hx hb dX1_placeOfRank_2 (by decide) ?_
  refine lv_istore (lv' := [(4, .int 0), (3, .int 0), (0, .ref h0), (1, .int x1), (2, .int x2)]) hx hb dX1_placeOfRank_3 hl (by decide) rfl (fun ls hl => ?_)
  have lp5 : ∀ (nf : Nat) (v : Nat) (x3 : Int32) (x4 : Int32), w + 1 - v < nf → (v ≤ w + 1) → (cnt (ltc (fun p => mis T P p w) v) q ≤ rk) → x3.toInt = ((cnt (ltc (fun p => mis T P p w) v) q : Nat) : Int) → x4.toInt = (v : Int) → ∀ (H : Heap) (locs : List Loc), va_P D vwCl (XW h0 h1 h2 h3 y1 y2 y3 (n) (w) T P M) H → va_S (va_A [] s.heap.size) s.heap H locs → ∀ (ls : Array Slot), lv_has ls 6 [(0, .ref h0), (1, .int x1), (2, .int x2), (3, .int x3), (4, .int x4)] → W p l e (headSpec wsX1_placeOfRank ({ frames := 0, cells := 0, slots := 0, locals := 0 })).room s m [.ref h0, .int x1, .int x2].toArray below meth c H locs 0 0 (MQ below (va_Qi (fun (r : Int32) (_ : Unit) => r.toInt = ((rkP (fun p => mis T P p w) q rk : Nat) : Int)) (fun _ _ => True) (va_A [] s.heap.size)) [.ref h0, .int x1, .int x2].toArray s 0 0 (va_A [] s.heap.size)) (F0 m 5 ls []) := by
    intro nf
    induction nf with
    | zero => intros; omega
    | succ nf ih5 =>
      intro v x3 x4 hnf hv hle e_x3 e_x4 H locs hP hS ls hl
      refine lv_iload hx hb dX1_placeOfRank_5 (lv_at hl 4 rfl) ?_
      refine lv_aload_n hx hb dX1_placeOfRank_7 rfl (lv_at hl 0 rfl) ?_
      refine va_get (D := D) (ci := 0) (v := .int (nI w)) (C := RX1) (T := TX1) (N := 5) hx hb hts hin0 hown hK hP 0 rfl rfl 4 (by decide) hf_patternSize (fun _ h9 => h9) rfl dX1_placeOfRank_8 ?_
      refine z_icmp_gt (tgt := 58) hx hb dX1_placeOfRank_11 (by decide) e_x4 iww (fun c11 => ?_) (fun c11 => ?_)
      · have _u := True.intro
        have ha := ltc_all (c := (fun p => mis T P p w)) (v := v) (q := q) (fun p _ => Nat.lt_of_le_of_lt (cnt_le (mf T P p) w) (by omega)); exfalso; omega
      · have _u := True.intro
        refine lv_iconst (v := 0) hx hb dX1_placeOfRank_14 (by decide) ?_
        refine lv_istore (lv' := [(5, .int 0), (0, .ref h0), (1, .int x1), (2, .int x2), (3, .int x3), (4, .int x4)]) hx hb dX1_placeOfRank_15 hl (by decide) rfl (fun ls hl => ?_)
        have lp17 : ∀ (nf : Nat) (j : Nat) (x3 : Int32) (x5 : Int32), q - j < nf → (j ≤ q) → (cnt (ltc (fun p => mis T P p w) v) q + cnt (eqc (fun p => mis T P p w) v) j ≤ rk) → x3.toInt = ((cnt (ltc (fun p => mis T P p w) v) q + cnt (eqc (fun p => mis T P p w) v) j : Nat) : Int) → x5.toInt = (j : Int) → ∀ (H : Heap) (locs : List Loc), va_P D vwCl (XW h0 h1 h2 h3 y1 y2 y3 (n) (w) T P M) H → va_S (va_A [] s.heap.size) s.heap H locs → ∀ (ls : Array Slot), lv_has ls 6 [(0, .ref h0), (1, .int x1), (2, .int x2), (3, .int x3), (4, .int x4), (5, .int x5)] → W p l e (headSpec wsX1_placeOfRank ({ frames := 0, cells := 0, slots := 0, locals := 0 })).room s m [.ref h0, .int x1, .int x2].toArray below meth c H locs 0 0 (MQ below (va_Qi (fun (r : Int32) (_ : Unit) => r.toInt = ((rkP (fun p => mis T P p w) q rk : Nat) : Int)) (fun _ _ => True) (va_A [] s.heap.size)) [.ref h0, .int x1, .int x2].toArray s 0 0 (va_A [] s.heap.size)) (F0 m 17 ls []) := by
          intro nf
          induction nf with
          | zero => intros; omega
          | succ nf ih17 =>
            intro j x3 x5 hnf hj hl2 e_x3 e_x5 H locs hP hS ls hl
            refine lv_iload hx hb dX1_placeOfRank_17 (lv_at hl 5 rfl) ?_
            refine lv_iload_n hx hb dX1_placeOfRank_19 rfl (lv_at hl 2 rfl) ?_
            refine z_icmp_ge (tgt := 52) hx hb dX1_placeOfRank_20 (by decide) e_x5 e_q (fun c20 => ?_) (fun c20 => ?_)
            · have _u := True.intro
              have hj2 : j = q := by omega
              have hs2 := ltc_s (c := (fun p => mis T P p w)) (v := v) (q := q)
              rw [hj2] at hl2 e_x3
              refine z_iinc (k := 4) (lv' := fun v => [(4, .int v), (0, .ref h0), (1, .int x1), (2, .int x2), (3, .int x3), (5, .int x5)]) hx hb dX1_placeOfRank_52 hl rfl e_x4 (by decide) (by omega) (by omega) (by decide) (fun _ => rfl) (fun v52 ls e52 hl => ?_)
              refine lv_goto (tgt := 5) hx hb dX1_placeOfRank_55 (by decide) ?_
              exact ih5 (v + 1) x3 v52 (by omega) (by omega) (by omega) (Eq.trans e_x3 (by omega)) (Eq.trans e52 (by omega)) _ _ hP hS _ (lv_sub hl [1, 2, 3, 4, 0] rfl)
            · have _u := True.intro
              have hMj := hM j (by omega)
              refine lv_aload_n hx hb dX1_placeOfRank_23 rfl (lv_at hl 0 rfl) ?_
              refine va_get (D := D) (ci := 0) (v := .ref h3) (C := RX1) (T := TX1) (N := 5) hx hb hts hin0 hown hK hP 0 rfl rfl 2 (by decide) hf_mismatchesByPlace (fun _ h9 => h9) rfl dX1_placeOfRank_24 ?_
              refine lv_iload hx hb dX1_placeOfRank_27 (lv_at hl 5 rfl) ?_
              refine z_iald hx hb hK hP 3 2 rfl rfl (j) e_x5 (by omega) (by omega) dX1_placeOfRank_29 ?_
              refine lv_iload hx hb dX1_placeOfRank_30 (lv_at hl 4 rfl) ?_
              refine z_icmp_ne (tgt := 46) hx hb dX1_placeOfRank_32 (by decide) rfl e_x4 (fun c32 => ?_) (fun c32 => ?_)
              · have _u := True.intro
                have qs := cnt_f (f := eqc (fun p => mis T P p w) v) (k := j) (decide_eq_false (fun q9 => c32 (by rw [hMj]; exact congrArg _ q9)))
                refine z_iinc (k := 5) (lv' := fun v => [(5, .int v), (0, .ref h0), (1, .int x1), (2, .int x2), (3, .int x3), (4, .int x4)]) hx hb dX1_placeOfRank_46 hl rfl e_x5 (by decide) (by omega) (by omega) (by decide) (fun _ => rfl) (fun v46 ls e46 hl => ?_)
                refine lv_goto (tgt := 17) hx hb dX1_placeOfRank_49 (by decide) ?_
                exact ih17 (j + 1) x3 v46 (by omega) (by omega) (by omega) (Eq.trans e_x3 (by omega)) (Eq.trans e46 (by omega)) _ _ hP hS _ (lv_sub hl [1, 2, 3, 4, 5, 0] rfl)
              · have _u := True.intro
                have ev : mis T P j w = v := by omega
                have qs := cnt_t (f := eqc (fun p => mis T P p w) v) (k := j) (decide_eq_true ev)
                refine lv_iload_n hx hb dX1_placeOfRank_35 rfl (lv_at hl 3 rfl) ?_
                refine lv_iload_n hx hb dX1_placeOfRank_36 rfl (lv_at hl 1 rfl) ?_
                refine z_icmp_ne (tgt := 43) hx hb dX1_placeOfRank_37 (by decide) e_x3 e_rk (fun c37 => ?_) (fun c37 => ?_)
                · have _u := True.intro
                  refine z_iinc (k := 3) (lv' := fun v => [(3, .int v), (0, .ref h0), (1, .int x1), (2, .int x2), (4, .int x4), (5, .int x5)]) hx hb dX1_placeOfRank_43 hl rfl e_x3 (by decide) (by omega) (by omega) (by decide) (fun _ => rfl) (fun v43 ls e43 hl => ?_)
                  refine z_iinc (k := 5) (lv' := fun v => [(5, .int v), (3, .int v43), (0, .ref h0), (1, .int x1), (2, .int x2), (4, .int x4)]) hx hb dX1_placeOfRank_46 hl rfl e_x5 (by decide) (by omega) (by omega) (by decide) (fun _ => rfl) (fun v46 ls e46 hl => ?_)
                  refine lv_goto (tgt := 17) hx hb dX1_placeOfRank_49 (by decide) ?_
                  exact ih17 (j + 1) v43 v46 (by omega) (by omega) (by omega) (Eq.trans e43 (by omega)) (Eq.trans e46 (by omega)) _ _ hP hS _ (lv_sub hl [2, 3, 4, 1, 5, 0] rfl)
                · have _u := True.intro
                  have hah : ahd (fun p => mis T P p w) q j = rk := by rw [ahd_eq (by omega)]; show cnt (ltc (fun p => mis T P p w) (mis T P j w)) q + cnt (eqc (fun p => mis T P p w) (mis T P j w)) j = rk; rw [ev]; omega
                  refine lv_iload hx hb dX1_placeOfRank_40 (lv_at hl 5 rfl) ?_
                  refine W.widen (k := 0) (n := 0) (Nat.le_of_ble_eq_true rfl) (Nat.le_of_ble_eq_true rfl) ?_
                  exact W.iret (v := x5) hx hb hr (fun t ht hW => ⟨⟨_, (), rfl, (Eq.trans e_x5 (by rw [rkP_at (by omega) hah])), trivial⟩, hS.F ht⟩) hS.2.2 dX1_placeOfRank_42
        have hc1 := cnt_0 (eqc (fun p => mis T P p w) v)
        exact lp17 ((q - 0) + 1) (0) x3 0 (by omega) (by omega) (by omega) (Eq.trans e_x3 (by omega)) (Eq.trans (show (0 : Int32).toInt = 0 by decide) (by omega)) _ _ hP hS _ (lv_sub hl [1, 2, 3, 4, 5, 0] rfl)
  have hc0 := ltc_0 (c := (fun p => mis T P p w)) (q := q)
  exact lp5 ((w + 1 - 0) + 1) (0) 0 0 (by omega) (by omega) (by omega) (Eq.trans (show (0 : Int32).toInt = 0 by decide) (by omega)) (Eq.trans (show (0 : Int32).toInt = 0 by decide) (by omega)) _ _ hP hS _ (lv_sub hl [2, 3, 4, 1, 0] rfl)

set_option maxHeartbeats 4000000 in
set_option maxRecDepth 100000 in
theorem c_X1_ranked (l : Launch) (hlt : l.stackTraces = false) (D : va_G) (E : Nat × Nat × Nat) (h0 h1 h2 h3 : Nat) (y1 y2 y3 : ClassId) (sz n w : Nat) (T P M : Nat → Int32) (hn : n ≤ 64) (hw : w ≤ 24) (hT : SymF T) (hPt : SymF P) (hD0 : va_D (fun _ => True) (XW h0 h1 h2 h3 y1 y2 y3 (n) (w) T P M)) (x1 : Int32) : vx_Met l yX1_ranked wsX1_ranked ({ frames := 6, cells := 1, slots := 6, locals := 90 }) (va_Pc [.ref h0, .int x1] (cp D (XW h0 h1 h2 h3 y1 y2 y3 (n) (w) T P M) (XT y1 y2 y3) E (va_A (XW h0 h1 h2 h3 y1 y2 y3 (n) (w) T P M) sz) sz)) (va_Qi (fun (r : Int32) (_ : Nat → Int32) => r.toInt = ((rkP (fun p => mis T P p w) (pl n w) x1.toInt.toNat : Nat) : Int) ∧ kPl (pl n w) x1.toInt = 0) (fun (M2 : Nat → Int32) t => va_P D vwCl (XW h0 h1 h2 h3 y1 y2 y3 (n) (w) T P M2) t.heap ∧ va_D (va_A (XW h0 h1 h2 h3 y1 y2 y3 (n) (w) T P M) sz) (XW h0 h1 h2 h3 y1 y2 y3 (n) (w) T P M2)) (va_A (XW h0 h1 h2 h3 y1 y2 y3 (n) (w) T P M) sz)) (tX (fun X => X = "java/lang/IndexOutOfBoundsException" ∧ kPl (pl n w) x1.toInt = 1) sz) 1 6 (va_A (XW h0 h1 h2 h3 y1 y2 y3 (n) (w) T P M) sz) := by
  refine vx_ofW (cc := cX1_ranked) (maxL := 4) (ret := (some .int)) (by decide) rfl ?_
  intro p e s m args below meth c s₁ B hml hnt hv
  obtain ⟨rfl, hsz, hP, hK, hE⟩ := hv
  have hx := B.exec
  have hb := B.bytes
  have hr := B.returns
  have hts := atoms_spec (ws := wsX1_ranked) B.pre
  have hown : s.vm.findClass RX1 = some m.cls := findClass_of_methodNamed B.named
  have hlocks := B.notSynchronized
  have hsz : s.heap.size = sz := hsz
  subst hsz
  have hD := hD0.self (sz := s.heap.size)
  have hA : ∀ q : Nat, s.heap.size ≤ q → (va_A (XW h0 h1 h2 h3 y1 y2 y3 (n) (w) T P M) s.heap.size) q := fun q h => Or.inr h
  have hS : va_S (va_A (XW h0 h1 h2 h3 y1 y2 y3 (n) (w) T P M) s.heap.size) s.heap s.heap [] := va_S.rf
  have hEb := hE
  have hAb := hA
  have hE := XEnv.narrow0 hE (B := va_A [] s.heap.size) (fun q h => nA0 h)
  have hA : ∀ q : Nat, s.heap.size ≤ q → va_A [] s.heap.size q := fun q h => Or.inr h
  have hS : va_S (va_A [] s.heap.size) s.heap s.heap [] := va_S.rf
  have inn : (nI n).toInt = (n : Int) := nI_toInt (by omega)
  have iww : (nI w).toInt = (w : Int) := nI_toInt (by omega)
  have hf_mismatchesByPlace := hts (.fieldLink RX1 16 "BlankMatcher" "mismatchesByPlace" "[I") (by decide +kernel)
  have hpl : pl n w = n + 1 - w := rfl
  have hin0 : ∀ w ∈ wsX10, w ∈ wsX1_ranked := by decide +kernel
  have g_x1 := rg x1
  have hl := lv_entry ([.ref h0, .int x1]) (n := 4) (Nat.le_of_ble_eq_true rfl)
  rw [lg_entry_eq]
  generalize (lg_sl ([.ref h0, .int x1]) ++ List.replicate (4 - (lg_sl ([.ref h0, .int x1])).length) Slot.unset).toArray = ls at hl ⊢
  have hl : lv_has ls 4 [(0, .ref h0), (1, .int x1)] := hl
  refine lv_aload_n hx hb dX1_ranked_0 rfl (lv_at hl 0 rfl) ?_
  refine va_calli (va_runV (As := []) (rest := []) ⟨hx, hb, hml, hown, hts⟩ (c_X1_places l D E h0 h1 h2 h3 y1 y2 y3 s.heap.size (n) (w) T P M hn hw hT hPt) (cwV 0 hts gX1_ranked_X1_places rfl rfl rfl (by decide +kernel) ⟨Nat.le_of_ble_eq_true rfl, Nat.le_of_ble_eq_true rfl⟩) ⟨cp.blind, va_recv hK hP (ci := 0) (q0 := 0) rfl rfl, fun U hU hW => ⟨rfl, cp.call hP hK hE hS (fr0 hS hA) hU hW⟩⟩ rfl rfl hl.1 rfl (lv_room (Nat.le_of_ble_eq_true rfl)) dX1_ranked_1 ⟨Nat.le_of_ble_eq_true rfl, Nat.le_of_ble_eq_true rfl⟩) hS (fun q _ h => (fr0 hS hA) q h) (fr0 hS hA) (fun v1 u t H1 locs1 ht hvm e1 hB hz1 hk1 hS => ?_)
  have hP := kp hP hk1
  generalize H1 = H at hP hS ⊢
  generalize locs1 = locs at hS ⊢
  refine lv_istore_n (lv' := [(2, .int v1), (0, .ref h0), (1, .int x1)]) hx hb dX1_ranked_4 rfl hl (by decide) rfl (fun ls hl => ?_)
  refine lv_iload_n hx hb dX1_ranked_5 rfl (lv_at hl 2 rfl) ?_
  refine z_if_lt (tgt := 14) hx hb dX1_ranked_6 (by decide) rfl (fun c6 => ?_) (fun c6 => ?_)
  · have _u := True.intro
    exact xIOB_throw hx hb hlt hown hts (by decide +kernel) hE hS (hl.1.trans hml.symm) hnt dX1_ranked_14 dX1_ranked_17 dX1_ranked_18 dX1_ranked_20 dX1_ranked_23 (xS_126) (Nat.le_of_ble_eq_true rfl) (Nat.le_of_ble_eq_true rfl) (Nat.le_of_ble_eq_true rfl) (Nat.le_of_ble_eq_true rfl) hlocks (⟨rfl, by unfold kPl; (repeat' split) <;> omega⟩) (fun z hz => nA0 (hS.2.2 z hz)) (Nat.le_of_ble_eq_true rfl) (Nat.le_of_ble_eq_true rfl)
  · have _u := True.intro
    refine lv_iload_n hx hb dX1_ranked_9 rfl (lv_at hl 2 rfl) ?_
    refine lv_iload_n hx hb dX1_ranked_10 rfl (lv_at hl 0 rfl) ?_
    refine z_icmp_lt (tgt := 24) hx hb dX1_ranked_11 (by decide) rfl e1 (fun c11 => ?_) (fun c11 => ?_)
    · have _u := True.intro
      have hS : va_S (va_A (XW h0 h1 h2 h3 y1 y2 y3 (n) (w) T P M) s.heap.size) s.heap _ _ := hS.mono0 (fun q h => nA0 h)
      have hE := hEb
      have hA := hAb
      refine lv_iconst (v := 0) hx hb dX1_ranked_24 (by decide) ?_
      refine lv_istore_n (lv' := [(3, .int 0), (2, .int v1), (0, .ref h0), (1, .int x1)]) hx hb dX1_ranked_25 rfl hl (by decide) rfl (fun ls hl => ?_)
      have lp26 : ∀ (nf : Nat) (j : Nat) (x3 : Int32) (Mk : Nat → Int32), pl n w - j < nf → (j ≤ pl n w) → (∀ p, p < j → (Mk p).toInt = ((mis T P p w : Nat) : Int)) → x3.toInt = (j : Int) → ∀ (H : Heap) (locs : List Loc), va_P D vwCl (XW h0 h1 h2 h3 y1 y2 y3 (n) (w) T P Mk) H → va_D (va_A (XW h0 h1 h2 h3 y1 y2 y3 (n) (w) T P M) s.heap.size) (XW h0 h1 h2 h3 y1 y2 y3 (n) (w) T P Mk) → va_S (va_A (XW h0 h1 h2 h3 y1 y2 y3 (n) (w) T P M) s.heap.size) s.heap H locs → ∀ (ls : Array Slot), lv_has ls 4 [(0, .ref h0), (1, .int x1), (2, .int v1), (3, .int x3)] → W p l e (headSpec wsX1_ranked ({ frames := 6, cells := 1, slots := 6, locals := 90 })).room s m [.ref h0, .int x1].toArray below meth c H locs 0 0 (vx_MQ below (va_Qi (fun (r : Int32) (_ : Nat → Int32) => r.toInt = ((rkP (fun p => mis T P p w) (pl n w) x1.toInt.toNat : Nat) : Int) ∧ kPl (pl n w) x1.toInt = 0) (fun (M2 : Nat → Int32) t => va_P D vwCl (XW h0 h1 h2 h3 y1 y2 y3 (n) (w) T P M2) t.heap ∧ va_D (va_A (XW h0 h1 h2 h3 y1 y2 y3 (n) (w) T P M) s.heap.size) (XW h0 h1 h2 h3 y1 y2 y3 (n) (w) T P M2)) (va_A (XW h0 h1 h2 h3 y1 y2 y3 (n) (w) T P M) s.heap.size)) (tX (fun X => X = "java/lang/IndexOutOfBoundsException" ∧ kPl (pl n w) x1.toInt = 1) s.heap.size) [.ref h0, .int x1].toArray s 1 6 (va_A (XW h0 h1 h2 h3 y1 y2 y3 (n) (w) T P M) s.heap.size)) (F0 m 26 ls []) := by
        intro nf
        induction nf with
        | zero => intros; omega
        | succ nf ih26 =>
          intro j x3 Mk hnf hj hM e_x3 H locs hP hD hS ls hl
          refine lv_iload_n hx hb dX1_ranked_26 rfl (lv_at hl 3 rfl) ?_
          refine lv_iload_n hx hb dX1_ranked_27 rfl (lv_at hl 2 rfl) ?_
          refine z_icmp_ge (tgt := 48) hx hb dX1_ranked_28 (by decide) e_x3 e1 (fun c28 => ?_) (fun c28 => ?_)
          · have _u := True.intro
            refine lv_aload_n hx hb dX1_ranked_48 rfl (lv_at hl 0 rfl) ?_
            refine lv_iload_n hx hb dX1_ranked_49 rfl (lv_at hl 1 rfl) ?_
            refine lv_iload_n hx hb dX1_ranked_50 rfl (lv_at hl 2 rfl) ?_
            refine va_calli (va_runV (As := [.int x1, .int v1]) (rest := []) ⟨hx, hb, hml, hown, hts⟩ (c_X1_placeOfRank l D E h0 h1 h2 h3 y1 y2 y3 H.size (n) (w) T P Mk hn hw hT hPt x1 v1 (x1.toInt.toNat) (Eq.trans rfl (by omega)) (pl n w) (Eq.trans e1 (by omega)) (by omega) (fun p hp => hM p (by omega)) (by omega)) (cwV 2 hts gX1_ranked_X1_placeOfRank rfl rfl rfl (by decide +kernel) ⟨Nat.le_of_ble_eq_true rfl, Nat.le_of_ble_eq_true rfl⟩) ⟨cp.blind, va_recv hK hP (ci := 0) (q0 := 0) rfl rfl, fun U hU hW => ⟨rfl, cp.call hP hK hE hS (fr0 hS hA) hU hW⟩⟩ rfl rfl hl.1 rfl (lv_room (Nat.le_of_ble_eq_true rfl)) dX1_ranked_51 ⟨Nat.le_of_ble_eq_true rfl, Nat.le_of_ble_eq_true rfl⟩) hS (fun q _ h => (fr0 hS hA) q h) (fr0 hS hA) (fun v51 u t H1 locs1 ht hvm e51 hB hz1 hk1 hS => ?_)
            have hP := kp hP hk1
            generalize H1 = H at hP hS ⊢
            generalize locs1 = locs at hS ⊢
            refine vx_ret ?_
            refine W.widen (k := 1) (n := 6) (Nat.le_of_ble_eq_true rfl) (Nat.le_of_ble_eq_true rfl) ?_
            exact W.iret (v := v51) hx hb hr (fun t ht hW => ⟨⟨_, Mk, rfl, ⟨(Eq.trans e51 (rfl)), by unfold kPl; (repeat' split) <;> omega⟩, ⟨by rw [ht]; exact hP, hD⟩⟩, hS.F ht⟩) hS.2.2 dX1_ranked_54
          · have _u := True.intro
            refine lv_aload_n hx hb dX1_ranked_31 rfl (lv_at hl 0 rfl) ?_
            refine va_get (D := D) (ci := 0) (v := .ref h3) (C := RX1) (T := TX1) (N := 5) hx hb hts hin0 hown hK hP 0 rfl rfl 2 (by decide) hf_mismatchesByPlace (fun _ h9 => h9) rfl dX1_ranked_32 ?_
            refine lv_iload_n hx hb dX1_ranked_35 rfl (lv_at hl 3 rfl) ?_
            refine lv_aload_n hx hb dX1_ranked_36 rfl (lv_at hl 0 rfl) ?_
            refine lv_iload_n hx hb dX1_ranked_37 rfl (lv_at hl 3 rfl) ?_
            refine va_calli (va_runV (As := [.int x3]) (rest := [.int x3, .ref h3]) ⟨hx, hb, hml, hown, hts⟩ (c_X1_countMismatches l D E h0 h1 h2 h3 y1 y2 y3 H.size (n) (w) T P Mk hn hw hT hPt x3 (j) (Eq.trans e_x3 (by omega)) (by omega)) (cwV 1 hts gX1_ranked_X1_countMismatches rfl rfl rfl (by decide +kernel) ⟨Nat.le_of_ble_eq_true rfl, Nat.le_of_ble_eq_true rfl⟩) ⟨cp.blind, va_recv hK hP (ci := 0) (q0 := 0) rfl rfl, fun U hU hW => ⟨rfl, cp.call hP hK hE hS (fr0 hS hA) hU hW⟩⟩ rfl rfl hl.1 rfl (lv_room (Nat.le_of_ble_eq_true rfl)) dX1_ranked_38 ⟨Nat.le_of_ble_eq_true rfl, Nat.le_of_ble_eq_true rfl⟩) hS (fun q _ h => (fr0 hS hA) q h) (fr0 hS hA) (fun v38 u t H1 locs1 ht hvm e38 hB hz1 hk1 hS => ?_)
            have hP := kp hP hk1
            generalize H1 = H at hP hS ⊢
            generalize locs1 = locs at hS ⊢
            refine z_iast hx hb hK hP hD hS 3 2 rfl rfl (j) e_x3 (by omega) (by omega) dX1_ranked_41 (fun H locs hP hD hS => ?_)
            have hP : va_P D vwCl (XW h0 h1 h2 h3 y1 y2 y3 (n) (w) T P (upd Mk (j) v38)) H := hP
            have hD : va_D (va_A (XW h0 h1 h2 h3 y1 y2 y3 (n) (w) T P M) s.heap.size) (XW h0 h1 h2 h3 y1 y2 y3 (n) (w) T P (upd Mk (j) v38)) := hD
            refine z_iinc (k := 3) (lv' := fun v => [(3, .int v), (0, .ref h0), (1, .int x1), (2, .int v1)]) hx hb dX1_ranked_42 hl rfl e_x3 (by decide) (by omega) (by omega) (by decide) (fun _ => rfl) (fun v42 ls e42 hl => ?_)
            refine lv_goto (tgt := 26) hx hb dX1_ranked_45 (by decide) ?_
            exact ih26 (j + 1) v42 (upd Mk (j) v38) (by omega) (by omega) (updI hM e38) (Eq.trans e42 (by omega)) _ _ hP hD hS _ (lv_sub hl [1, 2, 3, 0] rfl)
      exact lp26 ((pl n w - 0) + 1) (0) 0 M (by omega) (by omega) (fun p hp => absurd hp (by omega)) (Eq.trans (show (0 : Int32).toInt = 0 by decide) (by omega)) _ _ hP hD hS _ (lv_sub hl [2, 3, 1, 0] rfl)
    · have _u := True.intro
      exact xIOB_throw hx hb hlt hown hts (by decide +kernel) hE hS (hl.1.trans hml.symm) hnt dX1_ranked_14 dX1_ranked_17 dX1_ranked_18 dX1_ranked_20 dX1_ranked_23 (xS_126) (Nat.le_of_ble_eq_true rfl) (Nat.le_of_ble_eq_true rfl) (Nat.le_of_ble_eq_true rfl) (Nat.le_of_ble_eq_true rfl) hlocks (⟨rfl, by unfold kPl; (repeat' split) <;> omega⟩) (fun z hz => nA0 (hS.2.2 z hz)) (Nat.le_of_ble_eq_true rfl) (Nat.le_of_ble_eq_true rfl)

set_option maxHeartbeats 4000000 in
set_option maxRecDepth 100000 in
theorem c_X1_countLetter (l : Launch) (D : va_G) (E : Nat × Nat × Nat) (h0 h1 h2 h3 : Nat) (y1 y2 y3 : ClassId) (sz n w : Nat) (T P M : Nat → Int32) (hn : n ≤ 64) (hw : w ≤ 24) (hT : SymF T) (hPt : SymF P) (x1 : Int32) (x2 : Int32) (i0 : Nat) (e_i0 : x1.toInt = (i0 : Int)) (hi : i0 < w) : Met l yX1_countLetter wsX1_countLetter ({ frames := 1, cells := 0, slots := 0, locals := 20 }) (va_Pc [.ref h0, .int x1, .int x2] (cp D (XW h0 h1 h2 h3 y1 y2 y3 (n) (w) T P M) (XT y1 y2 y3) E (va_A [] sz) sz)) (va_Qi (fun (r : Int32) (_ : Unit) => r.toInt = ((cnt (lf T x2 i0) (pl n w) : Nat) : Int)) (fun _ _ => True) (va_A [] sz)) 0 0 (va_A [] sz) := by
  refine Met.ofW (cc := cX1_countLetter) (maxL := 6) (ret := (some .int)) (by decide) rfl ?_
  intro p e s m args below meth c s₁ B hml hv
  obtain ⟨rfl, hsz, hP, hK, hE⟩ := hv
  have hx := B.exec
  have hb := B.bytes
  have hr := B.returns
  have hts := atoms_spec (ws := wsX1_countLetter) B.pre
  have hown : s.vm.findClass RX1 = some m.cls := findClass_of_methodNamed B.named
  have hlocks := B.notSynchronized
  have hsz : s.heap.size = sz := hsz
  subst hsz
  have hA : ∀ q : Nat, s.heap.size ≤ q → (va_A [] s.heap.size) q := fun q h => Or.inr h
  have hS : va_S (va_A [] s.heap.size) s.heap s.heap [] := va_S.rf
  have inn : (nI n).toInt = (n : Int) := nI_toInt (by omega)
  have iww : (nI w).toInt = (w : Int) := nI_toInt (by omega)
  have hf_text := hts (.fieldLink RX1 9 "BlankMatcher" "text" "[I") (by decide +kernel)
  have hpl : pl n w = n + 1 - w := rfl
  have hin0 : ∀ w ∈ wsX10, w ∈ wsX1_countLetter := by decide +kernel
  have g_x1 := rg x1
  have g_x2 := rg x2
  have hl := lv_entry ([.ref h0, .int x1, .int x2]) (n := 6) (Nat.le_of_ble_eq_true rfl)
  rw [lg_entry_eq]
  generalize (lg_sl ([.ref h0, .int x1, .int x2]) ++ List.replicate (6 - (lg_sl ([.ref h0, .int x1, .int x2])).length) Slot.unset).toArray = ls at hl ⊢
  have hl : lv_has ls 6 [(0, .ref h0), (1, .int x1), (2, .int x2)] := hl
  refine lv_iload_n hx hb dX1_countLetter_0 rfl (lv_at hl 1 rfl) ?_
  refine lv_aload_n hx hb dX1_countLetter_1 rfl (lv_at hl 0 rfl) ?_
  refine va_calli (va_runV (As := []) (rest := [.int x1]) ⟨hx, hb, hml, hown, hts⟩ (c_X1_places l D E h0 h1 h2 h3 y1 y2 y3 s.heap.size (n) (w) T P M hn hw hT hPt) (cwV 0 hts gX1_countLetter_X1_places rfl rfl rfl (by decide +kernel) ⟨Nat.le_of_ble_eq_true rfl, Nat.le_of_ble_eq_true rfl⟩) ⟨cp.blind, va_recv hK hP (ci := 0) (q0 := 0) rfl rfl, fun U hU hW => ⟨rfl, cp.call hP hK hE hS (fr0 hS hA) hU hW⟩⟩ rfl rfl hl.1 rfl (lv_room (Nat.le_of_ble_eq_true rfl)) dX1_countLetter_2 ⟨Nat.le_of_ble_eq_true rfl, Nat.le_of_ble_eq_true rfl⟩) hS (fun q _ h => (fr0 hS hA) q h) (fr0 hS hA) (fun v2 u t H1 locs1 ht hvm e2 hB hz1 hk1 hS => ?_)
  have hP := kp hP hk1
  generalize H1 = H at hP hS ⊢
  generalize locs1 = locs at hS ⊢
  refine z_iadd hx hb dX1_countLetter_5 e_i0 e2 (by omega) (by omega) (fun v5 e5 => ?_)
  refine lv_istore_n (lv' := [(3, .int v5), (0, .ref h0), (1, .int x1), (2, .int x2)]) hx hb dX1_countLetter_6 rfl hl (by decide) rfl (fun ls hl => ?_)
  refine lv_iconst (v := 0) hx hb dX1_countLetter_7 (by decide) ?_
  refine lv_istore (lv' := [(4, .int 0), (3, .int v5), (0, .ref h0), (1, .int x1), (2, .int x2)]) hx hb dX1_countLetter_8 hl (by decide) rfl (fun ls hl => ?_)
  refine lv_iload_n hx hb dX1_countLetter_10 rfl (lv_at hl 3 rfl) ?_
  refine lv_istore (lv' := [(5, .int x1), (4, .int 0), (3, .int v5), (0, .ref h0), (1, .int x1), (2, .int x2)]) hx hb dX1_countLetter_11 hl (by decide) rfl (fun ls hl => ?_)
  have lp13 : ∀ (nf : Nat) (j : Nat) (x4 : Int32) (x5 : Int32), pl n w - j < nf → (j ≤ pl n w) → x4.toInt = ((cnt (lf T x2 i0) j : Nat) : Int) → x5.toInt = ((i0 + j : Nat) : Int) → ∀ (H : Heap) (locs : List Loc), va_P D vwCl (XW h0 h1 h2 h3 y1 y2 y3 (n) (w) T P M) H → va_S (va_A [] s.heap.size) s.heap H locs → ∀ (ls : Array Slot), lv_has ls 6 [(0, .ref h0), (1, .int x1), (2, .int x2), (3, .int v5), (4, .int x4), (5, .int x5)] → W p l e (headSpec wsX1_countLetter ({ frames := 1, cells := 0, slots := 0, locals := 20 })).room s m [.ref h0, .int x1, .int x2].toArray below meth c H locs 0 0 (MQ below (va_Qi (fun (r : Int32) (_ : Unit) => r.toInt = ((cnt (lf T x2 i0) (pl n w) : Nat) : Int)) (fun _ _ => True) (va_A [] s.heap.size)) [.ref h0, .int x1, .int x2].toArray s 0 0 (va_A [] s.heap.size)) (F0 m 13 ls []) := by
    intro nf
    induction nf with
    | zero => intros; omega
    | succ nf ih13 =>
      intro j x4 x5 hnf hj e_x4 e_x5 H locs hP hS ls hl
      have hcl := cnt_le (lf T x2 i0) j
      refine lv_iload hx hb dX1_countLetter_13 (lv_at hl 5 rfl) ?_
      refine lv_iload_n hx hb dX1_countLetter_15 rfl (lv_at hl 3 rfl) ?_
      refine z_icmp_ge (tgt := 39) hx hb dX1_countLetter_16 (by decide) e_x5 e5 (fun c16 => ?_) (fun c16 => ?_)
      · have _u := True.intro
        refine lv_iload hx hb dX1_countLetter_39 (lv_at hl 4 rfl) ?_
        refine W.widen (k := 0) (n := 0) (Nat.le_of_ble_eq_true rfl) (Nat.le_of_ble_eq_true rfl) ?_
        exact W.iret (v := x4) hx hb hr (fun t ht hW => ⟨⟨_, (), rfl, (Eq.trans e_x4 (by have q : j = pl n w := (by omega); rw [q])), trivial⟩, hS.F ht⟩) hS.2.2 dX1_countLetter_41
      · have _u := True.intro
        refine lv_aload_n hx hb dX1_countLetter_19 rfl (lv_at hl 0 rfl) ?_
        refine va_get (D := D) (ci := 0) (v := .ref h1) (C := RX1) (T := TX1) (N := 5) hx hb hts hin0 hown hK hP 0 rfl rfl 0 (by decide) hf_text (fun _ h9 => h9) rfl dX1_countLetter_20 ?_
        refine lv_iload hx hb dX1_countLetter_23 (lv_at hl 5 rfl) ?_
        refine z_iald hx hb hK hP 1 0 rfl rfl (i0 + j) e_x5 (by omega) (by omega) dX1_countLetter_25 ?_
        refine lv_iload_n hx hb dX1_countLetter_26 rfl (lv_at hl 2 rfl) ?_
        refine z_icmp_ne (tgt := 33) hx hb dX1_countLetter_27 (by decide) rfl rfl (fun c27 => ?_) (fun c27 => ?_)
        · have _u := True.intro
          have q := cnt_f (f := lf T x2 i0) (k := j) (lf_f c27)
          refine z_iinc (k := 5) (lv' := fun v => [(5, .int v), (0, .ref h0), (1, .int x1), (2, .int x2), (3, .int v5), (4, .int x4)]) hx hb dX1_countLetter_33 hl rfl e_x5 (by decide) (by omega) (by omega) (by decide) (fun _ => rfl) (fun v33 ls e33 hl => ?_)
          refine lv_goto (tgt := 13) hx hb dX1_countLetter_36 (by decide) ?_
          exact ih13 (j + 1) x4 v33 (by omega) (by omega) (Eq.trans e_x4 (by omega)) (Eq.trans e33 (by omega)) _ _ hP hS _ (lv_sub hl [1, 2, 3, 4, 5, 0] rfl)
        · have _u := True.intro
          have q := cnt_t (f := lf T x2 i0) (k := j) (lf_t c27)
          refine z_iinc (k := 4) (lv' := fun v => [(4, .int v), (0, .ref h0), (1, .int x1), (2, .int x2), (3, .int v5), (5, .int x5)]) hx hb dX1_countLetter_30 hl rfl e_x4 (by decide) (by omega) (by omega) (by decide) (fun _ => rfl) (fun v30 ls e30 hl => ?_)
          refine z_iinc (k := 5) (lv' := fun v => [(5, .int v), (4, .int v30), (0, .ref h0), (1, .int x1), (2, .int x2), (3, .int v5)]) hx hb dX1_countLetter_33 hl rfl e_x5 (by decide) (by omega) (by omega) (by decide) (fun _ => rfl) (fun v33 ls e33 hl => ?_)
          refine lv_goto (tgt := 13) hx hb dX1_countLetter_36 (by decide) ?_
          exact ih13 (j + 1) v30 v33 (by omega) (by omega) (Eq.trans e30 (by omega)) (Eq.trans e33 (by omega)) _ _ hP hS _ (lv_sub hl [2, 3, 4, 5, 1, 0] rfl)
  have hc0 := cnt_0 (lf T x2 i0)
  exact lp13 ((pl n w - 0) + 1) (0) 0 x1 (by omega) (by omega) (Eq.trans (show (0 : Int32).toInt = 0 by decide) (by omega)) (Eq.trans e_i0 (by omega)) _ _ hP hS _ (lv_sub hl [3, 4, 5, 2, 1, 0] rfl)

set_option maxHeartbeats 4000000 in
set_option maxRecDepth 100000 in
theorem c_X1_bestLetter (l : Launch) (hlt : l.stackTraces = false) (D : va_G) (E : Nat × Nat × Nat) (h0 h1 h2 h3 : Nat) (y1 y2 y3 : ClassId) (sz n w : Nat) (T P M : Nat → Int32) (hn : n ≤ 64) (hw : w ≤ 24) (hT : SymF T) (hPt : SymF P) (x1 : Int32) : vx_Met l yX1_bestLetter wsX1_bestLetter ({ frames := 7, cells := 1, slots := 6, locals := 111 }) (va_Pc [.ref h0, .int x1] (cp D (XW h0 h1 h2 h3 y1 y2 y3 (n) (w) T P M) (XT y1 y2 y3) E (va_A [] sz) sz)) (va_Qi (fun (r : Int32) (_ : Unit) => r.toInt = ((bl (blc T x1.toInt.toNat (pl n w)) 25 : Nat) : Int) ∧ kPl w x1.toInt = 0) (fun _ _ => True) (va_A [] sz)) (tX (fun X => X = "java/lang/IndexOutOfBoundsException" ∧ kPl w x1.toInt = 1) sz) 1 6 (va_A [] sz) := by
  refine vx_ofW (cc := cX1_bestLetter) (maxL := 6) (ret := (some .int)) (by decide) rfl ?_
  intro p e s m args below meth c s₁ B hml hnt hv
  obtain ⟨rfl, hsz, hP, hK, hE⟩ := hv
  have hx := B.exec
  have hb := B.bytes
  have hr := B.returns
  have hts := atoms_spec (ws := wsX1_bestLetter) B.pre
  have hown : s.vm.findClass RX1 = some m.cls := findClass_of_methodNamed B.named
  have hlocks := B.notSynchronized
  have hsz : s.heap.size = sz := hsz
  subst hsz
  have hA : ∀ q : Nat, s.heap.size ≤ q → (va_A [] s.heap.size) q := fun q h => Or.inr h
  have hS : va_S (va_A [] s.heap.size) s.heap s.heap [] := va_S.rf
  have inn : (nI n).toInt = (n : Int) := nI_toInt (by omega)
  have iww : (nI w).toInt = (w : Int) := nI_toInt (by omega)
  have hpl : pl n w = n + 1 - w := rfl
  have g_x1 := rg x1
  have hl := lv_entry ([.ref h0, .int x1]) (n := 6) (Nat.le_of_ble_eq_true rfl)
  rw [lg_entry_eq]
  generalize (lg_sl ([.ref h0, .int x1]) ++ List.replicate (6 - (lg_sl ([.ref h0, .int x1])).length) Slot.unset).toArray = ls at hl ⊢
  have hl : lv_has ls 6 [(0, .ref h0), (1, .int x1)] := hl
  refine lv_aload_n hx hb dX1_bestLetter_0 rfl (lv_at hl 0 rfl) ?_
  refine lv_iload_n hx hb dX1_bestLetter_1 rfl (lv_at hl 1 rfl) ?_
  refine vx_callv (vx_runV (As := [.int x1]) (rest := []) ⟨hx, hb, hml, hown, hts⟩ (c_X1_requirePatternIndex l hlt D E h0 h1 h2 h3 y1 y2 y3 s.heap.size (n) (w) T P M hn hw hT hPt x1) (cwV 1 hts gX1_bestLetter_X1_requirePatternIndex rfl rfl rfl (by decide +kernel) ⟨Nat.le_of_ble_eq_true rfl, Nat.le_of_ble_eq_true rfl⟩) ⟨cp.blind, va_recv hK hP (ci := 0) (q0 := 0) rfl rfl, fun U hU hW => ⟨rfl, cp.call hP hK hE hS (fr0 hS hA) hU hW⟩⟩ rfl rfl hl.1 rfl (lv_room (Nat.le_of_ble_eq_true rfl)) dX1_bestLetter_2 ⟨Nat.le_of_ble_eq_true rfl, Nat.le_of_ble_eq_true rfl⟩) hS (fun q _ h => (fr0 hS hA) q h) (fr0 hS hA) (fun q _ h => fr0 hS hA q h) (fun X ce q9 u t H1 locs1 ht hvm _ hB hz1 hk1 hS hc1 hc2 hc3 => ?_) (fun u t H1 locs1 ht hvm e2 hB hz1 hk1 hS => ?_)
  · refine vx_out (fun x h => (hnt x h).elim) hlocks hc1 hc2 hc3 (fun t ht2 _ => tX.out hS ht2 (⟨hB.1, by have hB2 := hB.2; unfold kPl; (repeat' split) <;> omega⟩)) (fun z hz => hS.2.2 z hz) (Nat.le_of_ble_eq_true rfl) (Nat.le_of_ble_eq_true rfl)
  have hP := kp hP hk1
  generalize H1 = H at hP hS ⊢
  generalize locs1 = locs at hS ⊢
  obtain ⟨f2_0, f2_1⟩ := e2
  refine lv_iconst (v := 1) hx hb dX1_bestLetter_5 (by decide) ?_
  refine lv_istore_n (lv' := [(2, .int 1), (0, .ref h0), (1, .int x1)]) hx hb dX1_bestLetter_6 rfl hl (by decide) rfl (fun ls hl => ?_)
  refine lv_aload_n hx hb dX1_bestLetter_7 rfl (lv_at hl 1 rfl) ?_
  refine lv_iload_n hx hb dX1_bestLetter_8 rfl (lv_at hl 2 rfl) ?_
  refine lv_iload_n hx hb dX1_bestLetter_9 rfl (lv_at hl 0 rfl) ?_
  refine va_calli (va_runV (As := [.int x1, .int 1]) (rest := []) ⟨hx, hb, hml, hown, hts⟩ (c_X1_countLetter l D E h0 h1 h2 h3 y1 y2 y3 H.size (n) (w) T P M hn hw hT hPt x1 1 (x1.toInt.toNat) (Eq.trans rfl (by omega)) (by omega)) (cwV 2 hts gX1_bestLetter_X1_countLetter rfl rfl rfl (by decide +kernel) ⟨Nat.le_of_ble_eq_true rfl, Nat.le_of_ble_eq_true rfl⟩) ⟨cp.blind, va_recv hK hP (ci := 0) (q0 := 0) rfl rfl, fun U hU hW => ⟨rfl, cp.call hP hK hE hS (fr0 hS hA) hU hW⟩⟩ rfl rfl hl.1 rfl (lv_room (Nat.le_of_ble_eq_true rfl)) dX1_bestLetter_10 ⟨Nat.le_of_ble_eq_true rfl, Nat.le_of_ble_eq_true rfl⟩) hS (fun q _ h => (fr0 hS hA) q h) (fr0 hS hA) (fun v10 u t H1 locs1 ht hvm e10 hB hz1 hk1 hS => ?_)
  have hP := kp hP hk1
  generalize H1 = H at hP hS ⊢
  generalize locs1 = locs at hS ⊢
  refine lv_istore_n (lv' := [(3, .int v10), (2, .int 1), (0, .ref h0), (1, .int x1)]) hx hb dX1_bestLetter_13 rfl hl (by decide) rfl (fun ls hl => ?_)
  refine lv_iconst (v := 2) hx hb dX1_bestLetter_14 (by decide) ?_
  refine lv_istore (lv' := [(4, .int 2), (3, .int v10), (2, .int 1), (0, .ref h0), (1, .int x1)]) hx hb dX1_bestLetter_15 hl (by decide) rfl (fun ls hl => ?_)
  have lp17 : ∀ (nf : Nat) (k : Nat) (x2 : Int32) (x3 : Int32) (x4 : Int32), 25 - k < nf → (k ≤ 25) → x2.toInt = ((bl (blc T x1.toInt.toNat (pl n w)) k : Nat) : Int) → x3.toInt = (((blc T x1.toInt.toNat (pl n w)) (bl (blc T x1.toInt.toNat (pl n w)) k) : Nat) : Int) → x4.toInt = ((k + 2 : Nat) : Int) → ∀ (H : Heap) (locs : List Loc), va_P D vwCl (XW h0 h1 h2 h3 y1 y2 y3 (n) (w) T P M) H → va_S (va_A [] s.heap.size) s.heap H locs → ∀ (ls : Array Slot), lv_has ls 6 [(0, .ref h0), (1, .int x1), (2, .int x2), (3, .int x3), (4, .int x4)] → W p l e (headSpec wsX1_bestLetter ({ frames := 7, cells := 1, slots := 6, locals := 111 })).room s m [.ref h0, .int x1].toArray below meth c H locs 1 6 (vx_MQ below (va_Qi (fun (r : Int32) (_ : Unit) => r.toInt = ((bl (blc T x1.toInt.toNat (pl n w)) 25 : Nat) : Int) ∧ kPl w x1.toInt = 0) (fun _ _ => True) (va_A [] s.heap.size)) (tX (fun X => X = "java/lang/IndexOutOfBoundsException" ∧ kPl w x1.toInt = 1) s.heap.size) [.ref h0, .int x1].toArray s 1 6 (va_A [] s.heap.size)) (F0 m 17 ls []) := by
    intro nf
    induction nf with
    | zero => intros; omega
    | succ nf ih17 =>
      intro k x2 x3 x4 hnf hk e_x2 e_x3 e_x4 H locs hP hS ls hl
      have hbl := bl_le (blc T x1.toInt.toNat (pl n w)) k
      refine lv_iload hx hb dX1_bestLetter_17 (lv_at hl 4 rfl) ?_
      refine lv_bipush (v := 26) hx hb dX1_bestLetter_19 (by decide) ?_
      refine z_icmp_gt (tgt := 51) hx hb dX1_bestLetter_21 (by decide) e_x4 (show (26 : Int32).toInt = 26 by decide) (fun c21 => ?_) (fun c21 => ?_)
      · have _u := True.intro
        refine lv_iload_n hx hb dX1_bestLetter_51 rfl (lv_at hl 2 rfl) ?_
        refine vx_ret ?_
        refine W.widen (k := 1) (n := 6) (Nat.le_of_ble_eq_true rfl) (Nat.le_of_ble_eq_true rfl) ?_
        exact W.iret (v := x2) hx hb hr (fun t ht hW => ⟨⟨_, (), rfl, ⟨(Eq.trans e_x2 (by have q : k = 25 := (by omega); rw [q])), by unfold kPl; (repeat' split) <;> omega⟩, trivial⟩, hS.F ht⟩) hS.2.2 dX1_bestLetter_52
      · have _u := True.intro
        refine lv_aload_n hx hb dX1_bestLetter_24 rfl (lv_at hl 0 rfl) ?_
        refine lv_iload_n hx hb dX1_bestLetter_25 rfl (lv_at hl 1 rfl) ?_
        refine lv_iload hx hb dX1_bestLetter_26 (lv_at hl 4 rfl) ?_
        refine va_calli (va_runV (As := [.int x1, .int x4]) (rest := []) ⟨hx, hb, hml, hown, hts⟩ (c_X1_countLetter l D E h0 h1 h2 h3 y1 y2 y3 H.size (n) (w) T P M hn hw hT hPt x1 x4 (x1.toInt.toNat) (Eq.trans rfl (by omega)) (by omega)) (cwV 2 hts gX1_bestLetter_X1_countLetter rfl rfl rfl (by decide +kernel) ⟨Nat.le_of_ble_eq_true rfl, Nat.le_of_ble_eq_true rfl⟩) ⟨cp.blind, va_recv hK hP (ci := 0) (q0 := 0) rfl rfl, fun U hU hW => ⟨rfl, cp.call hP hK hE hS (fr0 hS hA) hU hW⟩⟩ rfl rfl hl.1 rfl (lv_room (Nat.le_of_ble_eq_true rfl)) dX1_bestLetter_28 ⟨Nat.le_of_ble_eq_true rfl, Nat.le_of_ble_eq_true rfl⟩) hS (fun q _ h => (fr0 hS hA) q h) (fr0 hS hA) (fun v28 u t H1 locs1 ht hvm e28 hB hz1 hk1 hS => ?_)
        have hP := kp hP hk1
        generalize H1 = H at hP hS ⊢
        generalize locs1 = locs at hS ⊢
        have q4 : (blc T x1.toInt.toNat (pl n w)) (k + 2) = cnt (lf T x4 x1.toInt.toNat) (pl n w) := by rw [show x4 = nI (k + 2) from nIe e_x4]; rfl
        refine lv_istore (lv' := [(5, .int v28), (0, .ref h0), (1, .int x1), (2, .int x2), (3, .int x3), (4, .int x4)]) hx hb dX1_bestLetter_31 hl (by decide) rfl (fun ls hl => ?_)
        refine lv_iload hx hb dX1_bestLetter_33 (lv_at hl 0 rfl) ?_
        refine lv_iload_n hx hb dX1_bestLetter_35 rfl (lv_at hl 4 rfl) ?_
        refine z_icmp_le (tgt := 45) hx hb dX1_bestLetter_36 (by decide) e28 e_x3 (fun c36 => ?_) (fun c36 => ?_)
        · have _u := True.intro
          have q := bl_f (c := (blc T x1.toInt.toNat (pl n w))) (k := k) (by omega)
          have q5 : (blc T x1.toInt.toNat (pl n w)) (bl (blc T x1.toInt.toNat (pl n w)) (k + 1)) = (blc T x1.toInt.toNat (pl n w)) (bl (blc T x1.toInt.toNat (pl n w)) k) := congrArg _ q
          refine z_iinc (k := 5) (lv' := fun v => [(4, .int v), (5, .int v28), (0, .ref h0), (1, .int x1), (2, .int x2), (3, .int x3)]) hx hb dX1_bestLetter_45 hl rfl e_x4 (by decide) (by omega) (by omega) (by decide) (fun _ => rfl) (fun v45 ls e45 hl => ?_)
          refine lv_goto (tgt := 17) hx hb dX1_bestLetter_48 (by decide) ?_
          exact ih17 (k + 1) x2 x3 v45 (by omega) (by omega) (Eq.trans e_x2 (by omega)) (Eq.trans e_x3 (by omega)) (Eq.trans e45 (by omega)) _ _ hP hS _ (lv_sub hl [2, 3, 4, 5, 0] rfl)
        · have _u := True.intro
          have q := bl_t (c := (blc T x1.toInt.toNat (pl n w))) (k := k) (by omega)
          have q5 : (blc T x1.toInt.toNat (pl n w)) (bl (blc T x1.toInt.toNat (pl n w)) (k + 1)) = (blc T x1.toInt.toNat (pl n w)) (k + 2) := congrArg _ q
          refine lv_iload hx hb dX1_bestLetter_39 (lv_at hl 5 rfl) ?_
          refine lv_istore_n (lv' := [(2, .int x4), (5, .int v28), (0, .ref h0), (1, .int x1), (3, .int x3), (4, .int x4)]) hx hb dX1_bestLetter_41 rfl hl (by decide) rfl (fun ls hl => ?_)
          refine lv_iload hx hb dX1_bestLetter_42 (lv_at hl 1 rfl) ?_
          refine lv_istore_n (lv' := [(3, .int v28), (2, .int x4), (5, .int v28), (0, .ref h0), (1, .int x1), (4, .int x4)]) hx hb dX1_bestLetter_44 rfl hl (by decide) rfl (fun ls hl => ?_)
          refine z_iinc (k := 5) (lv' := fun v => [(4, .int v), (3, .int v28), (2, .int x4), (5, .int v28), (0, .ref h0), (1, .int x1)]) hx hb dX1_bestLetter_45 hl rfl e_x4 (by decide) (by omega) (by omega) (by decide) (fun _ => rfl) (fun v45 ls e45 hl => ?_)
          refine lv_goto (tgt := 17) hx hb dX1_bestLetter_48 (by decide) ?_
          exact ih17 (k + 1) x4 v28 v45 (by omega) (by omega) (Eq.trans e_x4 (by omega)) (Eq.trans e28 (by omega)) (Eq.trans e45 (by omega)) _ _ hP hS _ (lv_sub hl [4, 5, 2, 1, 0] rfl)
  have b0 : bl (blc T x1.toInt.toNat (pl n w)) 0 = 1 := rfl
  have b1 : (blc T x1.toInt.toNat (pl n w)) (bl (blc T x1.toInt.toNat (pl n w)) 0) = cnt (lf T 1 x1.toInt.toNat) (pl n w) := rfl
  exact lp17 ((25 - 0) + 1) (0) 1 v10 2 (by omega) (by omega) (Eq.trans (show (1 : Int32).toInt = 1 by decide) (by omega)) (Eq.trans e10 (by omega)) (Eq.trans (show (2 : Int32).toInt = 2 by decide) (by omega)) _ _ hP hS _ (lv_sub hl [3, 4, 2, 1, 0] rfl)

set_option maxHeartbeats 4000000 in
set_option maxRecDepth 100000 in
theorem c_X1_repeatsAfter (l : Launch) (D : va_G) (E : Nat × Nat × Nat) (h0 h1 h2 h3 : Nat) (y1 y2 y3 : ClassId) (sz n w : Nat) (T P M : Nat → Int32) (hn : n ≤ 64) (hw : w ≤ 24) (hT : SymF T) (hPt : SymF P) (x1 : Int32) (p1 : Nat) (e_p1 : x1.toInt = (p1 : Int)) (hp : 1 ≤ p1) : Met l yX1_repeatsAfter wsX1_repeatsAfter ({ frames := 1, cells := 0, slots := 0, locals := 21 }) (va_Pc [.ref h0, .int x1] (cp D (XW h0 h1 h2 h3 y1 y2 y3 (n) (w) T P M) (XT y1 y2 y3) E (va_A [] sz) sz)) (va_Qi (fun (r : Int32) (_ : Unit) => r.toInt = bI (per T n p1)) (fun _ _ => True) (va_A [] sz)) 0 0 (va_A [] sz) := by
  refine Met.ofW (cc := cX1_repeatsAfter) (maxL := 3) (ret := (some .boolean)) (by decide) rfl ?_
  intro p e s m args below meth c s₁ B hml hv
  obtain ⟨rfl, hsz, hP, hK, hE⟩ := hv
  have hx := B.exec
  have hb := B.bytes
  have hr := B.returns
  have hts := atoms_spec (ws := wsX1_repeatsAfter) B.pre
  have hown : s.vm.findClass RX1 = some m.cls := findClass_of_methodNamed B.named
  have hlocks := B.notSynchronized
  have hsz : s.heap.size = sz := hsz
  subst hsz
  have hA : ∀ q : Nat, s.heap.size ≤ q → (va_A [] s.heap.size) q := fun q h => Or.inr h
  have hS : va_S (va_A [] s.heap.size) s.heap s.heap [] := va_S.rf
  have inn : (nI n).toInt = (n : Int) := nI_toInt (by omega)
  have iww : (nI w).toInt = (w : Int) := nI_toInt (by omega)
  have hf_text := hts (.fieldLink RX1 9 "BlankMatcher" "text" "[I") (by decide +kernel)
  have hf_textSize := hts (.fieldLink RX1 19 "BlankMatcher" "textSize" "I") (by decide +kernel)
  have hpl : pl n w = n + 1 - w := rfl
  have hin0 : ∀ w ∈ wsX10, w ∈ wsX1_repeatsAfter := by decide +kernel
  have g_x1 := rg x1
  have hl := lv_entry ([.ref h0, .int x1]) (n := 3) (Nat.le_of_ble_eq_true rfl)
  rw [lg_entry_eq]
  generalize (lg_sl ([.ref h0, .int x1]) ++ List.replicate (3 - (lg_sl ([.ref h0, .int x1])).length) Slot.unset).toArray = ls at hl ⊢
  have hl : lv_has ls 3 [(0, .ref h0), (1, .int x1)] := hl
  refine lv_iconst (v := 0) hx hb dX1_repeatsAfter_0 (by decide) ?_
  refine lv_istore_n (lv' := [(2, .int 0), (0, .ref h0), (1, .int x1)]) hx hb dX1_repeatsAfter_1 rfl hl (by decide) rfl (fun ls hl => ?_)
  have lp2 : ∀ (nf : Nat) (j : Nat) (x2 : Int32), 64 - j < nf → (j ≤ 64) → (∀ i, 0 ≤ i → i < j → pf T p1 i = true) → x2.toInt = (j : Int) → ∀ (H : Heap) (locs : List Loc), va_P D vwCl (XW h0 h1 h2 h3 y1 y2 y3 (n) (w) T P M) H → va_S (va_A [] s.heap.size) s.heap H locs → ∀ (ls : Array Slot), lv_has ls 3 [(0, .ref h0), (1, .int x1), (2, .int x2)] → W p l e (headSpec wsX1_repeatsAfter ({ frames := 1, cells := 0, slots := 0, locals := 21 })).room s m [.ref h0, .int x1].toArray below meth c H locs 0 0 (MQ below (va_Qi (fun (r : Int32) (_ : Unit) => r.toInt = bI (per T n p1)) (fun _ _ => True) (va_A [] s.heap.size)) [.ref h0, .int x1].toArray s 0 0 (va_A [] s.heap.size)) (F0 m 2 ls []) := by
    intro nf
    induction nf with
    | zero => intros; omega
    | succ nf ih2 =>
      intro j x2 hnf hj hz e_x2 H locs hP hS ls hl
      refine lv_iload_n hx hb dX1_repeatsAfter_2 rfl (lv_at hl 2 rfl) ?_
      refine lv_aload_n hx hb dX1_repeatsAfter_3 rfl (lv_at hl 0 rfl) ?_
      refine va_get (D := D) (ci := 0) (v := .int (nI n)) (C := RX1) (T := TX1) (N := 5) hx hb hts hin0 hown hK hP 0 rfl rfl 3 (by decide) hf_textSize (fun _ h9 => h9) rfl dX1_repeatsAfter_4 ?_
      refine lv_iload_n hx hb dX1_repeatsAfter_7 rfl (lv_at hl 1 rfl) ?_
      refine z_isub hx hb dX1_repeatsAfter_8 inn e_p1 (by omega) (by omega) (fun v8 e8 => ?_)
      refine z_icmp_ge (tgt := 40) hx hb dX1_repeatsAfter_9 (by decide) e_x2 e8 (fun c9 => ?_) (fun c9 => ?_)
      · have _u := True.intro
        refine lv_iconst (v := 1) hx hb dX1_repeatsAfter_40 (by decide) ?_
        refine W.widen (k := 0) (n := 0) (Nat.le_of_ble_eq_true rfl) (Nat.le_of_ble_eq_true rfl) ?_
        have hpost : (1 : Int32).toInt = bI (per T n p1) := (by rw [show per T n p1 = true from allB_t (fun i hi => hz i (Nat.zero_le i) (by omega))]; decide)
        exact W.zret (v := 1) hx hb hr (bnar hpost) (fun t ht hW => ⟨⟨_, (), rfl, hpost, trivial⟩, hS.F ht⟩) hS.2.2 dX1_repeatsAfter_41
      · have _u := True.intro
        refine lv_aload_n hx hb dX1_repeatsAfter_12 rfl (lv_at hl 0 rfl) ?_
        refine va_get (D := D) (ci := 0) (v := .ref h1) (C := RX1) (T := TX1) (N := 5) hx hb hts hin0 hown hK hP 0 rfl rfl 0 (by decide) hf_text (fun _ h9 => h9) rfl dX1_repeatsAfter_13 ?_
        refine lv_iload_n hx hb dX1_repeatsAfter_16 rfl (lv_at hl 2 rfl) ?_
        refine z_iald hx hb hK hP 1 0 rfl rfl (j) e_x2 (by omega) (by omega) dX1_repeatsAfter_17 ?_
        refine lv_aload_n hx hb dX1_repeatsAfter_18 rfl (lv_at hl 0 rfl) ?_
        refine va_get (D := D) (ci := 0) (v := .ref h1) (C := RX1) (T := TX1) (N := 5) hx hb hts hin0 hown hK hP 0 rfl rfl 0 (by decide) hf_text (fun _ h9 => h9) rfl dX1_repeatsAfter_19 ?_
        refine lv_iload_n hx hb dX1_repeatsAfter_22 rfl (lv_at hl 2 rfl) ?_
        refine lv_iload_n hx hb dX1_repeatsAfter_23 rfl (lv_at hl 1 rfl) ?_
        refine z_iadd hx hb dX1_repeatsAfter_24 e_x2 e_p1 (by omega) (by omega) (fun v24 e24 => ?_)
        refine z_iald hx hb hK hP 1 0 rfl rfl (j + p1) e24 (by omega) (by omega) dX1_repeatsAfter_25 ?_
        refine va_calli (va_runS (As := [.int (T (j)), .int (T (j + p1))]) (rest := []) ⟨hx, hb, hml, hown, hts⟩ (c_X1_agree l H.size (T (j)) (T (j + p1))) (va_cwS 2 hts gX1_repeatsAfter_X1_agree rfl rfl rfl (by decide +kernel) ⟨Nat.le_of_ble_eq_true rfl, Nat.le_of_ble_eq_true rfl⟩) ⟨cz.blind, fun U hU hW => ⟨rfl, cz.call hU⟩⟩ rfl rfl hl.1 rfl (lv_room (Nat.le_of_ble_eq_true rfl)) dX1_repeatsAfter_26 ⟨Nat.le_of_ble_eq_true rfl, Nat.le_of_ble_eq_true rfl⟩) hS (fun q _ h => (fr0 hS hA) q h) (fr0 hS hA) (fun v26 u t H1 locs1 ht hvm e26 hB hz1 hk1 hS => ?_)
        have hP := kp hP hk1
        generalize H1 = H at hP hS ⊢
        generalize locs1 = locs at hS ⊢
        refine zb_if_ne (tgt := 34) hx hb dX1_repeatsAfter_29 (by decide) e26 (fun c29 => ?_) (fun c29 => ?_)
        · have _u := True.intro
          refine z_iinc (k := 2) (lv' := fun v => [(2, .int v), (0, .ref h0), (1, .int x1)]) hx hb dX1_repeatsAfter_34 hl rfl e_x2 (by decide) (by omega) (by omega) (by decide) (fun _ => rfl) (fun v34 ls e34 hl => ?_)
          refine lv_goto (tgt := 2) hx hb dX1_repeatsAfter_37 (by decide) ?_
          exact ih2 (j + 1) v34 (by omega) (by omega) (ltS hz c29) (Eq.trans e34 (by omega)) _ _ hP hS _ (lv_sub hl [1, 2, 0] rfl)
        · have _u := True.intro
          refine lv_iconst (v := 0) hx hb dX1_repeatsAfter_32 (by decide) ?_
          refine W.widen (k := 0) (n := 0) (Nat.le_of_ble_eq_true rfl) (Nat.le_of_ble_eq_true rfl) ?_
          have hpost : (0 : Int32).toInt = bI (per T n p1) := (by rw [show per T n p1 = false from allB_f (j := j) (by omega) c29]; decide)
          exact W.zret (v := 0) hx hb hr (bnar hpost) (fun t ht hW => ⟨⟨_, (), rfl, hpost, trivial⟩, hS.F ht⟩) hS.2.2 dX1_repeatsAfter_33
  exact lp2 ((64 - 0) + 1) (0) 0 (by omega) (by omega) (fun i h1 h2 => absurd h1 (by omega)) (Eq.trans (show (0 : Int32).toInt = 0 by decide) (by omega)) _ _ hP hS _ (lv_sub hl [1, 2, 0] rfl)

set_option maxHeartbeats 4000000 in
set_option maxRecDepth 100000 in
theorem c_X1_hasPeriod (l : Launch) (hlt : l.stackTraces = false) (D : va_G) (E : Nat × Nat × Nat) (h0 h1 h2 h3 : Nat) (y1 y2 y3 : ClassId) (sz n w : Nat) (T P M : Nat → Int32) (hn : n ≤ 64) (hw : w ≤ 24) (hT : SymF T) (hPt : SymF P) (x1 : Int32) : vx_Met l yX1_hasPeriod wsX1_hasPeriod ({ frames := 6, cells := 1, slots := 6, locals := 90 }) (va_Pc [.ref h0, .int x1] (cp D (XW h0 h1 h2 h3 y1 y2 y3 (n) (w) T P M) (XT y1 y2 y3) E (va_A [] sz) sz)) (va_Qi (fun (r : Int32) (_ : Unit) => r.toInt = bI (per T n x1.toInt.toNat) ∧ kHP x1.toInt = 0) (fun _ _ => True) (va_A [] sz)) (tX (fun X => X = "java/lang/IllegalArgumentException" ∧ kHP x1.toInt = 1) sz) 1 6 (va_A [] sz) := by
  refine vx_ofW (cc := cX1_hasPeriod) (maxL := 2) (ret := (some .boolean)) (by decide) rfl ?_
  intro p e s m args below meth c s₁ B hml hnt hv
  obtain ⟨rfl, hsz, hP, hK, hE⟩ := hv
  have hx := B.exec
  have hb := B.bytes
  have hr := B.returns
  have hts := atoms_spec (ws := wsX1_hasPeriod) B.pre
  have hown : s.vm.findClass RX1 = some m.cls := findClass_of_methodNamed B.named
  have hlocks := B.notSynchronized
  have hsz : s.heap.size = sz := hsz
  subst hsz
  have hA : ∀ q : Nat, s.heap.size ≤ q → (va_A [] s.heap.size) q := fun q h => Or.inr h
  have hS : va_S (va_A [] s.heap.size) s.heap s.heap [] := va_S.rf
  have inn : (nI n).toInt = (n : Int) := nI_toInt (by omega)
  have iww : (nI w).toInt = (w : Int) := nI_toInt (by omega)
  have hpl : pl n w = n + 1 - w := rfl
  have g_x1 := rg x1
  have hl := lv_entry ([.ref h0, .int x1]) (n := 2) (Nat.le_of_ble_eq_true rfl)
  rw [lg_entry_eq]
  generalize (lg_sl ([.ref h0, .int x1]) ++ List.replicate (2 - (lg_sl ([.ref h0, .int x1])).length) Slot.unset).toArray = ls at hl ⊢
  have hl : lv_has ls 2 [(0, .ref h0), (1, .int x1)] := hl
  refine lv_iload_n hx hb dX1_hasPeriod_0 rfl (lv_at hl 1 rfl) ?_
  refine lv_iconst (v := 1) hx hb dX1_hasPeriod_1 (by decide) ?_
  refine z_icmp_ge (tgt := 15) hx hb dX1_hasPeriod_2 (by decide) rfl (show (1 : Int32).toInt = 1 by decide) (fun c2 => ?_) (fun c2 => ?_)
  · have _u := True.intro
    refine lv_aload_n hx hb dX1_hasPeriod_15 rfl (lv_at hl 0 rfl) ?_
    refine lv_iload_n hx hb dX1_hasPeriod_16 rfl (lv_at hl 1 rfl) ?_
    refine va_calli (va_runV (As := [.int x1]) (rest := []) ⟨hx, hb, hml, hown, hts⟩ (c_X1_repeatsAfter l D E h0 h1 h2 h3 y1 y2 y3 s.heap.size (n) (w) T P M hn hw hT hPt x1 (x1.toInt.toNat) (Eq.trans rfl (by omega)) (by omega)) (cwV 1 hts gX1_hasPeriod_X1_repeatsAfter rfl rfl rfl (by decide +kernel) ⟨Nat.le_of_ble_eq_true rfl, Nat.le_of_ble_eq_true rfl⟩) ⟨cp.blind, va_recv hK hP (ci := 0) (q0 := 0) rfl rfl, fun U hU hW => ⟨rfl, cp.call hP hK hE hS (fr0 hS hA) hU hW⟩⟩ rfl rfl hl.1 rfl (lv_room (Nat.le_of_ble_eq_true rfl)) dX1_hasPeriod_17 ⟨Nat.le_of_ble_eq_true rfl, Nat.le_of_ble_eq_true rfl⟩) hS (fun q _ h => (fr0 hS hA) q h) (fr0 hS hA) (fun v17 u t H1 locs1 ht hvm e17 hB hz1 hk1 hS => ?_)
    have hP := kp hP hk1
    generalize H1 = H at hP hS ⊢
    generalize locs1 = locs at hS ⊢
    refine vx_ret ?_
    refine W.widen (k := 1) (n := 6) (Nat.le_of_ble_eq_true rfl) (Nat.le_of_ble_eq_true rfl) ?_
    have hpost : v17.toInt = bI (per T n x1.toInt.toNat) := (Eq.trans e17 (rfl))
    exact W.zret (v := v17) hx hb hr (bnar hpost) (fun t ht hW => ⟨⟨_, (), rfl, ⟨hpost, by unfold kHP; (repeat' split) <;> omega⟩, trivial⟩, hS.F ht⟩) hS.2.2 dX1_hasPeriod_20
  · have _u := True.intro
    exact xIAE_throw hx hb hlt hown hts (by decide +kernel) hE hS (hl.1.trans hml.symm) hnt dX1_hasPeriod_5 dX1_hasPeriod_8 dX1_hasPeriod_9 dX1_hasPeriod_11 dX1_hasPeriod_14 (xS_140) (Nat.le_of_ble_eq_true rfl) (Nat.le_of_ble_eq_true rfl) (Nat.le_of_ble_eq_true rfl) (Nat.le_of_ble_eq_true rfl) hlocks (⟨rfl, by unfold kHP; (repeat' split) <;> omega⟩) (fun z hz => hS.2.2 z hz) (Nat.le_of_ble_eq_true rfl) (Nat.le_of_ble_eq_true rfl)

set_option maxHeartbeats 4000000 in
set_option maxRecDepth 100000 in
theorem c_X1_leastPeriod (l : Launch) (D : va_G) (E : Nat × Nat × Nat) (h0 h1 h2 h3 : Nat) (y1 y2 y3 : ClassId) (sz n w : Nat) (T P M : Nat → Int32) (hn : n ≤ 64) (hw : w ≤ 24) (hT : SymF T) (hPt : SymF P) : Met l yX1_leastPeriod wsX1_leastPeriod ({ frames := 2, cells := 0, slots := 0, locals := 43 }) (va_Pc [.ref h0] (cp D (XW h0 h1 h2 h3 y1 y2 y3 (n) (w) T P M) (XT y1 y2 y3) E (va_A [] sz) sz)) (va_Qi (fun (r : Int32) (_ : Unit) => r.toInt = ((lpd T n : Nat) : Int)) (fun _ _ => True) (va_A [] sz)) 0 0 (va_A [] sz) := by
  refine Met.ofW (cc := cX1_leastPeriod) (maxL := 2) (ret := (some .int)) (by decide) rfl ?_
  intro p e s m args below meth c s₁ B hml hv
  obtain ⟨rfl, hsz, hP, hK, hE⟩ := hv
  have hx := B.exec
  have hb := B.bytes
  have hr := B.returns
  have hts := atoms_spec (ws := wsX1_leastPeriod) B.pre
  have hown : s.vm.findClass RX1 = some m.cls := findClass_of_methodNamed B.named
  have hlocks := B.notSynchronized
  have hsz : s.heap.size = sz := hsz
  subst hsz
  have hA : ∀ q : Nat, s.heap.size ≤ q → (va_A [] s.heap.size) q := fun q h => Or.inr h
  have hS : va_S (va_A [] s.heap.size) s.heap s.heap [] := va_S.rf
  have inn : (nI n).toInt = (n : Int) := nI_toInt (by omega)
  have iww : (nI w).toInt = (w : Int) := nI_toInt (by omega)
  have hf_textSize := hts (.fieldLink RX1 19 "BlankMatcher" "textSize" "I") (by decide +kernel)
  have hpl : pl n w = n + 1 - w := rfl
  have hin0 : ∀ w ∈ wsX10, w ∈ wsX1_leastPeriod := by decide +kernel
  have hl := lv_entry ([.ref h0]) (n := 2) (Nat.le_of_ble_eq_true rfl)
  rw [lg_entry_eq]
  generalize (lg_sl ([.ref h0]) ++ List.replicate (2 - (lg_sl ([.ref h0])).length) Slot.unset).toArray = ls at hl ⊢
  have hl : lv_has ls 2 [(0, .ref h0)] := hl
  refine lv_iconst (v := 1) hx hb dX1_leastPeriod_0 (by decide) ?_
  refine lv_istore_n (lv' := [(1, .int 1), (0, .ref h0)]) hx hb dX1_leastPeriod_1 rfl hl (by decide) rfl (fun ls hl => ?_)
  have lp2 : ∀ (nf : Nat) (j : Nat) (x1 : Int32), n - j < nf → (1 ≤ j ∧ j ≤ max 1 n) → (∀ i, 1 ≤ i → i < j → per T n i = false) → x1.toInt = (j : Int) → ∀ (H : Heap) (locs : List Loc), va_P D vwCl (XW h0 h1 h2 h3 y1 y2 y3 (n) (w) T P M) H → va_S (va_A [] s.heap.size) s.heap H locs → ∀ (ls : Array Slot), lv_has ls 2 [(0, .ref h0), (1, .int x1)] → W p l e (headSpec wsX1_leastPeriod ({ frames := 2, cells := 0, slots := 0, locals := 43 })).room s m [.ref h0].toArray below meth c H locs 0 0 (MQ below (va_Qi (fun (r : Int32) (_ : Unit) => r.toInt = ((lpd T n : Nat) : Int)) (fun _ _ => True) (va_A [] s.heap.size)) [.ref h0].toArray s 0 0 (va_A [] s.heap.size)) (F0 m 2 ls []) := by
    intro nf
    induction nf with
    | zero => intros; omega
    | succ nf ih2 =>
      intro j x1 hnf hj hz e_x1 H locs hP hS ls hl
      refine lv_iload_n hx hb dX1_leastPeriod_2 rfl (lv_at hl 1 rfl) ?_
      refine lv_aload_n hx hb dX1_leastPeriod_3 rfl (lv_at hl 0 rfl) ?_
      refine va_get (D := D) (ci := 0) (v := .int (nI n)) (C := RX1) (T := TX1) (N := 5) hx hb hts hin0 hown hK hP 0 rfl rfl 3 (by decide) hf_textSize (fun _ h9 => h9) rfl dX1_leastPeriod_4 ?_
      refine z_icmp_ge (tgt := 26) hx hb dX1_leastPeriod_7 (by decide) e_x1 inn (fun c7 => ?_) (fun c7 => ?_)
      · have _u := True.intro
        refine lv_iconst (v := 1) hx hb dX1_leastPeriod_26 (by decide) ?_
        refine lv_aload_n hx hb dX1_leastPeriod_27 rfl (lv_at hl 0 rfl) ?_
        refine va_get (D := D) (ci := 0) (v := .int (nI n)) (C := RX1) (T := TX1) (N := 5) hx hb hts hin0 hown hK hP 0 rfl rfl 3 (by decide) hf_textSize (fun _ h9 => h9) rfl dX1_leastPeriod_28 ?_
        refine va_mmax hx hb (by rw [hml]; exact hl.1.symm) hown (hts (.methodLink RX1 92 Lib.Math.max.name) (by decide +kernel)) (hts (.static Lib.Math.max.name) (by decide +kernel)) (hts (.initialized "java/lang/Math") (by decide +kernel)) (hts (.code Lib.Math.max.name Lib.Math.max.code 2 (some .int)) (by decide +kernel)) (Nat.le_of_ble_eq_true rfl) (Nat.le_of_ble_eq_true rfl) (Nat.le_of_ble_eq_true rfl) (Nat.le_of_ble_eq_true rfl) dX1_leastPeriod_31 ?_
        refine lv_topi (fun v31 q31 => ?_)
        have e31 : v31.toInt = ((max 1 n : Nat) : Int) := by
          rw [q31]; split <;> rename_i h <;> rw [zlt (show (1 : Int32).toInt = 1 by decide) inn] at h <;> first | (rw [inn]; omega) | (rw [show (1 : Int32).toInt = 1 by decide]; omega)
        refine W.widen (k := 0) (n := 0) (Nat.le_of_ble_eq_true rfl) (Nat.le_of_ble_eq_true rfl) ?_
        exact W.iret (v := v31) hx hb hr (fun t ht hW => ⟨⟨_, (), rfl, (Eq.trans e31 (by rw [lpd_no (fun i h1 h2 => hz i h1 (by omega))])), trivial⟩, hS.F ht⟩) hS.2.2 dX1_leastPeriod_34
      · have _u := True.intro
        refine lv_aload_n hx hb dX1_leastPeriod_10 rfl (lv_at hl 0 rfl) ?_
        refine lv_iload_n hx hb dX1_leastPeriod_11 rfl (lv_at hl 1 rfl) ?_
        refine va_calli (va_runV (As := [.int x1]) (rest := []) ⟨hx, hb, hml, hown, hts⟩ (c_X1_repeatsAfter l D E h0 h1 h2 h3 y1 y2 y3 H.size (n) (w) T P M hn hw hT hPt x1 (j) (Eq.trans e_x1 (by omega)) (by omega)) (cwV 1 hts gX1_leastPeriod_X1_repeatsAfter rfl rfl rfl (by decide +kernel) ⟨Nat.le_of_ble_eq_true rfl, Nat.le_of_ble_eq_true rfl⟩) ⟨cp.blind, va_recv hK hP (ci := 0) (q0 := 0) rfl rfl, fun U hU hW => ⟨rfl, cp.call hP hK hE hS (fr0 hS hA) hU hW⟩⟩ rfl rfl hl.1 rfl (lv_room (Nat.le_of_ble_eq_true rfl)) dX1_leastPeriod_12 ⟨Nat.le_of_ble_eq_true rfl, Nat.le_of_ble_eq_true rfl⟩) hS (fun q _ h => (fr0 hS hA) q h) (fr0 hS hA) (fun v12 u t H1 locs1 ht hvm e12 hB hz1 hk1 hS => ?_)
        have hP := kp hP hk1
        generalize H1 = H at hP hS ⊢
        generalize locs1 = locs at hS ⊢
        refine zb_if_eq (tgt := 20) hx hb dX1_leastPeriod_15 (by decide) e12 (fun c15 => ?_) (fun c15 => ?_)
        · have _u := True.intro
          refine z_iinc (k := 1) (lv' := fun v => [(1, .int v), (0, .ref h0)]) hx hb dX1_leastPeriod_20 hl rfl e_x1 (by decide) (by omega) (by omega) (by decide) (fun _ => rfl) (fun v20 ls e20 hl => ?_)
          refine lv_goto (tgt := 2) hx hb dX1_leastPeriod_23 (by decide) ?_
          exact ih2 (j + 1) v20 (by omega) (by omega) (ltS hz c15) (Eq.trans e20 (by omega)) _ _ hP hS _ (lv_sub hl [1, 0] rfl)
        · have _u := True.intro
          refine lv_iload_n hx hb dX1_leastPeriod_18 rfl (lv_at hl 1 rfl) ?_
          refine W.widen (k := 0) (n := 0) (Nat.le_of_ble_eq_true rfl) (Nat.le_of_ble_eq_true rfl) ?_
          exact W.iret (v := x1) hx hb hr (fun t ht hW => ⟨⟨_, (), rfl, (Eq.trans e_x1 (by rw [lpd_at hj.1 (by omega) c15 hz])), trivial⟩, hS.F ht⟩) hS.2.2 dX1_leastPeriod_19
  exact lp2 ((n - 1) + 1) (1) 1 (by omega) (by omega) (fun i h1 h2 => absurd h1 (by omega)) (Eq.trans (show (1 : Int32).toInt = 1 by decide) (by omega)) _ _ hP hS _ (lv_sub hl [1, 0] rfl)
