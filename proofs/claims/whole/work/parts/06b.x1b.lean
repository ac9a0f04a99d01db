set_option maxHeartbeats 4000000 in
set_option maxRecDepth 100000 in
theorem c_X1_firstMismatch (l : Launch) (D : va_G) (E : Nat × Nat × Nat) (h0 h1 h2 h3 : Nat) (y1 y2 y3 : ClassId) (sz n w : Nat) (T P M : Nat → Int32) (hn : n ≤ 64) (hw : w ≤ 24) (hT : SymF T) (hPt : SymF P) (x1 : Int32) (x2 : Int32) (o : Nat) (e_o : x1.toInt = (o : Int)) (f : Nat) (e_f : x2.toInt = (f : Int)) (ho : o + w ≤ n) : Met l yX1_firstMismatch wsX1_firstMismatch ({ frames := 1, cells := 0, slots := 0, locals := 21 }) (va_Pc [.ref h0, .int x1, .int x2] (cp D (XW h0 h1 h2 h3 y1 y2 y3 (n) (w) T P M) (XT y1 y2 y3) E (va_A [] sz) sz)) (va_Qi (fun (r : Int32) (_ : Unit) => r.toInt = fmis T P o f w) (fun _ _ => True) (va_A [] sz)) 0 0 (va_A [] sz) := by
  refine Met.ofW (cc := cX1_firstMismatch) (maxL := 4) (ret := (some .int)) (by decide) rfl ?_
  intro p e s m args below meth c s₁ B hml hv
  obtain ⟨rfl, hsz, hP, hK, hE⟩ := hv
  have hx := B.exec
  have hb := B.bytes
  have hr := B.returns
  have hts := atoms_spec (ws := wsX1_firstMismatch) B.pre
  have hown : s.vm.findClass RX1 = some m.cls := findClass_of_methodNamed B.named
  have hlocks := B.notSynchronized
  have hsz : s.heap.size = sz := hsz
  subst hsz
  have hA : ∀ q : Nat, s.heap.size ≤ q → (va_A [] s.heap.size) q := fun q h => Or.inr h
  have hS : va_S (va_A [] s.heap.size) s.heap s.heap [] := va_S.rf
  have inn : (nI n).toInt = (n : Int) := nI_toInt (by omega)
  have iww : (nI w).toInt = (w : Int) := nI_toInt (by omega)
  have hf_pattern := hts (.fieldLink RX1 13 "BlankMatcher" "pattern" "[I") (by decide +kernel)
  have hf_patternSize := hts (.fieldLink RX1 23 "BlankMatcher" "patternSize" "I") (by decide +kernel)
  have hf_text := hts (.fieldLink RX1 9 "BlankMatcher" "text" "[I") (by decide +kernel)
  have hpl : pl n w = n + 1 - w := rfl
  have hin0 : ∀ w ∈ wsX10, w ∈ wsX1_firstMismatch := by decide +kernel
  have g_x1 := rg x1
  have g_x2 := rg x2
  have hl := lv_entry ([.ref h0, .int x1, .int x2]) (n := 4) (Nat.le_of_ble_eq_true rfl)
  rw [lg_entry_eq]
  generalize (lg_sl ([.ref h0, .int x1, .int x2]) ++ List.replicate (4 - (lg_sl ([.ref h0, .int x1, .int x2])).length) Slot.unset).toArray = ls at hl ⊢
  have hl : lv_has ls 4 [(0, .ref h0), (1, .int x1), (2, .int x2)] := hl
  refine lv_iload_n hx hb dX1_firstMismatch_0 rfl (lv_at hl 2 rfl) ?_
  refine lv_istore_n (lv' := [(3, .int x2), (0, .ref h0), (1, .int x1), (2, .int x2)]) hx hb dX1_firstMismatch_1 rfl hl (by decide) rfl (fun ls hl => ?_)
  have lp2 : ∀ (nf : Nat) (j : Nat) (x3 : Int32), w - j < nf → (f ≤ j) → (∀ i, f ≤ i → i < j → mf T P o i = false) → x3.toInt = (j : Int) → ∀ (H : Heap) (locs : List Loc), va_P D vwCl (XW h0 h1 h2 h3 y1 y2 y3 (n) (w) T P M) H → va_S (va_A [] s.heap.size) s.heap H locs → ∀ (ls : Array Slot), lv_has ls 4 [(0, .ref h0), (1, .int x1), (2, .int x2), (3, .int x3)] → W p l e (headSpec wsX1_firstMismatch ({ frames := 1, cells := 0, slots := 0, locals := 21 })).room s m [.ref h0, .int x1, .int x2].toArray below meth c H locs 0 0 (MQ below (va_Qi (fun (r : Int32) (_ : Unit) => r.toInt = fmis T P o f w) (fun _ _ => True) (va_A [] s.heap.size)) [.ref h0, .int x1, .int x2].toArray s 0 0 (va_A [] s.heap.size)) (F0 m 2 ls []) := by
    intro nf
    induction nf with
    | zero => intros; omega
    | succ nf ih2 =>
      intro j x3 hnf hj hz e_x3 H locs hP hS ls hl
      refine lv_iload_n hx hb dX1_firstMismatch_2 rfl (lv_at hl 3 rfl) ?_
      refine lv_aload_n hx hb dX1_firstMismatch_3 rfl (lv_at hl 0 rfl) ?_
      refine va_get (D := D) (ci := 0) (v := .int (nI w)) (C := RX1) (T := TX1) (N := 5) hx hb hts hin0 hown hK hP 0 rfl rfl 4 (by decide) hf_patternSize (fun _ h9 => h9) rfl dX1_firstMismatch_4 ?_
      refine z_icmp_ge (tgt := 38) hx hb dX1_firstMismatch_7 (by decide) e_x3 iww (fun c7 => ?_) (fun c7 => ?_)
      · have _u := True.intro
        refine lv_iconst (v := (-1)) hx hb dX1_firstMismatch_38 (by decide) ?_
        refine W.widen (k := 0) (n := 0) (Nat.le_of_ble_eq_true rfl) (Nat.le_of_ble_eq_true rfl) ?_
        exact W.iret (v := (-1)) hx hb hr (fun t ht hW => ⟨⟨_, (), rfl, (Eq.trans (show (-1 : Int32).toInt = (-1) by decide) ((fmis_no (fun i h1 h2 => hz i h1 (by omega))).symm)), trivial⟩, hS.F ht⟩) hS.2.2 dX1_firstMismatch_39
      · have _u := True.intro
        refine lv_aload_n hx hb dX1_firstMismatch_10 rfl (lv_at hl 0 rfl) ?_
        refine va_get (D := D) (ci := 0) (v := .ref h2) (C := RX1) (T := TX1) (N := 5) hx hb hts hin0 hown hK hP 0 rfl rfl 1 (by decide) hf_pattern (fun _ h9 => h9) rfl dX1_firstMismatch_11 ?_
        refine lv_iload_n hx hb dX1_firstMismatch_14 rfl (lv_at hl 3 rfl) ?_
        refine z_iald hx hb hK hP 2 1 rfl rfl (j) e_x3 (by omega) (by omega) dX1_firstMismatch_15 ?_
        refine lv_aload_n hx hb dX1_firstMismatch_16 rfl (lv_at hl 0 rfl) ?_
        refine va_get (D := D) (ci := 0) (v := .ref h1) (C := RX1) (T := TX1) (N := 5) hx hb hts hin0 hown hK hP 0 rfl rfl 0 (by decide) hf_text (fun _ h9 => h9) rfl dX1_firstMismatch_17 ?_
        refine lv_iload_n hx hb dX1_firstMismatch_20 rfl (lv_at hl 1 rfl) ?_
        refine lv_iload_n hx hb dX1_firstMismatch_21 rfl (lv_at hl 3 rfl) ?_
        refine z_iadd hx hb dX1_firstMismatch_22 e_o e_x3 (by omega) (by omega) (fun v22 e22 => ?_)
        refine z_iald hx hb hK hP 1 0 rfl rfl (o + j) e22 (by omega) (by omega) dX1_firstMismatch_23 ?_
        refine va_calli (va_runS (As := [.int (P (j)), .int (T (o + j))]) (rest := []) ⟨hx, hb, hml, hown, hts⟩ (c_X1_agree l H.size (P (j)) (T (o + j))) (va_cwS 2 hts gX1_firstMismatch_X1_agree rfl rfl rfl (by decide +kernel) ⟨Nat.le_of_ble_eq_true rfl, Nat.le_of_ble_eq_true rfl⟩) ⟨cz.blind, fun U hU hW => ⟨rfl, cz.call hU⟩⟩ rfl rfl hl.1 rfl (lv_room (Nat.le_of_ble_eq_true rfl)) dX1_firstMismatch_24 ⟨Nat.le_of_ble_eq_true rfl, Nat.le_of_ble_eq_true rfl⟩) hS (fun q _ h => (fr0 hS hA) q h) (fr0 hS hA) (fun v24 u t H1 locs1 ht hvm e24 hB hz1 hk1 hS => ?_)
        have hP := kp hP hk1
        generalize H1 = H at hP hS ⊢
        generalize locs1 = locs at hS ⊢
        refine zb_if_ne (tgt := 32) hx hb dX1_firstMismatch_27 (by decide) e24 (fun c27 => ?_) (fun c27 => ?_)
        · have _u := True.intro
          refine z_iinc (k := 3) (lv' := fun v => [(3, .int v), (0, .ref h0), (1, .int x1), (2, .int x2)]) hx hb dX1_firstMismatch_32 hl rfl e_x3 (by decide) (by omega) (by omega) (by decide) (fun _ => rfl) (fun v32 ls e32 hl => ?_)
          refine lv_goto (tgt := 2) hx hb dX1_firstMismatch_35 (by decide) ?_
          exact ih2 (j + 1) v32 (by omega) (by omega) (ltS hz (mf_f c27)) (Eq.trans e32 (by omega)) _ _ hP hS _ (lv_sub hl [1, 2, 3, 0] rfl)
        · have _u := True.intro
          refine lv_iload_n hx hb dX1_firstMismatch_30 rfl (lv_at hl 3 rfl) ?_
          refine W.widen (k := 0) (n := 0) (Nat.le_of_ble_eq_true rfl) (Nat.le_of_ble_eq_true rfl) ?_
          exact W.iret (v := x3) hx hb hr (fun t ht hW => ⟨⟨_, (), rfl, (Eq.trans e_x3 ((fmis_at (by omega) hj (mf_t c27) hz).symm)), trivial⟩, hS.F ht⟩) hS.2.2 dX1_firstMismatch_31
  exact lp2 ((w - f) + 1) (f) x2 (by omega) (by omega) (fun i h1 h2 => absurd h1 (by omega)) (Eq.trans e_f (by omega)) _ _ hP hS _ (lv_sub hl [1, 2, 3, 0] rfl)

set_option maxHeartbeats 4000000 in
set_option maxRecDepth 100000 in
theorem c_X1_hasSymbols (l : Launch) (D : va_G) (E : Nat × Nat × Nat) (h0 h1 h2 h3 : Nat) (y1 y2 y3 : ClassId) (sz n w : Nat) (T P M : Nat → Int32) (hn : n ≤ 64) (hw : w ≤ 24) (hT : SymF T) (hPt : SymF P) (x1 : Int32) (o : Nat) (e_o : x1.toInt = (o : Int)) (ho : o + w ≤ n) : Met l yX1_hasSymbols wsX1_hasSymbols ({ frames := 2, cells := 0, slots := 0, locals := 44 }) (va_Pc [.ref h0, .int x1] (cp D (XW h0 h1 h2 h3 y1 y2 y3 (n) (w) T P M) (XT y1 y2 y3) E (va_A [] sz) sz)) (va_Qi (fun (r : Int32) (_ : Unit) => r.toInt = bI (lik 0 T P w o)) (fun _ _ => True) (va_A [] sz)) 0 0 (va_A [] sz) := by
  refine Met.ofW (cc := cX1_hasSymbols) (maxL := 2) (ret := (some .boolean)) (by decide) rfl ?_
  intro p e s m args below meth c s₁ B hml hv
  obtain ⟨rfl, hsz, hP, hK, hE⟩ := hv
  have hx := B.exec
  have hb := B.bytes
  have hr := B.returns
  have hts := atoms_spec (ws := wsX1_hasSymbols) B.pre
  have hown : s.vm.findClass RX1 = some m.cls := findClass_of_methodNamed B.named
  have hlocks := B.notSynchronized
  have hsz : s.heap.size = sz := hsz
  subst hsz
  have hA : ∀ q : Nat, s.heap.size ≤ q → (va_A [] s.heap.size) q := fun q h => Or.inr h
  have hS : va_S (va_A [] s.heap.size) s.heap s.heap [] := va_S.rf
  have inn : (nI n).toInt = (n : Int) := nI_toInt (by omega)
  have iww : (nI w).toInt = (w : Int) := nI_toInt (by omega)
  have hpl : pl n w = n + 1 - w := rfl
  have g_x1 := rg x1
  have hl := lv_entry ([.ref h0, .int x1]) (n := 2) (Nat.le_of_ble_eq_true rfl)
  rw [lg_entry_eq]
  generalize (lg_sl ([.ref h0, .int x1]) ++ List.replicate (2 - (lg_sl ([.ref h0, .int x1])).length) Slot.unset).toArray = ls at hl ⊢
  have hl : lv_has ls 2 [(0, .ref h0), (1, .int x1)] := hl
  refine lv_aload_n hx hb dX1_hasSymbols_0 rfl (lv_at hl 0 rfl) ?_
  refine lv_iload_n hx hb dX1_hasSymbols_1 rfl (lv_at hl 1 rfl) ?_
  refine lv_iconst (v := 0) hx hb dX1_hasSymbols_2 (by decide) ?_
  refine va_calli (va_runV (As := [.int x1, .int 0]) (rest := []) ⟨hx, hb, hml, hown, hts⟩ (c_X1_firstMismatch l D E h0 h1 h2 h3 y1 y2 y3 s.heap.size (n) (w) T P M hn hw hT hPt x1 0 (o) (Eq.trans e_o (by omega)) (0) (Eq.trans (show (0 : Int32).toInt = 0 by decide) (by omega)) (by omega)) (cwV 2 hts gX1_hasSymbols_X1_firstMismatch rfl rfl rfl (by decide +kernel) ⟨Nat.le_of_ble_eq_true rfl, Nat.le_of_ble_eq_true rfl⟩) ⟨cp.blind, va_recv hK hP (ci := 0) (q0 := 0) rfl rfl, fun U hU hW => ⟨rfl, cp.call hP hK hE hS (fr0 hS hA) hU hW⟩⟩ rfl rfl hl.1 rfl (lv_room (Nat.le_of_ble_eq_true rfl)) dX1_hasSymbols_3 ⟨Nat.le_of_ble_eq_true rfl, Nat.le_of_ble_eq_true rfl⟩) hS (fun q _ h => (fr0 hS hA) q h) (fr0 hS hA) (fun v3 u t H1 locs1 ht hvm e3 hB hz1 hk1 hS => ?_)
  have hP := kp hP hk1
  generalize H1 = H at hP hS ⊢
  generalize locs1 = locs at hS ⊢
  refine lv_iconst (v := (-1)) hx hb dX1_hasSymbols_6 (by decide) ?_
  refine z_icmp_ne (tgt := 14) hx hb dX1_hasSymbols_7 (by decide) e3 (show (-1 : Int32).toInt = (-1) by decide) (fun c7 => ?_) (fun c7 => ?_)
  · have _u := True.intro
    refine lv_iconst (v := 0) hx hb dX1_hasSymbols_14 (by decide) ?_
    refine W.widen (k := 0) (n := 0) (Nat.le_of_ble_eq_true rfl) (Nat.le_of_ble_eq_true rfl) ?_
    have hpost : (0 : Int32).toInt = bI (lik 0 T P w o) := (by first | (rw [lik0_t c7]; decide) | (rw [lik0_f c7]; decide))
    exact W.zret (v := 0) hx hb hr (bnar hpost) (fun t ht hW => ⟨⟨_, (), rfl, hpost, trivial⟩, hS.F ht⟩) hS.2.2 dX1_hasSymbols_15
  · have _u := True.intro
    refine lv_iconst (v := 1) hx hb dX1_hasSymbols_10 (by decide) ?_
    refine lv_goto (tgt := 15) hx hb dX1_hasSymbols_11 (by decide) ?_
    refine W.widen (k := 0) (n := 0) (Nat.le_of_ble_eq_true rfl) (Nat.le_of_ble_eq_true rfl) ?_
    have hpost : (1 : Int32).toInt = bI (lik 0 T P w o) := (by first | (rw [lik0_t c7]; decide) | (rw [lik0_f c7]; decide))
    exact W.zret (v := 1) hx hb hr (bnar hpost) (fun t ht hW => ⟨⟨_, (), rfl, hpost, trivial⟩, hS.F ht⟩) hS.2.2 dX1_hasSymbols_15

set_option maxHeartbeats 4000000 in
set_option maxRecDepth 100000 in
theorem c_X1_hasSum (l : Launch) (D : va_G) (E : Nat × Nat × Nat) (h0 h1 h2 h3 : Nat) (y1 y2 y3 : ClassId) (sz n w : Nat) (T P M : Nat → Int32) (hn : n ≤ 64) (hw : w ≤ 24) (hT : SymF T) (hPt : SymF P) (x1 : Int32) (o : Nat) (e_o : x1.toInt = (o : Int)) (ho : o + w ≤ n) : Met l yX1_hasSum wsX1_hasSum ({ frames := 0, cells := 0, slots := 0, locals := 0 }) (va_Pc [.ref h0, .int x1] (cp D (XW h0 h1 h2 h3 y1 y2 y3 (n) (w) T P M) (XT y1 y2 y3) E (va_A [] sz) sz)) (va_Qi (fun (r : Int32) (_ : Unit) => r.toInt = bI (lik 1 T P w o)) (fun _ _ => True) (va_A [] sz)) 0 0 (va_A [] sz) := by
  refine Met.ofW (cc := cX1_hasSum) (maxL := 4) (ret := (some .boolean)) (by decide) rfl ?_
  intro p e s m args below meth c s₁ B hml hv
  obtain ⟨rfl, hsz, hP, hK, hE⟩ := hv
  have hx := B.exec
  have hb := B.bytes
  have hr := B.returns
  have hts := atoms_spec (ws := wsX1_hasSum) B.pre
  have hown : s.vm.findClass RX1 = some m.cls := findClass_of_methodNamed B.named
  have hlocks := B.notSynchronized
  have hsz : s.heap.size = sz := hsz
  subst hsz
  have hA : ∀ q : Nat, s.heap.size ≤ q → (va_A [] s.heap.size) q := fun q h => Or.inr h
  have hS : va_S (va_A [] s.heap.size) s.heap s.heap [] := va_S.rf
  have inn : (nI n).toInt = (n : Int) := nI_toInt (by omega)
  have iww : (nI w).toInt = (w : Int) := nI_toInt (by omega)
  have hf_pattern := hts (.fieldLink RX1 13 "BlankMatcher" "pattern" "[I") (by decide +kernel)
  have hf_patternSize := hts (.fieldLink RX1 23 "BlankMatcher" "patternSize" "I") (by decide +kernel)
  have hf_text := hts (.fieldLink RX1 9 "BlankMatcher" "text" "[I") (by decide +kernel)
  have hpl : pl n w = n + 1 - w := rfl
  have hin0 : ∀ w ∈ wsX10, w ∈ wsX1_hasSum := by decide +kernel
  have g_x1 := rg x1
  have hl := lv_entry ([.ref h0, .int x1]) (n := 4) (Nat.le_of_ble_eq_true rfl)
  rw [lg_entry_eq]
  generalize (lg_sl ([.ref h0, .int x1]) ++ List.replicate (4 - (lg_sl ([.ref h0, .int x1])).length) Slot.unset).toArray = ls at hl ⊢
  have hl : lv_has ls 4 [(0, .ref h0), (1, .int x1)] := hl
  refine lv_iconst (v := 0) hx hb dX1_hasSum_0 (by decide) ?_
  refine lv_istore_n (lv' := [(2, .int 0), (0, .ref h0), (1, .int x1)]) hx hb dX1_hasSum_1 rfl hl (by decide) rfl (fun ls hl => ?_)
  refine lv_iconst (v := 0) hx hb dX1_hasSum_2 (by decide) ?_
  refine lv_istore_n (lv' := [(3, .int 0), (2, .int 0), (0, .ref h0), (1, .int x1)]) hx hb dX1_hasSum_3 rfl hl (by decide) rfl (fun ls hl => ?_)
  have lp4 : ∀ (nf : Nat) (j : Nat) (x2 : Int32) (x3 : Int32), w - j < nf → (j ≤ w) → (x2 = isum (sf T P o) j) → x3.toInt = (j : Int) → ∀ (H : Heap) (locs : List Loc), va_P D vwCl (XW h0 h1 h2 h3 y1 y2 y3 (n) (w) T P M) H → va_S (va_A [] s.heap.size) s.heap H locs → ∀ (ls : Array Slot), lv_has ls 4 [(0, .ref h0), (1, .int x1), (2, .int x2), (3, .int x3)] → W p l e (headSpec wsX1_hasSum ({ frames := 0, cells := 0, slots := 0, locals := 0 })).room s m [.ref h0, .int x1].toArray below meth c H locs 0 0 (MQ below (va_Qi (fun (r : Int32) (_ : Unit) => r.toInt = bI (lik 1 T P w o)) (fun _ _ => True) (va_A [] s.heap.size)) [.ref h0, .int x1].toArray s 0 0 (va_A [] s.heap.size)) (F0 m 4 ls []) := by
    intro nf
    induction nf with
    | zero => intros; omega
    | succ nf ih4 =>
      intro j x2 x3 hnf hj hx2 e_x3 H locs hP hS ls hl
      refine lv_iload_n hx hb dX1_hasSum_4 rfl (lv_at hl 3 rfl) ?_
      refine lv_aload_n hx hb dX1_hasSum_5 rfl (lv_at hl 0 rfl) ?_
      refine va_get (D := D) (ci := 0) (v := .int (nI w)) (C := RX1) (T := TX1) (N := 5) hx hb hts hin0 hown hK hP 0 rfl rfl 4 (by decide) hf_patternSize (fun _ h9 => h9) rfl dX1_hasSum_6 ?_
      refine z_icmp_ge (tgt := 36) hx hb dX1_hasSum_9 (by decide) e_x3 iww (fun c9 => ?_) (fun c9 => ?_)
      · have _u := True.intro
        have hj2 : j = w := by omega
        have hx3 : x2 = isum (sf T P o) w := by rw [hx2, hj2]
        refine lv_iload_n hx hb dX1_hasSum_36 rfl (lv_at hl 2 rfl) ?_
        refine lv_if_ne (tgt := 44) hx hb dX1_hasSum_37 (by decide) (fun c37 => ?_) (fun c37 => ?_)
        · have _u := True.intro
          refine lv_iconst (v := 0) hx hb dX1_hasSum_44 (by decide) ?_
          refine W.widen (k := 0) (n := 0) (Nat.le_of_ble_eq_true rfl) (Nat.le_of_ble_eq_true rfl) ?_
          have hpost : (0 : Int32).toInt = bI (lik 1 T P w o) := (by first | (rw [lik1_t (hx3.symm.trans c37)]; decide) | (rw [lik1_f (fun q => c37 (hx3.trans q))]; decide))
          exact W.zret (v := 0) hx hb hr (bnar hpost) (fun t ht hW => ⟨⟨_, (), rfl, hpost, trivial⟩, hS.F ht⟩) hS.2.2 dX1_hasSum_45
        · have _u := True.intro
          refine lv_iconst (v := 1) hx hb dX1_hasSum_40 (by decide) ?_
          refine lv_goto (tgt := 45) hx hb dX1_hasSum_41 (by decide) ?_
          refine W.widen (k := 0) (n := 0) (Nat.le_of_ble_eq_true rfl) (Nat.le_of_ble_eq_true rfl) ?_
          have hpost : (1 : Int32).toInt = bI (lik 1 T P w o) := (by first | (rw [lik1_t (hx3.symm.trans c37)]; decide) | (rw [lik1_f (fun q => c37 (hx3.trans q))]; decide))
          exact W.zret (v := 1) hx hb hr (bnar hpost) (fun t ht hW => ⟨⟨_, (), rfl, hpost, trivial⟩, hS.F ht⟩) hS.2.2 dX1_hasSum_45
      · have _u := True.intro
        refine lv_iload_n hx hb dX1_hasSum_12 rfl (lv_at hl 2 rfl) ?_
        refine lv_aload_n hx hb dX1_hasSum_13 rfl (lv_at hl 0 rfl) ?_
        refine va_get (D := D) (ci := 0) (v := .ref h1) (C := RX1) (T := TX1) (N := 5) hx hb hts hin0 hown hK hP 0 rfl rfl 0 (by decide) hf_text (fun _ h9 => h9) rfl dX1_hasSum_14 ?_
        refine lv_iload_n hx hb dX1_hasSum_17 rfl (lv_at hl 1 rfl) ?_
        refine lv_iload_n hx hb dX1_hasSum_18 rfl (lv_at hl 3 rfl) ?_
        refine z_iadd hx hb dX1_hasSum_19 e_o e_x3 (by omega) (by omega) (fun v19 e19 => ?_)
        refine z_iald hx hb hK hP 1 0 rfl rfl (o + j) e19 (by omega) (by omega) dX1_hasSum_20 ?_
        refine lv_aload_n hx hb dX1_hasSum_21 rfl (lv_at hl 0 rfl) ?_
        refine va_get (D := D) (ci := 0) (v := .ref h2) (C := RX1) (T := TX1) (N := 5) hx hb hts hin0 hown hK hP 0 rfl rfl 1 (by decide) hf_pattern (fun _ h9 => h9) rfl dX1_hasSum_22 ?_
        refine lv_iload_n hx hb dX1_hasSum_25 rfl (lv_at hl 3 rfl) ?_
        refine z_iald hx hb hK hP 2 1 rfl rfl (j) e_x3 (by omega) (by omega) dX1_hasSum_26 ?_
        refine lv_isub hx hb dX1_hasSum_27 ?_
        refine lv_iadd hx hb dX1_hasSum_28 ?_
        refine lv_istore_n (lv' := [(2, .int (x2 + ((T (o + j)) - (P (j))))), (0, .ref h0), (1, .int x1), (3, .int x3)]) hx hb dX1_hasSum_29 rfl hl (by decide) rfl (fun ls hl => ?_)
        refine z_iinc (k := 3) (lv' := fun v => [(3, .int v), (2, .int (x2 + ((T (o + j)) - (P (j))))), (0, .ref h0), (1, .int x1)]) hx hb dX1_hasSum_30 hl rfl e_x3 (by decide) (by omega) (by omega) (by decide) (fun _ => rfl) (fun v30 ls e30 hl => ?_)
        refine lv_goto (tgt := 4) hx hb dX1_hasSum_33 (by decide) ?_
        exact ih4 (j + 1) (x2 + ((T (o + j)) - (P (j)))) v30 (by omega) (by omega) (by rw [hx2]; rfl) (Eq.trans e30 (by omega)) _ _ hP hS _ (lv_sub hl [2, 3, 1, 0] rfl)
  exact lp4 ((w - 0) + 1) (0) 0 0 (by omega) (by omega) (rfl) (Eq.trans (show (0 : Int32).toInt = 0 by decide) (by omega)) _ _ hP hS _ (lv_sub hl [2, 3, 1, 0] rfl)

set_option maxHeartbeats 4000000 in
set_option maxRecDepth 100000 in
theorem c_X1_hasOrderUpTo (l : Launch) (D : va_G) (E : Nat × Nat × Nat) (h0 h1 h2 h3 : Nat) (y1 y2 y3 : ClassId) (sz n w : Nat) (T P M : Nat → Int32) (hn : n ≤ 64) (hw : w ≤ 24) (hT : SymF T) (hPt : SymF P) (x1 : Int32) (x2 : Int32) (o : Nat) (e_o : x1.toInt = (o : Int)) (a : Nat) (e_a : x2.toInt = (a : Int)) (ho : o + w ≤ n) (ha : a < w) : Met l yX1_hasOrderUpTo wsX1_hasOrderUpTo ({ frames := 0, cells := 0, slots := 0, locals := 0 }) (va_Pc [.ref h0, .int x1, .int x2] (cp D (XW h0 h1 h2 h3 y1 y2 y3 (n) (w) T P M) (XT y1 y2 y3) E (va_A [] sz) sz)) (va_Qi (fun (r : Int32) (_ : Unit) => r.toInt = bI (of1 T P o a)) (fun _ _ => True) (va_A [] sz)) 0 0 (va_A [] sz) := by
  refine Met.ofW (cc := cX1_hasOrderUpTo) (maxL := 8) (ret := (some .boolean)) (by decide) rfl ?_
  intro p e s m args below meth c s₁ B hml hv
  obtain ⟨rfl, hsz, hP, hK, hE⟩ := hv
  have hx := B.exec
  have hb := B.bytes
  have hr := B.returns
  have hts := atoms_spec (ws := wsX1_hasOrderUpTo) B.pre
  have hown : s.vm.findClass RX1 = some m.cls := findClass_of_methodNamed B.named
  have hlocks := B.notSynchronized
  have hsz : s.heap.size = sz := hsz
  subst hsz
  have hA : ∀ q : Nat, s.heap.size ≤ q → (va_A [] s.heap.size) q := fun q h => Or.inr h
  have hS : va_S (va_A [] s.heap.size) s.heap s.heap [] := va_S.rf
  have inn : (nI n).toInt = (n : Int) := nI_toInt (by omega)
  have iww : (nI w).toInt = (w : Int) := nI_toInt (by omega)
  have hf_pattern := hts (.fieldLink RX1 13 "BlankMatcher" "pattern" "[I") (by decide +kernel)
  have hf_text := hts (.fieldLink RX1 9 "BlankMatcher" "text" "[I") (by decide +kernel)
  have hpl : pl n w = n + 1 - w := rfl
  have hin0 : ∀ w ∈ wsX10, w ∈ wsX1_hasOrderUpTo := by decide +kernel
  have g_x1 := rg x1
  have g_x2 := rg x2
  have hl := lv_entry ([.ref h0, .int x1, .int x2]) (n := 8) (Nat.le_of_ble_eq_true rfl)
  rw [lg_entry_eq]
  generalize (lg_sl ([.ref h0, .int x1, .int x2]) ++ List.replicate (8 - (lg_sl ([.ref h0, .int x1, .int x2])).length) Slot.unset).toArray = ls at hl ⊢
  have hl : lv_has ls 8 [(0, .ref h0), (1, .int x1), (2, .int x2)] := hl
  refine lv_aload_n hx hb dX1_hasOrderUpTo_0 rfl (lv_at hl 0 rfl) ?_
  refine va_get (D := D) (ci := 0) (v := .ref h2) (C := RX1) (T := TX1) (N := 5) hx hb hts hin0 hown hK hP 0 rfl rfl 1 (by decide) hf_pattern (fun _ h9 => h9) rfl dX1_hasOrderUpTo_1 ?_
  refine lv_iload_n hx hb dX1_hasOrderUpTo_4 rfl (lv_at hl 2 rfl) ?_
  refine z_iald hx hb hK hP 2 1 rfl rfl (a) e_a (by omega) (by omega) dX1_hasOrderUpTo_5 ?_
  refine lv_istore_n (lv' := [(3, .int (P (a))), (0, .ref h0), (1, .int x1), (2, .int x2)]) hx hb dX1_hasOrderUpTo_6 rfl hl (by decide) rfl (fun ls hl => ?_)
  refine lv_aload_n hx hb dX1_hasOrderUpTo_7 rfl (lv_at hl 1 rfl) ?_
  refine va_get (D := D) (ci := 0) (v := .ref h1) (C := RX1) (T := TX1) (N := 5) hx hb hts hin0 hown hK hP 0 rfl rfl 0 (by decide) hf_text (fun _ h9 => h9) rfl dX1_hasOrderUpTo_8 ?_
  refine lv_iload_n hx hb dX1_hasOrderUpTo_11 rfl (lv_at hl 2 rfl) ?_
  refine lv_iload_n hx hb dX1_hasOrderUpTo_12 rfl (lv_at hl 3 rfl) ?_
  refine z_iadd hx hb dX1_hasOrderUpTo_13 e_o e_a (by omega) (by omega) (fun v13 e13 => ?_)
  refine z_iald hx hb hK hP 1 0 rfl rfl (o + a) e13 (by omega) (by omega) dX1_hasOrderUpTo_14 ?_
  refine lv_istore (lv' := [(4, .int (T (o + a))), (3, .int (P (a))), (0, .ref h0), (1, .int x1), (2, .int x2)]) hx hb dX1_hasOrderUpTo_15 hl (by decide) rfl (fun ls hl => ?_)
  refine lv_iconst (v := 0) hx hb dX1_hasOrderUpTo_17 (by decide) ?_
  refine lv_istore (lv' := [(5, .int 0), (4, .int (T (o + a))), (3, .int (P (a))), (0, .ref h0), (1, .int x1), (2, .int x2)]) hx hb dX1_hasOrderUpTo_18 hl (by decide) rfl (fun ls hl => ?_)
  have lp20 : ∀ (nf : Nat) (j : Nat) (x5 : Int32), a - j < nf → (j ≤ a) → (∀ i, 0 ≤ i → i < j → of2 T P o a i = true) → x5.toInt = (j : Int) → ∀ (H : Heap) (locs : List Loc), va_P D vwCl (XW h0 h1 h2 h3 y1 y2 y3 (n) (w) T P M) H → va_S (va_A [] s.heap.size) s.heap H locs → ∀ (ls : Array Slot), lv_has ls 8 [(0, .ref h0), (1, .int x1), (2, .int x2), (3, .int (P (a))), (4, .int (T (o + a))), (5, .int x5)] → W p l e (headSpec wsX1_hasOrderUpTo ({ frames := 0, cells := 0, slots := 0, locals := 0 })).room s m [.ref h0, .int x1, .int x2].toArray below meth c H locs 0 0 (MQ below (va_Qi (fun (r : Int32) (_ : Unit) => r.toInt = bI (of1 T P o a)) (fun _ _ => True) (va_A [] s.heap.size)) [.ref h0, .int x1, .int x2].toArray s 0 0 (va_A [] s.heap.size)) (F0 m 20 ls []) := by
    intro nf
    induction nf with
    | zero => intros; omega
    | succ nf ih20 =>
      intro j x5 hnf hj hz e_x5 H locs hP hS ls hl
      refine lv_iload hx hb dX1_hasOrderUpTo_20 (lv_at hl 5 rfl) ?_
      refine lv_iload_n hx hb dX1_hasOrderUpTo_22 rfl (lv_at hl 2 rfl) ?_
      refine z_icmp_ge (tgt := 106) hx hb dX1_hasOrderUpTo_23 (by decide) e_x5 e_a (fun c23 => ?_) (fun c23 => ?_)
      · have _u := True.intro
        refine lv_iconst (v := 1) hx hb dX1_hasOrderUpTo_106 (by decide) ?_
        refine W.widen (k := 0) (n := 0) (Nat.le_of_ble_eq_true rfl) (Nat.le_of_ble_eq_true rfl) ?_
        have hpost : (1 : Int32).toInt = bI (of1 T P o a) := (by rw [show of1 T P o a = true from allB_t (fun i hi => hz i (Nat.zero_le i) (by omega))]; decide)
        exact W.zret (v := 1) hx hb hr (bnar hpost) (fun t ht hW => ⟨⟨_, (), rfl, hpost, trivial⟩, hS.F ht⟩) hS.2.2 dX1_hasOrderUpTo_107
      · have _u := True.intro
        refine lv_aload_n hx hb dX1_hasOrderUpTo_26 rfl (lv_at hl 0 rfl) ?_
        refine va_get (D := D) (ci := 0) (v := .ref h2) (C := RX1) (T := TX1) (N := 5) hx hb hts hin0 hown hK hP 0 rfl rfl 1 (by decide) hf_pattern (fun _ h9 => h9) rfl dX1_hasOrderUpTo_27 ?_
        refine lv_iload hx hb dX1_hasOrderUpTo_30 (lv_at hl 5 rfl) ?_
        refine z_iald hx hb hK hP 2 1 rfl rfl (j) e_x5 (by omega) (by omega) dX1_hasOrderUpTo_32 ?_
        refine lv_istore (lv' := [(6, .int (P (j))), (0, .ref h0), (1, .int x1), (2, .int x2), (3, .int (P (a))), (4, .int (T (o + a))), (5, .int x5)]) hx hb dX1_hasOrderUpTo_33 hl (by decide) rfl (fun ls hl => ?_)
        refine lv_aload_n hx hb dX1_hasOrderUpTo_35 rfl (lv_at hl 1 rfl) ?_
        refine va_get (D := D) (ci := 0) (v := .ref h1) (C := RX1) (T := TX1) (N := 5) hx hb hts hin0 hown hK hP 0 rfl rfl 0 (by decide) hf_text (fun _ h9 => h9) rfl dX1_hasOrderUpTo_36 ?_
        refine lv_iload_n hx hb dX1_hasOrderUpTo_39 rfl (lv_at hl 2 rfl) ?_
        refine lv_iload hx hb dX1_hasOrderUpTo_40 (lv_at hl 6 rfl) ?_
        refine z_iadd hx hb dX1_hasOrderUpTo_42 e_o e_x5 (by omega) (by omega) (fun v42 e42 => ?_)
        refine z_iald hx hb hK hP 1 0 rfl rfl (o + j) e42 (by omega) (by omega) dX1_hasOrderUpTo_43 ?_
        refine lv_istore (lv' := [(7, .int (T (o + j))), (6, .int (P (j))), (0, .ref h0), (1, .int x1), (2, .int x2), (3, .int (P (a))), (4, .int (T (o + a))), (5, .int x5)]) hx hb dX1_hasOrderUpTo_44 hl (by decide) rfl (fun ls hl => ?_)
        refine lv_iload hx hb dX1_hasOrderUpTo_46 (lv_at hl 1 rfl) ?_
        refine lv_iload_n hx hb dX1_hasOrderUpTo_48 rfl (lv_at hl 5 rfl) ?_
        refine z_icmp_ge (tgt := 56) hx hb dX1_hasOrderUpTo_49 (by decide) rfl rfl (fun c49 => ?_) (fun c49 => ?_)
        · have _u := True.intro
          refine lv_iconst (v := 0) hx hb dX1_hasOrderUpTo_56 (by decide) ?_
          refine lv_iload hx hb dX1_hasOrderUpTo_57 (lv_at hl 0 rfl) ?_
          refine lv_iload hx hb dX1_hasOrderUpTo_59 (lv_at hl 6 rfl) ?_
          refine z_icmp_ge (tgt := 68) hx hb dX1_hasOrderUpTo_61 (by decide) rfl rfl (fun c61 => ?_) (fun c61 => ?_)
          · have _u := True.intro
            refine lv_iconst (v := 0) hx hb dX1_hasOrderUpTo_68 (by decide) ?_
            refine z_icmp_ne (tgt := 98) hx hb dX1_hasOrderUpTo_69 (by decide) (show (0 : Int32).toInt = 0 by decide) (show (0 : Int32).toInt = 0 by decide) (fun c69 => ?_) (fun c69 => ?_)
            · have _u := True.intro
              exfalso; omega
            · have _u := True.intro
              refine lv_iload hx hb dX1_hasOrderUpTo_72 (lv_at hl 1 rfl) ?_
              refine lv_iload_n hx hb dX1_hasOrderUpTo_74 rfl (lv_at hl 5 rfl) ?_
              refine z_icmp_le (tgt := 82) hx hb dX1_hasOrderUpTo_75 (by decide) rfl rfl (fun c75 => ?_) (fun c75 => ?_)
              · have _u := True.intro
                refine lv_iconst (v := 0) hx hb dX1_hasOrderUpTo_82 (by decide) ?_
                refine lv_iload hx hb dX1_hasOrderUpTo_83 (lv_at hl 0 rfl) ?_
                refine lv_iload hx hb dX1_hasOrderUpTo_85 (lv_at hl 6 rfl) ?_
                refine z_icmp_le (tgt := 94) hx hb dX1_hasOrderUpTo_87 (by decide) rfl rfl (fun c87 => ?_) (fun c87 => ?_)
                · have _u := True.intro
                  refine lv_iconst (v := 0) hx hb dX1_hasOrderUpTo_94 (by decide) ?_
                  refine z_icmp_eq (tgt := 100) hx hb dX1_hasOrderUpTo_95 (by decide) (show (0 : Int32).toInt = 0 by decide) (show (0 : Int32).toInt = 0 by decide) (fun c95 => ?_) (fun c95 => ?_)
                  · have _u := True.intro
                    refine z_iinc (k := 7) (lv' := fun v => [(5, .int v), (7, .int (T (o + j))), (6, .int (P (j))), (0, .ref h0), (1, .int x1), (2, .int x2), (3, .int (P (a))), (4, .int (T (o + a)))]) hx hb dX1_hasOrderUpTo_100 hl rfl e_x5 (by decide) (by omega) (by omega) (by decide) (fun _ => rfl) (fun v100 ls e100 hl => ?_)
                    refine lv_goto (tgt := 20) hx hb dX1_hasOrderUpTo_103 (by decide) ?_
                    exact ih20 (j + 1) v100 (by omega) (by omega) (ltS hz (by simp only [of2, Bool.and_eq_true, decide_eq_true_eq]; omega)) (Eq.trans e100 (by omega)) _ _ hP hS _ (lv_sub hl [3, 4, 5, 6, 7, 0] rfl)
                  · have _u := True.intro
                    exfalso; omega
                · have _u := True.intro
                  refine lv_iconst (v := 1) hx hb dX1_hasOrderUpTo_90 (by decide) ?_
                  refine lv_goto (tgt := 95) hx hb dX1_hasOrderUpTo_91 (by decide) ?_
                  refine z_icmp_eq (tgt := 100) hx hb dX1_hasOrderUpTo_95 (by decide) (show (0 : Int32).toInt = 0 by decide) (show (1 : Int32).toInt = 1 by decide) (fun c95 => ?_) (fun c95 => ?_)
                  · have _u := True.intro
                    exfalso; omega
                  · have _u := True.intro
                    refine lv_iconst (v := 0) hx hb dX1_hasOrderUpTo_98 (by decide) ?_
                    refine W.widen (k := 0) (n := 0) (Nat.le_of_ble_eq_true rfl) (Nat.le_of_ble_eq_true rfl) ?_
                    have hpost : (0 : Int32).toInt = bI (of1 T P o a) := (by rw [show of1 T P o a = false from allB_f (j := j) (by omega) (by simp only [of2, Bool.and_eq_false_iff, decide_eq_false_iff_not]; omega)]; decide)
                    exact W.zret (v := 0) hx hb hr (bnar hpost) (fun t ht hW => ⟨⟨_, (), rfl, hpost, trivial⟩, hS.F ht⟩) hS.2.2 dX1_hasOrderUpTo_99
              · have _u := True.intro
                refine lv_iconst (v := 1) hx hb dX1_hasOrderUpTo_78 (by decide) ?_
                refine lv_goto (tgt := 83) hx hb dX1_hasOrderUpTo_79 (by decide) ?_
                refine lv_iload hx hb dX1_hasOrderUpTo_83 (lv_at hl 0 rfl) ?_
                refine lv_iload hx hb dX1_hasOrderUpTo_85 (lv_at hl 6 rfl) ?_
                refine z_icmp_le (tgt := 94) hx hb dX1_hasOrderUpTo_87 (by decide) rfl rfl (fun c87 => ?_) (fun c87 => ?_)
                · have _u := True.intro
                  refine lv_iconst (v := 0) hx hb dX1_hasOrderUpTo_94 (by decide) ?_
                  refine z_icmp_eq (tgt := 100) hx hb dX1_hasOrderUpTo_95 (by decide) (show (1 : Int32).toInt = 1 by decide) (show (0 : Int32).toInt = 0 by decide) (fun c95 => ?_) (fun c95 => ?_)
                  · have _u := True.intro
                    exfalso; omega
                  · have _u := True.intro
                    refine lv_iconst (v := 0) hx hb dX1_hasOrderUpTo_98 (by decide) ?_
                    refine W.widen (k := 0) (n := 0) (Nat.le_of_ble_eq_true rfl) (Nat.le_of_ble_eq_true rfl) ?_
                    have hpost : (0 : Int32).toInt = bI (of1 T P o a) := (by rw [show of1 T P o a = false from allB_f (j := j) (by omega) (by simp only [of2, Bool.and_eq_false_iff, decide_eq_false_iff_not]; omega)]; decide)
                    exact W.zret (v := 0) hx hb hr (bnar hpost) (fun t ht hW => ⟨⟨_, (), rfl, hpost, trivial⟩, hS.F ht⟩) hS.2.2 dX1_hasOrderUpTo_99
                · have _u := True.intro
                  refine lv_iconst (v := 1) hx hb dX1_hasOrderUpTo_90 (by decide) ?_
                  refine lv_goto (tgt := 95) hx hb dX1_hasOrderUpTo_91 (by decide) ?_
                  refine z_icmp_eq (tgt := 100) hx hb dX1_hasOrderUpTo_95 (by decide) (show (1 : Int32).toInt = 1 by decide) (show (1 : Int32).toInt = 1 by decide) (fun c95 => ?_) (fun c95 => ?_)
                  · have _u := True.intro
                    refine z_iinc (k := 7) (lv' := fun v => [(5, .int v), (7, .int (T (o + j))), (6, .int (P (j))), (0, .ref h0), (1, .int x1), (2, .int x2), (3, .int (P (a))), (4, .int (T (o + a)))]) hx hb dX1_hasOrderUpTo_100 hl rfl e_x5 (by decide) (by omega) (by omega) (by decide) (fun _ => rfl) (fun v100 ls e100 hl => ?_)
                    refine lv_goto (tgt := 20) hx hb dX1_hasOrderUpTo_103 (by decide) ?_
                    exact ih20 (j + 1) v100 (by omega) (by omega) (ltS hz (by simp only [of2, Bool.and_eq_true, decide_eq_true_eq]; omega)) (Eq.trans e100 (by omega)) _ _ hP hS _ (lv_sub hl [3, 4, 5, 6, 7, 0] rfl)
                  · have _u := True.intro
                    exfalso; omega
          · have _u := True.intro
            refine lv_iconst (v := 1) hx hb dX1_hasOrderUpTo_64 (by decide) ?_
            refine lv_goto (tgt := 69) hx hb dX1_hasOrderUpTo_65 (by decide) ?_
            refine z_icmp_ne (tgt := 98) hx hb dX1_hasOrderUpTo_69 (by decide) (show (0 : Int32).toInt = 0 by decide) (show (1 : Int32).toInt = 1 by decide) (fun c69 => ?_) (fun c69 => ?_)
            · have _u := True.intro
              refine lv_iconst (v := 0) hx hb dX1_hasOrderUpTo_98 (by decide) ?_
              refine W.widen (k := 0) (n := 0) (Nat.le_of_ble_eq_true rfl) (Nat.le_of_ble_eq_true rfl) ?_
              have hpost : (0 : Int32).toInt = bI (of1 T P o a) := (by rw [show of1 T P o a = false from allB_f (j := j) (by omega) (by simp only [of2, Bool.and_eq_false_iff, decide_eq_false_iff_not]; omega)]; decide)
              exact W.zret (v := 0) hx hb hr (bnar hpost) (fun t ht hW => ⟨⟨_, (), rfl, hpost, trivial⟩, hS.F ht⟩) hS.2.2 dX1_hasOrderUpTo_99
            · have _u := True.intro
              exfalso; omega
        · have _u := True.intro
          refine lv_iconst (v := 1) hx hb dX1_hasOrderUpTo_52 (by decide) ?_
          refine lv_goto (tgt := 57) hx hb dX1_hasOrderUpTo_53 (by decide) ?_
          refine lv_iload hx hb dX1_hasOrderUpTo_57 (lv_at hl 0 rfl) ?_
          refine lv_iload hx hb dX1_hasOrderUpTo_59 (lv_at hl 6 rfl) ?_
          refine z_icmp_ge (tgt := 68) hx hb dX1_hasOrderUpTo_61 (by decide) rfl rfl (fun c61 => ?_) (fun c61 => ?_)
          · have _u := True.intro
            refine lv_iconst (v := 0) hx hb dX1_hasOrderUpTo_68 (by decide) ?_
            refine z_icmp_ne (tgt := 98) hx hb dX1_hasOrderUpTo_69 (by decide) (show (1 : Int32).toInt = 1 by decide) (show (0 : Int32).toInt = 0 by decide) (fun c69 => ?_) (fun c69 => ?_)
            · have _u := True.intro
              refine lv_iconst (v := 0) hx hb dX1_hasOrderUpTo_98 (by decide) ?_
              refine W.widen (k := 0) (n := 0) (Nat.le_of_ble_eq_true rfl) (Nat.le_of_ble_eq_true rfl) ?_
              have hpost : (0 : Int32).toInt = bI (of1 T P o a) := (by rw [show of1 T P o a = false from allB_f (j := j) (by omega) (by simp only [of2, Bool.and_eq_false_iff, decide_eq_false_iff_not]; omega)]; decide)
              exact W.zret (v := 0) hx hb hr (bnar hpost) (fun t ht hW => ⟨⟨_, (), rfl, hpost, trivial⟩, hS.F ht⟩) hS.2.2 dX1_hasOrderUpTo_99
            · have _u := True.intro
              exfalso; omega
          · have _u := True.intro
            refine lv_iconst (v := 1) hx hb dX1_hasOrderUpTo_64 (by decide) ?_
            refine lv_goto (tgt := 69) hx hb dX1_hasOrderUpTo_65 (by decide) ?_
            refine z_icmp_ne (tgt := 98) hx hb dX1_hasOrderUpTo_69 (by decide) (show (1 : Int32).toInt = 1 by decide) (show (1 : Int32).toInt = 1 by decide) (fun c69 => ?_) (fun c69 => ?_)
            · have _u := True.intro
              exfalso; omega
            · have _u := True.intro
              refine lv_iload hx hb dX1_hasOrderUpTo_72 (lv_at hl 1 rfl) ?_
              refine lv_iload_n hx hb dX1_hasOrderUpTo_74 rfl (lv_at hl 5 rfl) ?_
              refine z_icmp_le (tgt := 82) hx hb dX1_hasOrderUpTo_75 (by decide) rfl rfl (fun c75 => ?_) (fun c75 => ?_)
              · have _u := True.intro
                refine lv_iconst (v := 0) hx hb dX1_hasOrderUpTo_82 (by decide) ?_
                refine lv_iload hx hb dX1_hasOrderUpTo_83 (lv_at hl 0 rfl) ?_
                refine lv_iload hx hb dX1_hasOrderUpTo_85 (lv_at hl 6 rfl) ?_
                refine z_icmp_le (tgt := 94) hx hb dX1_hasOrderUpTo_87 (by decide) rfl rfl (fun c87 => ?_) (fun c87 => ?_)
                · have _u := True.intro
                  refine lv_iconst (v := 0) hx hb dX1_hasOrderUpTo_94 (by decide) ?_
                  refine z_icmp_eq (tgt := 100) hx hb dX1_hasOrderUpTo_95 (by decide) (show (0 : Int32).toInt = 0 by decide) (show (0 : Int32).toInt = 0 by decide) (fun c95 => ?_) (fun c95 => ?_)
                  · have _u := True.intro
                    refine z_iinc (k := 7) (lv' := fun v => [(5, .int v), (7, .int (T (o + j))), (6, .int (P (j))), (0, .ref h0), (1, .int x1), (2, .int x2), (3, .int (P (a))), (4, .int (T (o + a)))]) hx hb dX1_hasOrderUpTo_100 hl rfl e_x5 (by decide) (by omega) (by omega) (by decide) (fun _ => rfl) (fun v100 ls e100 hl => ?_)
                    refine lv_goto (tgt := 20) hx hb dX1_hasOrderUpTo_103 (by decide) ?_
                    exact ih20 (j + 1) v100 (by omega) (by omega) (ltS hz (by simp only [of2, Bool.and_eq_true, decide_eq_true_eq]; omega)) (Eq.trans e100 (by omega)) _ _ hP hS _ (lv_sub hl [3, 4, 5, 6, 7, 0] rfl)
                  · have _u := True.intro
                    exfalso; omega
                · have _u := True.intro
                  refine lv_iconst (v := 1) hx hb dX1_hasOrderUpTo_90 (by decide) ?_
                  refine lv_goto (tgt := 95) hx hb dX1_hasOrderUpTo_91 (by decide) ?_
                  refine z_icmp_eq (tgt := 100) hx hb dX1_hasOrderUpTo_95 (by decide) (show (0 : Int32).toInt = 0 by decide) (show (1 : Int32).toInt = 1 by decide) (fun c95 => ?_) (fun c95 => ?_)
                  · have _u := True.intro
                    exfalso; omega
                  · have _u := True.intro
                    refine lv_iconst (v := 0) hx hb dX1_hasOrderUpTo_98 (by decide) ?_
                    refine W.widen (k := 0) (n := 0) (Nat.le_of_ble_eq_true rfl) (Nat.le_of_ble_eq_true rfl) ?_
                    have hpost : (0 : Int32).toInt = bI (of1 T P o a) := (by rw [show of1 T P o a = false from allB_f (j := j) (by omega) (by simp only [of2, Bool.and_eq_false_iff, decide_eq_false_iff_not]; omega)]; decide)
                    exact W.zret (v := 0) hx hb hr (bnar hpost) (fun t ht hW => ⟨⟨_, (), rfl, hpost, trivial⟩, hS.F ht⟩) hS.2.2 dX1_hasOrderUpTo_99
              · have _u := True.intro
                refine lv_iconst (v := 1) hx hb dX1_hasOrderUpTo_78 (by decide) ?_
                refine lv_goto (tgt := 83) hx hb dX1_hasOrderUpTo_79 (by decide) ?_
                refine lv_iload hx hb dX1_hasOrderUpTo_83 (lv_at hl 0 rfl) ?_
                refine lv_iload hx hb dX1_hasOrderUpTo_85 (lv_at hl 6 rfl) ?_
                refine z_icmp_le (tgt := 94) hx hb dX1_hasOrderUpTo_87 (by decide) rfl rfl (fun c87 => ?_) (fun c87 => ?_)
                · have _u := True.intro
                  refine lv_iconst (v := 0) hx hb dX1_hasOrderUpTo_94 (by decide) ?_
                  refine z_icmp_eq (tgt := 100) hx hb dX1_hasOrderUpTo_95 (by decide) (show (1 : Int32).toInt = 1 by decide) (show (0 : Int32).toInt = 0 by decide) (fun c95 => ?_) (fun c95 => ?_)
                  · have _u := True.intro
                    exfalso; omega
                  · have _u := True.intro
                    refine lv_iconst (v := 0) hx hb dX1_hasOrderUpTo_98 (by decide) ?_
                    refine W.widen (k := 0) (n := 0) (Nat.le_of_ble_eq_true rfl) (Nat.le_of_ble_eq_true rfl) ?_
                    have hpost : (0 : Int32).toInt = bI (of1 T P o a) := (by rw [show of1 T P o a = false from allB_f (j := j) (by omega) (by simp only [of2, Bool.and_eq_false_iff, decide_eq_false_iff_not]; omega)]; decide)
                    exact W.zret (v := 0) hx hb hr (bnar hpost) (fun t ht hW => ⟨⟨_, (), rfl, hpost, trivial⟩, hS.F ht⟩) hS.2.2 dX1_hasOrderUpTo_99
                · have _u := True.intro
                  refine lv_iconst (v := 1) hx hb dX1_hasOrderUpTo_90 (by decide) ?_
                  refine lv_goto (tgt := 95) hx hb dX1_hasOrderUpTo_91 (by decide) ?_
                  refine z_icmp_eq (tgt := 100) hx hb dX1_hasOrderUpTo_95 (by decide) (show (1 : Int32).toInt = 1 by decide) (show (1 : Int32).toInt = 1 by decide) (fun c95 => ?_) (fun c95 => ?_)
                  · have _u := True.intro
                    refine z_iinc (k := 7) (lv' := fun v => [(5, .int v), (7, .int (T (o + j))), (6, .int (P (j))), (0, .ref h0), (1, .int x1), (2, .int x2), (3, .int (P (a))), (4, .int (T (o + a)))]) hx hb dX1_hasOrderUpTo_100 hl rfl e_x5 (by decide) (by omega) (by omega) (by decide) (fun _ => rfl) (fun v100 ls e100 hl => ?_)
                    refine lv_goto (tgt := 20) hx hb dX1_hasOrderUpTo_103 (by decide) ?_
                    exact ih20 (j + 1) v100 (by omega) (by omega) (ltS hz (by simp only [of2, Bool.and_eq_true, decide_eq_true_eq]; omega)) (Eq.trans e100 (by omega)) _ _ hP hS _ (lv_sub hl [3, 4, 5, 6, 7, 0] rfl)
                  · have _u := True.intro
                    exfalso; omega
  exact lp20 ((a - 0) + 1) (0) 0 (by omega) (by omega) (fun i h1 h2 => absurd h1 (by omega)) (Eq.trans (show (0 : Int32).toInt = 0 by decide) (by omega)) _ _ hP hS _ (lv_sub hl [3, 4, 5, 2, 1, 0] rfl)

set_option maxHeartbeats 4000000 in
set_option maxRecDepth 100000 in
theorem c_X1_hasOrder (l : Launch) (D : va_G) (E : Nat × Nat × Nat) (h0 h1 h2 h3 : Nat) (y1 y2 y3 : ClassId) (sz n w : Nat) (T P M : Nat → Int32) (hn : n ≤ 64) (hw : w ≤ 24) (hT : SymF T) (hPt : SymF P) (x1 : Int32) (o : Nat) (e_o : x1.toInt = (o : Int)) (ho : o + w ≤ n) : Met l yX1_hasOrder wsX1_hasOrder ({ frames := 1, cells := 0, slots := 0, locals := 27 }) (va_Pc [.ref h0, .int x1] (cp D (XW h0 h1 h2 h3 y1 y2 y3 (n) (w) T P M) (XT y1 y2 y3) E (va_A [] sz) sz)) (va_Qi (fun (r : Int32) (_ : Unit) => r.toInt = bI (lik 2 T P w o)) (fun _ _ => True) (va_A [] sz)) 0 0 (va_A [] sz) := by
  refine Met.ofW (cc := cX1_hasOrder) (maxL := 3) (ret := (some .boolean)) (by decide) rfl ?_
  intro p e s m args below meth c s₁ B hml hv
  obtain ⟨rfl, hsz, hP, hK, hE⟩ := hv
  have hx := B.exec
  have hb := B.bytes
  have hr := B.returns
  have hts := atoms_spec (ws := wsX1_hasOrder) B.pre
  have hown : s.vm.findClass RX1 = some m.cls := findClass_of_methodNamed B.named
  have hlocks := B.notSynchronized
  have hsz : s.heap.size = sz := hsz
  subst hsz
  have hA : ∀ q : Nat, s.heap.size ≤ q → (va_A [] s.heap.size) q := fun q h => Or.inr h
  have hS : va_S (va_A [] s.heap.size) s.heap s.heap [] := va_S.rf
  have inn : (nI n).toInt = (n : Int) := nI_toInt (by omega)
  have iww : (nI w).toInt = (w : Int) := nI_toInt (by omega)
  have hf_patternSize := hts (.fieldLink RX1 23 "BlankMatcher" "patternSize" "I") (by decide +kernel)
  have hpl : pl n w = n + 1 - w := rfl
  have hin0 : ∀ w ∈ wsX10, w ∈ wsX1_hasOrder := by decide +kernel
  have g_x1 := rg x1
  have hl := lv_entry ([.ref h0, .int x1]) (n := 3) (Nat.le_of_ble_eq_true rfl)
  rw [lg_entry_eq]
  generalize (lg_sl ([.ref h0, .int x1]) ++ List.replicate (3 - (lg_sl ([.ref h0, .int x1])).length) Slot.unset).toArray = ls at hl ⊢
  have hl : lv_has ls 3 [(0, .ref h0), (1, .int x1)] := hl
  refine lv_iconst (v := 1) hx hb dX1_hasOrder_0 (by decide) ?_
  refine lv_istore_n (lv' := [(2, .int 1), (0, .ref h0), (1, .int x1)]) hx hb dX1_hasOrder_1 rfl hl (by decide) rfl (fun ls hl => ?_)
  have lp2 : ∀ (nf : Nat) (j : Nat) (x2 : Int32), w - j < nf → (1 ≤ j) → (∀ i, 0 ≤ i → i < j → of1 T P o i = true) → x2.toInt = (j : Int) → ∀ (H : Heap) (locs : List Loc), va_P D vwCl (XW h0 h1 h2 h3 y1 y2 y3 (n) (w) T P M) H → va_S (va_A [] s.heap.size) s.heap H locs → ∀ (ls : Array Slot), lv_has ls 3 [(0, .ref h0), (1, .int x1), (2, .int x2)] → W p l e (headSpec wsX1_hasOrder ({ frames := 1, cells := 0, slots := 0, locals := 27 })).room s m [.ref h0, .int x1].toArray below meth c H locs 0 0 (MQ below (va_Qi (fun (r : Int32) (_ : Unit) => r.toInt = bI (lik 2 T P w o)) (fun _ _ => True) (va_A [] s.heap.size)) [.ref h0, .int x1].toArray s 0 0 (va_A [] s.heap.size)) (F0 m 2 ls []) := by
    intro nf
    induction nf with
    | zero => intros; omega
    | succ nf ih2 =>
      intro j x2 hnf hj hz e_x2 H locs hP hS ls hl
      refine lv_iload_n hx hb dX1_hasOrder_2 rfl (lv_at hl 2 rfl) ?_
      refine lv_aload_n hx hb dX1_hasOrder_3 rfl (lv_at hl 0 rfl) ?_
      refine va_get (D := D) (ci := 0) (v := .int (nI w)) (C := RX1) (T := TX1) (N := 5) hx hb hts hin0 hown hK hP 0 rfl rfl 4 (by decide) hf_patternSize (fun _ h9 => h9) rfl dX1_hasOrder_4 ?_
      refine z_icmp_ge (tgt := 27) hx hb dX1_hasOrder_7 (by decide) e_x2 iww (fun c7 => ?_) (fun c7 => ?_)
      · have _u := True.intro
        refine lv_iconst (v := 1) hx hb dX1_hasOrder_27 (by decide) ?_
        refine W.widen (k := 0) (n := 0) (Nat.le_of_ble_eq_true rfl) (Nat.le_of_ble_eq_true rfl) ?_
        have hpost : (1 : Int32).toInt = bI (lik 2 T P w o) := (by rw [lik2_t (fun i hi => hz i (Nat.zero_le i) (by omega))]; decide)
        exact W.zret (v := 1) hx hb hr (bnar hpost) (fun t ht hW => ⟨⟨_, (), rfl, hpost, trivial⟩, hS.F ht⟩) hS.2.2 dX1_hasOrder_28
      · have _u := True.intro
        refine lv_aload_n hx hb dX1_hasOrder_10 rfl (lv_at hl 0 rfl) ?_
        refine lv_iload_n hx hb dX1_hasOrder_11 rfl (lv_at hl 1 rfl) ?_
        refine lv_iload_n hx hb dX1_hasOrder_12 rfl (lv_at hl 2 rfl) ?_
        refine va_calli (va_runV (As := [.int x1, .int x2]) (rest := []) ⟨hx, hb, hml, hown, hts⟩ (c_X1_hasOrderUpTo l D E h0 h1 h2 h3 y1 y2 y3 H.size (n) (w) T P M hn hw hT hPt x1 x2 (o) (Eq.trans e_o (by omega)) (j) (Eq.trans e_x2 (by omega)) (by omega) (by omega)) (cwV 2 hts gX1_hasOrder_X1_hasOrderUpTo rfl rfl rfl (by decide +kernel) ⟨Nat.le_of_ble_eq_true rfl, Nat.le_of_ble_eq_true rfl⟩) ⟨cp.blind, va_recv hK hP (ci := 0) (q0 := 0) rfl rfl, fun U hU hW => ⟨rfl, cp.call hP hK hE hS (fr0 hS hA) hU hW⟩⟩ rfl rfl hl.1 rfl (lv_room (Nat.le_of_ble_eq_true rfl)) dX1_hasOrder_13 ⟨Nat.le_of_ble_eq_true rfl, Nat.le_of_ble_eq_true rfl⟩) hS (fun q _ h => (fr0 hS hA) q h) (fr0 hS hA) (fun v13 u t H1 locs1 ht hvm e13 hB hz1 hk1 hS => ?_)
        have hP := kp hP hk1
        generalize H1 = H at hP hS ⊢
        generalize locs1 = locs at hS ⊢
        refine zb_if_ne (tgt := 21) hx hb dX1_hasOrder_16 (by decide) e13 (fun c16 => ?_) (fun c16 => ?_)
        · have _u := True.intro
          refine z_iinc (k := 2) (lv' := fun v => [(2, .int v), (0, .ref h0), (1, .int x1)]) hx hb dX1_hasOrder_21 hl rfl e_x2 (by decide) (by omega) (by omega) (by decide) (fun _ => rfl) (fun v21 ls e21 hl => ?_)
          refine lv_goto (tgt := 2) hx hb dX1_hasOrder_24 (by decide) ?_
          exact ih2 (j + 1) v21 (by omega) (by omega) (ltS hz c16) (Eq.trans e21 (by omega)) _ _ hP hS _ (lv_sub hl [1, 2, 0] rfl)
        · have _u := True.intro
          refine lv_iconst (v := 0) hx hb dX1_hasOrder_19 (by decide) ?_
          refine W.widen (k := 0) (n := 0) (Nat.le_of_ble_eq_true rfl) (Nat.le_of_ble_eq_true rfl) ?_
          have hpost : (0 : Int32).toInt = bI (lik 2 T P w o) := (by rw [lik2_f (j := j) (by omega) c16]; decide)
          exact W.zret (v := 0) hx hb hr (bnar hpost) (fun t ht hW => ⟨⟨_, (), rfl, hpost, trivial⟩, hS.F ht⟩) hS.2.2 dX1_hasOrder_20
  exact lp2 ((w - 1) + 1) (1) 1 (by omega) (by omega) (fun i _ h => by have q : i = 0 := (by omega); rw [q]; rfl) (Eq.trans (show (1 : Int32).toInt = 1 by decide) (by omega)) _ _ hP hS _ (lv_sub hl [1, 2, 0] rfl)

set_option maxHeartbeats 4000000 in
set_option maxRecDepth 100000 in
theorem c_X1_isLike (l : Launch) (D : va_G) (E : Nat × Nat × Nat) (h0 h1 h2 h3 : Nat) (y1 y2 y3 : ClassId) (sz n w : Nat) (T P M : Nat → Int32) (hn : n ≤ 64) (hw : w ≤ 24) (hT : SymF T) (hPt : SymF P) (q1 : Nat) (x2 : Int32) (kd : Nat) (o : Nat) (e_o : x2.toInt = (o : Int)) (ho : o + w ≤ n) (hq : (kd = 0 ∧ q1 = E.1) ∨ (kd = 1 ∧ q1 = E.2.1) ∨ (kd = 2 ∧ q1 = E.2.2)) (hEd : E.1 ≠ E.2.1 ∧ E.1 ≠ E.2.2 ∧ E.2.1 ≠ E.2.2) : Met l yX1_isLike wsX1_isLike ({ frames := 3, cells := 0, slots := 0, locals := 65 }) (va_Pc [.ref h0, .ref q1, .int x2] (cp D (XW h0 h1 h2 h3 y1 y2 y3 (n) (w) T P M) (XT y1 y2 y3) E (va_A [] sz) sz)) (va_Qi (fun (r : Int32) (_ : Unit) => r.toInt = bI (lik kd T P w o)) (fun _ _ => True) (va_A [] sz)) 0 0 (va_A [] sz) := by
  refine Met.ofW (cc := cX1_isLike) (maxL := 3) (ret := (some .boolean)) (by decide) rfl ?_
  intro p e s m args below meth c s₁ B hml hv
  obtain ⟨rfl, hsz, hP, hK, hE⟩ := hv
  have hx := B.exec
  have hb := B.bytes
  have hr := B.returns
  have hts := atoms_spec (ws := wsX1_isLike) B.pre
  have hown : s.vm.findClass RX1 = some m.cls := findClass_of_methodNamed B.named
  have hlocks := B.notSynchronized
  have hsz : s.heap.size = sz := hsz
  subst hsz
  have hA : ∀ q : Nat, s.heap.size ≤ q → (va_A [] s.heap.size) q := fun q h => Or.inr h
  have hS : va_S (va_A [] s.heap.size) s.heap s.heap [] := va_S.rf
  have inn : (nI n).toInt = (n : Int) := nI_toInt (by omega)
  have iww : (nI w).toInt = (w : Int) := nI_toInt (by omega)
  have hpl : pl n w = n + 1 - w := rfl
  have g_x2 := rg x2
  have hl := lv_entry ([.ref h0, .ref q1, .int x2]) (n := 3) (Nat.le_of_ble_eq_true rfl)
  rw [lg_entry_eq]
  generalize (lg_sl ([.ref h0, .ref q1, .int x2]) ++ List.replicate (3 - (lg_sl ([.ref h0, .ref q1, .int x2])).length) Slot.unset).toArray = ls at hl ⊢
  have hl : lv_has ls 3 [(0, .ref h0), (1, .ref q1), (2, .int x2)] := hl
  refine lv_aload_n hx hb dX1_isLike_0 rfl (lv_at hl 1 rfl) ?_
  refine va_gets hx hb hE.2.2.2.2.1 hS hown (hts (.fieldLink RX1 134 "BlankMatcher$Likeness" "SUM" "LBlankMatcher$Likeness;") (by decide +kernel)) (fun _ h9 => h9) dX1_isLike_1 ?_
  refine lv_acmp_ne (rx := some q1) (ry := some E.2.1) (tgt := 13) hx hb dX1_isLike_4 (by decide) (fun c4 => ?_) (fun c4 => ?_)
  · have _u := True.intro
    refine lv_aload_n hx hb dX1_isLike_13 rfl (lv_at hl 1 rfl) ?_
    refine va_gets hx hb hE.2.2.2.2.2 hS hown (hts (.fieldLink RX1 137 "BlankMatcher$Likeness" "ORDER" "LBlankMatcher$Likeness;") (by decide +kernel)) (fun _ h9 => h9) dX1_isLike_14 ?_
    refine lv_acmp_ne (rx := some q1) (ry := some E.2.2) (tgt := 26) hx hb dX1_isLike_17 (by decide) (fun c17 => ?_) (fun c17 => ?_)
    · have _u := True.intro
      have hk := lk0 hq c4 c17
      refine lv_aload_n hx hb dX1_isLike_26 rfl (lv_at hl 0 rfl) ?_
      refine lv_iload_n hx hb dX1_isLike_27 rfl (lv_at hl 2 rfl) ?_
      refine va_calli (va_runV (As := [.int x2]) (rest := []) ⟨hx, hb, hml, hown, hts⟩ (c_X1_hasSymbols l D E h0 h1 h2 h3 y1 y2 y3 s.heap.size (n) (w) T P M hn hw hT hPt x2 (o) (Eq.trans e_o (by omega)) (by omega)) (cwV 1 hts gX1_isLike_X1_hasSymbols rfl rfl rfl (by decide +kernel) ⟨Nat.le_of_ble_eq_true rfl, Nat.le_of_ble_eq_true rfl⟩) ⟨cp.blind, va_recv hK hP (ci := 0) (q0 := 0) rfl rfl, fun U hU hW => ⟨rfl, cp.call hP hK hE hS (fr0 hS hA) hU hW⟩⟩ rfl rfl hl.1 rfl (lv_room (Nat.le_of_ble_eq_true rfl)) dX1_isLike_28 ⟨Nat.le_of_ble_eq_true rfl, Nat.le_of_ble_eq_true rfl⟩) hS (fun q _ h => (fr0 hS hA) q h) (fr0 hS hA) (fun v28 u t H1 locs1 ht hvm e28 hB hz1 hk1 hS => ?_)
      have hP := kp hP hk1
      generalize H1 = H at hP hS ⊢
      generalize locs1 = locs at hS ⊢
      refine W.widen (k := 0) (n := 0) (Nat.le_of_ble_eq_true rfl) (Nat.le_of_ble_eq_true rfl) ?_
      have hpost : v28.toInt = bI (lik kd T P w o) := (Eq.trans e28 (by rw [hk]))
      exact W.zret (v := v28) hx hb hr (bnar hpost) (fun t ht hW => ⟨⟨_, (), rfl, hpost, trivial⟩, hS.F ht⟩) hS.2.2 dX1_isLike_31
    · have _u := True.intro
      have hk := lk2 hq hEd (Option.some.inj c17)
      refine lv_aload_n hx hb dX1_isLike_20 rfl (lv_at hl 0 rfl) ?_
      refine lv_iload_n hx hb dX1_isLike_21 rfl (lv_at hl 2 rfl) ?_
      refine va_calli (va_runV (As := [.int x2]) (rest := []) ⟨hx, hb, hml, hown, hts⟩ (c_X1_hasOrder l D E h0 h1 h2 h3 y1 y2 y3 s.heap.size (n) (w) T P M hn hw hT hPt x2 (o) (Eq.trans e_o (by omega)) (by omega)) (cwV 1 hts gX1_isLike_X1_hasOrder rfl rfl rfl (by decide +kernel) ⟨Nat.le_of_ble_eq_true rfl, Nat.le_of_ble_eq_true rfl⟩) ⟨cp.blind, va_recv hK hP (ci := 0) (q0 := 0) rfl rfl, fun U hU hW => ⟨rfl, cp.call hP hK hE hS (fr0 hS hA) hU hW⟩⟩ rfl rfl hl.1 rfl (lv_room (Nat.le_of_ble_eq_true rfl)) dX1_isLike_22 ⟨Nat.le_of_ble_eq_true rfl, Nat.le_of_ble_eq_true rfl⟩) hS (fun q _ h => (fr0 hS hA) q h) (fr0 hS hA) (fun v22 u t H1 locs1 ht hvm e22 hB hz1 hk1 hS => ?_)
      have hP := kp hP hk1
      generalize H1 = H at hP hS ⊢
      generalize locs1 = locs at hS ⊢
      refine W.widen (k := 0) (n := 0) (Nat.le_of_ble_eq_true rfl) (Nat.le_of_ble_eq_true rfl) ?_
      have hpost : v22.toInt = bI (lik kd T P w o) := (Eq.trans e22 (by rw [hk]))
      exact W.zret (v := v22) hx hb hr (bnar hpost) (fun t ht hW => ⟨⟨_, (), rfl, hpost, trivial⟩, hS.F ht⟩) hS.2.2 dX1_isLike_25
  · have _u := True.intro
    have hk := lk1 hq hEd (Option.some.inj c4)
    refine lv_aload_n hx hb dX1_isLike_7 rfl (lv_at hl 0 rfl) ?_
    refine lv_iload_n hx hb dX1_isLike_8 rfl (lv_at hl 2 rfl) ?_
    refine va_calli (va_runV (As := [.int x2]) (rest := []) ⟨hx, hb, hml, hown, hts⟩ (c_X1_hasSum l D E h0 h1 h2 h3 y1 y2 y3 s.heap.size (n) (w) T P M hn hw hT hPt x2 (o) (Eq.trans e_o (by omega)) (by omega)) (cwV 1 hts gX1_isLike_X1_hasSum rfl rfl rfl (by decide +kernel) ⟨Nat.le_of_ble_eq_true rfl, Nat.le_of_ble_eq_true rfl⟩) ⟨cp.blind, va_recv hK hP (ci := 0) (q0 := 0) rfl rfl, fun U hU hW => ⟨rfl, cp.call hP hK hE hS (fr0 hS hA) hU hW⟩⟩ rfl rfl hl.1 rfl (lv_room (Nat.le_of_ble_eq_true rfl)) dX1_isLike_9 ⟨Nat.le_of_ble_eq_true rfl, Nat.le_of_ble_eq_true rfl⟩) hS (fun q _ h => (fr0 hS hA) q h) (fr0 hS hA) (fun v9 u t H1 locs1 ht hvm e9 hB hz1 hk1 hS => ?_)
    have hP := kp hP hk1
    generalize H1 = H at hP hS ⊢
    generalize locs1 = locs at hS ⊢
    refine W.widen (k := 0) (n := 0) (Nat.le_of_ble_eq_true rfl) (Nat.le_of_ble_eq_true rfl) ?_
    have hpost : v9.toInt = bI (lik kd T P w o) := (Eq.trans e9 (by rw [hk]))
    exact W.zret (v := v9) hx hb hr (bnar hpost) (fun t ht hW => ⟨⟨_, (), rfl, hpost, trivial⟩, hS.F ht⟩) hS.2.2 dX1_isLike_12

set_option maxHeartbeats 4000000 in
set_option maxRecDepth 100000 in
theorem c_X1_countLike (l : Launch) (D : va_G) (E : Nat × Nat × Nat) (h0 h1 h2 h3 : Nat) (y1 y2 y3 : ClassId) (sz n w : Nat) (T P M : Nat → Int32) (hn : n ≤ 64) (hw : w ≤ 24) (hT : SymF T) (hPt : SymF P) (q1 : Nat) (kd : Nat) (hq : (kd = 0 ∧ q1 = E.1) ∨ (kd = 1 ∧ q1 = E.2.1) ∨ (kd = 2 ∧ q1 = E.2.2)) (hEd : E.1 ≠ E.2.1 ∧ E.1 ≠ E.2.2 ∧ E.2.1 ≠ E.2.2) : Met l yX1_countLike wsX1_countLike ({ frames := 4, cells := 0, slots := 0, locals := 87 }) (va_Pc [.ref h0, .ref q1] (cp D (XW h0 h1 h2 h3 y1 y2 y3 (n) (w) T P M) (XT y1 y2 y3) E (va_A [] sz) sz)) (va_Qi (fun (r : Int32) (_ : Unit) => r.toInt = ((cnt (lik kd T P w) (pl n w) : Nat) : Int)) (fun _ _ => True) (va_A [] sz)) 0 0 (va_A [] sz) := by
  refine Met.ofW (cc := cX1_countLike) (maxL := 5) (ret := (some .int)) (by decide) rfl ?_
  intro p e s m args below meth c s₁ B hml hv
  obtain ⟨rfl, hsz, hP, hK, hE⟩ := hv
  have hx := B.exec
  have hb := B.bytes
  have hr := B.returns
  have hts := atoms_spec (ws := wsX1_countLike) B.pre
  have hown : s.vm.findClass RX1 = some m.cls := findClass_of_methodNamed B.named
  have hlocks := B.notSynchronized
  have hsz : s.heap.size = sz := hsz
  subst hsz
  have hA : ∀ q : Nat, s.heap.size ≤ q → (va_A [] s.heap.size) q := fun q h => Or.inr h
  have hS : va_S (va_A [] s.heap.size) s.heap s.heap [] := va_S.rf
  have inn : (nI n).toInt = (n : Int) := nI_toInt (by omega)
  have iww : (nI w).toInt = (w : Int) := nI_toInt (by omega)
  have hpl : pl n w = n + 1 - w := rfl
  have hl := lv_entry ([.ref h0, .ref q1]) (n := 5) (Nat.le_of_ble_eq_true rfl)
  rw [lg_entry_eq]
  generalize (lg_sl ([.ref h0, .ref q1]) ++ List.replicate (5 - (lg_sl ([.ref h0, .ref q1])).length) Slot.unset).toArray = ls at hl ⊢
  have hl : lv_has ls 5 [(0, .ref h0), (1, .ref q1)] := hl
  refine lv_aload_n hx hb dX1_countLike_0 rfl (lv_at hl 0 rfl) ?_
  refine va_calli (va_runV (As := []) (rest := []) ⟨hx, hb, hml, hown, hts⟩ (c_X1_places l D E h0 h1 h2 h3 y1 y2 y3 s.heap.size (n) (w) T P M hn hw hT hPt) (cwV 0 hts gX1_countLike_X1_places rfl rfl rfl (by decide +kernel) ⟨Nat.le_of_ble_eq_true rfl, Nat.le_of_ble_eq_true rfl⟩) ⟨cp.blind, va_recv hK hP (ci := 0) (q0 := 0) rfl rfl, fun U hU hW => ⟨rfl, cp.call hP hK hE hS (fr0 hS hA) hU hW⟩⟩ rfl rfl hl.1 rfl (lv_room (Nat.le_of_ble_eq_true rfl)) dX1_countLike_1 ⟨Nat.le_of_ble_eq_true rfl, Nat.le_of_ble_eq_true rfl⟩) hS (fun q _ h => (fr0 hS hA) q h) (fr0 hS hA) (fun v1 u t H1 locs1 ht hvm e1 hB hz1 hk1 hS => ?_)
  have hP := kp hP hk1
  generalize H1 = H at hP hS ⊢
  generalize locs1 = locs at hS ⊢
  refine lv_istore_n (lv' := [(2, .int v1), (0, .ref h0), (1, .ref q1)]) hx hb dX1_countLike_4 rfl hl (by decide) rfl (fun ls hl => ?_)
  refine lv_iconst (v := 0) hx hb dX1_countLike_5 (by decide) ?_
  refine lv_istore_n (lv' := [(3, .int 0), (2, .int v1), (0, .ref h0), (1, .ref q1)]) hx hb dX1_countLike_6 rfl hl (by decide) rfl (fun ls hl => ?_)
  refine lv_iconst (v := 0) hx hb dX1_countLike_7 (by decide) ?_
  refine lv_istore (lv' := [(4, .int 0), (3, .int 0), (2, .int v1), (0, .ref h0), (1, .ref q1)]) hx hb dX1_countLike_8 hl (by decide) rfl (fun ls hl => ?_)
  have lp10 : ∀ (nf : Nat) (j : Nat) (x3 : Int32) (x4 : Int32), pl n w - j < nf → (j ≤ pl n w) → x3.toInt = ((cnt (lik kd T P w) j : Nat) : Int) → x4.toInt = (j : Int) → ∀ (H : Heap) (locs : List Loc), va_P D vwCl (XW h0 h1 h2 h3 y1 y2 y3 (n) (w) T P M) H → va_S (va_A [] s.heap.size) s.heap H locs → ∀ (ls : Array Slot), lv_has ls 5 [(0, .ref h0), (1, .ref q1), (2, .int v1), (3, .int x3), (4, .int x4)] → W p l e (headSpec wsX1_countLike ({ frames := 4, cells := 0, slots := 0, locals := 87 })).room s m [.ref h0, .ref q1].toArray below meth c H locs 0 0 (MQ below (va_Qi (fun (r : Int32) (_ : Unit) => r.toInt = ((cnt (lik kd T P w) (pl n w) : Nat) : Int)) (fun _ _ => True) (va_A [] s.heap.size)) [.ref h0, .ref q1].toArray s 0 0 (va_A [] s.heap.size)) (F0 m 10 ls []) := by
    intro nf
    induction nf with
    | zero => intros; omega
    | succ nf ih10 =>
      intro j x3 x4 hnf hj e_x3 e_x4 H locs hP hS ls hl
      have hcl := cnt_le (lik kd T P w) j
      refine lv_iload hx hb dX1_countLike_10 (lv_at hl 4 rfl) ?_
      refine lv_iload_n hx hb dX1_countLike_12 rfl (lv_at hl 2 rfl) ?_
      refine z_icmp_ge (tgt := 35) hx hb dX1_countLike_13 (by decide) e_x4 e1 (fun c13 => ?_) (fun c13 => ?_)
      · have _u := True.intro
        refine lv_iload_n hx hb dX1_countLike_35 rfl (lv_at hl 3 rfl) ?_
        refine W.widen (k := 0) (n := 0) (Nat.le_of_ble_eq_true rfl) (Nat.le_of_ble_eq_true rfl) ?_
        exact W.iret (v := x3) hx hb hr (fun t ht hW => ⟨⟨_, (), rfl, (Eq.trans e_x3 (by have q : j = pl n w := (by omega); rw [q])), trivial⟩, hS.F ht⟩) hS.2.2 dX1_countLike_36
      · have _u := True.intro
        refine lv_aload_n hx hb dX1_countLike_16 rfl (lv_at hl 0 rfl) ?_
        refine lv_aload_n hx hb dX1_countLike_17 rfl (lv_at hl 1 rfl) ?_
        refine lv_iload hx hb dX1_countLike_18 (lv_at hl 4 rfl) ?_
        refine va_calli (va_runV (As := [.ref q1, .int x4]) (rest := []) ⟨hx, hb, hml, hown, hts⟩ (c_X1_isLike l D E h0 h1 h2 h3 y1 y2 y3 H.size (n) (w) T P M hn hw hT hPt q1 x4 (kd) (j) (Eq.trans e_x4 (by omega)) (by omega) (hq) (hEd)) (cwV 2 hts gX1_countLike_X1_isLike rfl rfl rfl (by decide +kernel) ⟨Nat.le_of_ble_eq_true rfl, Nat.le_of_ble_eq_true rfl⟩) ⟨cp.blind, va_recv hK hP (ci := 0) (q0 := 0) rfl rfl, fun U hU hW => ⟨rfl, cp.call hP hK hE hS (fr0 hS hA) hU hW⟩⟩ rfl rfl hl.1 rfl (lv_room (Nat.le_of_ble_eq_true rfl)) dX1_countLike_20 ⟨Nat.le_of_ble_eq_true rfl, Nat.le_of_ble_eq_true rfl⟩) hS (fun q _ h => (fr0 hS hA) q h) (fr0 hS hA) (fun v20 u t H1 locs1 ht hvm e20 hB hz1 hk1 hS => ?_)
        have hP := kp hP hk1
        generalize H1 = H at hP hS ⊢
        generalize locs1 = locs at hS ⊢
        refine zb_if_eq (tgt := 29) hx hb dX1_countLike_23 (by decide) e20 (fun c23 => ?_) (fun c23 => ?_)
        · have _u := True.intro
          have q := cnt_f (f := lik kd T P w) (k := j) c23
          refine z_iinc (k := 4) (lv' := fun v => [(4, .int v), (0, .ref h0), (1, .ref q1), (2, .int v1), (3, .int x3)]) hx hb dX1_countLike_29 hl rfl e_x4 (by decide) (by omega) (by omega) (by decide) (fun _ => rfl) (fun v29 ls e29 hl => ?_)
          refine lv_goto (tgt := 10) hx hb dX1_countLike_32 (by decide) ?_
          exact ih10 (j + 1) x3 v29 (by omega) (by omega) (Eq.trans e_x3 (by omega)) (Eq.trans e29 (by omega)) _ _ hP hS _ (lv_sub hl [1, 2, 3, 4, 0] rfl)
        · have _u := True.intro
          have q := cnt_t (f := lik kd T P w) (k := j) c23
          refine z_iinc (k := 3) (lv' := fun v => [(3, .int v), (0, .ref h0), (1, .ref q1), (2, .int v1), (4, .int x4)]) hx hb dX1_countLike_26 hl rfl e_x3 (by decide) (by omega) (by omega) (by decide) (fun _ => rfl) (fun v26 ls e26 hl => ?_)
          refine z_iinc (k := 4) (lv' := fun v => [(4, .int v), (3, .int v26), (0, .ref h0), (1, .ref q1), (2, .int v1)]) hx hb dX1_countLike_29 hl rfl e_x4 (by decide) (by omega) (by omega) (by decide) (fun _ => rfl) (fun v29 ls e29 hl => ?_)
          refine lv_goto (tgt := 10) hx hb dX1_countLike_32 (by decide) ?_
          exact ih10 (j + 1) v26 v29 (by omega) (by omega) (Eq.trans e26 (by omega)) (Eq.trans e29 (by omega)) _ _ hP hS _ (lv_sub hl [2, 3, 4, 1, 0] rfl)
  have hc0 := cnt_0 (lik kd T P w)
  exact lp10 ((pl n w - 0) + 1) (0) 0 0 (by omega) (by omega) (Eq.trans (show (0 : Int32).toInt = 0 by decide) (by omega)) (Eq.trans (show (0 : Int32).toInt = 0 by decide) (by omega)) _ _ hP hS _ (lv_sub hl [3, 4, 2, 1, 0] rfl)

set_option maxHeartbeats 4000000 in
set_option maxRecDepth 100000 in
theorem c_X1_findLike (l : Launch) (D : va_G) (E : Nat × Nat × Nat) (h0 h1 h2 h3 : Nat) (y1 y2 y3 : ClassId) (sz n w : Nat) (T P M : Nat → Int32) (hn : n ≤ 64) (hw : w ≤ 24) (hT : SymF T) (hPt : SymF P) (q1 : Nat) (x2 : Int32) (kd : Nat) (hq : (kd = 0 ∧ q1 = E.1) ∨ (kd = 1 ∧ q1 = E.2.1) ∨ (kd = 2 ∧ q1 = E.2.2)) (hEd : E.1 ≠ E.2.1 ∧ E.1 ≠ E.2.2 ∧ E.2.1 ≠ E.2.2) : Met l yX1_findLike wsX1_findLike ({ frames := 4, cells := 0, slots := 0, locals := 87 }) (va_Pc [.ref h0, .ref q1, .int x2] (cp D (XW h0 h1 h2 h3 y1 y2 y3 (n) (w) T P M) (XT y1 y2 y3) E (va_A [] sz) sz)) (va_Qi (fun (r : Int32) (_ : Unit) => r.toInt = fnd kd T P w n x2.toInt) (fun _ _ => True) (va_A [] sz)) 0 0 (va_A [] sz) := by
  refine Met.ofW (cc := cX1_findLike) (maxL := 6) (ret := (some .int)) (by decide) rfl ?_
  intro p e s m args below meth c s₁ B hml hv
  obtain ⟨rfl, hsz, hP, hK, hE⟩ := hv
  have hx := B.exec
  have hb := B.bytes
  have hr := B.returns
  have hts := atoms_spec (ws := wsX1_findLike) B.pre
  have hown : s.vm.findClass RX1 = some m.cls := findClass_of_methodNamed B.named
  have hlocks := B.notSynchronized
  have hsz : s.heap.size = sz := hsz
  subst hsz
  have hA : ∀ q : Nat, s.heap.size ≤ q → (va_A [] s.heap.size) q := fun q h => Or.inr h
  have hS : va_S (va_A [] s.heap.size) s.heap s.heap [] := va_S.rf
  have inn : (nI n).toInt = (n : Int) := nI_toInt (by omega)
  have iww : (nI w).toInt = (w : Int) := nI_toInt (by omega)
  have hpl : pl n w = n + 1 - w := rfl
  have g_x2 := rg x2
  have hl := lv_entry ([.ref h0, .ref q1, .int x2]) (n := 6) (Nat.le_of_ble_eq_true rfl)
  rw [lg_entry_eq]
  generalize (lg_sl ([.ref h0, .ref q1, .int x2]) ++ List.replicate (6 - (lg_sl ([.ref h0, .ref q1, .int x2])).length) Slot.unset).toArray = ls at hl ⊢
  have hl : lv_has ls 6 [(0, .ref h0), (1, .ref q1), (2, .int x2)] := hl
  refine lv_aload_n hx hb dX1_findLike_0 rfl (lv_at hl 0 rfl) ?_
  refine va_calli (va_runV (As := []) (rest := []) ⟨hx, hb, hml, hown, hts⟩ (c_X1_places l D E h0 h1 h2 h3 y1 y2 y3 s.heap.size (n) (w) T P M hn hw hT hPt) (cwV 0 hts gX1_findLike_X1_places rfl rfl rfl (by decide +kernel) ⟨Nat.le_of_ble_eq_true rfl, Nat.le_of_ble_eq_true rfl⟩) ⟨cp.blind, va_recv hK hP (ci := 0) (q0 := 0) rfl rfl, fun U hU hW => ⟨rfl, cp.call hP hK hE hS (fr0 hS hA) hU hW⟩⟩ rfl rfl hl.1 rfl (lv_room (Nat.le_of_ble_eq_true rfl)) dX1_findLike_1 ⟨Nat.le_of_ble_eq_true rfl, Nat.le_of_ble_eq_true rfl⟩) hS (fun q _ h => (fr0 hS hA) q h) (fr0 hS hA) (fun v1 u t H1 locs1 ht hvm e1 hB hz1 hk1 hS => ?_)
  have hP := kp hP hk1
  generalize H1 = H at hP hS ⊢
  generalize locs1 = locs at hS ⊢
  refine lv_istore_n (lv' := [(3, .int v1), (0, .ref h0), (1, .ref q1), (2, .int x2)]) hx hb dX1_findLike_4 rfl hl (by decide) rfl (fun ls hl => ?_)
  refine lv_iconst (v := 0) hx hb dX1_findLike_5 (by decide) ?_
  refine lv_istore (lv' := [(4, .int 0), (3, .int v1), (0, .ref h0), (1, .ref q1), (2, .int x2)]) hx hb dX1_findLike_6 hl (by decide) rfl (fun ls hl => ?_)
  refine lv_iconst (v := 0) hx hb dX1_findLike_8 (by decide) ?_
  refine lv_istore (lv' := [(5, .int 0), (4, .int 0), (3, .int v1), (0, .ref h0), (1, .ref q1), (2, .int x2)]) hx hb dX1_findLike_9 hl (by decide) rfl (fun ls hl => ?_)
  have lp11 : ∀ (nf : Nat) (j : Nat) (x4 : Int32) (x5 : Int32), pl n w - j < nf → (j ≤ pl n w) → (∀ i, 0 ≤ i → i < j → (lik kd T P w i && decide ((cnt (lik kd T P w) i : Int) = x2.toInt)) = false) → x4.toInt = ((cnt (lik kd T P w) j : Nat) : Int) → x5.toInt = (j : Int) → ∀ (H : Heap) (locs : List Loc), va_P D vwCl (XW h0 h1 h2 h3 y1 y2 y3 (n) (w) T P M) H → va_S (va_A [] s.heap.size) s.heap H locs → ∀ (ls : Array Slot), lv_has ls 6 [(0, .ref h0), (1, .ref q1), (2, .int x2), (3, .int v1), (4, .int x4), (5, .int x5)] → W p l e (headSpec wsX1_findLike ({ frames := 4, cells := 0, slots := 0, locals := 87 })).room s m [.ref h0, .ref q1, .int x2].toArray below meth c H locs 0 0 (MQ below (va_Qi (fun (r : Int32) (_ : Unit) => r.toInt = fnd kd T P w n x2.toInt) (fun _ _ => True) (va_A [] s.heap.size)) [.ref h0, .ref q1, .int x2].toArray s 0 0 (va_A [] s.heap.size)) (F0 m 11 ls []) := by
    intro nf
    induction nf with
    | zero => intros; omega
    | succ nf ih11 =>
      intro j x4 x5 hnf hj hz e_x4 e_x5 H locs hP hS ls hl
      have hcl := cnt_le (lik kd T P w) j
      refine lv_iload hx hb dX1_findLike_11 (lv_at hl 5 rfl) ?_
      refine lv_iload_n hx hb dX1_findLike_13 rfl (lv_at hl 3 rfl) ?_
      refine z_icmp_ge (tgt := 45) hx hb dX1_findLike_14 (by decide) e_x5 e1 (fun c14 => ?_) (fun c14 => ?_)
      · have _u := True.intro
        refine lv_iconst (v := (-1)) hx hb dX1_findLike_45 (by decide) ?_
        refine W.widen (k := 0) (n := 0) (Nat.le_of_ble_eq_true rfl) (Nat.le_of_ble_eq_true rfl) ?_
        exact W.iret (v := (-1)) hx hb hr (fun t ht hW => ⟨⟨_, (), rfl, (Eq.trans (show (-1 : Int32).toInt = (-1) by decide) ((fnd_no (fun i hi => hz i (Nat.zero_le i) (by omega))).symm)), trivial⟩, hS.F ht⟩) hS.2.2 dX1_findLike_46
      · have _u := True.intro
        refine lv_aload_n hx hb dX1_findLike_17 rfl (lv_at hl 0 rfl) ?_
        refine lv_aload_n hx hb dX1_findLike_18 rfl (lv_at hl 1 rfl) ?_
        refine lv_iload hx hb dX1_findLike_19 (lv_at hl 5 rfl) ?_
        refine va_calli (va_runV (As := [.ref q1, .int x5]) (rest := []) ⟨hx, hb, hml, hown, hts⟩ (c_X1_isLike l D E h0 h1 h2 h3 y1 y2 y3 H.size (n) (w) T P M hn hw hT hPt q1 x5 (kd) (j) (Eq.trans e_x5 (by omega)) (by omega) (hq) (hEd)) (cwV 2 hts gX1_findLike_X1_isLike rfl rfl rfl (by decide +kernel) ⟨Nat.le_of_ble_eq_true rfl, Nat.le_of_ble_eq_true rfl⟩) ⟨cp.blind, va_recv hK hP (ci := 0) (q0 := 0) rfl rfl, fun U hU hW => ⟨rfl, cp.call hP hK hE hS (fr0 hS hA) hU hW⟩⟩ rfl rfl hl.1 rfl (lv_room (Nat.le_of_ble_eq_true rfl)) dX1_findLike_21 ⟨Nat.le_of_ble_eq_true rfl, Nat.le_of_ble_eq_true rfl⟩) hS (fun q _ h => (fr0 hS hA) q h) (fr0 hS hA) (fun v21 u t H1 locs1 ht hvm e21 hB hz1 hk1 hS => ?_)
        have hP := kp hP hk1
        generalize H1 = H at hP hS ⊢
        generalize locs1 = locs at hS ⊢
        refine zb_if_eq (tgt := 39) hx hb dX1_findLike_24 (by decide) e21 (fun c24 => ?_) (fun c24 => ?_)
        · have _u := True.intro
          have q := cnt_f (f := lik kd T P w) (k := j) c24
          have q2 : (lik kd T P w j && decide ((cnt (lik kd T P w) j : Int) = x2.toInt)) = false := by rw [c24]; rfl
          refine z_iinc (k := 5) (lv' := fun v => [(5, .int v), (0, .ref h0), (1, .ref q1), (2, .int x2), (3, .int v1), (4, .int x4)]) hx hb dX1_findLike_39 hl rfl e_x5 (by decide) (by omega) (by omega) (by decide) (fun _ => rfl) (fun v39 ls e39 hl => ?_)
          refine lv_goto (tgt := 11) hx hb dX1_findLike_42 (by decide) ?_
          exact ih11 (j + 1) x4 v39 (by omega) (by omega) (ltS hz q2) (Eq.trans e_x4 (by omega)) (Eq.trans e39 (by omega)) _ _ hP hS _ (lv_sub hl [1, 2, 3, 4, 5, 0] rfl)
        · have _u := True.intro
          have q := cnt_t (f := lik kd T P w) (k := j) c24
          refine lv_iload hx hb dX1_findLike_27 (lv_at hl 4 rfl) ?_
          refine lv_iload_n hx hb dX1_findLike_29 rfl (lv_at hl 2 rfl) ?_
          refine z_icmp_ne (tgt := 36) hx hb dX1_findLike_30 (by decide) e_x4 rfl (fun c30 => ?_) (fun c30 => ?_)
          · have _u := True.intro
            have q2 : (lik kd T P w j && decide ((cnt (lik kd T P w) j : Int) = x2.toInt)) = false := by rw [decide_eq_false c30, Bool.and_false]
            refine z_iinc (k := 4) (lv' := fun v => [(4, .int v), (0, .ref h0), (1, .ref q1), (2, .int x2), (3, .int v1), (5, .int x5)]) hx hb dX1_findLike_36 hl rfl e_x4 (by decide) (by omega) (by omega) (by decide) (fun _ => rfl) (fun v36 ls e36 hl => ?_)
            refine z_iinc (k := 5) (lv' := fun v => [(5, .int v), (4, .int v36), (0, .ref h0), (1, .ref q1), (2, .int x2), (3, .int v1)]) hx hb dX1_findLike_39 hl rfl e_x5 (by decide) (by omega) (by omega) (by decide) (fun _ => rfl) (fun v39 ls e39 hl => ?_)
            refine lv_goto (tgt := 11) hx hb dX1_findLike_42 (by decide) ?_
            exact ih11 (j + 1) v36 v39 (by omega) (by omega) (ltS hz q2) (Eq.trans e36 (by omega)) (Eq.trans e39 (by omega)) _ _ hP hS _ (lv_sub hl [2, 3, 4, 5, 1, 0] rfl)
          · have _u := True.intro
            refine lv_iload hx hb dX1_findLike_33 (lv_at hl 5 rfl) ?_
            refine W.widen (k := 0) (n := 0) (Nat.le_of_ble_eq_true rfl) (Nat.le_of_ble_eq_true rfl) ?_
            exact W.iret (v := x5) hx hb hr (fun t ht hW => ⟨⟨_, (), rfl, (Eq.trans e_x5 ((fnd_at (by omega) (by rw [c24, decide_eq_true c30]; rfl) hz).symm)), trivial⟩, hS.F ht⟩) hS.2.2 dX1_findLike_35
  have hc0 := cnt_0 (lik kd T P w)
  exact lp11 ((pl n w - 0) + 1) (0) 0 0 (by omega) (by omega) (fun i h1 h2 => absurd h1 (by omega)) (Eq.trans (show (0 : Int32).toInt = 0 by decide) (by omega)) (Eq.trans (show (0 : Int32).toInt = 0 by decide) (by omega)) _ _ hP hS _ (lv_sub hl [3, 4, 5, 2, 1, 0] rfl)

set_option maxHeartbeats 4000000 in
set_option maxRecDepth 100000 in
theorem c_X1_requireLike (l : Launch) (hlt : l.stackTraces = false) (D : va_G) (E : Nat × Nat × Nat) (h0 h1 h2 h3 : Nat) (y1 y2 y3 : ClassId) (sz n w : Nat) (T P M : Nat → Int32) (hn : n ≤ 64) (hw : w ≤ 24) (hT : SymF T) (hPt : SymF P) (q1 : Nat) (x2 : Int32) (kd : Nat) (hq : (kd = 0 ∧ q1 = E.1) ∨ (kd = 1 ∧ q1 = E.2.1) ∨ (kd = 2 ∧ q1 = E.2.2)) (hEd : E.1 ≠ E.2.1 ∧ E.1 ≠ E.2.2 ∧ E.2.1 ≠ E.2.2) : vx_Met l yX1_requireLike wsX1_requireLike ({ frames := 6, cells := 1, slots := 6, locals := 112 }) (va_Pc [.ref h0, .ref q1, .int x2] (cp D (XW h0 h1 h2 h3 y1 y2 y3 (n) (w) T P M) (XT y1 y2 y3) E (va_A [] sz) sz)) (va_Qi (fun (r : Int32) (_ : Unit) => r.toInt = fnd kd T P w n x2.toInt ∧ ¬ fnd kd T P w n x2.toInt = -1) (fun _ _ => True) (va_A [] sz)) (tX (fun X => X = "java/lang/IndexOutOfBoundsException" ∧ fnd kd T P w n x2.toInt = -1) sz) 1 6 (va_A [] sz) := by
  refine vx_ofW (cc := cX1_requireLike) (maxL := 4) (ret := (some .int)) (by decide) rfl ?_
  intro p e s m args below meth c s₁ B hml hnt hv
  obtain ⟨rfl, hsz, hP, hK, hE⟩ := hv
  have hx := B.exec
  have hb := B.bytes
  have hr := B.returns
  have hts := atoms_spec (ws := wsX1_requireLike) B.pre
  have hown : s.vm.findClass RX1 = some m.cls := findClass_of_methodNamed B.named
  have hlocks := B.notSynchronized
  have hsz : s.heap.size = sz := hsz
  subst hsz
  have hA : ∀ q : Nat, s.heap.size ≤ q → (va_A [] s.heap.size) q := fun q h => Or.inr h
  have hS : va_S (va_A [] s.heap.size) s.heap s.heap [] := va_S.rf
  have inn : (nI n).toInt = (n : Int) := nI_toInt (by omega)
  have iww : (nI w).toInt = (w : Int) := nI_toInt (by omega)
  have hpl : pl n w = n + 1 - w := rfl
  have g_x2 := rg x2
  have hl := lv_entry ([.ref h0, .ref q1, .int x2]) (n := 4) (Nat.le_of_ble_eq_true rfl)
  rw [lg_entry_eq]
  generalize (lg_sl ([.ref h0, .ref q1, .int x2]) ++ List.replicate (4 - (lg_sl ([.ref h0, .ref q1, .int x2])).length) Slot.unset).toArray = ls at hl ⊢
  have hl : lv_has ls 4 [(0, .ref h0), (1, .ref q1), (2, .int x2)] := hl
  refine lv_aload_n hx hb dX1_requireLike_0 rfl (lv_at hl 0 rfl) ?_
  refine lv_aload_n hx hb dX1_requireLike_1 rfl (lv_at hl 1 rfl) ?_
  refine lv_iload_n hx hb dX1_requireLike_2 rfl (lv_at hl 2 rfl) ?_
  refine va_calli (va_runV (As := [.ref q1, .int x2]) (rest := []) ⟨hx, hb, hml, hown, hts⟩ (c_X1_findLike l D E h0 h1 h2 h3 y1 y2 y3 s.heap.size (n) (w) T P M hn hw hT hPt q1 x2 (kd) (hq) (hEd)) (cwV 2 hts gX1_requireLike_X1_findLike rfl rfl rfl (by decide +kernel) ⟨Nat.le_of_ble_eq_true rfl, Nat.le_of_ble_eq_true rfl⟩) ⟨cp.blind, va_recv hK hP (ci := 0) (q0 := 0) rfl rfl, fun U hU hW => ⟨rfl, cp.call hP hK hE hS (fr0 hS hA) hU hW⟩⟩ rfl rfl hl.1 rfl (lv_room (Nat.le_of_ble_eq_true rfl)) dX1_requireLike_3 ⟨Nat.le_of_ble_eq_true rfl, Nat.le_of_ble_eq_true rfl⟩) hS (fun q _ h => (fr0 hS hA) q h) (fr0 hS hA) (fun v3 u t H1 locs1 ht hvm e3 hB hz1 hk1 hS => ?_)
  have hP := kp hP hk1
  generalize H1 = H at hP hS ⊢
  generalize locs1 = locs at hS ⊢
  refine lv_istore_n (lv' := [(3, .int v3), (0, .ref h0), (1, .ref q1), (2, .int x2)]) hx hb dX1_requireLike_6 rfl hl (by decide) rfl (fun ls hl => ?_)
  refine lv_iload_n hx hb dX1_requireLike_7 rfl (lv_at hl 0 rfl) ?_
  refine lv_iconst (v := (-1)) hx hb dX1_requireLike_8 (by decide) ?_
  refine z_icmp_ne (tgt := 22) hx hb dX1_requireLike_9 (by decide) e3 (show (-1 : Int32).toInt = (-1) by decide) (fun c9 => ?_) (fun c9 => ?_)
  · have _u := True.intro
    refine lv_iload_n hx hb dX1_requireLike_22 rfl (lv_at hl 0 rfl) ?_
    refine vx_ret ?_
    refine W.widen (k := 1) (n := 6) (Nat.le_of_ble_eq_true rfl) (Nat.le_of_ble_eq_true rfl) ?_
    exact W.iret (v := v3) hx hb hr (fun t ht hW => ⟨⟨_, (), rfl, (⟨e3, c9⟩), trivial⟩, hS.F ht⟩) hS.2.2 dX1_requireLike_23
  · have _u := True.intro
    exact xIOB_throw hx hb hlt hown hts (by decide +kernel) hE hS (hl.1.trans hml.symm) hnt dX1_requireLike_12 dX1_requireLike_15 dX1_requireLike_16 dX1_requireLike_18 dX1_requireLike_21 (xS_156) (Nat.le_of_ble_eq_true rfl) (Nat.le_of_ble_eq_true rfl) (Nat.le_of_ble_eq_true rfl) (Nat.le_of_ble_eq_true rfl) hlocks (⟨rfl, c9⟩) (fun z hz => hS.2.2 z hz) (Nat.le_of_ble_eq_true rfl) (Nat.le_of_ble_eq_true rfl)
