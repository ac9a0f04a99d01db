set_option maxHeartbeats 4000000 in
set_option maxRecDepth 100000 in
theorem c_X2_appendText (l : Launch) (D : va_G) (E : Nat × Nat × Nat) (g0 g1 g2 : Nat) (y4 y5 : ClassId) (sz n w : Nat) (th : Int32) (T P : Nat → Int32) (hn : n ≤ 64) (hw : w ≤ 24) (hT : SymF T) (hPt : SymF P) (hD0 : va_D (fun _ => True) (MW g0 g1 g2 y4 y5 th (n) (w) T P)) (x1 : Int32) : Met l yX2_appendText wsX2_appendText ({ frames := 1, cells := 0, slots := 0, locals := 21 }) (va_Pc [.ref g0, .int x1] (cp D (MW g0 g1 g2 y4 y5 th (n) (w) T P) (MT y4 y5) E (va_A (MW g0 g1 g2 y4 y5 th (n) (w) T P) sz) sz)) (va_Qi (fun (r : Int32) (th2 : Int32) => th2.toInt = ((kAT n x1.toInt : Nat) : Int) ∧ (kAT n x1.toInt = 0 → r.toInt = ((n + 1 : Nat) : Int))) (fun (th2 : Int32) t => (kAT n x1.toInt = 0 → va_P D vwCl (MW g0 g1 g2 y4 y5 th2 (n + 1) (w) (upd T (n) x1) P) t.heap ∧ va_D (va_A (MW g0 g1 g2 y4 y5 th (n) (w) T P) sz) (MW g0 g1 g2 y4 y5 th2 (n + 1) (w) (upd T (n) x1) P)) ∧ (¬ kAT n x1.toInt = 0 → va_P D vwCl (MW g0 g1 g2 y4 y5 th2 (n) (w) T P) t.heap ∧ va_D (va_A (MW g0 g1 g2 y4 y5 th (n) (w) T P) sz) (MW g0 g1 g2 y4 y5 th2 (n) (w) T P))) (va_A (MW g0 g1 g2 y4 y5 th (n) (w) T P) sz)) 0 0 (va_A (MW g0 g1 g2 y4 y5 th (n) (w) T P) sz) := by
  refine Met.ofW (cc := cX2_appendText) (maxL := 2) (ret := (some .int)) (by decide) rfl ?_
  intro p e s m args below meth c s₁ B hml hv
  obtain ⟨rfl, hsz, hP, hK, hE⟩ := hv
  have hx := B.exec
  have hb := B.bytes
  have hr := B.returns
  have hts := atoms_spec (ws := wsX2_appendText) B.pre
  have hown : s.vm.findClass RX2 = some m.cls := findClass_of_methodNamed B.named
  have hlocks := B.notSynchronized
  have hsz : s.heap.size = sz := hsz
  subst hsz
  have hD := hD0.self (sz := s.heap.size)
  have hA : ∀ q : Nat, s.heap.size ≤ q → (va_A (MW g0 g1 g2 y4 y5 th (n) (w) T P) s.heap.size) q := fun q h => Or.inr h
  have hS : va_S (va_A (MW g0 g1 g2 y4 y5 th (n) (w) T P) s.heap.size) s.heap s.heap [] := va_S.rf
  have inn : (nI n).toInt = (n : Int) := nI_toInt (by omega)
  have iww : (nI w).toInt = (w : Int) := nI_toInt (by omega)
  have hf_n := hts (.fieldLink RX2 24 "BlankMatcherModel" "n" "I") (by decide +kernel)
  have hf_text := hts (.fieldLink RX2 7 "BlankMatcherModel" "text" "[I") (by decide +kernel)
  have hpl : pl n w = n + 1 - w := rfl
  have hin0 : ∀ w ∈ wsX20, w ∈ wsX2_appendText := by decide +kernel
  have g_x1 := rg x1
  have hl := lv_entry ([.ref g0, .int x1]) (n := 2) (Nat.le_of_ble_eq_true rfl)
  rw [lg_entry_eq]
  generalize (lg_sl ([.ref g0, .int x1]) ++ List.replicate (2 - (lg_sl ([.ref g0, .int x1])).length) Slot.unset).toArray = ls at hl ⊢
  have hl : lv_has ls 2 [(0, .ref g0), (1, .int x1)] := hl
  refine lv_aload_n hx hb dX2_appendText_0 rfl (lv_at hl 0 rfl) ?_
  refine lv_iload_n hx hb dX2_appendText_1 rfl (lv_at hl 1 rfl) ?_
  refine va_calli (va_runS (As := [.int x1]) (rest := [.ref g0]) ⟨hx, hb, hml, hown, hts⟩ (c_X2_isSymbol l s.heap.size x1) (va_cwS 1 hts gX2_appendText_X2_isSymbol rfl rfl rfl (by decide +kernel) ⟨Nat.le_of_ble_eq_true rfl, Nat.le_of_ble_eq_true rfl⟩) ⟨cz.blind, fun U hU hW => ⟨rfl, cz.call hU⟩⟩ rfl rfl hl.1 rfl (lv_room (Nat.le_of_ble_eq_true rfl)) dX2_appendText_2 ⟨Nat.le_of_ble_eq_true rfl, Nat.le_of_ble_eq_true rfl⟩) hS (fun q _ h => (fr0 hS hA) q h) (fr0 hS hA) (fun v2 u t H1 locs1 ht hvm e2 hB hz1 hk1 hS => ?_)
  have hP := kp hP hk1
  generalize H1 = H at hP hS ⊢
  generalize locs1 = locs at hS ⊢
  refine zb_if_ne (tgt := 12) hx hb dX2_appendText_5 (by decide) e2 (fun c5 => ?_) (fun c5 => ?_)
  · have _u := True.intro
    have d5 := of_decide_eq_true c5
    refine lv_aload_n hx hb dX2_appendText_12 rfl (lv_at hl 0 rfl) ?_
    refine va_get (D := D) (ci := 1) (v := .int (nI n)) (C := RX2) (T := TX2) (N := 5) hx hb hts hin0 hown hK hP 0 rfl rfl 3 (by decide) hf_n (fun _ h9 => h9) rfl dX2_appendText_13 ?_
    refine lv_bipush (v := 64) hx hb dX2_appendText_16 (by decide) ?_
    refine z_icmp_ne (tgt := 25) hx hb dX2_appendText_18 (by decide) inn (show (64 : Int32).toInt = 64 by decide) (fun c18 => ?_) (fun c18 => ?_)
    · have _u := True.intro
      refine lv_iconst (v := 0) hx hb dX2_appendText_25 (by decide) ?_
      have hFc := va_free (wc := (MW g0 g1 g2 y4 y5 th (n) (w) T P)) hD hS hA [0, 1, 2] rfl
      refine va_calli (va_runV (As := [.int 0]) (rest := []) ⟨hx, hb, hml, hown, hts⟩ (c_X2_goesWell l D E g0 g1 g2 y4 y5 H.size (n) (w) th T P hn hw hT hPt (hD.weaken (fun _ _ _ _ => trivial)) 0 (0) (Eq.trans (show (0 : Int32).toInt = 0 by decide) (by omega))) (cwV 1 hts gX2_appendText_X2_goesWell rfl rfl rfl (by decide +kernel) ⟨Nat.le_of_ble_eq_true rfl, Nat.le_of_ble_eq_true rfl⟩) ⟨cp.blind, va_recv hK hP (ci := 1) (q0 := 0) rfl rfl, fun U hU hW => ⟨rfl, cp.call hP hK hE hS hFc hU hW⟩⟩ rfl rfl hl.1 rfl (lv_room (Nat.le_of_ble_eq_true rfl)) dX2_appendText_26 ⟨Nat.le_of_ble_eq_true rfl, Nat.le_of_ble_eq_true rfl⟩) hS (fun q _ h => hFc q h) hFc (fun v26 u t H1 locs1 ht hvm e26 hB hz1 hk1 hS => ?_)
      obtain ⟨hP1, hD1⟩ := hB
      rw [ht] at hP1
      obtain ⟨hP, hD⟩ := va_join (wr := []) (w1 := (MW g0 g1 g2 y4 y5 0 (n) (w) T P)) hP hD [0, 1, 2] [] rfl rfl (by decide) (by decide) hk1 hFc hP1 hD1
      have hP : va_P D vwCl (MW g0 g1 g2 y4 y5 0 (n) (w) T P) H1 := hP
      have hD : va_D (va_A (MW g0 g1 g2 y4 y5 th (n) (w) T P) s.heap.size) (MW g0 g1 g2 y4 y5 0 (n) (w) T P) := hD
      generalize H1 = H at hP hS ⊢
      generalize locs1 = locs at hS ⊢
      refine zb_if_ne (tgt := 34) hx hb dX2_appendText_29 (by decide) e26 (fun c29 => ?_) (fun c29 => ?_)
      · have _u := True.intro
        refine lv_aload_n hx hb dX2_appendText_34 rfl (lv_at hl 0 rfl) ?_
        refine va_get (D := D) (ci := 1) (v := .ref g1) (C := RX2) (T := TX2) (N := 5) hx hb hts hin0 hown hK hP 0 rfl rfl 1 (by decide) hf_text (fun _ h9 => h9) rfl dX2_appendText_35 ?_
        refine lv_aload_n hx hb dX2_appendText_38 rfl (lv_at hl 0 rfl) ?_
        refine va_get (D := D) (ci := 1) (v := .int (nI n)) (C := RX2) (T := TX2) (N := 5) hx hb hts hin0 hown hK hP 0 rfl rfl 3 (by decide) hf_n (fun _ h9 => h9) rfl dX2_appendText_39 ?_
        refine lv_iload_n hx hb dX2_appendText_42 rfl (lv_at hl 1 rfl) ?_
        refine z_iast hx hb hK hP hD hS 1 0 rfl rfl (n) inn (by omega) (by omega) dX2_appendText_43 (fun H locs hP hD hS => ?_)
        have hP : va_P D vwCl (MW g0 g1 g2 y4 y5 0 (n) (w) (upd T (n) x1) P) H := hP
        have hD : va_D (va_A (MW g0 g1 g2 y4 y5 th (n) (w) T P) s.heap.size) (MW g0 g1 g2 y4 y5 0 (n) (w) (upd T (n) x1) P) := hD
        refine lv_aload_n hx hb dX2_appendText_44 rfl (lv_at hl 0 rfl) ?_
        refine lv_dup hx hb dX2_appendText_45 rfl ?_
        refine va_get (D := D) (ci := 1) (v := .int (nI n)) (C := RX2) (T := TX2) (N := 5) hx hb hts hin0 hown hK hP 0 rfl rfl 3 (by decide) hf_n (fun _ h9 => h9) rfl dX2_appendText_46 ?_
        refine lv_iconst (v := 1) hx hb dX2_appendText_49 (by decide) ?_
        refine z_iadd hx hb dX2_appendText_50 inn (show (1 : Int32).toInt = 1 by decide) (by omega) (by omega) (fun v50 e50 => ?_)
        refine lv_as (y := nI (n + 1)) (nIe (Eq.trans e50 (by omega))) ?_
        refine va_put (D := D) (ci := 1) (v := .int (nI (n + 1))) (ty := .int) (C := RX2) (T := TX2) (N := 5) hx hb hts hin0 tyX2 tyX2_ok nmX2 hown hK hP hD hS 0 rfl rfl 3 (by decide) hf_n (fun _ h9 => h9) rfl (by decide +kernel) rfl rfl (Nat.le_of_ble_eq_true rfl) dX2_appendText_51 (fun H locs hP hD hS => ?_)
        have hP : va_P D vwCl (MW g0 g1 g2 y4 y5 0 (n + 1) (w) (upd T (n) x1) P) H := hP
        have hD : va_D (va_A (MW g0 g1 g2 y4 y5 th (n) (w) T P) s.heap.size) (MW g0 g1 g2 y4 y5 0 (n + 1) (w) (upd T (n) x1) P) := hD
        refine lv_aload_n hx hb dX2_appendText_54 rfl (lv_at hl 0 rfl) ?_
        refine va_get (D := D) (ci := 1) (v := .int (nI (n + 1))) (C := RX2) (T := TX2) (N := 5) hx hb hts hin0 hown hK hP 0 rfl rfl 3 (by decide) hf_n (fun _ h9 => h9) rfl dX2_appendText_55 ?_
        have hk0 : kAT n x1.toInt = 0 := by unfold kAT; (repeat' split) <;> omega
        refine W.widen (k := 0) (n := 0) (Nat.le_of_ble_eq_true rfl) (Nat.le_of_ble_eq_true rfl) ?_
        exact W.iret (v := (nI (n + 1))) hx hb hr (fun t ht hW => ⟨⟨_, 0, rfl, ⟨(show (0 : Int32).toInt = 0 by decide).trans (by omega), fun _ => (Eq.trans (nI_toInt (n := n + 1) (by omega)) (by omega))⟩, ⟨fun _ => ⟨by rw [ht]; exact hP, hD⟩, fun h => absurd hk0 h⟩⟩, hS.F ht⟩) hS.2.2 dX2_appendText_58
      · have _u := True.intro
        exact absurd c29 (by decide)
    · have _u := True.intro
      refine lv_iconst (v := 2) hx hb dX2_appendText_21 (by decide) ?_
      refine lv_goto (tgt := 26) hx hb dX2_appendText_22 (by decide) ?_
      have hFc := va_free (wc := (MW g0 g1 g2 y4 y5 th (n) (w) T P)) hD hS hA [0, 1, 2] rfl
      refine va_calli (va_runV (As := [.int 2]) (rest := []) ⟨hx, hb, hml, hown, hts⟩ (c_X2_goesWell l D E g0 g1 g2 y4 y5 H.size (n) (w) th T P hn hw hT hPt (hD.weaken (fun _ _ _ _ => trivial)) 2 (2) (Eq.trans (show (2 : Int32).toInt = 2 by decide) (by omega))) (cwV 1 hts gX2_appendText_X2_goesWell rfl rfl rfl (by decide +kernel) ⟨Nat.le_of_ble_eq_true rfl, Nat.le_of_ble_eq_true rfl⟩) ⟨cp.blind, va_recv hK hP (ci := 1) (q0 := 0) rfl rfl, fun U hU hW => ⟨rfl, cp.call hP hK hE hS hFc hU hW⟩⟩ rfl rfl hl.1 rfl (lv_room (Nat.le_of_ble_eq_true rfl)) dX2_appendText_26 ⟨Nat.le_of_ble_eq_true rfl, Nat.le_of_ble_eq_true rfl⟩) hS (fun q _ h => hFc q h) hFc (fun v26 u t H1 locs1 ht hvm e26 hB hz1 hk1 hS => ?_)
      obtain ⟨hP1, hD1⟩ := hB
      rw [ht] at hP1
      obtain ⟨hP, hD⟩ := va_join (wr := []) (w1 := (MW g0 g1 g2 y4 y5 2 (n) (w) T P)) hP hD [0, 1, 2] [] rfl rfl (by decide) (by decide) hk1 hFc hP1 hD1
      have hP : va_P D vwCl (MW g0 g1 g2 y4 y5 2 (n) (w) T P) H1 := hP
      have hD : va_D (va_A (MW g0 g1 g2 y4 y5 th (n) (w) T P) s.heap.size) (MW g0 g1 g2 y4 y5 2 (n) (w) T P) := hD
      generalize H1 = H at hP hS ⊢
      generalize locs1 = locs at hS ⊢
      refine zb_if_ne (tgt := 34) hx hb dX2_appendText_29 (by decide) e26 (fun c29 => ?_) (fun c29 => ?_)
      · have _u := True.intro
        exact absurd c29 (by decide)
      · have _u := True.intro
        refine lv_iconst (v := 0) hx hb dX2_appendText_32 (by decide) ?_
        have hk0 : kAT n x1.toInt = 2 := by unfold kAT; (repeat' split) <;> omega
        refine W.widen (k := 0) (n := 0) (Nat.le_of_ble_eq_true rfl) (Nat.le_of_ble_eq_true rfl) ?_
        exact W.iret (v := 0) hx hb hr (fun t ht hW => ⟨⟨_, 2, rfl, ⟨(show (2 : Int32).toInt = 2 by decide).trans (by omega), fun h => absurd h (by omega)⟩, ⟨fun h => absurd h (by omega), fun _ => ⟨by rw [ht]; exact hP, hD⟩⟩⟩, hS.F ht⟩) hS.2.2 dX2_appendText_33
  · have _u := True.intro
    have d5 := of_decide_eq_false c5
    refine lv_iconst (v := 1) hx hb dX2_appendText_8 (by decide) ?_
    refine lv_goto (tgt := 26) hx hb dX2_appendText_9 (by decide) ?_
    have hFc := va_free (wc := (MW g0 g1 g2 y4 y5 th (n) (w) T P)) hD hS hA [0, 1, 2] rfl
    refine va_calli (va_runV (As := [.int 1]) (rest := []) ⟨hx, hb, hml, hown, hts⟩ (c_X2_goesWell l D E g0 g1 g2 y4 y5 H.size (n) (w) th T P hn hw hT hPt (hD.weaken (fun _ _ _ _ => trivial)) 1 (1) (Eq.trans (show (1 : Int32).toInt = 1 by decide) (by omega))) (cwV 1 hts gX2_appendText_X2_goesWell rfl rfl rfl (by decide +kernel) ⟨Nat.le_of_ble_eq_true rfl, Nat.le_of_ble_eq_true rfl⟩) ⟨cp.blind, va_recv hK hP (ci := 1) (q0 := 0) rfl rfl, fun U hU hW => ⟨rfl, cp.call hP hK hE hS hFc hU hW⟩⟩ rfl rfl hl.1 rfl (lv_room (Nat.le_of_ble_eq_true rfl)) dX2_appendText_26 ⟨Nat.le_of_ble_eq_true rfl, Nat.le_of_ble_eq_true rfl⟩) hS (fun q _ h => hFc q h) hFc (fun v26 u t H1 locs1 ht hvm e26 hB hz1 hk1 hS => ?_)
    obtain ⟨hP1, hD1⟩ := hB
    rw [ht] at hP1
    obtain ⟨hP, hD⟩ := va_join (wr := []) (w1 := (MW g0 g1 g2 y4 y5 1 (n) (w) T P)) hP hD [0, 1, 2] [] rfl rfl (by decide) (by decide) hk1 hFc hP1 hD1
    have hP : va_P D vwCl (MW g0 g1 g2 y4 y5 1 (n) (w) T P) H1 := hP
    have hD : va_D (va_A (MW g0 g1 g2 y4 y5 th (n) (w) T P) s.heap.size) (MW g0 g1 g2 y4 y5 1 (n) (w) T P) := hD
    generalize H1 = H at hP hS ⊢
    generalize locs1 = locs at hS ⊢
    refine zb_if_ne (tgt := 34) hx hb dX2_appendText_29 (by decide) e26 (fun c29 => ?_) (fun c29 => ?_)
    · have _u := True.intro
      exact absurd c29 (by decide)
    · have _u := True.intro
      refine lv_iconst (v := 0) hx hb dX2_appendText_32 (by decide) ?_
      have hk0 : kAT n x1.toInt = 1 := by unfold kAT; (repeat' split) <;> omega
      refine W.widen (k := 0) (n := 0) (Nat.le_of_ble_eq_true rfl) (Nat.le_of_ble_eq_true rfl) ?_
      exact W.iret (v := 0) hx hb hr (fun t ht hW => ⟨⟨_, 1, rfl, ⟨(show (1 : Int32).toInt = 1 by decide).trans (by omega), fun h => absurd h (by omega)⟩, ⟨fun h => absurd h (by omega), fun _ => ⟨by rw [ht]; exact hP, hD⟩⟩⟩, hS.F ht⟩) hS.2.2 dX2_appendText_33

set_option maxHeartbeats 4000000 in
set_option maxRecDepth 100000 in
theorem c_X2_appendPattern (l : Launch) (D : va_G) (E : Nat × Nat × Nat) (g0 g1 g2 : Nat) (y4 y5 : ClassId) (sz n w : Nat) (th : Int32) (T P : Nat → Int32) (hn : n ≤ 64) (hw : w ≤ 24) (hT : SymF T) (hPt : SymF P) (hD0 : va_D (fun _ => True) (MW g0 g1 g2 y4 y5 th (n) (w) T P)) (x1 : Int32) : Met l yX2_appendPattern wsX2_appendPattern ({ frames := 1, cells := 0, slots := 0, locals := 21 }) (va_Pc [.ref g0, .int x1] (cp D (MW g0 g1 g2 y4 y5 th (n) (w) T P) (MT y4 y5) E (va_A (MW g0 g1 g2 y4 y5 th (n) (w) T P) sz) sz)) (va_Qi (fun (r : Int32) (th2 : Int32) => th2.toInt = ((kAP w x1.toInt : Nat) : Int) ∧ (kAP w x1.toInt = 0 → r.toInt = ((w + 1 : Nat) : Int))) (fun (th2 : Int32) t => (kAP w x1.toInt = 0 → va_P D vwCl (MW g0 g1 g2 y4 y5 th2 (n) (w + 1) T (upd P (w) x1)) t.heap ∧ va_D (va_A (MW g0 g1 g2 y4 y5 th (n) (w) T P) sz) (MW g0 g1 g2 y4 y5 th2 (n) (w + 1) T (upd P (w) x1))) ∧ (¬ kAP w x1.toInt = 0 → va_P D vwCl (MW g0 g1 g2 y4 y5 th2 (n) (w) T P) t.heap ∧ va_D (va_A (MW g0 g1 g2 y4 y5 th (n) (w) T P) sz) (MW g0 g1 g2 y4 y5 th2 (n) (w) T P))) (va_A (MW g0 g1 g2 y4 y5 th (n) (w) T P) sz)) 0 0 (va_A (MW g0 g1 g2 y4 y5 th (n) (w) T P) sz) := by
  refine Met.ofW (cc := cX2_appendPattern) (maxL := 2) (ret := (some .int)) (by decide) rfl ?_
  intro p e s m args below meth c s₁ B hml hv
  obtain ⟨rfl, hsz, hP, hK, hE⟩ := hv
  have hx := B.exec
  have hb := B.bytes
  have hr := B.returns
  have hts := atoms_spec (ws := wsX2_appendPattern) B.pre
  have hown : s.vm.findClass RX2 = some m.cls := findClass_of_methodNamed B.named
  have hlocks := B.notSynchronized
  have hsz : s.heap.size = sz := hsz
  subst hsz
  have hD := hD0.self (sz := s.heap.size)
  have hA : ∀ q : Nat, s.heap.size ≤ q → (va_A (MW g0 g1 g2 y4 y5 th (n) (w) T P) s.heap.size) q := fun q h => Or.inr h
  have hS : va_S (va_A (MW g0 g1 g2 y4 y5 th (n) (w) T P) s.heap.size) s.heap s.heap [] := va_S.rf
  have inn : (nI n).toInt = (n : Int) := nI_toInt (by omega)
  have iww : (nI w).toInt = (w : Int) := nI_toInt (by omega)
  have hf_m := hts (.fieldLink RX2 30 "BlankMatcherModel" "m" "I") (by decide +kernel)
  have hf_pattern := hts (.fieldLink RX2 13 "BlankMatcherModel" "pattern" "[I") (by decide +kernel)
  have hpl : pl n w = n + 1 - w := rfl
  have hin0 : ∀ w ∈ wsX20, w ∈ wsX2_appendPattern := by decide +kernel
  have g_x1 := rg x1
  have hl := lv_entry ([.ref g0, .int x1]) (n := 2) (Nat.le_of_ble_eq_true rfl)
  rw [lg_entry_eq]
  generalize (lg_sl ([.ref g0, .int x1]) ++ List.replicate (2 - (lg_sl ([.ref g0, .int x1])).length) Slot.unset).toArray = ls at hl ⊢
  have hl : lv_has ls 2 [(0, .ref g0), (1, .int x1)] := hl
  refine lv_aload_n hx hb dX2_appendPattern_0 rfl (lv_at hl 0 rfl) ?_
  refine lv_iload_n hx hb dX2_appendPattern_1 rfl (lv_at hl 1 rfl) ?_
  refine va_calli (va_runS (As := [.int x1]) (rest := [.ref g0]) ⟨hx, hb, hml, hown, hts⟩ (c_X2_isSymbol l s.heap.size x1) (va_cwS 1 hts gX2_appendPattern_X2_isSymbol rfl rfl rfl (by decide +kernel) ⟨Nat.le_of_ble_eq_true rfl, Nat.le_of_ble_eq_true rfl⟩) ⟨cz.blind, fun U hU hW => ⟨rfl, cz.call hU⟩⟩ rfl rfl hl.1 rfl (lv_room (Nat.le_of_ble_eq_true rfl)) dX2_appendPattern_2 ⟨Nat.le_of_ble_eq_true rfl, Nat.le_of_ble_eq_true rfl⟩) hS (fun q _ h => (fr0 hS hA) q h) (fr0 hS hA) (fun v2 u t H1 locs1 ht hvm e2 hB hz1 hk1 hS => ?_)
  have hP := kp hP hk1
  generalize H1 = H at hP hS ⊢
  generalize locs1 = locs at hS ⊢
  refine zb_if_ne (tgt := 12) hx hb dX2_appendPattern_5 (by decide) e2 (fun c5 => ?_) (fun c5 => ?_)
  · have _u := True.intro
    have d5 := of_decide_eq_true c5
    refine lv_aload_n hx hb dX2_appendPattern_12 rfl (lv_at hl 0 rfl) ?_
    refine va_get (D := D) (ci := 1) (v := .int (nI w)) (C := RX2) (T := TX2) (N := 5) hx hb hts hin0 hown hK hP 0 rfl rfl 4 (by decide) hf_m (fun _ h9 => h9) rfl dX2_appendPattern_13 ?_
    refine lv_bipush (v := 24) hx hb dX2_appendPattern_16 (by decide) ?_
    refine z_icmp_ne (tgt := 25) hx hb dX2_appendPattern_18 (by decide) iww (show (24 : Int32).toInt = 24 by decide) (fun c18 => ?_) (fun c18 => ?_)
    · have _u := True.intro
      refine lv_iconst (v := 0) hx hb dX2_appendPattern_25 (by decide) ?_
      have hFc := va_free (wc := (MW g0 g1 g2 y4 y5 th (n) (w) T P)) hD hS hA [0, 1, 2] rfl
      refine va_calli (va_runV (As := [.int 0]) (rest := []) ⟨hx, hb, hml, hown, hts⟩ (c_X2_goesWell l D E g0 g1 g2 y4 y5 H.size (n) (w) th T P hn hw hT hPt (hD.weaken (fun _ _ _ _ => trivial)) 0 (0) (Eq.trans (show (0 : Int32).toInt = 0 by decide) (by omega))) (cwV 1 hts gX2_appendPattern_X2_goesWell rfl rfl rfl (by decide +kernel) ⟨Nat.le_of_ble_eq_true rfl, Nat.le_of_ble_eq_true rfl⟩) ⟨cp.blind, va_recv hK hP (ci := 1) (q0 := 0) rfl rfl, fun U hU hW => ⟨rfl, cp.call hP hK hE hS hFc hU hW⟩⟩ rfl rfl hl.1 rfl (lv_room (Nat.le_of_ble_eq_true rfl)) dX2_appendPattern_26 ⟨Nat.le_of_ble_eq_true rfl, Nat.le_of_ble_eq_true rfl⟩) hS (fun q _ h => hFc q h) hFc (fun v26 u t H1 locs1 ht hvm e26 hB hz1 hk1 hS => ?_)
      obtain ⟨hP1, hD1⟩ := hB
      rw [ht] at hP1
      obtain ⟨hP, hD⟩ := va_join (wr := []) (w1 := (MW g0 g1 g2 y4 y5 0 (n) (w) T P)) hP hD [0, 1, 2] [] rfl rfl (by decide) (by decide) hk1 hFc hP1 hD1
      have hP : va_P D vwCl (MW g0 g1 g2 y4 y5 0 (n) (w) T P) H1 := hP
      have hD : va_D (va_A (MW g0 g1 g2 y4 y5 th (n) (w) T P) s.heap.size) (MW g0 g1 g2 y4 y5 0 (n) (w) T P) := hD
      generalize H1 = H at hP hS ⊢
      generalize locs1 = locs at hS ⊢
      refine zb_if_ne (tgt := 34) hx hb dX2_appendPattern_29 (by decide) e26 (fun c29 => ?_) (fun c29 => ?_)
      · have _u := True.intro
        refine lv_aload_n hx hb dX2_appendPattern_34 rfl (lv_at hl 0 rfl) ?_
        refine va_get (D := D) (ci := 1) (v := .ref g2) (C := RX2) (T := TX2) (N := 5) hx hb hts hin0 hown hK hP 0 rfl rfl 2 (by decide) hf_pattern (fun _ h9 => h9) rfl dX2_appendPattern_35 ?_
        refine lv_aload_n hx hb dX2_appendPattern_38 rfl (lv_at hl 0 rfl) ?_
        refine va_get (D := D) (ci := 1) (v := .int (nI w)) (C := RX2) (T := TX2) (N := 5) hx hb hts hin0 hown hK hP 0 rfl rfl 4 (by decide) hf_m (fun _ h9 => h9) rfl dX2_appendPattern_39 ?_
        refine lv_iload_n hx hb dX2_appendPattern_42 rfl (lv_at hl 1 rfl) ?_
        refine z_iast hx hb hK hP hD hS 2 1 rfl rfl (w) iww (by omega) (by omega) dX2_appendPattern_43 (fun H locs hP hD hS => ?_)
        have hP : va_P D vwCl (MW g0 g1 g2 y4 y5 0 (n) (w) T (upd P (w) x1)) H := hP
        have hD : va_D (va_A (MW g0 g1 g2 y4 y5 th (n) (w) T P) s.heap.size) (MW g0 g1 g2 y4 y5 0 (n) (w) T (upd P (w) x1)) := hD
        refine lv_aload_n hx hb dX2_appendPattern_44 rfl (lv_at hl 0 rfl) ?_
        refine lv_dup hx hb dX2_appendPattern_45 rfl ?_
        refine va_get (D := D) (ci := 1) (v := .int (nI w)) (C := RX2) (T := TX2) (N := 5) hx hb hts hin0 hown hK hP 0 rfl rfl 4 (by decide) hf_m (fun _ h9 => h9) rfl dX2_appendPattern_46 ?_
        refine lv_iconst (v := 1) hx hb dX2_appendPattern_49 (by decide) ?_
        refine z_iadd hx hb dX2_appendPattern_50 iww (show (1 : Int32).toInt = 1 by decide) (by omega) (by omega) (fun v50 e50 => ?_)
        refine lv_as (y := nI (w + 1)) (nIe (Eq.trans e50 (by omega))) ?_
        refine va_put (D := D) (ci := 1) (v := .int (nI (w + 1))) (ty := .int) (C := RX2) (T := TX2) (N := 5) hx hb hts hin0 tyX2 tyX2_ok nmX2 hown hK hP hD hS 0 rfl rfl 4 (by decide) hf_m (fun _ h9 => h9) rfl (by decide +kernel) rfl rfl (Nat.le_of_ble_eq_true rfl) dX2_appendPattern_51 (fun H locs hP hD hS => ?_)
        have hP : va_P D vwCl (MW g0 g1 g2 y4 y5 0 (n) (w + 1) T (upd P (w) x1)) H := hP
        have hD : va_D (va_A (MW g0 g1 g2 y4 y5 th (n) (w) T P) s.heap.size) (MW g0 g1 g2 y4 y5 0 (n) (w + 1) T (upd P (w) x1)) := hD
        refine lv_aload_n hx hb dX2_appendPattern_54 rfl (lv_at hl 0 rfl) ?_
        refine va_get (D := D) (ci := 1) (v := .int (nI (w + 1))) (C := RX2) (T := TX2) (N := 5) hx hb hts hin0 hown hK hP 0 rfl rfl 4 (by decide) hf_m (fun _ h9 => h9) rfl dX2_appendPattern_55 ?_
        have hk0 : kAP w x1.toInt = 0 := by unfold kAP; (repeat' split) <;> omega
        refine W.widen (k := 0) (n := 0) (Nat.le_of_ble_eq_true rfl) (Nat.le_of_ble_eq_true rfl) ?_
        exact W.iret (v := (nI (w + 1))) hx hb hr (fun t ht hW => ⟨⟨_, 0, rfl, ⟨(show (0 : Int32).toInt = 0 by decide).trans (by omega), fun _ => (Eq.trans (nI_toInt (n := w + 1) (by omega)) (by omega))⟩, ⟨fun _ => ⟨by rw [ht]; exact hP, hD⟩, fun h => absurd hk0 h⟩⟩, hS.F ht⟩) hS.2.2 dX2_appendPattern_58
      · have _u := True.intro
        exact absurd c29 (by decide)
    · have _u := True.intro
      refine lv_iconst (v := 2) hx hb dX2_appendPattern_21 (by decide) ?_
      refine lv_goto (tgt := 26) hx hb dX2_appendPattern_22 (by decide) ?_
      have hFc := va_free (wc := (MW g0 g1 g2 y4 y5 th (n) (w) T P)) hD hS hA [0, 1, 2] rfl
      refine va_calli (va_runV (As := [.int 2]) (rest := []) ⟨hx, hb, hml, hown, hts⟩ (c_X2_goesWell l D E g0 g1 g2 y4 y5 H.size (n) (w) th T P hn hw hT hPt (hD.weaken (fun _ _ _ _ => trivial)) 2 (2) (Eq.trans (show (2 : Int32).toInt = 2 by decide) (by omega))) (cwV 1 hts gX2_appendPattern_X2_goesWell rfl rfl rfl (by decide +kernel) ⟨Nat.le_of_ble_eq_true rfl, Nat.le_of_ble_eq_true rfl⟩) ⟨cp.blind, va_recv hK hP (ci := 1) (q0 := 0) rfl rfl, fun U hU hW => ⟨rfl, cp.call hP hK hE hS hFc hU hW⟩⟩ rfl rfl hl.1 rfl (lv_room (Nat.le_of_ble_eq_true rfl)) dX2_appendPattern_26 ⟨Nat.le_of_ble_eq_true rfl, Nat.le_of_ble_eq_true rfl⟩) hS (fun q _ h => hFc q h) hFc (fun v26 u t H1 locs1 ht hvm e26 hB hz1 hk1 hS => ?_)
      obtain ⟨hP1, hD1⟩ := hB
      rw [ht] at hP1
      obtain ⟨hP, hD⟩ := va_join (wr := []) (w1 := (MW g0 g1 g2 y4 y5 2 (n) (w) T P)) hP hD [0, 1, 2] [] rfl rfl (by decide) (by decide) hk1 hFc hP1 hD1
      have hP : va_P D vwCl (MW g0 g1 g2 y4 y5 2 (n) (w) T P) H1 := hP
      have hD : va_D (va_A (MW g0 g1 g2 y4 y5 th (n) (w) T P) s.heap.size) (MW g0 g1 g2 y4 y5 2 (n) (w) T P) := hD
      generalize H1 = H at hP hS ⊢
      generalize locs1 = locs at hS ⊢
      refine zb_if_ne (tgt := 34) hx hb dX2_appendPattern_29 (by decide) e26 (fun c29 => ?_) (fun c29 => ?_)
      · have _u := True.intro
        exact absurd c29 (by decide)
      · have _u := True.intro
        refine lv_iconst (v := 0) hx hb dX2_appendPattern_32 (by decide) ?_
        have hk0 : kAP w x1.toInt = 2 := by unfold kAP; (repeat' split) <;> omega
        refine W.widen (k := 0) (n := 0) (Nat.le_of_ble_eq_true rfl) (Nat.le_of_ble_eq_true rfl) ?_
        exact W.iret (v := 0) hx hb hr (fun t ht hW => ⟨⟨_, 2, rfl, ⟨(show (2 : Int32).toInt = 2 by decide).trans (by omega), fun h => absurd h (by omega)⟩, ⟨fun h => absurd h (by omega), fun _ => ⟨by rw [ht]; exact hP, hD⟩⟩⟩, hS.F ht⟩) hS.2.2 dX2_appendPattern_33
  · have _u := True.intro
    have d5 := of_decide_eq_false c5
    refine lv_iconst (v := 1) hx hb dX2_appendPattern_8 (by decide) ?_
    refine lv_goto (tgt := 26) hx hb dX2_appendPattern_9 (by decide) ?_
    have hFc := va_free (wc := (MW g0 g1 g2 y4 y5 th (n) (w) T P)) hD hS hA [0, 1, 2] rfl
    refine va_calli (va_runV (As := [.int 1]) (rest := []) ⟨hx, hb, hml, hown, hts⟩ (c_X2_goesWell l D E g0 g1 g2 y4 y5 H.size (n) (w) th T P hn hw hT hPt (hD.weaken (fun _ _ _ _ => trivial)) 1 (1) (Eq.trans (show (1 : Int32).toInt = 1 by decide) (by omega))) (cwV 1 hts gX2_appendPattern_X2_goesWell rfl rfl rfl (by decide +kernel) ⟨Nat.le_of_ble_eq_true rfl, Nat.le_of_ble_eq_true rfl⟩) ⟨cp.blind, va_recv hK hP (ci := 1) (q0 := 0) rfl rfl, fun U hU hW => ⟨rfl, cp.call hP hK hE hS hFc hU hW⟩⟩ rfl rfl hl.1 rfl (lv_room (Nat.le_of_ble_eq_true rfl)) dX2_appendPattern_26 ⟨Nat.le_of_ble_eq_true rfl, Nat.le_of_ble_eq_true rfl⟩) hS (fun q _ h => hFc q h) hFc (fun v26 u t H1 locs1 ht hvm e26 hB hz1 hk1 hS => ?_)
    obtain ⟨hP1, hD1⟩ := hB
    rw [ht] at hP1
    obtain ⟨hP, hD⟩ := va_join (wr := []) (w1 := (MW g0 g1 g2 y4 y5 1 (n) (w) T P)) hP hD [0, 1, 2] [] rfl rfl (by decide) (by decide) hk1 hFc hP1 hD1
    have hP : va_P D vwCl (MW g0 g1 g2 y4 y5 1 (n) (w) T P) H1 := hP
    have hD : va_D (va_A (MW g0 g1 g2 y4 y5 th (n) (w) T P) s.heap.size) (MW g0 g1 g2 y4 y5 1 (n) (w) T P) := hD
    generalize H1 = H at hP hS ⊢
    generalize locs1 = locs at hS ⊢
    refine zb_if_ne (tgt := 34) hx hb dX2_appendPattern_29 (by decide) e26 (fun c29 => ?_) (fun c29 => ?_)
    · have _u := True.intro
      exact absurd c29 (by decide)
    · have _u := True.intro
      refine lv_iconst (v := 0) hx hb dX2_appendPattern_32 (by decide) ?_
      have hk0 : kAP w x1.toInt = 1 := by unfold kAP; (repeat' split) <;> omega
      refine W.widen (k := 0) (n := 0) (Nat.le_of_ble_eq_true rfl) (Nat.le_of_ble_eq_true rfl) ?_
      exact W.iret (v := 0) hx hb hr (fun t ht hW => ⟨⟨_, 1, rfl, ⟨(show (1 : Int32).toInt = 1 by decide).trans (by omega), fun h => absurd h (by omega)⟩, ⟨fun h => absurd h (by omega), fun _ => ⟨by rw [ht]; exact hP, hD⟩⟩⟩, hS.F ht⟩) hS.2.2 dX2_appendPattern_33

set_option maxHeartbeats 4000000 in
set_option maxRecDepth 100000 in
theorem c_X2_repeatText (l : Launch) (D : va_G) (E : Nat × Nat × Nat) (g0 g1 g2 : Nat) (y4 y5 : ClassId) (sz n w : Nat) (th : Int32) (T P : Nat → Int32) (hn : n ≤ 64) (hw : w ≤ 24) (hT : SymF T) (hPt : SymF P) (hD0 : va_D (fun _ => True) (MW g0 g1 g2 y4 y5 th (n) (w) T P)) (x1 : Int32) (x2 : Int32) : Met l yX2_repeatText wsX2_repeatText ({ frames := 1, cells := 0, slots := 0, locals := 21 }) (va_Pc [.ref g0, .int x1, .int x2] (cp D (MW g0 g1 g2 y4 y5 th (n) (w) T P) (MT y4 y5) E (va_A (MW g0 g1 g2 y4 y5 th (n) (w) T P) sz) sz)) (va_Qi (fun (r : Int32) (th2 : Int32) => th2.toInt = ((kRT n x1.toInt x2.toInt : Nat) : Int) ∧ (kRT n x1.toInt x2.toInt = 0 → r.toInt = ((n + x2.toInt.toNat : Nat) : Int))) (fun (th2 : Int32) t => (kRT n x1.toInt x2.toInt = 0 → va_P D vwCl (MW g0 g1 g2 y4 y5 th2 (n + x2.toInt.toNat) (w) (va_cpy T T x1.toInt.toNat n x2.toInt.toNat) P) t.heap ∧ va_D (va_A (MW g0 g1 g2 y4 y5 th (n) (w) T P) sz) (MW g0 g1 g2 y4 y5 th2 (n + x2.toInt.toNat) (w) (va_cpy T T x1.toInt.toNat n x2.toInt.toNat) P)) ∧ (¬ kRT n x1.toInt x2.toInt = 0 → va_P D vwCl (MW g0 g1 g2 y4 y5 th2 (n) (w) T P) t.heap ∧ va_D (va_A (MW g0 g1 g2 y4 y5 th (n) (w) T P) sz) (MW g0 g1 g2 y4 y5 th2 (n) (w) T P))) (va_A (MW g0 g1 g2 y4 y5 th (n) (w) T P) sz)) 0 0 (va_A (MW g0 g1 g2 y4 y5 th (n) (w) T P) sz) := by
  refine Met.ofW (cc := cX2_repeatText) (maxL := 5) (ret := (some .int)) (by decide) rfl ?_
  intro p e s m args below meth c s₁ B hml hv
  obtain ⟨rfl, hsz, hP, hK, hE⟩ := hv
  have hx := B.exec
  have hb := B.bytes
  have hr := B.returns
  have hts := atoms_spec (ws := wsX2_repeatText) B.pre
  have hown : s.vm.findClass RX2 = some m.cls := findClass_of_methodNamed B.named
  have hlocks := B.notSynchronized
  have hsz : s.heap.size = sz := hsz
  subst hsz
  have hD := hD0.self (sz := s.heap.size)
  have hA : ∀ q : Nat, s.heap.size ≤ q → (va_A (MW g0 g1 g2 y4 y5 th (n) (w) T P) s.heap.size) q := fun q h => Or.inr h
  have hS : va_S (va_A (MW g0 g1 g2 y4 y5 th (n) (w) T P) s.heap.size) s.heap s.heap [] := va_S.rf
  have inn : (nI n).toInt = (n : Int) := nI_toInt (by omega)
  have iww : (nI w).toInt = (w : Int) := nI_toInt (by omega)
  have hf_n := hts (.fieldLink RX2 24 "BlankMatcherModel" "n" "I") (by decide +kernel)
  have hf_text := hts (.fieldLink RX2 7 "BlankMatcherModel" "text" "[I") (by decide +kernel)
  have hpl : pl n w = n + 1 - w := rfl
  have hin0 : ∀ w ∈ wsX20, w ∈ wsX2_repeatText := by decide +kernel
  have g_x1 := rg x1
  have g_x2 := rg x2
  have hl := lv_entry ([.ref g0, .int x1, .int x2]) (n := 5) (Nat.le_of_ble_eq_true rfl)
  rw [lg_entry_eq]
  generalize (lg_sl ([.ref g0, .int x1, .int x2]) ++ List.replicate (5 - (lg_sl ([.ref g0, .int x1, .int x2])).length) Slot.unset).toArray = ls at hl ⊢
  have hl : lv_has ls 5 [(0, .ref g0), (1, .int x1), (2, .int x2)] := hl
  refine lv_iload_n hx hb dX2_repeatText_0 rfl (lv_at hl 1 rfl) ?_
  refine z_if_lt (tgt := 22) hx hb dX2_repeatText_1 (by decide) rfl (fun c1 => ?_) (fun c1 => ?_)
  · have _u := True.intro
    refine lv_iconst (v := 0) hx hb dX2_repeatText_22 (by decide) ?_
    refine lv_istore_n (lv' := [(3, .int 0), (0, .ref g0), (1, .int x1), (2, .int x2)]) hx hb dX2_repeatText_23 rfl hl (by decide) rfl (fun ls hl => ?_)
    refine lv_aload_n hx hb dX2_repeatText_24 rfl (lv_at hl 1 rfl) ?_
    refine lv_iload_n hx hb dX2_repeatText_25 rfl (lv_at hl 3 rfl) ?_
    refine lv_iconst (v := 1) hx hb dX2_repeatText_26 (by decide) ?_
    refine z_icmp_ge (tgt := 34) hx hb dX2_repeatText_27 (by decide) rfl (show (1 : Int32).toInt = 1 by decide) (fun c27 => ?_) (fun c27 => ?_)
    · have _u := True.intro
      refine lv_iload_n hx hb dX2_repeatText_34 rfl (lv_at hl 0 rfl) ?_
      refine z_if_ne (tgt := 42) hx hb dX2_repeatText_35 (by decide) (show (0 : Int32).toInt = 0 by decide) (fun c35 => ?_) (fun c35 => ?_)
      · have _u := True.intro
        exfalso; omega
      · have _u := True.intro
        refine lv_iconst (v := 2) hx hb dX2_repeatText_38 (by decide) ?_
        refine lv_goto (tgt := 58) hx hb dX2_repeatText_39 (by decide) ?_
        have hFc := va_free (wc := (MW g0 g1 g2 y4 y5 th (n) (w) T P)) hD hS hA [0, 1, 2] rfl
        refine va_calli (va_runV (As := [.int 2]) (rest := []) ⟨hx, hb, hml, hown, hts⟩ (c_X2_goesWell l D E g0 g1 g2 y4 y5 s.heap.size (n) (w) th T P hn hw hT hPt (hD.weaken (fun _ _ _ _ => trivial)) 2 (2) (Eq.trans (show (2 : Int32).toInt = 2 by decide) (by omega))) (cwV 1 hts gX2_repeatText_X2_goesWell rfl rfl rfl (by decide +kernel) ⟨Nat.le_of_ble_eq_true rfl, Nat.le_of_ble_eq_true rfl⟩) ⟨cp.blind, va_recv hK hP (ci := 1) (q0 := 0) rfl rfl, fun U hU hW => ⟨rfl, cp.call hP hK hE hS hFc hU hW⟩⟩ rfl rfl hl.1 rfl (lv_room (Nat.le_of_ble_eq_true rfl)) dX2_repeatText_58 ⟨Nat.le_of_ble_eq_true rfl, Nat.le_of_ble_eq_true rfl⟩) hS (fun q _ h => hFc q h) hFc (fun v58 u t H1 locs1 ht hvm e58 hB hz1 hk1 hS => ?_)
        obtain ⟨hP1, hD1⟩ := hB
        rw [ht] at hP1
        obtain ⟨hP, hD⟩ := va_join (wr := []) (w1 := (MW g0 g1 g2 y4 y5 2 (n) (w) T P)) hP hD [0, 1, 2] [] rfl rfl (by decide) (by decide) hk1 hFc hP1 hD1
        have hP : va_P D vwCl (MW g0 g1 g2 y4 y5 2 (n) (w) T P) H1 := hP
        have hD : va_D (va_A (MW g0 g1 g2 y4 y5 th (n) (w) T P) s.heap.size) (MW g0 g1 g2 y4 y5 2 (n) (w) T P) := hD
        generalize H1 = H at hP hS ⊢
        generalize locs1 = locs at hS ⊢
        refine zb_if_ne (tgt := 66) hx hb dX2_repeatText_61 (by decide) e58 (fun c61 => ?_) (fun c61 => ?_)
        · have _u := True.intro
          exact absurd c61 (by decide)
        · have _u := True.intro
          refine lv_iconst (v := 0) hx hb dX2_repeatText_64 (by decide) ?_
          have hk0 : kRT n x1.toInt x2.toInt = 2 := by unfold kRT; (repeat' split) <;> omega
          refine W.widen (k := 0) (n := 0) (Nat.le_of_ble_eq_true rfl) (Nat.le_of_ble_eq_true rfl) ?_
          exact W.iret (v := 0) hx hb hr (fun t ht hW => ⟨⟨_, 2, rfl, ⟨(show (2 : Int32).toInt = 2 by decide).trans (by omega), fun h => absurd h (by omega)⟩, ⟨fun h => absurd h (by omega), fun _ => ⟨by rw [ht]; exact hP, hD⟩⟩⟩, hS.F ht⟩) hS.2.2 dX2_repeatText_65
    · have _u := True.intro
      refine lv_iconst (v := 1) hx hb dX2_repeatText_30 (by decide) ?_
      refine lv_goto (tgt := 58) hx hb dX2_repeatText_31 (by decide) ?_
      have hFc := va_free (wc := (MW g0 g1 g2 y4 y5 th (n) (w) T P)) hD hS hA [0, 1, 2] rfl
      refine va_calli (va_runV (As := [.int 1]) (rest := []) ⟨hx, hb, hml, hown, hts⟩ (c_X2_goesWell l D E g0 g1 g2 y4 y5 s.heap.size (n) (w) th T P hn hw hT hPt (hD.weaken (fun _ _ _ _ => trivial)) 1 (1) (Eq.trans (show (1 : Int32).toInt = 1 by decide) (by omega))) (cwV 1 hts gX2_repeatText_X2_goesWell rfl rfl rfl (by decide +kernel) ⟨Nat.le_of_ble_eq_true rfl, Nat.le_of_ble_eq_true rfl⟩) ⟨cp.blind, va_recv hK hP (ci := 1) (q0 := 0) rfl rfl, fun U hU hW => ⟨rfl, cp.call hP hK hE hS hFc hU hW⟩⟩ rfl rfl hl.1 rfl (lv_room (Nat.le_of_ble_eq_true rfl)) dX2_repeatText_58 ⟨Nat.le_of_ble_eq_true rfl, Nat.le_of_ble_eq_true rfl⟩) hS (fun q _ h => hFc q h) hFc (fun v58 u t H1 locs1 ht hvm e58 hB hz1 hk1 hS => ?_)
      obtain ⟨hP1, hD1⟩ := hB
      rw [ht] at hP1
      obtain ⟨hP, hD⟩ := va_join (wr := []) (w1 := (MW g0 g1 g2 y4 y5 1 (n) (w) T P)) hP hD [0, 1, 2] [] rfl rfl (by decide) (by decide) hk1 hFc hP1 hD1
      have hP : va_P D vwCl (MW g0 g1 g2 y4 y5 1 (n) (w) T P) H1 := hP
      have hD : va_D (va_A (MW g0 g1 g2 y4 y5 th (n) (w) T P) s.heap.size) (MW g0 g1 g2 y4 y5 1 (n) (w) T P) := hD
      generalize H1 = H at hP hS ⊢
      generalize locs1 = locs at hS ⊢
      refine zb_if_ne (tgt := 66) hx hb dX2_repeatText_61 (by decide) e58 (fun c61 => ?_) (fun c61 => ?_)
      · have _u := True.intro
        exact absurd c61 (by decide)
      · have _u := True.intro
        refine lv_iconst (v := 0) hx hb dX2_repeatText_64 (by decide) ?_
        have hk0 : kRT n x1.toInt x2.toInt = 1 := by unfold kRT; (repeat' split) <;> omega
        refine W.widen (k := 0) (n := 0) (Nat.le_of_ble_eq_true rfl) (Nat.le_of_ble_eq_true rfl) ?_
        exact W.iret (v := 0) hx hb hr (fun t ht hW => ⟨⟨_, 1, rfl, ⟨(show (1 : Int32).toInt = 1 by decide).trans (by omega), fun h => absurd h (by omega)⟩, ⟨fun h => absurd h (by omega), fun _ => ⟨by rw [ht]; exact hP, hD⟩⟩⟩, hS.F ht⟩) hS.2.2 dX2_repeatText_65
  · have _u := True.intro
    refine lv_iload_n hx hb dX2_repeatText_4 rfl (lv_at hl 1 rfl) ?_
    refine z_i2l hx hb dX2_repeatText_5 rfl (fun v5 e5 => ?_)
    refine lv_iload_n hx hb dX2_repeatText_6 rfl (lv_at hl 2 rfl) ?_
    refine z_i2l hx hb dX2_repeatText_7 rfl (fun v7 e7 => ?_)
    refine z_ladd hx hb dX2_repeatText_8 e5 e7 (by omega) (by omega) (fun v8 e8 => ?_)
    refine lv_aload_n hx hb dX2_repeatText_9 rfl (lv_at hl 0 rfl) ?_
    refine va_get (D := D) (ci := 1) (v := .int (nI n)) (C := RX2) (T := TX2) (N := 5) hx hb hts hin0 hown hK hP 0 rfl rfl 3 (by decide) hf_n (fun _ h9 => h9) rfl dX2_repeatText_10 ?_
    refine z_i2l hx hb dX2_repeatText_13 inn (fun v13 e13 => ?_)
    refine z_lcmp hx hb dX2_repeatText_14 e8 e13 (fun v14 z14 e14 f14 g14 => ?_)
    refine z_if_gt (tgt := 22) hx hb dX2_repeatText_15 (by decide) e14 (fun c15 => ?_) (fun c15 => ?_)
    · have _u := True.intro
      refine lv_iconst (v := 0) hx hb dX2_repeatText_22 (by decide) ?_
      refine lv_istore_n (lv' := [(3, .int 0), (0, .ref g0), (1, .int x1), (2, .int x2)]) hx hb dX2_repeatText_23 rfl hl (by decide) rfl (fun ls hl => ?_)
      refine lv_aload_n hx hb dX2_repeatText_24 rfl (lv_at hl 1 rfl) ?_
      refine lv_iload_n hx hb dX2_repeatText_25 rfl (lv_at hl 3 rfl) ?_
      refine lv_iconst (v := 1) hx hb dX2_repeatText_26 (by decide) ?_
      refine z_icmp_ge (tgt := 34) hx hb dX2_repeatText_27 (by decide) rfl (show (1 : Int32).toInt = 1 by decide) (fun c27 => ?_) (fun c27 => ?_)
      · have _u := True.intro
        refine lv_iload_n hx hb dX2_repeatText_34 rfl (lv_at hl 0 rfl) ?_
        refine z_if_ne (tgt := 42) hx hb dX2_repeatText_35 (by decide) (show (0 : Int32).toInt = 0 by decide) (fun c35 => ?_) (fun c35 => ?_)
        · have _u := True.intro
          exfalso; omega
        · have _u := True.intro
          refine lv_iconst (v := 2) hx hb dX2_repeatText_38 (by decide) ?_
          refine lv_goto (tgt := 58) hx hb dX2_repeatText_39 (by decide) ?_
          have hFc := va_free (wc := (MW g0 g1 g2 y4 y5 th (n) (w) T P)) hD hS hA [0, 1, 2] rfl
          refine va_calli (va_runV (As := [.int 2]) (rest := []) ⟨hx, hb, hml, hown, hts⟩ (c_X2_goesWell l D E g0 g1 g2 y4 y5 s.heap.size (n) (w) th T P hn hw hT hPt (hD.weaken (fun _ _ _ _ => trivial)) 2 (2) (Eq.trans (show (2 : Int32).toInt = 2 by decide) (by omega))) (cwV 1 hts gX2_repeatText_X2_goesWell rfl rfl rfl (by decide +kernel) ⟨Nat.le_of_ble_eq_true rfl, Nat.le_of_ble_eq_true rfl⟩) ⟨cp.blind, va_recv hK hP (ci := 1) (q0 := 0) rfl rfl, fun U hU hW => ⟨rfl, cp.call hP hK hE hS hFc hU hW⟩⟩ rfl rfl hl.1 rfl (lv_room (Nat.le_of_ble_eq_true rfl)) dX2_repeatText_58 ⟨Nat.le_of_ble_eq_true rfl, Nat.le_of_ble_eq_true rfl⟩) hS (fun q _ h => hFc q h) hFc (fun v58 u t H1 locs1 ht hvm e58 hB hz1 hk1 hS => ?_)
          obtain ⟨hP1, hD1⟩ := hB
          rw [ht] at hP1
          obtain ⟨hP, hD⟩ := va_join (wr := []) (w1 := (MW g0 g1 g2 y4 y5 2 (n) (w) T P)) hP hD [0, 1, 2] [] rfl rfl (by decide) (by decide) hk1 hFc hP1 hD1
          have hP : va_P D vwCl (MW g0 g1 g2 y4 y5 2 (n) (w) T P) H1 := hP
          have hD : va_D (va_A (MW g0 g1 g2 y4 y5 th (n) (w) T P) s.heap.size) (MW g0 g1 g2 y4 y5 2 (n) (w) T P) := hD
          generalize H1 = H at hP hS ⊢
          generalize locs1 = locs at hS ⊢
          refine zb_if_ne (tgt := 66) hx hb dX2_repeatText_61 (by decide) e58 (fun c61 => ?_) (fun c61 => ?_)
          · have _u := True.intro
            exact absurd c61 (by decide)
          · have _u := True.intro
            refine lv_iconst (v := 0) hx hb dX2_repeatText_64 (by decide) ?_
            have hk0 : kRT n x1.toInt x2.toInt = 2 := by unfold kRT; (repeat' split) <;> omega
            refine W.widen (k := 0) (n := 0) (Nat.le_of_ble_eq_true rfl) (Nat.le_of_ble_eq_true rfl) ?_
            exact W.iret (v := 0) hx hb hr (fun t ht hW => ⟨⟨_, 2, rfl, ⟨(show (2 : Int32).toInt = 2 by decide).trans (by omega), fun h => absurd h (by omega)⟩, ⟨fun h => absurd h (by omega), fun _ => ⟨by rw [ht]; exact hP, hD⟩⟩⟩, hS.F ht⟩) hS.2.2 dX2_repeatText_65
      · have _u := True.intro
        refine lv_iconst (v := 1) hx hb dX2_repeatText_30 (by decide) ?_
        refine lv_goto (tgt := 58) hx hb dX2_repeatText_31 (by decide) ?_
        have hFc := va_free (wc := (MW g0 g1 g2 y4 y5 th (n) (w) T P)) hD hS hA [0, 1, 2] rfl
        refine va_calli (va_runV (As := [.int 1]) (rest := []) ⟨hx, hb, hml, hown, hts⟩ (c_X2_goesWell l D E g0 g1 g2 y4 y5 s.heap.size (n) (w) th T P hn hw hT hPt (hD.weaken (fun _ _ _ _ => trivial)) 1 (1) (Eq.trans (show (1 : Int32).toInt = 1 by decide) (by omega))) (cwV 1 hts gX2_repeatText_X2_goesWell rfl rfl rfl (by decide +kernel) ⟨Nat.le_of_ble_eq_true rfl, Nat.le_of_ble_eq_true rfl⟩) ⟨cp.blind, va_recv hK hP (ci := 1) (q0 := 0) rfl rfl, fun U hU hW => ⟨rfl, cp.call hP hK hE hS hFc hU hW⟩⟩ rfl rfl hl.1 rfl (lv_room (Nat.le_of_ble_eq_true rfl)) dX2_repeatText_58 ⟨Nat.le_of_ble_eq_true rfl, Nat.le_of_ble_eq_true rfl⟩) hS (fun q _ h => hFc q h) hFc (fun v58 u t H1 locs1 ht hvm e58 hB hz1 hk1 hS => ?_)
        obtain ⟨hP1, hD1⟩ := hB
        rw [ht] at hP1
        obtain ⟨hP, hD⟩ := va_join (wr := []) (w1 := (MW g0 g1 g2 y4 y5 1 (n) (w) T P)) hP hD [0, 1, 2] [] rfl rfl (by decide) (by decide) hk1 hFc hP1 hD1
        have hP : va_P D vwCl (MW g0 g1 g2 y4 y5 1 (n) (w) T P) H1 := hP
        have hD : va_D (va_A (MW g0 g1 g2 y4 y5 th (n) (w) T P) s.heap.size) (MW g0 g1 g2 y4 y5 1 (n) (w) T P) := hD
        generalize H1 = H at hP hS ⊢
        generalize locs1 = locs at hS ⊢
        refine zb_if_ne (tgt := 66) hx hb dX2_repeatText_61 (by decide) e58 (fun c61 => ?_) (fun c61 => ?_)
        · have _u := True.intro
          exact absurd c61 (by decide)
        · have _u := True.intro
          refine lv_iconst (v := 0) hx hb dX2_repeatText_64 (by decide) ?_
          have hk0 : kRT n x1.toInt x2.toInt = 1 := by unfold kRT; (repeat' split) <;> omega
          refine W.widen (k := 0) (n := 0) (Nat.le_of_ble_eq_true rfl) (Nat.le_of_ble_eq_true rfl) ?_
          exact W.iret (v := 0) hx hb hr (fun t ht hW => ⟨⟨_, 1, rfl, ⟨(show (1 : Int32).toInt = 1 by decide).trans (by omega), fun h => absurd h (by omega)⟩, ⟨fun h => absurd h (by omega), fun _ => ⟨by rw [ht]; exact hP, hD⟩⟩⟩, hS.F ht⟩) hS.2.2 dX2_repeatText_65
    · have _u := True.intro
      refine lv_iconst (v := 1) hx hb dX2_repeatText_18 (by decide) ?_
      refine lv_goto (tgt := 23) hx hb dX2_repeatText_19 (by decide) ?_
      refine lv_istore_n (lv' := [(3, .int 1), (0, .ref g0), (1, .int x1), (2, .int x2)]) hx hb dX2_repeatText_23 rfl hl (by decide) rfl (fun ls hl => ?_)
      refine lv_aload_n hx hb dX2_repeatText_24 rfl (lv_at hl 1 rfl) ?_
      refine lv_iload_n hx hb dX2_repeatText_25 rfl (lv_at hl 3 rfl) ?_
      refine lv_iconst (v := 1) hx hb dX2_repeatText_26 (by decide) ?_
      refine z_icmp_ge (tgt := 34) hx hb dX2_repeatText_27 (by decide) rfl (show (1 : Int32).toInt = 1 by decide) (fun c27 => ?_) (fun c27 => ?_)
      · have _u := True.intro
        refine lv_iload_n hx hb dX2_repeatText_34 rfl (lv_at hl 0 rfl) ?_
        refine z_if_ne (tgt := 42) hx hb dX2_repeatText_35 (by decide) (show (1 : Int32).toInt = 1 by decide) (fun c35 => ?_) (fun c35 => ?_)
        · have _u := True.intro
          refine lv_aload_n hx hb dX2_repeatText_42 rfl (lv_at hl 1 rfl) ?_
          refine va_get (D := D) (ci := 1) (v := .int (nI n)) (C := RX2) (T := TX2) (N := 5) hx hb hts hin0 hown hK hP 0 rfl rfl 3 (by decide) hf_n (fun _ h9 => h9) rfl dX2_repeatText_43 ?_
          refine lv_iload_n hx hb dX2_repeatText_46 rfl (lv_at hl 3 rfl) ?_
          refine z_iadd hx hb dX2_repeatText_47 inn rfl (by omega) (by omega) (fun v47 e47 => ?_)
          refine lv_bipush (v := 64) hx hb dX2_repeatText_48 (by decide) ?_
          refine z_icmp_le (tgt := 57) hx hb dX2_repeatText_50 (by decide) e47 (show (64 : Int32).toInt = 64 by decide) (fun c50 => ?_) (fun c50 => ?_)
          · have _u := True.intro
            refine lv_iconst (v := 0) hx hb dX2_repeatText_57 (by decide) ?_
            have hFc := va_free (wc := (MW g0 g1 g2 y4 y5 th (n) (w) T P)) hD hS hA [0, 1, 2] rfl
            refine va_calli (va_runV (As := [.int 0]) (rest := []) ⟨hx, hb, hml, hown, hts⟩ (c_X2_goesWell l D E g0 g1 g2 y4 y5 s.heap.size (n) (w) th T P hn hw hT hPt (hD.weaken (fun _ _ _ _ => trivial)) 0 (0) (Eq.trans (show (0 : Int32).toInt = 0 by decide) (by omega))) (cwV 1 hts gX2_repeatText_X2_goesWell rfl rfl rfl (by decide +kernel) ⟨Nat.le_of_ble_eq_true rfl, Nat.le_of_ble_eq_true rfl⟩) ⟨cp.blind, va_recv hK hP (ci := 1) (q0 := 0) rfl rfl, fun U hU hW => ⟨rfl, cp.call hP hK hE hS hFc hU hW⟩⟩ rfl rfl hl.1 rfl (lv_room (Nat.le_of_ble_eq_true rfl)) dX2_repeatText_58 ⟨Nat.le_of_ble_eq_true rfl, Nat.le_of_ble_eq_true rfl⟩) hS (fun q _ h => hFc q h) hFc (fun v58 u t H1 locs1 ht hvm e58 hB hz1 hk1 hS => ?_)
            obtain ⟨hP1, hD1⟩ := hB
            rw [ht] at hP1
            obtain ⟨hP, hD⟩ := va_join (wr := []) (w1 := (MW g0 g1 g2 y4 y5 0 (n) (w) T P)) hP hD [0, 1, 2] [] rfl rfl (by decide) (by decide) hk1 hFc hP1 hD1
            have hP : va_P D vwCl (MW g0 g1 g2 y4 y5 0 (n) (w) T P) H1 := hP
            have hD : va_D (va_A (MW g0 g1 g2 y4 y5 th (n) (w) T P) s.heap.size) (MW g0 g1 g2 y4 y5 0 (n) (w) T P) := hD
            generalize H1 = H at hP hS ⊢
            generalize locs1 = locs at hS ⊢
            refine zb_if_ne (tgt := 66) hx hb dX2_repeatText_61 (by decide) e58 (fun c61 => ?_) (fun c61 => ?_)
            · have _u := True.intro
              refine lv_iconst (v := 0) hx hb dX2_repeatText_66 (by decide) ?_
              refine lv_istore (lv' := [(4, .int 0), (3, .int 1), (0, .ref g0), (1, .int x1), (2, .int x2)]) hx hb dX2_repeatText_67 hl (by decide) rfl (fun ls hl => ?_)
              have lp69 : ∀ (nf : Nat) (j : Nat) (x4 : Int32) (nk : Nat) (Tk : Nat → Int32), x2.toInt.toNat - j < nf → (j ≤ x2.toInt.toNat) → (nk = n + j) → (Tk = va_cpy T T x1.toInt.toNat n j) → x4.toInt = (j : Int) → ∀ (H : Heap) (locs : List Loc), va_P D vwCl (MW g0 g1 g2 y4 y5 0 (nk) (w) Tk P) H → va_D (va_A (MW g0 g1 g2 y4 y5 th (n) (w) T P) s.heap.size) (MW g0 g1 g2 y4 y5 0 (nk) (w) Tk P) → va_S (va_A (MW g0 g1 g2 y4 y5 th (n) (w) T P) s.heap.size) s.heap H locs → ∀ (ls : Array Slot), lv_has ls 5 [(0, .ref g0), (1, .int x1), (2, .int x2), (4, .int x4)] → W p l e (headSpec wsX2_repeatText ({ frames := 1, cells := 0, slots := 0, locals := 21 })).room s m [.ref g0, .int x1, .int x2].toArray below meth c H locs 0 0 (MQ below (va_Qi (fun (r : Int32) (th2 : Int32) => th2.toInt = ((kRT n x1.toInt x2.toInt : Nat) : Int) ∧ (kRT n x1.toInt x2.toInt = 0 → r.toInt = ((n + x2.toInt.toNat : Nat) : Int))) (fun (th2 : Int32) t => (kRT n x1.toInt x2.toInt = 0 → va_P D vwCl (MW g0 g1 g2 y4 y5 th2 (n + x2.toInt.toNat) (w) (va_cpy T T x1.toInt.toNat n x2.toInt.toNat) P) t.heap ∧ va_D (va_A (MW g0 g1 g2 y4 y5 th (n) (w) T P) s.heap.size) (MW g0 g1 g2 y4 y5 th2 (n + x2.toInt.toNat) (w) (va_cpy T T x1.toInt.toNat n x2.toInt.toNat) P)) ∧ (¬ kRT n x1.toInt x2.toInt = 0 → va_P D vwCl (MW g0 g1 g2 y4 y5 th2 (n) (w) T P) t.heap ∧ va_D (va_A (MW g0 g1 g2 y4 y5 th (n) (w) T P) s.heap.size) (MW g0 g1 g2 y4 y5 th2 (n) (w) T P))) (va_A (MW g0 g1 g2 y4 y5 th (n) (w) T P) s.heap.size)) [.ref g0, .int x1, .int x2].toArray s 0 0 (va_A (MW g0 g1 g2 y4 y5 th (n) (w) T P) s.heap.size)) (F0 m 69 ls []) := by
                intro nf
                induction nf with
                | zero => intros; omega
                | succ nf ih69 =>
                  intro j x4 nk Tk hnf hj hnk hTk e_x4 H locs hP hD hS ls hl
                  refine lv_iload hx hb dX2_repeatText_69 (lv_at hl 3 rfl) ?_
                  refine lv_iload_n hx hb dX2_repeatText_71 rfl (lv_at hl 2 rfl) ?_
                  refine z_icmp_ge (tgt := 109) hx hb dX2_repeatText_72 (by decide) e_x4 rfl (fun c72 => ?_) (fun c72 => ?_)
                  · have _u := True.intro
                    refine lv_aload_n hx hb dX2_repeatText_109 rfl (lv_at hl 0 rfl) ?_
                    refine va_get (D := D) (ci := 1) (v := .int (nI nk)) (C := RX2) (T := TX2) (N := 5) hx hb hts hin0 hown hK hP 0 rfl rfl 3 (by decide) hf_n (fun _ h9 => h9) rfl dX2_repeatText_110 ?_
                    rw [hTk, hnk, show j = x2.toInt.toNat by omega] at hP hD
                    have hk0 : kRT n x1.toInt x2.toInt = 0 := by unfold kRT; (repeat' split) <;> omega
                    refine W.widen (k := 0) (n := 0) (Nat.le_of_ble_eq_true rfl) (Nat.le_of_ble_eq_true rfl) ?_
                    exact W.iret (v := (nI nk)) hx hb hr (fun t ht hW => ⟨⟨_, 0, rfl, ⟨(show (0 : Int32).toInt = 0 by decide).trans (by omega), fun _ => (Eq.trans (nI_toInt (n := nk) (by omega)) (by omega))⟩, ⟨fun _ => ⟨by rw [ht]; exact hP, hD⟩, fun h => absurd hk0 h⟩⟩, hS.F ht⟩) hS.2.2 dX2_repeatText_113
                  · have _u := True.intro
                    refine lv_aload_n hx hb dX2_repeatText_75 rfl (lv_at hl 0 rfl) ?_
                    refine va_get (D := D) (ci := 1) (v := .ref g1) (C := RX2) (T := TX2) (N := 5) hx hb hts hin0 hown hK hP 0 rfl rfl 1 (by decide) hf_text (fun _ h9 => h9) rfl dX2_repeatText_76 ?_
                    refine lv_aload_n hx hb dX2_repeatText_79 rfl (lv_at hl 0 rfl) ?_
                    refine va_get (D := D) (ci := 1) (v := .int (nI nk)) (C := RX2) (T := TX2) (N := 5) hx hb hts hin0 hown hK hP 0 rfl rfl 3 (by decide) hf_n (fun _ h9 => h9) rfl dX2_repeatText_80 ?_
                    refine lv_aload_n hx hb dX2_repeatText_83 rfl (lv_at hl 0 rfl) ?_
                    refine va_get (D := D) (ci := 1) (v := .ref g1) (C := RX2) (T := TX2) (N := 5) hx hb hts hin0 hown hK hP 0 rfl rfl 1 (by decide) hf_text (fun _ h9 => h9) rfl dX2_repeatText_84 ?_
                    refine lv_iload_n hx hb dX2_repeatText_87 rfl (lv_at hl 1 rfl) ?_
                    refine lv_iload hx hb dX2_repeatText_88 (lv_at hl 3 rfl) ?_
                    refine z_iadd hx hb dX2_repeatText_90 rfl e_x4 (by omega) (by omega) (fun v90 e90 => ?_)
                    refine z_iald hx hb hK hP 1 0 rfl rfl (x1.toInt.toNat + j) e90 (by omega) (by omega) dX2_repeatText_91 ?_
                    refine z_iast hx hb hK hP hD hS 1 0 rfl rfl (nk) (nI_toInt (n := nk) (by omega)) (by omega) (by omega) dX2_repeatText_92 (fun H locs hP hD hS => ?_)
                    have hP : va_P D vwCl (MW g0 g1 g2 y4 y5 0 (nk) (w) (upd Tk (nk) (Tk (x1.toInt.toNat + j))) P) H := hP
                    have hD : va_D (va_A (MW g0 g1 g2 y4 y5 th (n) (w) T P) s.heap.size) (MW g0 g1 g2 y4 y5 0 (nk) (w) (upd Tk (nk) (Tk (x1.toInt.toNat + j))) P) := hD
                    refine lv_aload_n hx hb dX2_repeatText_93 rfl (lv_at hl 0 rfl) ?_
                    refine lv_dup hx hb dX2_repeatText_94 rfl ?_
                    refine va_get (D := D) (ci := 1) (v := .int (nI nk)) (C := RX2) (T := TX2) (N := 5) hx hb hts hin0 hown hK hP 0 rfl rfl 3 (by decide) hf_n (fun _ h9 => h9) rfl dX2_repeatText_95 ?_
                    refine lv_iconst (v := 1) hx hb dX2_repeatText_98 (by decide) ?_
                    refine z_iadd hx hb dX2_repeatText_99 (nI_toInt (n := nk) (by omega)) (show (1 : Int32).toInt = 1 by decide) (by omega) (by omega) (fun v99 e99 => ?_)
                    refine lv_as (y := nI (nk + 1)) (nIe (Eq.trans e99 (by omega))) ?_
                    refine va_put (D := D) (ci := 1) (v := .int (nI (nk + 1))) (ty := .int) (C := RX2) (T := TX2) (N := 5) hx hb hts hin0 tyX2 tyX2_ok nmX2 hown hK hP hD hS 0 rfl rfl 3 (by decide) hf_n (fun _ h9 => h9) rfl (by decide +kernel) rfl rfl (Nat.le_of_ble_eq_true rfl) dX2_repeatText_100 (fun H locs hP hD hS => ?_)
                    have hP : va_P D vwCl (MW g0 g1 g2 y4 y5 0 (nk + 1) (w) (upd Tk (nk) (Tk (x1.toInt.toNat + j))) P) H := hP
                    have hD : va_D (va_A (MW g0 g1 g2 y4 y5 th (n) (w) T P) s.heap.size) (MW g0 g1 g2 y4 y5 0 (nk + 1) (w) (upd Tk (nk) (Tk (x1.toInt.toNat + j))) P) := hD
                    refine z_iinc (k := 3) (lv' := fun v => [(4, .int v), (0, .ref g0), (1, .int x1), (2, .int x2)]) hx hb dX2_repeatText_103 hl rfl e_x4 (by decide) (by omega) (by omega) (by decide) (fun _ => rfl) (fun v103 ls e103 hl => ?_)
                    refine lv_goto (tgt := 69) hx hb dX2_repeatText_106 (by decide) ?_
                    exact ih69 (j + 1) v103 (nk + 1) (upd Tk (nk) (Tk (x1.toInt.toNat + j))) (by omega) (by omega) (by omega) (by rw [hTk, hnk]; exact cpy_s (pk_cpy_out (by omega))) (Eq.trans e103 (by omega)) _ _ hP hD hS _ (lv_sub hl [1, 2, 3, 0] rfl)
              exact lp69 ((x2.toInt.toNat - 0) + 1) (0) 0 n T (by omega) (by omega) (by omega) (cpy_0.symm) (Eq.trans (show (0 : Int32).toInt = 0 by decide) (by omega)) _ _ hP hD hS _ (lv_sub hl [2, 3, 4, 0] rfl)
            · have _u := True.intro
              exact absurd c61 (by decide)
          · have _u := True.intro
            refine lv_iconst (v := 3) hx hb dX2_repeatText_53 (by decide) ?_
            refine lv_goto (tgt := 58) hx hb dX2_repeatText_54 (by decide) ?_
            have hFc := va_free (wc := (MW g0 g1 g2 y4 y5 th (n) (w) T P)) hD hS hA [0, 1, 2] rfl
            refine va_calli (va_runV (As := [.int 3]) (rest := []) ⟨hx, hb, hml, hown, hts⟩ (c_X2_goesWell l D E g0 g1 g2 y4 y5 s.heap.size (n) (w) th T P hn hw hT hPt (hD.weaken (fun _ _ _ _ => trivial)) 3 (3) (Eq.trans (show (3 : Int32).toInt = 3 by decide) (by omega))) (cwV 1 hts gX2_repeatText_X2_goesWell rfl rfl rfl (by decide +kernel) ⟨Nat.le_of_ble_eq_true rfl, Nat.le_of_ble_eq_true rfl⟩) ⟨cp.blind, va_recv hK hP (ci := 1) (q0 := 0) rfl rfl, fun U hU hW => ⟨rfl, cp.call hP hK hE hS hFc hU hW⟩⟩ rfl rfl hl.1 rfl (lv_room (Nat.le_of_ble_eq_true rfl)) dX2_repeatText_58 ⟨Nat.le_of_ble_eq_true rfl, Nat.le_of_ble_eq_true rfl⟩) hS (fun q _ h => hFc q h) hFc (fun v58 u t H1 locs1 ht hvm e58 hB hz1 hk1 hS => ?_)
            obtain ⟨hP1, hD1⟩ := hB
            rw [ht] at hP1
            obtain ⟨hP, hD⟩ := va_join (wr := []) (w1 := (MW g0 g1 g2 y4 y5 3 (n) (w) T P)) hP hD [0, 1, 2] [] rfl rfl (by decide) (by decide) hk1 hFc hP1 hD1
            have hP : va_P D vwCl (MW g0 g1 g2 y4 y5 3 (n) (w) T P) H1 := hP
            have hD : va_D (va_A (MW g0 g1 g2 y4 y5 th (n) (w) T P) s.heap.size) (MW g0 g1 g2 y4 y5 3 (n) (w) T P) := hD
            generalize H1 = H at hP hS ⊢
            generalize locs1 = locs at hS ⊢
            refine zb_if_ne (tgt := 66) hx hb dX2_repeatText_61 (by decide) e58 (fun c61 => ?_) (fun c61 => ?_)
            · have _u := True.intro
              exact absurd c61 (by decide)
            · have _u := True.intro
              refine lv_iconst (v := 0) hx hb dX2_repeatText_64 (by decide) ?_
              have hk0 : kRT n x1.toInt x2.toInt = 3 := by unfold kRT; (repeat' split) <;> omega
              refine W.widen (k := 0) (n := 0) (Nat.le_of_ble_eq_true rfl) (Nat.le_of_ble_eq_true rfl) ?_
              exact W.iret (v := 0) hx hb hr (fun t ht hW => ⟨⟨_, 3, rfl, ⟨(show (3 : Int32).toInt = 3 by decide).trans (by omega), fun h => absurd h (by omega)⟩, ⟨fun h => absurd h (by omega), fun _ => ⟨by rw [ht]; exact hP, hD⟩⟩⟩, hS.F ht⟩) hS.2.2 dX2_repeatText_65
        · have _u := True.intro
          exfalso; omega
      · have _u := True.intro
        refine lv_iconst (v := 1) hx hb dX2_repeatText_30 (by decide) ?_
        refine lv_goto (tgt := 58) hx hb dX2_repeatText_31 (by decide) ?_
        have hFc := va_free (wc := (MW g0 g1 g2 y4 y5 th (n) (w) T P)) hD hS hA [0, 1, 2] rfl
        refine va_calli (va_runV (As := [.int 1]) (rest := []) ⟨hx, hb, hml, hown, hts⟩ (c_X2_goesWell l D E g0 g1 g2 y4 y5 s.heap.size (n) (w) th T P hn hw hT hPt (hD.weaken (fun _ _ _ _ => trivial)) 1 (1) (Eq.trans (show (1 : Int32).toInt = 1 by decide) (by omega))) (cwV 1 hts gX2_repeatText_X2_goesWell rfl rfl rfl (by decide +kernel) ⟨Nat.le_of_ble_eq_true rfl, Nat.le_of_ble_eq_true rfl⟩) ⟨cp.blind, va_recv hK hP (ci := 1) (q0 := 0) rfl rfl, fun U hU hW => ⟨rfl, cp.call hP hK hE hS hFc hU hW⟩⟩ rfl rfl hl.1 rfl (lv_room (Nat.le_of_ble_eq_true rfl)) dX2_repeatText_58 ⟨Nat.le_of_ble_eq_true rfl, Nat.le_of_ble_eq_true rfl⟩) hS (fun q _ h => hFc q h) hFc (fun v58 u t H1 locs1 ht hvm e58 hB hz1 hk1 hS => ?_)
        obtain ⟨hP1, hD1⟩ := hB
        rw [ht] at hP1
        obtain ⟨hP, hD⟩ := va_join (wr := []) (w1 := (MW g0 g1 g2 y4 y5 1 (n) (w) T P)) hP hD [0, 1, 2] [] rfl rfl (by decide) (by decide) hk1 hFc hP1 hD1
        have hP : va_P D vwCl (MW g0 g1 g2 y4 y5 1 (n) (w) T P) H1 := hP
        have hD : va_D (va_A (MW g0 g1 g2 y4 y5 th (n) (w) T P) s.heap.size) (MW g0 g1 g2 y4 y5 1 (n) (w) T P) := hD
        generalize H1 = H at hP hS ⊢
        generalize locs1 = locs at hS ⊢
        refine zb_if_ne (tgt := 66) hx hb dX2_repeatText_61 (by decide) e58 (fun c61 => ?_) (fun c61 => ?_)
        · have _u := True.intro
          exact absurd c61 (by decide)
        · have _u := True.intro
          refine lv_iconst (v := 0) hx hb dX2_repeatText_64 (by decide) ?_
          have hk0 : kRT n x1.toInt x2.toInt = 1 := by unfold kRT; (repeat' split) <;> omega
          refine W.widen (k := 0) (n := 0) (Nat.le_of_ble_eq_true rfl) (Nat.le_of_ble_eq_true rfl) ?_
          exact W.iret (v := 0) hx hb hr (fun t ht hW => ⟨⟨_, 1, rfl, ⟨(show (1 : Int32).toInt = 1 by decide).trans (by omega), fun h => absurd h (by omega)⟩, ⟨fun h => absurd h (by omega), fun _ => ⟨by rw [ht]; exact hP, hD⟩⟩⟩, hS.F ht⟩) hS.2.2 dX2_repeatText_65

set_option maxHeartbeats 4000000 in
set_option maxRecDepth 100000 in
theorem c_X2_setText (l : Launch) (D : va_G) (E : Nat × Nat × Nat) (g0 g1 g2 : Nat) (y4 y5 : ClassId) (sz n w : Nat) (th : Int32) (T P : Nat → Int32) (hn : n ≤ 64) (hw : w ≤ 24) (hT : SymF T) (hPt : SymF P) (hD0 : va_D (fun _ => True) (MW g0 g1 g2 y4 y5 th (n) (w) T P)) (x1 : Int32) (x2 : Int32) : Met l yX2_setText wsX2_setText ({ frames := 1, cells := 0, slots := 0, locals := 21 }) (va_Pc [.ref g0, .int x1, .int x2] (cp D (MW g0 g1 g2 y4 y5 th (n) (w) T P) (MT y4 y5) E (va_A (MW g0 g1 g2 y4 y5 th (n) (w) T P) sz) sz)) (va_Qi (fun (r : Int32) (th2 : Int32) => th2.toInt = ((kST n x1.toInt x2.toInt : Nat) : Int) ∧ (kST n x1.toInt x2.toInt = 0 → r.toInt = (T x1.toInt.toNat).toInt)) (fun (th2 : Int32) t => (kST n x1.toInt x2.toInt = 0 → va_P D vwCl (MW g0 g1 g2 y4 y5 th2 (n) (w) (upd T (x1.toInt.toNat) x2) P) t.heap ∧ va_D (va_A (MW g0 g1 g2 y4 y5 th (n) (w) T P) sz) (MW g0 g1 g2 y4 y5 th2 (n) (w) (upd T (x1.toInt.toNat) x2) P)) ∧ (¬ kST n x1.toInt x2.toInt = 0 → va_P D vwCl (MW g0 g1 g2 y4 y5 th2 (n) (w) T P) t.heap ∧ va_D (va_A (MW g0 g1 g2 y4 y5 th (n) (w) T P) sz) (MW g0 g1 g2 y4 y5 th2 (n) (w) T P))) (va_A (MW g0 g1 g2 y4 y5 th (n) (w) T P) sz)) 0 0 (va_A (MW g0 g1 g2 y4 y5 th (n) (w) T P) sz) := by
  refine Met.ofW (cc := cX2_setText) (maxL := 4) (ret := (some .int)) (by decide) rfl ?_
  intro p e s m args below meth c s₁ B hml hv
  obtain ⟨rfl, hsz, hP, hK, hE⟩ := hv
  have hx := B.exec
  have hb := B.bytes
  have hr := B.returns
  have hts := atoms_spec (ws := wsX2_setText) B.pre
  have hown : s.vm.findClass RX2 = some m.cls := findClass_of_methodNamed B.named
  have hlocks := B.notSynchronized
  have hsz : s.heap.size = sz := hsz
  subst hsz
  have hD := hD0.self (sz := s.heap.size)
  have hA : ∀ q : Nat, s.heap.size ≤ q → (va_A (MW g0 g1 g2 y4 y5 th (n) (w) T P) s.heap.size) q := fun q h => Or.inr h
  have hS : va_S (va_A (MW g0 g1 g2 y4 y5 th (n) (w) T P) s.heap.size) s.heap s.heap [] := va_S.rf
  have inn : (nI n).toInt = (n : Int) := nI_toInt (by omega)
  have iww : (nI w).toInt = (w : Int) := nI_toInt (by omega)
  have hf_n := hts (.fieldLink RX2 24 "BlankMatcherModel" "n" "I") (by decide +kernel)
  have hf_text := hts (.fieldLink RX2 7 "BlankMatcherModel" "text" "[I") (by decide +kernel)
  have hpl : pl n w = n + 1 - w := rfl
  have hin0 : ∀ w ∈ wsX20, w ∈ wsX2_setText := by decide +kernel
  have g_x1 := rg x1
  have g_x2 := rg x2
  have hl := lv_entry ([.ref g0, .int x1, .int x2]) (n := 4) (Nat.le_of_ble_eq_true rfl)
  rw [lg_entry_eq]
  generalize (lg_sl ([.ref g0, .int x1, .int x2]) ++ List.replicate (4 - (lg_sl ([.ref g0, .int x1, .int x2])).length) Slot.unset).toArray = ls at hl ⊢
  have hl : lv_has ls 4 [(0, .ref g0), (1, .int x1), (2, .int x2)] := hl
  refine lv_aload_n hx hb dX2_setText_0 rfl (lv_at hl 0 rfl) ?_
  refine lv_iload_n hx hb dX2_setText_1 rfl (lv_at hl 1 rfl) ?_
  refine z_if_lt (tgt := 13) hx hb dX2_setText_2 (by decide) rfl (fun c2 => ?_) (fun c2 => ?_)
  · have _u := True.intro
    refine lv_iconst (v := 1) hx hb dX2_setText_13 (by decide) ?_
    refine lv_goto (tgt := 29) hx hb dX2_setText_14 (by decide) ?_
    have hFc := va_free (wc := (MW g0 g1 g2 y4 y5 th (n) (w) T P)) hD hS hA [0, 1, 2] rfl
    refine va_calli (va_runV (As := [.int 1]) (rest := []) ⟨hx, hb, hml, hown, hts⟩ (c_X2_goesWell l D E g0 g1 g2 y4 y5 s.heap.size (n) (w) th T P hn hw hT hPt (hD.weaken (fun _ _ _ _ => trivial)) 1 (1) (Eq.trans (show (1 : Int32).toInt = 1 by decide) (by omega))) (cwV 1 hts gX2_setText_X2_goesWell rfl rfl rfl (by decide +kernel) ⟨Nat.le_of_ble_eq_true rfl, Nat.le_of_ble_eq_true rfl⟩) ⟨cp.blind, va_recv hK hP (ci := 1) (q0 := 0) rfl rfl, fun U hU hW => ⟨rfl, cp.call hP hK hE hS hFc hU hW⟩⟩ rfl rfl hl.1 rfl (lv_room (Nat.le_of_ble_eq_true rfl)) dX2_setText_29 ⟨Nat.le_of_ble_eq_true rfl, Nat.le_of_ble_eq_true rfl⟩) hS (fun q _ h => hFc q h) hFc (fun v29 u t H1 locs1 ht hvm e29 hB hz1 hk1 hS => ?_)
    obtain ⟨hP1, hD1⟩ := hB
    rw [ht] at hP1
    obtain ⟨hP, hD⟩ := va_join (wr := []) (w1 := (MW g0 g1 g2 y4 y5 1 (n) (w) T P)) hP hD [0, 1, 2] [] rfl rfl (by decide) (by decide) hk1 hFc hP1 hD1
    have hP : va_P D vwCl (MW g0 g1 g2 y4 y5 1 (n) (w) T P) H1 := hP
    have hD : va_D (va_A (MW g0 g1 g2 y4 y5 th (n) (w) T P) s.heap.size) (MW g0 g1 g2 y4 y5 1 (n) (w) T P) := hD
    generalize H1 = H at hP hS ⊢
    generalize locs1 = locs at hS ⊢
    refine zb_if_ne (tgt := 37) hx hb dX2_setText_32 (by decide) e29 (fun c32 => ?_) (fun c32 => ?_)
    · have _u := True.intro
      exact absurd c32 (by decide)
    · have _u := True.intro
      refine lv_iconst (v := 0) hx hb dX2_setText_35 (by decide) ?_
      have hk0 : kST n x1.toInt x2.toInt = 1 := by unfold kST; (repeat' split) <;> omega
      refine W.widen (k := 0) (n := 0) (Nat.le_of_ble_eq_true rfl) (Nat.le_of_ble_eq_true rfl) ?_
      exact W.iret (v := 0) hx hb hr (fun t ht hW => ⟨⟨_, 1, rfl, ⟨(show (1 : Int32).toInt = 1 by decide).trans (by omega), fun h => absurd h (by omega)⟩, ⟨fun h => absurd h (by omega), fun _ => ⟨by rw [ht]; exact hP, hD⟩⟩⟩, hS.F ht⟩) hS.2.2 dX2_setText_36
  · have _u := True.intro
    refine lv_iload_n hx hb dX2_setText_5 rfl (lv_at hl 1 rfl) ?_
    refine lv_aload_n hx hb dX2_setText_6 rfl (lv_at hl 0 rfl) ?_
    refine va_get (D := D) (ci := 1) (v := .int (nI n)) (C := RX2) (T := TX2) (N := 5) hx hb hts hin0 hown hK hP 0 rfl rfl 3 (by decide) hf_n (fun _ h9 => h9) rfl dX2_setText_7 ?_
    refine z_icmp_lt (tgt := 17) hx hb dX2_setText_10 (by decide) rfl inn (fun c10 => ?_) (fun c10 => ?_)
    · have _u := True.intro
      refine lv_iload_n hx hb dX2_setText_17 rfl (lv_at hl 2 rfl) ?_
      refine va_calli (va_runS (As := [.int x2]) (rest := [.ref g0]) ⟨hx, hb, hml, hown, hts⟩ (c_X2_isSymbol l s.heap.size x2) (va_cwS 1 hts gX2_setText_X2_isSymbol rfl rfl rfl (by decide +kernel) ⟨Nat.le_of_ble_eq_true rfl, Nat.le_of_ble_eq_true rfl⟩) ⟨cz.blind, fun U hU hW => ⟨rfl, cz.call hU⟩⟩ rfl rfl hl.1 rfl (lv_room (Nat.le_of_ble_eq_true rfl)) dX2_setText_18 ⟨Nat.le_of_ble_eq_true rfl, Nat.le_of_ble_eq_true rfl⟩) hS (fun q _ h => (fr0 hS hA) q h) (fr0 hS hA) (fun v18 u t H1 locs1 ht hvm e18 hB hz1 hk1 hS => ?_)
      have hP := kp hP hk1
      generalize H1 = H at hP hS ⊢
      generalize locs1 = locs at hS ⊢
      refine zb_if_eq (tgt := 28) hx hb dX2_setText_21 (by decide) e18 (fun c21 => ?_) (fun c21 => ?_)
      · have _u := True.intro
        have d21 := of_decide_eq_false c21
        refine lv_iconst (v := 2) hx hb dX2_setText_28 (by decide) ?_
        have hFc := va_free (wc := (MW g0 g1 g2 y4 y5 th (n) (w) T P)) hD hS hA [0, 1, 2] rfl
        refine va_calli (va_runV (As := [.int 2]) (rest := []) ⟨hx, hb, hml, hown, hts⟩ (c_X2_goesWell l D E g0 g1 g2 y4 y5 H.size (n) (w) th T P hn hw hT hPt (hD.weaken (fun _ _ _ _ => trivial)) 2 (2) (Eq.trans (show (2 : Int32).toInt = 2 by decide) (by omega))) (cwV 1 hts gX2_setText_X2_goesWell rfl rfl rfl (by decide +kernel) ⟨Nat.le_of_ble_eq_true rfl, Nat.le_of_ble_eq_true rfl⟩) ⟨cp.blind, va_recv hK hP (ci := 1) (q0 := 0) rfl rfl, fun U hU hW => ⟨rfl, cp.call hP hK hE hS hFc hU hW⟩⟩ rfl rfl hl.1 rfl (lv_room (Nat.le_of_ble_eq_true rfl)) dX2_setText_29 ⟨Nat.le_of_ble_eq_true rfl, Nat.le_of_ble_eq_true rfl⟩) hS (fun q _ h => hFc q h) hFc (fun v29 u t H1 locs1 ht hvm e29 hB hz1 hk1 hS => ?_)
        obtain ⟨hP1, hD1⟩ := hB
        rw [ht] at hP1
        obtain ⟨hP, hD⟩ := va_join (wr := []) (w1 := (MW g0 g1 g2 y4 y5 2 (n) (w) T P)) hP hD [0, 1, 2] [] rfl rfl (by decide) (by decide) hk1 hFc hP1 hD1
        have hP : va_P D vwCl (MW g0 g1 g2 y4 y5 2 (n) (w) T P) H1 := hP
        have hD : va_D (va_A (MW g0 g1 g2 y4 y5 th (n) (w) T P) s.heap.size) (MW g0 g1 g2 y4 y5 2 (n) (w) T P) := hD
        generalize H1 = H at hP hS ⊢
        generalize locs1 = locs at hS ⊢
        refine zb_if_ne (tgt := 37) hx hb dX2_setText_32 (by decide) e29 (fun c32 => ?_) (fun c32 => ?_)
        · have _u := True.intro
          exact absurd c32 (by decide)
        · have _u := True.intro
          refine lv_iconst (v := 0) hx hb dX2_setText_35 (by decide) ?_
          have hk0 : kST n x1.toInt x2.toInt = 2 := by unfold kST; (repeat' split) <;> omega
          refine W.widen (k := 0) (n := 0) (Nat.le_of_ble_eq_true rfl) (Nat.le_of_ble_eq_true rfl) ?_
          exact W.iret (v := 0) hx hb hr (fun t ht hW => ⟨⟨_, 2, rfl, ⟨(show (2 : Int32).toInt = 2 by decide).trans (by omega), fun h => absurd h (by omega)⟩, ⟨fun h => absurd h (by omega), fun _ => ⟨by rw [ht]; exact hP, hD⟩⟩⟩, hS.F ht⟩) hS.2.2 dX2_setText_36
      · have _u := True.intro
        have d21 := of_decide_eq_true c21
        refine lv_iconst (v := 0) hx hb dX2_setText_24 (by decide) ?_
        refine lv_goto (tgt := 29) hx hb dX2_setText_25 (by decide) ?_
        have hFc := va_free (wc := (MW g0 g1 g2 y4 y5 th (n) (w) T P)) hD hS hA [0, 1, 2] rfl
        refine va_calli (va_runV (As := [.int 0]) (rest := []) ⟨hx, hb, hml, hown, hts⟩ (c_X2_goesWell l D E g0 g1 g2 y4 y5 H.size (n) (w) th T P hn hw hT hPt (hD.weaken (fun _ _ _ _ => trivial)) 0 (0) (Eq.trans (show (0 : Int32).toInt = 0 by decide) (by omega))) (cwV 1 hts gX2_setText_X2_goesWell rfl rfl rfl (by decide +kernel) ⟨Nat.le_of_ble_eq_true rfl, Nat.le_of_ble_eq_true rfl⟩) ⟨cp.blind, va_recv hK hP (ci := 1) (q0 := 0) rfl rfl, fun U hU hW => ⟨rfl, cp.call hP hK hE hS hFc hU hW⟩⟩ rfl rfl hl.1 rfl (lv_room (Nat.le_of_ble_eq_true rfl)) dX2_setText_29 ⟨Nat.le_of_ble_eq_true rfl, Nat.le_of_ble_eq_true rfl⟩) hS (fun q _ h => hFc q h) hFc (fun v29 u t H1 locs1 ht hvm e29 hB hz1 hk1 hS => ?_)
        obtain ⟨hP1, hD1⟩ := hB
        rw [ht] at hP1
        obtain ⟨hP, hD⟩ := va_join (wr := []) (w1 := (MW g0 g1 g2 y4 y5 0 (n) (w) T P)) hP hD [0, 1, 2] [] rfl rfl (by decide) (by decide) hk1 hFc hP1 hD1
        have hP : va_P D vwCl (MW g0 g1 g2 y4 y5 0 (n) (w) T P) H1 := hP
        have hD : va_D (va_A (MW g0 g1 g2 y4 y5 th (n) (w) T P) s.heap.size) (MW g0 g1 g2 y4 y5 0 (n) (w) T P) := hD
        generalize H1 = H at hP hS ⊢
        generalize locs1 = locs at hS ⊢
        refine zb_if_ne (tgt := 37) hx hb dX2_setText_32 (by decide) e29 (fun c32 => ?_) (fun c32 => ?_)
        · have _u := True.intro
          refine lv_aload_n hx hb dX2_setText_37 rfl (lv_at hl 0 rfl) ?_
          refine va_get (D := D) (ci := 1) (v := .ref g1) (C := RX2) (T := TX2) (N := 5) hx hb hts hin0 hown hK hP 0 rfl rfl 1 (by decide) hf_text (fun _ h9 => h9) rfl dX2_setText_38 ?_
          refine lv_iload_n hx hb dX2_setText_41 rfl (lv_at hl 1 rfl) ?_
          refine z_iald hx hb hK hP 1 0 rfl rfl (x1.toInt.toNat) rfl (by omega) (by omega) dX2_setText_42 ?_
          refine lv_istore_n (lv' := [(3, .int (T (x1.toInt.toNat))), (0, .ref g0), (1, .int x1), (2, .int x2)]) hx hb dX2_setText_43 rfl hl (by decide) rfl (fun ls hl => ?_)
          refine lv_aload_n hx hb dX2_setText_44 rfl (lv_at hl 1 rfl) ?_
          refine va_get (D := D) (ci := 1) (v := .ref g1) (C := RX2) (T := TX2) (N := 5) hx hb hts hin0 hown hK hP 0 rfl rfl 1 (by decide) hf_text (fun _ h9 => h9) rfl dX2_setText_45 ?_
          refine lv_iload_n hx hb dX2_setText_48 rfl (lv_at hl 2 rfl) ?_
          refine lv_iload_n hx hb dX2_setText_49 rfl (lv_at hl 3 rfl) ?_
          refine z_iast hx hb hK hP hD hS 1 0 rfl rfl (x1.toInt.toNat) rfl (by omega) (by omega) dX2_setText_50 (fun H locs hP hD hS => ?_)
          have hP : va_P D vwCl (MW g0 g1 g2 y4 y5 0 (n) (w) (upd T (x1.toInt.toNat) x2) P) H := hP
          have hD : va_D (va_A (MW g0 g1 g2 y4 y5 th (n) (w) T P) s.heap.size) (MW g0 g1 g2 y4 y5 0 (n) (w) (upd T (x1.toInt.toNat) x2) P) := hD
          refine lv_iload_n hx hb dX2_setText_51 rfl (lv_at hl 0 rfl) ?_
          have hk0 : kST n x1.toInt x2.toInt = 0 := by unfold kST; (repeat' split) <;> omega
          refine W.widen (k := 0) (n := 0) (Nat.le_of_ble_eq_true rfl) (Nat.le_of_ble_eq_true rfl) ?_
          exact W.iret (v := (T (x1.toInt.toNat))) hx hb hr (fun t ht hW => ⟨⟨_, 0, rfl, ⟨(show (0 : Int32).toInt = 0 by decide).trans (by omega), fun _ => (Eq.trans rfl (rfl))⟩, ⟨fun _ => ⟨by rw [ht]; exact hP, hD⟩, fun h => absurd hk0 h⟩⟩, hS.F ht⟩) hS.2.2 dX2_setText_52
        · have _u := True.intro
          exact absurd c32 (by decide)
    · have _u := True.intro
      refine lv_iconst (v := 1) hx hb dX2_setText_13 (by decide) ?_
      refine lv_goto (tgt := 29) hx hb dX2_setText_14 (by decide) ?_
      have hFc := va_free (wc := (MW g0 g1 g2 y4 y5 th (n) (w) T P)) hD hS hA [0, 1, 2] rfl
      refine va_calli (va_runV (As := [.int 1]) (rest := []) ⟨hx, hb, hml, hown, hts⟩ (c_X2_goesWell l D E g0 g1 g2 y4 y5 s.heap.size (n) (w) th T P hn hw hT hPt (hD.weaken (fun _ _ _ _ => trivial)) 1 (1) (Eq.trans (show (1 : Int32).toInt = 1 by decide) (by omega))) (cwV 1 hts gX2_setText_X2_goesWell rfl rfl rfl (by decide +kernel) ⟨Nat.le_of_ble_eq_true rfl, Nat.le_of_ble_eq_true rfl⟩) ⟨cp.blind, va_recv hK hP (ci := 1) (q0 := 0) rfl rfl, fun U hU hW => ⟨rfl, cp.call hP hK hE hS hFc hU hW⟩⟩ rfl rfl hl.1 rfl (lv_room (Nat.le_of_ble_eq_true rfl)) dX2_setText_29 ⟨Nat.le_of_ble_eq_true rfl, Nat.le_of_ble_eq_true rfl⟩) hS (fun q _ h => hFc q h) hFc (fun v29 u t H1 locs1 ht hvm e29 hB hz1 hk1 hS => ?_)
      obtain ⟨hP1, hD1⟩ := hB
      rw [ht] at hP1
      obtain ⟨hP, hD⟩ := va_join (wr := []) (w1 := (MW g0 g1 g2 y4 y5 1 (n) (w) T P)) hP hD [0, 1, 2] [] rfl rfl (by decide) (by decide) hk1 hFc hP1 hD1
      have hP : va_P D vwCl (MW g0 g1 g2 y4 y5 1 (n) (w) T P) H1 := hP
      have hD : va_D (va_A (MW g0 g1 g2 y4 y5 th (n) (w) T P) s.heap.size) (MW g0 g1 g2 y4 y5 1 (n) (w) T P) := hD
      generalize H1 = H at hP hS ⊢
      generalize locs1 = locs at hS ⊢
      refine zb_if_ne (tgt := 37) hx hb dX2_setText_32 (by decide) e29 (fun c32 => ?_) (fun c32 => ?_)
      · have _u := True.intro
        exact absurd c32 (by decide)
      · have _u := True.intro
        refine lv_iconst (v := 0) hx hb dX2_setText_35 (by decide) ?_
        have hk0 : kST n x1.toInt x2.toInt = 1 := by unfold kST; (repeat' split) <;> omega
        refine W.widen (k := 0) (n := 0) (Nat.le_of_ble_eq_true rfl) (Nat.le_of_ble_eq_true rfl) ?_
        exact W.iret (v := 0) hx hb hr (fun t ht hW => ⟨⟨_, 1, rfl, ⟨(show (1 : Int32).toInt = 1 by decide).trans (by omega), fun h => absurd h (by omega)⟩, ⟨fun h => absurd h (by omega), fun _ => ⟨by rw [ht]; exact hP, hD⟩⟩⟩, hS.F ht⟩) hS.2.2 dX2_setText_36

set_option maxHeartbeats 4000000 in
set_option maxRecDepth 100000 in
theorem c_X2_setPattern (l : Launch) (D : va_G) (E : Nat × Nat × Nat) (g0 g1 g2 : Nat) (y4 y5 : ClassId) (sz n w : Nat) (th : Int32) (T P : Nat → Int32) (hn : n ≤ 64) (hw : w ≤ 24) (hT : SymF T) (hPt : SymF P) (hD0 : va_D (fun _ => True) (MW g0 g1 g2 y4 y5 th (n) (w) T P)) (x1 : Int32) (x2 : Int32) : Met l yX2_setPattern wsX2_setPattern ({ frames := 1, cells := 0, slots := 0, locals := 21 }) (va_Pc [.ref g0, .int x1, .int x2] (cp D (MW g0 g1 g2 y4 y5 th (n) (w) T P) (MT y4 y5) E (va_A (MW g0 g1 g2 y4 y5 th (n) (w) T P) sz) sz)) (va_Qi (fun (r : Int32) (th2 : Int32) => th2.toInt = ((kST w x1.toInt x2.toInt : Nat) : Int) ∧ (kST w x1.toInt x2.toInt = 0 → r.toInt = (P x1.toInt.toNat).toInt)) (fun (th2 : Int32) t => (kST w x1.toInt x2.toInt = 0 → va_P D vwCl (MW g0 g1 g2 y4 y5 th2 (n) (w) T (upd P (x1.toInt.toNat) x2)) t.heap ∧ va_D (va_A (MW g0 g1 g2 y4 y5 th (n) (w) T P) sz) (MW g0 g1 g2 y4 y5 th2 (n) (w) T (upd P (x1.toInt.toNat) x2))) ∧ (¬ kST w x1.toInt x2.toInt = 0 → va_P D vwCl (MW g0 g1 g2 y4 y5 th2 (n) (w) T P) t.heap ∧ va_D (va_A (MW g0 g1 g2 y4 y5 th (n) (w) T P) sz) (MW g0 g1 g2 y4 y5 th2 (n) (w) T P))) (va_A (MW g0 g1 g2 y4 y5 th (n) (w) T P) sz)) 0 0 (va_A (MW g0 g1 g2 y4 y5 th (n) (w) T P) sz) := by
  refine Met.ofW (cc := cX2_setPattern) (maxL := 4) (ret := (some .int)) (by decide) rfl ?_
  intro p e s m args below meth c s₁ B hml hv
  obtain ⟨rfl, hsz, hP, hK, hE⟩ := hv
  have hx := B.exec
  have hb := B.bytes
  have hr := B.returns
  have hts := atoms_spec (ws := wsX2_setPattern) B.pre
  have hown : s.vm.findClass RX2 = some m.cls := findClass_of_methodNamed B.named
  have hlocks := B.notSynchronized
  have hsz : s.heap.size = sz := hsz
  subst hsz
  have hD := hD0.self (sz := s.heap.size)
  have hA : ∀ q : Nat, s.heap.size ≤ q → (va_A (MW g0 g1 g2 y4 y5 th (n) (w) T P) s.heap.size) q := fun q h => Or.inr h
  have hS : va_S (va_A (MW g0 g1 g2 y4 y5 th (n) (w) T P) s.heap.size) s.heap s.heap [] := va_S.rf
  have inn : (nI n).toInt = (n : Int) := nI_toInt (by omega)
  have iww : (nI w).toInt = (w : Int) := nI_toInt (by omega)
  have hf_pattern := hts (.fieldLink RX2 13 "BlankMatcherModel" "pattern" "[I") (by decide +kernel)
  have hpl : pl n w = n + 1 - w := rfl
  have hin0 : ∀ w ∈ wsX20, w ∈ wsX2_setPattern := by decide +kernel
  have g_x1 := rg x1
  have g_x2 := rg x2
  have hl := lv_entry ([.ref g0, .int x1, .int x2]) (n := 4) (Nat.le_of_ble_eq_true rfl)
  rw [lg_entry_eq]
  generalize (lg_sl ([.ref g0, .int x1, .int x2]) ++ List.replicate (4 - (lg_sl ([.ref g0, .int x1, .int x2])).length) Slot.unset).toArray = ls at hl ⊢
  have hl : lv_has ls 4 [(0, .ref g0), (1, .int x1), (2, .int x2)] := hl
  refine lv_aload_n hx hb dX2_setPattern_0 rfl (lv_at hl 0 rfl) ?_
  refine lv_aload_n hx hb dX2_setPattern_1 rfl (lv_at hl 0 rfl) ?_
  refine lv_iload_n hx hb dX2_setPattern_2 rfl (lv_at hl 1 rfl) ?_
  refine va_calli (va_runV (As := [.int x1]) (rest := [.ref g0]) ⟨hx, hb, hml, hown, hts⟩ (c_X2_isInPattern l D E g0 g1 g2 y4 y5 s.heap.size (n) (w) th T P hn hw hT hPt x1) (cwV 1 hts gX2_setPattern_X2_isInPattern rfl rfl rfl (by decide +kernel) ⟨Nat.le_of_ble_eq_true rfl, Nat.le_of_ble_eq_true rfl⟩) ⟨cp.blind, va_recv hK hP (ci := 1) (q0 := 0) rfl rfl, fun U hU hW => ⟨rfl, cp.call hP hK hE hS (fr0 hS hA) hU hW⟩⟩ rfl rfl hl.1 rfl (lv_room (Nat.le_of_ble_eq_true rfl)) dX2_setPattern_3 ⟨Nat.le_of_ble_eq_true rfl, Nat.le_of_ble_eq_true rfl⟩) hS (fun q _ h => (fr0 hS hA) q h) (fr0 hS hA) (fun v3 u t H1 locs1 ht hvm e3 hB hz1 hk1 hS => ?_)
  have hP := kp hP hk1
  generalize H1 = H at hP hS ⊢
  generalize locs1 = locs at hS ⊢
  refine zb_if_ne (tgt := 13) hx hb dX2_setPattern_6 (by decide) e3 (fun c6 => ?_) (fun c6 => ?_)
  · have _u := True.intro
    have d6 := of_decide_eq_true c6
    refine lv_iload_n hx hb dX2_setPattern_13 rfl (lv_at hl 2 rfl) ?_
    refine va_calli (va_runS (As := [.int x2]) (rest := [.ref g0]) ⟨hx, hb, hml, hown, hts⟩ (c_X2_isSymbol l H.size x2) (va_cwS 1 hts gX2_setPattern_X2_isSymbol rfl rfl rfl (by decide +kernel) ⟨Nat.le_of_ble_eq_true rfl, Nat.le_of_ble_eq_true rfl⟩) ⟨cz.blind, fun U hU hW => ⟨rfl, cz.call hU⟩⟩ rfl rfl hl.1 rfl (lv_room (Nat.le_of_ble_eq_true rfl)) dX2_setPattern_14 ⟨Nat.le_of_ble_eq_true rfl, Nat.le_of_ble_eq_true rfl⟩) hS (fun q _ h => (fr0 hS hA) q h) (fr0 hS hA) (fun v14 u t H1 locs1 ht hvm e14 hB hz1 hk1 hS => ?_)
    have hP := kp hP hk1
    generalize H1 = H at hP hS ⊢
    generalize locs1 = locs at hS ⊢
    refine zb_if_eq (tgt := 24) hx hb dX2_setPattern_17 (by decide) e14 (fun c17 => ?_) (fun c17 => ?_)
    · have _u := True.intro
      have d17 := of_decide_eq_false c17
      refine lv_iconst (v := 2) hx hb dX2_setPattern_24 (by decide) ?_
      have hFc := va_free (wc := (MW g0 g1 g2 y4 y5 th (n) (w) T P)) hD hS hA [0, 1, 2] rfl
      refine va_calli (va_runV (As := [.int 2]) (rest := []) ⟨hx, hb, hml, hown, hts⟩ (c_X2_goesWell l D E g0 g1 g2 y4 y5 H.size (n) (w) th T P hn hw hT hPt (hD.weaken (fun _ _ _ _ => trivial)) 2 (2) (Eq.trans (show (2 : Int32).toInt = 2 by decide) (by omega))) (cwV 1 hts gX2_setPattern_X2_goesWell rfl rfl rfl (by decide +kernel) ⟨Nat.le_of_ble_eq_true rfl, Nat.le_of_ble_eq_true rfl⟩) ⟨cp.blind, va_recv hK hP (ci := 1) (q0 := 0) rfl rfl, fun U hU hW => ⟨rfl, cp.call hP hK hE hS hFc hU hW⟩⟩ rfl rfl hl.1 rfl (lv_room (Nat.le_of_ble_eq_true rfl)) dX2_setPattern_25 ⟨Nat.le_of_ble_eq_true rfl, Nat.le_of_ble_eq_true rfl⟩) hS (fun q _ h => hFc q h) hFc (fun v25 u t H1 locs1 ht hvm e25 hB hz1 hk1 hS => ?_)
      obtain ⟨hP1, hD1⟩ := hB
      rw [ht] at hP1
      obtain ⟨hP, hD⟩ := va_join (wr := []) (w1 := (MW g0 g1 g2 y4 y5 2 (n) (w) T P)) hP hD [0, 1, 2] [] rfl rfl (by decide) (by decide) hk1 hFc hP1 hD1
      have hP : va_P D vwCl (MW g0 g1 g2 y4 y5 2 (n) (w) T P) H1 := hP
      have hD : va_D (va_A (MW g0 g1 g2 y4 y5 th (n) (w) T P) s.heap.size) (MW g0 g1 g2 y4 y5 2 (n) (w) T P) := hD
      generalize H1 = H at hP hS ⊢
      generalize locs1 = locs at hS ⊢
      refine zb_if_ne (tgt := 33) hx hb dX2_setPattern_28 (by decide) e25 (fun c28 => ?_) (fun c28 => ?_)
      · have _u := True.intro
        exact absurd c28 (by decide)
      · have _u := True.intro
        refine lv_iconst (v := 0) hx hb dX2_setPattern_31 (by decide) ?_
        have hk0 : kST w x1.toInt x2.toInt = 2 := by unfold kST; (repeat' split) <;> omega
        refine W.widen (k := 0) (n := 0) (Nat.le_of_ble_eq_true rfl) (Nat.le_of_ble_eq_true rfl) ?_
        exact W.iret (v := 0) hx hb hr (fun t ht hW => ⟨⟨_, 2, rfl, ⟨(show (2 : Int32).toInt = 2 by decide).trans (by omega), fun h => absurd h (by omega)⟩, ⟨fun h => absurd h (by omega), fun _ => ⟨by rw [ht]; exact hP, hD⟩⟩⟩, hS.F ht⟩) hS.2.2 dX2_setPattern_32
    · have _u := True.intro
      have d17 := of_decide_eq_true c17
      refine lv_iconst (v := 0) hx hb dX2_setPattern_20 (by decide) ?_
      refine lv_goto (tgt := 25) hx hb dX2_setPattern_21 (by decide) ?_
      have hFc := va_free (wc := (MW g0 g1 g2 y4 y5 th (n) (w) T P)) hD hS hA [0, 1, 2] rfl
      refine va_calli (va_runV (As := [.int 0]) (rest := []) ⟨hx, hb, hml, hown, hts⟩ (c_X2_goesWell l D E g0 g1 g2 y4 y5 H.size (n) (w) th T P hn hw hT hPt (hD.weaken (fun _ _ _ _ => trivial)) 0 (0) (Eq.trans (show (0 : Int32).toInt = 0 by decide) (by omega))) (cwV 1 hts gX2_setPattern_X2_goesWell rfl rfl rfl (by decide +kernel) ⟨Nat.le_of_ble_eq_true rfl, Nat.le_of_ble_eq_true rfl⟩) ⟨cp.blind, va_recv hK hP (ci := 1) (q0 := 0) rfl rfl, fun U hU hW => ⟨rfl, cp.call hP hK hE hS hFc hU hW⟩⟩ rfl rfl hl.1 rfl (lv_room (Nat.le_of_ble_eq_true rfl)) dX2_setPattern_25 ⟨Nat.le_of_ble_eq_true rfl, Nat.le_of_ble_eq_true rfl⟩) hS (fun q _ h => hFc q h) hFc (fun v25 u t H1 locs1 ht hvm e25 hB hz1 hk1 hS => ?_)
      obtain ⟨hP1, hD1⟩ := hB
      rw [ht] at hP1
      obtain ⟨hP, hD⟩ := va_join (wr := []) (w1 := (MW g0 g1 g2 y4 y5 0 (n) (w) T P)) hP hD [0, 1, 2] [] rfl rfl (by decide) (by decide) hk1 hFc hP1 hD1
      have hP : va_P D vwCl (MW g0 g1 g2 y4 y5 0 (n) (w) T P) H1 := hP
      have hD : va_D (va_A (MW g0 g1 g2 y4 y5 th (n) (w) T P) s.heap.size) (MW g0 g1 g2 y4 y5 0 (n) (w) T P) := hD
      generalize H1 = H at hP hS ⊢
      generalize locs1 = locs at hS ⊢
      refine zb_if_ne (tgt := 33) hx hb dX2_setPattern_28 (by decide) e25 (fun c28 => ?_) (fun c28 => ?_)
      · have _u := True.intro
        refine lv_aload_n hx hb dX2_setPattern_33 rfl (lv_at hl 0 rfl) ?_
        refine va_get (D := D) (ci := 1) (v := .ref g2) (C := RX2) (T := TX2) (N := 5) hx hb hts hin0 hown hK hP 0 rfl rfl 2 (by decide) hf_pattern (fun _ h9 => h9) rfl dX2_setPattern_34 ?_
        refine lv_iload_n hx hb dX2_setPattern_37 rfl (lv_at hl 1 rfl) ?_
        refine z_iald hx hb hK hP 2 1 rfl rfl (x1.toInt.toNat) rfl (by omega) (by omega) dX2_setPattern_38 ?_
        refine lv_istore_n (lv' := [(3, .int (P (x1.toInt.toNat))), (0, .ref g0), (1, .int x1), (2, .int x2)]) hx hb dX2_setPattern_39 rfl hl (by decide) rfl (fun ls hl => ?_)
        refine lv_aload_n hx hb dX2_setPattern_40 rfl (lv_at hl 1 rfl) ?_
        refine va_get (D := D) (ci := 1) (v := .ref g2) (C := RX2) (T := TX2) (N := 5) hx hb hts hin0 hown hK hP 0 rfl rfl 2 (by decide) hf_pattern (fun _ h9 => h9) rfl dX2_setPattern_41 ?_
        refine lv_iload_n hx hb dX2_setPattern_44 rfl (lv_at hl 2 rfl) ?_
        refine lv_iload_n hx hb dX2_setPattern_45 rfl (lv_at hl 3 rfl) ?_
        refine z_iast hx hb hK hP hD hS 2 1 rfl rfl (x1.toInt.toNat) rfl (by omega) (by omega) dX2_setPattern_46 (fun H locs hP hD hS => ?_)
        have hP : va_P D vwCl (MW g0 g1 g2 y4 y5 0 (n) (w) T (upd P (x1.toInt.toNat) x2)) H := hP
        have hD : va_D (va_A (MW g0 g1 g2 y4 y5 th (n) (w) T P) s.heap.size) (MW g0 g1 g2 y4 y5 0 (n) (w) T (upd P (x1.toInt.toNat) x2)) := hD
        refine lv_iload_n hx hb dX2_setPattern_47 rfl (lv_at hl 0 rfl) ?_
        have hk0 : kST w x1.toInt x2.toInt = 0 := by unfold kST; (repeat' split) <;> omega
        refine W.widen (k := 0) (n := 0) (Nat.le_of_ble_eq_true rfl) (Nat.le_of_ble_eq_true rfl) ?_
        exact W.iret (v := (P (x1.toInt.toNat))) hx hb hr (fun t ht hW => ⟨⟨_, 0, rfl, ⟨(show (0 : Int32).toInt = 0 by decide).trans (by omega), fun _ => (Eq.trans rfl (rfl))⟩, ⟨fun _ => ⟨by rw [ht]; exact hP, hD⟩, fun h => absurd hk0 h⟩⟩, hS.F ht⟩) hS.2.2 dX2_setPattern_48
      · have _u := True.intro
        exact absurd c28 (by decide)
  · have _u := True.intro
    have d6 := of_decide_eq_false c6
    refine lv_iconst (v := 1) hx hb dX2_setPattern_9 (by decide) ?_
    refine lv_goto (tgt := 25) hx hb dX2_setPattern_10 (by decide) ?_
    have hFc := va_free (wc := (MW g0 g1 g2 y4 y5 th (n) (w) T P)) hD hS hA [0, 1, 2] rfl
    refine va_calli (va_runV (As := [.int 1]) (rest := []) ⟨hx, hb, hml, hown, hts⟩ (c_X2_goesWell l D E g0 g1 g2 y4 y5 H.size (n) (w) th T P hn hw hT hPt (hD.weaken (fun _ _ _ _ => trivial)) 1 (1) (Eq.trans (show (1 : Int32).toInt = 1 by decide) (by omega))) (cwV 1 hts gX2_setPattern_X2_goesWell rfl rfl rfl (by decide +kernel) ⟨Nat.le_of_ble_eq_true rfl, Nat.le_of_ble_eq_true rfl⟩) ⟨cp.blind, va_recv hK hP (ci := 1) (q0 := 0) rfl rfl, fun U hU hW => ⟨rfl, cp.call hP hK hE hS hFc hU hW⟩⟩ rfl rfl hl.1 rfl (lv_room (Nat.le_of_ble_eq_true rfl)) dX2_setPattern_25 ⟨Nat.le_of_ble_eq_true rfl, Nat.le_of_ble_eq_true rfl⟩) hS (fun q _ h => hFc q h) hFc (fun v25 u t H1 locs1 ht hvm e25 hB hz1 hk1 hS => ?_)
    obtain ⟨hP1, hD1⟩ := hB
    rw [ht] at hP1
    obtain ⟨hP, hD⟩ := va_join (wr := []) (w1 := (MW g0 g1 g2 y4 y5 1 (n) (w) T P)) hP hD [0, 1, 2] [] rfl rfl (by decide) (by decide) hk1 hFc hP1 hD1
    have hP : va_P D vwCl (MW g0 g1 g2 y4 y5 1 (n) (w) T P) H1 := hP
    have hD : va_D (va_A (MW g0 g1 g2 y4 y5 th (n) (w) T P) s.heap.size) (MW g0 g1 g2 y4 y5 1 (n) (w) T P) := hD
    generalize H1 = H at hP hS ⊢
    generalize locs1 = locs at hS ⊢
    refine zb_if_ne (tgt := 33) hx hb dX2_setPattern_28 (by decide) e25 (fun c28 => ?_) (fun c28 => ?_)
    · have _u := True.intro
      exact absurd c28 (by decide)
    · have _u := True.intro
      refine lv_iconst (v := 0) hx hb dX2_setPattern_31 (by decide) ?_
      have hk0 : kST w x1.toInt x2.toInt = 1 := by unfold kST; (repeat' split) <;> omega
      refine W.widen (k := 0) (n := 0) (Nat.le_of_ble_eq_true rfl) (Nat.le_of_ble_eq_true rfl) ?_
      exact W.iret (v := 0) hx hb hr (fun t ht hW => ⟨⟨_, 1, rfl, ⟨(show (1 : Int32).toInt = 1 by decide).trans (by omega), fun h => absurd h (by omega)⟩, ⟨fun h => absurd h (by omega), fun _ => ⟨by rw [ht]; exact hP, hD⟩⟩⟩, hS.F ht⟩) hS.2.2 dX2_setPattern_32

set_option maxHeartbeats 4000000 in
set_option maxRecDepth 100000 in
theorem c_X2_takePattern (l : Launch) (D : va_G) (E : Nat × Nat × Nat) (g0 g1 g2 : Nat) (y4 y5 : ClassId) (sz n w : Nat) (th : Int32) (T P : Nat → Int32) (hn : n ≤ 64) (hw : w ≤ 24) (hT : SymF T) (hPt : SymF P) (hD0 : va_D (fun _ => True) (MW g0 g1 g2 y4 y5 th (n) (w) T P)) (x1 : Int32) (x2 : Int32) : Met l yX2_takePattern wsX2_takePattern ({ frames := 1, cells := 0, slots := 0, locals := 21 }) (va_Pc [.ref g0, .int x1, .int x2] (cp D (MW g0 g1 g2 y4 y5 th (n) (w) T P) (MT y4 y5) E (va_A (MW g0 g1 g2 y4 y5 th (n) (w) T P) sz) sz)) (va_Qi (fun (r : Int32) (th2 : Int32) => th2.toInt = ((kTP n x1.toInt x2.toInt : Nat) : Int) ∧ (kTP n x1.toInt x2.toInt = 0 → r.toInt = ((cnt (bf (va_cpy T P x1.toInt.toNat 0 x2.toInt.toNat)) x2.toInt.toNat : Nat) : Int))) (fun (th2 : Int32) t => (kTP n x1.toInt x2.toInt = 0 → va_P D vwCl (MW g0 g1 g2 y4 y5 th2 (n) (x2.toInt.toNat) T (va_cpy T P x1.toInt.toNat 0 x2.toInt.toNat)) t.heap ∧ va_D (va_A (MW g0 g1 g2 y4 y5 th (n) (w) T P) sz) (MW g0 g1 g2 y4 y5 th2 (n) (x2.toInt.toNat) T (va_cpy T P x1.toInt.toNat 0 x2.toInt.toNat))) ∧ (¬ kTP n x1.toInt x2.toInt = 0 → va_P D vwCl (MW g0 g1 g2 y4 y5 th2 (n) (w) T P) t.heap ∧ va_D (va_A (MW g0 g1 g2 y4 y5 th (n) (w) T P) sz) (MW g0 g1 g2 y4 y5 th2 (n) (w) T P))) (va_A (MW g0 g1 g2 y4 y5 th (n) (w) T P) sz)) 0 0 (va_A (MW g0 g1 g2 y4 y5 th (n) (w) T P) sz) := by
  refine Met.ofW (cc := cX2_takePattern) (maxL := 6) (ret := (some .int)) (by decide) rfl ?_
  intro p e s m args below meth c s₁ B hml hv
  obtain ⟨rfl, hsz, hP, hK, hE⟩ := hv
  have hx := B.exec
  have hb := B.bytes
  have hr := B.returns
  have hts := atoms_spec (ws := wsX2_takePattern) B.pre
  have hown : s.vm.findClass RX2 = some m.cls := findClass_of_methodNamed B.named
  have hlocks := B.notSynchronized
  have hsz : s.heap.size = sz := hsz
  subst hsz
  have hD := hD0.self (sz := s.heap.size)
  have hA : ∀ q : Nat, s.heap.size ≤ q → (va_A (MW g0 g1 g2 y4 y5 th (n) (w) T P) s.heap.size) q := fun q h => Or.inr h
  have hS : va_S (va_A (MW g0 g1 g2 y4 y5 th (n) (w) T P) s.heap.size) s.heap s.heap [] := va_S.rf
  have inn : (nI n).toInt = (n : Int) := nI_toInt (by omega)
  have iww : (nI w).toInt = (w : Int) := nI_toInt (by omega)
  have hf_m := hts (.fieldLink RX2 30 "BlankMatcherModel" "m" "I") (by decide +kernel)
  have hf_n := hts (.fieldLink RX2 24 "BlankMatcherModel" "n" "I") (by decide +kernel)
  have hf_pattern := hts (.fieldLink RX2 13 "BlankMatcherModel" "pattern" "[I") (by decide +kernel)
  have hf_text := hts (.fieldLink RX2 7 "BlankMatcherModel" "text" "[I") (by decide +kernel)
  have hpl : pl n w = n + 1 - w := rfl
  have hin0 : ∀ w ∈ wsX20, w ∈ wsX2_takePattern := by decide +kernel
  have g_x1 := rg x1
  have g_x2 := rg x2
  have hl := lv_entry ([.ref g0, .int x1, .int x2]) (n := 6) (Nat.le_of_ble_eq_true rfl)
  rw [lg_entry_eq]
  generalize (lg_sl ([.ref g0, .int x1, .int x2]) ++ List.replicate (6 - (lg_sl ([.ref g0, .int x1, .int x2])).length) Slot.unset).toArray = ls at hl ⊢
  have hl : lv_has ls 6 [(0, .ref g0), (1, .int x1), (2, .int x2)] := hl
  refine lv_iload_n hx hb dX2_takePattern_0 rfl (lv_at hl 1 rfl) ?_
  refine z_if_lt (tgt := 22) hx hb dX2_takePattern_1 (by decide) rfl (fun c1 => ?_) (fun c1 => ?_)
  · have _u := True.intro
    refine lv_iconst (v := 0) hx hb dX2_takePattern_22 (by decide) ?_
    refine lv_istore_n (lv' := [(3, .int 0), (0, .ref g0), (1, .int x1), (2, .int x2)]) hx hb dX2_takePattern_23 rfl hl (by decide) rfl (fun ls hl => ?_)
    refine lv_aload_n hx hb dX2_takePattern_24 rfl (lv_at hl 1 rfl) ?_
    refine lv_iload_n hx hb dX2_takePattern_25 rfl (lv_at hl 3 rfl) ?_
    refine z_if_lt (tgt := 35) hx hb dX2_takePattern_26 (by decide) rfl (fun c26 => ?_) (fun c26 => ?_)
    · have _u := True.intro
      refine lv_iconst (v := 1) hx hb dX2_takePattern_35 (by decide) ?_
      refine lv_goto (tgt := 48) hx hb dX2_takePattern_36 (by decide) ?_
      have hFc := va_free (wc := (MW g0 g1 g2 y4 y5 th (n) (w) T P)) hD hS hA [0, 1, 2] rfl
      refine va_calli (va_runV (As := [.int 1]) (rest := []) ⟨hx, hb, hml, hown, hts⟩ (c_X2_goesWell l D E g0 g1 g2 y4 y5 s.heap.size (n) (w) th T P hn hw hT hPt (hD.weaken (fun _ _ _ _ => trivial)) 1 (1) (Eq.trans (show (1 : Int32).toInt = 1 by decide) (by omega))) (cwV 1 hts gX2_takePattern_X2_goesWell rfl rfl rfl (by decide +kernel) ⟨Nat.le_of_ble_eq_true rfl, Nat.le_of_ble_eq_true rfl⟩) ⟨cp.blind, va_recv hK hP (ci := 1) (q0 := 0) rfl rfl, fun U hU hW => ⟨rfl, cp.call hP hK hE hS hFc hU hW⟩⟩ rfl rfl hl.1 rfl (lv_room (Nat.le_of_ble_eq_true rfl)) dX2_takePattern_48 ⟨Nat.le_of_ble_eq_true rfl, Nat.le_of_ble_eq_true rfl⟩) hS (fun q _ h => hFc q h) hFc (fun v48 u t H1 locs1 ht hvm e48 hB hz1 hk1 hS => ?_)
      obtain ⟨hP1, hD1⟩ := hB
      rw [ht] at hP1
      obtain ⟨hP, hD⟩ := va_join (wr := []) (w1 := (MW g0 g1 g2 y4 y5 1 (n) (w) T P)) hP hD [0, 1, 2] [] rfl rfl (by decide) (by decide) hk1 hFc hP1 hD1
      have hP : va_P D vwCl (MW g0 g1 g2 y4 y5 1 (n) (w) T P) H1 := hP
      have hD : va_D (va_A (MW g0 g1 g2 y4 y5 th (n) (w) T P) s.heap.size) (MW g0 g1 g2 y4 y5 1 (n) (w) T P) := hD
      generalize H1 = H at hP hS ⊢
      generalize locs1 = locs at hS ⊢
      refine zb_if_ne (tgt := 56) hx hb dX2_takePattern_51 (by decide) e48 (fun c51 => ?_) (fun c51 => ?_)
      · have _u := True.intro
        exact absurd c51 (by decide)
      · have _u := True.intro
        refine lv_iconst (v := 0) hx hb dX2_takePattern_54 (by decide) ?_
        have hk0 : kTP n x1.toInt x2.toInt = 1 := by unfold kTP; (repeat' split) <;> omega
        refine W.widen (k := 0) (n := 0) (Nat.le_of_ble_eq_true rfl) (Nat.le_of_ble_eq_true rfl) ?_
        exact W.iret (v := 0) hx hb hr (fun t ht hW => ⟨⟨_, 1, rfl, ⟨(show (1 : Int32).toInt = 1 by decide).trans (by omega), fun h => absurd h (by omega)⟩, ⟨fun h => absurd h (by omega), fun _ => ⟨by rw [ht]; exact hP, hD⟩⟩⟩, hS.F ht⟩) hS.2.2 dX2_takePattern_55
    · have _u := True.intro
      refine lv_iload_n hx hb dX2_takePattern_29 rfl (lv_at hl 3 rfl) ?_
      refine lv_bipush (v := 24) hx hb dX2_takePattern_30 (by decide) ?_
      refine z_icmp_le (tgt := 39) hx hb dX2_takePattern_32 (by decide) rfl (show (24 : Int32).toInt = 24 by decide) (fun c32 => ?_) (fun c32 => ?_)
      · have _u := True.intro
        refine lv_iload_n hx hb dX2_takePattern_39 rfl (lv_at hl 0 rfl) ?_
        refine z_if_eq (tgt := 47) hx hb dX2_takePattern_40 (by decide) (show (0 : Int32).toInt = 0 by decide) (fun c40 => ?_) (fun c40 => ?_)
        · have _u := True.intro
          refine lv_iconst (v := 2) hx hb dX2_takePattern_47 (by decide) ?_
          have hFc := va_free (wc := (MW g0 g1 g2 y4 y5 th (n) (w) T P)) hD hS hA [0, 1, 2] rfl
          refine va_calli (va_runV (As := [.int 2]) (rest := []) ⟨hx, hb, hml, hown, hts⟩ (c_X2_goesWell l D E g0 g1 g2 y4 y5 s.heap.size (n) (w) th T P hn hw hT hPt (hD.weaken (fun _ _ _ _ => trivial)) 2 (2) (Eq.trans (show (2 : Int32).toInt = 2 by decide) (by omega))) (cwV 1 hts gX2_takePattern_X2_goesWell rfl rfl rfl (by decide +kernel) ⟨Nat.le_of_ble_eq_true rfl, Nat.le_of_ble_eq_true rfl⟩) ⟨cp.blind, va_recv hK hP (ci := 1) (q0 := 0) rfl rfl, fun U hU hW => ⟨rfl, cp.call hP hK hE hS hFc hU hW⟩⟩ rfl rfl hl.1 rfl (lv_room (Nat.le_of_ble_eq_true rfl)) dX2_takePattern_48 ⟨Nat.le_of_ble_eq_true rfl, Nat.le_of_ble_eq_true rfl⟩) hS (fun q _ h => hFc q h) hFc (fun v48 u t H1 locs1 ht hvm e48 hB hz1 hk1 hS => ?_)
          obtain ⟨hP1, hD1⟩ := hB
          rw [ht] at hP1
          obtain ⟨hP, hD⟩ := va_join (wr := []) (w1 := (MW g0 g1 g2 y4 y5 2 (n) (w) T P)) hP hD [0, 1, 2] [] rfl rfl (by decide) (by decide) hk1 hFc hP1 hD1
          have hP : va_P D vwCl (MW g0 g1 g2 y4 y5 2 (n) (w) T P) H1 := hP
          have hD : va_D (va_A (MW g0 g1 g2 y4 y5 th (n) (w) T P) s.heap.size) (MW g0 g1 g2 y4 y5 2 (n) (w) T P) := hD
          generalize H1 = H at hP hS ⊢
          generalize locs1 = locs at hS ⊢
          refine zb_if_ne (tgt := 56) hx hb dX2_takePattern_51 (by decide) e48 (fun c51 => ?_) (fun c51 => ?_)
          · have _u := True.intro
            exact absurd c51 (by decide)
          · have _u := True.intro
            refine lv_iconst (v := 0) hx hb dX2_takePattern_54 (by decide) ?_
            have hk0 : kTP n x1.toInt x2.toInt = 2 := by unfold kTP; (repeat' split) <;> omega
            refine W.widen (k := 0) (n := 0) (Nat.le_of_ble_eq_true rfl) (Nat.le_of_ble_eq_true rfl) ?_
            exact W.iret (v := 0) hx hb hr (fun t ht hW => ⟨⟨_, 2, rfl, ⟨(show (2 : Int32).toInt = 2 by decide).trans (by omega), fun h => absurd h (by omega)⟩, ⟨fun h => absurd h (by omega), fun _ => ⟨by rw [ht]; exact hP, hD⟩⟩⟩, hS.F ht⟩) hS.2.2 dX2_takePattern_55
        · have _u := True.intro
          exfalso; omega
      · have _u := True.intro
        refine lv_iconst (v := 1) hx hb dX2_takePattern_35 (by decide) ?_
        refine lv_goto (tgt := 48) hx hb dX2_takePattern_36 (by decide) ?_
        have hFc := va_free (wc := (MW g0 g1 g2 y4 y5 th (n) (w) T P)) hD hS hA [0, 1, 2] rfl
        refine va_calli (va_runV (As := [.int 1]) (rest := []) ⟨hx, hb, hml, hown, hts⟩ (c_X2_goesWell l D E g0 g1 g2 y4 y5 s.heap.size (n) (w) th T P hn hw hT hPt (hD.weaken (fun _ _ _ _ => trivial)) 1 (1) (Eq.trans (show (1 : Int32).toInt = 1 by decide) (by omega))) (cwV 1 hts gX2_takePattern_X2_goesWell rfl rfl rfl (by decide +kernel) ⟨Nat.le_of_ble_eq_true rfl, Nat.le_of_ble_eq_true rfl⟩) ⟨cp.blind, va_recv hK hP (ci := 1) (q0 := 0) rfl rfl, fun U hU hW => ⟨rfl, cp.call hP hK hE hS hFc hU hW⟩⟩ rfl rfl hl.1 rfl (lv_room (Nat.le_of_ble_eq_true rfl)) dX2_takePattern_48 ⟨Nat.le_of_ble_eq_true rfl, Nat.le_of_ble_eq_true rfl⟩) hS (fun q _ h => hFc q h) hFc (fun v48 u t H1 locs1 ht hvm e48 hB hz1 hk1 hS => ?_)
        obtain ⟨hP1, hD1⟩ := hB
        rw [ht] at hP1
        obtain ⟨hP, hD⟩ := va_join (wr := []) (w1 := (MW g0 g1 g2 y4 y5 1 (n) (w) T P)) hP hD [0, 1, 2] [] rfl rfl (by decide) (by decide) hk1 hFc hP1 hD1
        have hP : va_P D vwCl (MW g0 g1 g2 y4 y5 1 (n) (w) T P) H1 := hP
        have hD : va_D (va_A (MW g0 g1 g2 y4 y5 th (n) (w) T P) s.heap.size) (MW g0 g1 g2 y4 y5 1 (n) (w) T P) := hD
        generalize H1 = H at hP hS ⊢
        generalize locs1 = locs at hS ⊢
        refine zb_if_ne (tgt := 56) hx hb dX2_takePattern_51 (by decide) e48 (fun c51 => ?_) (fun c51 => ?_)
        · have _u := True.intro
          exact absurd c51 (by decide)
        · have _u := True.intro
          refine lv_iconst (v := 0) hx hb dX2_takePattern_54 (by decide) ?_
          have hk0 : kTP n x1.toInt x2.toInt = 1 := by unfold kTP; (repeat' split) <;> omega
          refine W.widen (k := 0) (n := 0) (Nat.le_of_ble_eq_true rfl) (Nat.le_of_ble_eq_true rfl) ?_
          exact W.iret (v := 0) hx hb hr (fun t ht hW => ⟨⟨_, 1, rfl, ⟨(show (1 : Int32).toInt = 1 by decide).trans (by omega), fun h => absurd h (by omega)⟩, ⟨fun h => absurd h (by omega), fun _ => ⟨by rw [ht]; exact hP, hD⟩⟩⟩, hS.F ht⟩) hS.2.2 dX2_takePattern_55
  · have _u := True.intro
    refine lv_iload_n hx hb dX2_takePattern_4 rfl (lv_at hl 1 rfl) ?_
    refine z_i2l hx hb dX2_takePattern_5 rfl (fun v5 e5 => ?_)
    refine lv_iload_n hx hb dX2_takePattern_6 rfl (lv_at hl 2 rfl) ?_
    refine z_i2l hx hb dX2_takePattern_7 rfl (fun v7 e7 => ?_)
    refine z_ladd hx hb dX2_takePattern_8 e5 e7 (by omega) (by omega) (fun v8 e8 => ?_)
    refine lv_aload_n hx hb dX2_takePattern_9 rfl (lv_at hl 0 rfl) ?_
    refine va_get (D := D) (ci := 1) (v := .int (nI n)) (C := RX2) (T := TX2) (N := 5) hx hb hts hin0 hown hK hP 0 rfl rfl 3 (by decide) hf_n (fun _ h9 => h9) rfl dX2_takePattern_10 ?_
    refine z_i2l hx hb dX2_takePattern_13 inn (fun v13 e13 => ?_)
    refine z_lcmp hx hb dX2_takePattern_14 e8 e13 (fun v14 z14 e14 f14 g14 => ?_)
    refine z_if_gt (tgt := 22) hx hb dX2_takePattern_15 (by decide) e14 (fun c15 => ?_) (fun c15 => ?_)
    · have _u := True.intro
      refine lv_iconst (v := 0) hx hb dX2_takePattern_22 (by decide) ?_
      refine lv_istore_n (lv' := [(3, .int 0), (0, .ref g0), (1, .int x1), (2, .int x2)]) hx hb dX2_takePattern_23 rfl hl (by decide) rfl (fun ls hl => ?_)
      refine lv_aload_n hx hb dX2_takePattern_24 rfl (lv_at hl 1 rfl) ?_
      refine lv_iload_n hx hb dX2_takePattern_25 rfl (lv_at hl 3 rfl) ?_
      refine z_if_lt (tgt := 35) hx hb dX2_takePattern_26 (by decide) rfl (fun c26 => ?_) (fun c26 => ?_)
      · have _u := True.intro
        refine lv_iconst (v := 1) hx hb dX2_takePattern_35 (by decide) ?_
        refine lv_goto (tgt := 48) hx hb dX2_takePattern_36 (by decide) ?_
        have hFc := va_free (wc := (MW g0 g1 g2 y4 y5 th (n) (w) T P)) hD hS hA [0, 1, 2] rfl
        refine va_calli (va_runV (As := [.int 1]) (rest := []) ⟨hx, hb, hml, hown, hts⟩ (c_X2_goesWell l D E g0 g1 g2 y4 y5 s.heap.size (n) (w) th T P hn hw hT hPt (hD.weaken (fun _ _ _ _ => trivial)) 1 (1) (Eq.trans (show (1 : Int32).toInt = 1 by decide) (by omega))) (cwV 1 hts gX2_takePattern_X2_goesWell rfl rfl rfl (by decide +kernel) ⟨Nat.le_of_ble_eq_true rfl, Nat.le_of_ble_eq_true rfl⟩) ⟨cp.blind, va_recv hK hP (ci := 1) (q0 := 0) rfl rfl, fun U hU hW => ⟨rfl, cp.call hP hK hE hS hFc hU hW⟩⟩ rfl rfl hl.1 rfl (lv_room (Nat.le_of_ble_eq_true rfl)) dX2_takePattern_48 ⟨Nat.le_of_ble_eq_true rfl, Nat.le_of_ble_eq_true rfl⟩) hS (fun q _ h => hFc q h) hFc (fun v48 u t H1 locs1 ht hvm e48 hB hz1 hk1 hS => ?_)
        obtain ⟨hP1, hD1⟩ := hB
        rw [ht] at hP1
        obtain ⟨hP, hD⟩ := va_join (wr := []) (w1 := (MW g0 g1 g2 y4 y5 1 (n) (w) T P)) hP hD [0, 1, 2] [] rfl rfl (by decide) (by decide) hk1 hFc hP1 hD1
        have hP : va_P D vwCl (MW g0 g1 g2 y4 y5 1 (n) (w) T P) H1 := hP
        have hD : va_D (va_A (MW g0 g1 g2 y4 y5 th (n) (w) T P) s.heap.size) (MW g0 g1 g2 y4 y5 1 (n) (w) T P) := hD
        generalize H1 = H at hP hS ⊢
        generalize locs1 = locs at hS ⊢
        refine zb_if_ne (tgt := 56) hx hb dX2_takePattern_51 (by decide) e48 (fun c51 => ?_) (fun c51 => ?_)
        · have _u := True.intro
          exact absurd c51 (by decide)
        · have _u := True.intro
          refine lv_iconst (v := 0) hx hb dX2_takePattern_54 (by decide) ?_
          have hk0 : kTP n x1.toInt x2.toInt = 1 := by unfold kTP; (repeat' split) <;> omega
          refine W.widen (k := 0) (n := 0) (Nat.le_of_ble_eq_true rfl) (Nat.le_of_ble_eq_true rfl) ?_
          exact W.iret (v := 0) hx hb hr (fun t ht hW => ⟨⟨_, 1, rfl, ⟨(show (1 : Int32).toInt = 1 by decide).trans (by omega), fun h => absurd h (by omega)⟩, ⟨fun h => absurd h (by omega), fun _ => ⟨by rw [ht]; exact hP, hD⟩⟩⟩, hS.F ht⟩) hS.2.2 dX2_takePattern_55
      · have _u := True.intro
        refine lv_iload_n hx hb dX2_takePattern_29 rfl (lv_at hl 3 rfl) ?_
        refine lv_bipush (v := 24) hx hb dX2_takePattern_30 (by decide) ?_
        refine z_icmp_le (tgt := 39) hx hb dX2_takePattern_32 (by decide) rfl (show (24 : Int32).toInt = 24 by decide) (fun c32 => ?_) (fun c32 => ?_)
        · have _u := True.intro
          refine lv_iload_n hx hb dX2_takePattern_39 rfl (lv_at hl 0 rfl) ?_
          refine z_if_eq (tgt := 47) hx hb dX2_takePattern_40 (by decide) (show (0 : Int32).toInt = 0 by decide) (fun c40 => ?_) (fun c40 => ?_)
          · have _u := True.intro
            refine lv_iconst (v := 2) hx hb dX2_takePattern_47 (by decide) ?_
            have hFc := va_free (wc := (MW g0 g1 g2 y4 y5 th (n) (w) T P)) hD hS hA [0, 1, 2] rfl
            refine va_calli (va_runV (As := [.int 2]) (rest := []) ⟨hx, hb, hml, hown, hts⟩ (c_X2_goesWell l D E g0 g1 g2 y4 y5 s.heap.size (n) (w) th T P hn hw hT hPt (hD.weaken (fun _ _ _ _ => trivial)) 2 (2) (Eq.trans (show (2 : Int32).toInt = 2 by decide) (by omega))) (cwV 1 hts gX2_takePattern_X2_goesWell rfl rfl rfl (by decide +kernel) ⟨Nat.le_of_ble_eq_true rfl, Nat.le_of_ble_eq_true rfl⟩) ⟨cp.blind, va_recv hK hP (ci := 1) (q0 := 0) rfl rfl, fun U hU hW => ⟨rfl, cp.call hP hK hE hS hFc hU hW⟩⟩ rfl rfl hl.1 rfl (lv_room (Nat.le_of_ble_eq_true rfl)) dX2_takePattern_48 ⟨Nat.le_of_ble_eq_true rfl, Nat.le_of_ble_eq_true rfl⟩) hS (fun q _ h => hFc q h) hFc (fun v48 u t H1 locs1 ht hvm e48 hB hz1 hk1 hS => ?_)
            obtain ⟨hP1, hD1⟩ := hB
            rw [ht] at hP1
            obtain ⟨hP, hD⟩ := va_join (wr := []) (w1 := (MW g0 g1 g2 y4 y5 2 (n) (w) T P)) hP hD [0, 1, 2] [] rfl rfl (by decide) (by decide) hk1 hFc hP1 hD1
            have hP : va_P D vwCl (MW g0 g1 g2 y4 y5 2 (n) (w) T P) H1 := hP
            have hD : va_D (va_A (MW g0 g1 g2 y4 y5 th (n) (w) T P) s.heap.size) (MW g0 g1 g2 y4 y5 2 (n) (w) T P) := hD
            generalize H1 = H at hP hS ⊢
            generalize locs1 = locs at hS ⊢
            refine zb_if_ne (tgt := 56) hx hb dX2_takePattern_51 (by decide) e48 (fun c51 => ?_) (fun c51 => ?_)
            · have _u := True.intro
              exact absurd c51 (by decide)
            · have _u := True.intro
              refine lv_iconst (v := 0) hx hb dX2_takePattern_54 (by decide) ?_
              have hk0 : kTP n x1.toInt x2.toInt = 2 := by unfold kTP; (repeat' split) <;> omega
              refine W.widen (k := 0) (n := 0) (Nat.le_of_ble_eq_true rfl) (Nat.le_of_ble_eq_true rfl) ?_
              exact W.iret (v := 0) hx hb hr (fun t ht hW => ⟨⟨_, 2, rfl, ⟨(show (2 : Int32).toInt = 2 by decide).trans (by omega), fun h => absurd h (by omega)⟩, ⟨fun h => absurd h (by omega), fun _ => ⟨by rw [ht]; exact hP, hD⟩⟩⟩, hS.F ht⟩) hS.2.2 dX2_takePattern_55
          · have _u := True.intro
            exfalso; omega
        · have _u := True.intro
          refine lv_iconst (v := 1) hx hb dX2_takePattern_35 (by decide) ?_
          refine lv_goto (tgt := 48) hx hb dX2_takePattern_36 (by decide) ?_
          have hFc := va_free (wc := (MW g0 g1 g2 y4 y5 th (n) (w) T P)) hD hS hA [0, 1, 2] rfl
          refine va_calli (va_runV (As := [.int 1]) (rest := []) ⟨hx, hb, hml, hown, hts⟩ (c_X2_goesWell l D E g0 g1 g2 y4 y5 s.heap.size (n) (w) th T P hn hw hT hPt (hD.weaken (fun _ _ _ _ => trivial)) 1 (1) (Eq.trans (show (1 : Int32).toInt = 1 by decide) (by omega))) (cwV 1 hts gX2_takePattern_X2_goesWell rfl rfl rfl (by decide +kernel) ⟨Nat.le_of_ble_eq_true rfl, Nat.le_of_ble_eq_true rfl⟩) ⟨cp.blind, va_recv hK hP (ci := 1) (q0 := 0) rfl rfl, fun U hU hW => ⟨rfl, cp.call hP hK hE hS hFc hU hW⟩⟩ rfl rfl hl.1 rfl (lv_room (Nat.le_of_ble_eq_true rfl)) dX2_takePattern_48 ⟨Nat.le_of_ble_eq_true rfl, Nat.le_of_ble_eq_true rfl⟩) hS (fun q _ h => hFc q h) hFc (fun v48 u t H1 locs1 ht hvm e48 hB hz1 hk1 hS => ?_)
          obtain ⟨hP1, hD1⟩ := hB
          rw [ht] at hP1
          obtain ⟨hP, hD⟩ := va_join (wr := []) (w1 := (MW g0 g1 g2 y4 y5 1 (n) (w) T P)) hP hD [0, 1, 2] [] rfl rfl (by decide) (by decide) hk1 hFc hP1 hD1
          have hP : va_P D vwCl (MW g0 g1 g2 y4 y5 1 (n) (w) T P) H1 := hP
          have hD : va_D (va_A (MW g0 g1 g2 y4 y5 th (n) (w) T P) s.heap.size) (MW g0 g1 g2 y4 y5 1 (n) (w) T P) := hD
          generalize H1 = H at hP hS ⊢
          generalize locs1 = locs at hS ⊢
          refine zb_if_ne (tgt := 56) hx hb dX2_takePattern_51 (by decide) e48 (fun c51 => ?_) (fun c51 => ?_)
          · have _u := True.intro
            exact absurd c51 (by decide)
          · have _u := True.intro
            refine lv_iconst (v := 0) hx hb dX2_takePattern_54 (by decide) ?_
            have hk0 : kTP n x1.toInt x2.toInt = 1 := by unfold kTP; (repeat' split) <;> omega
            refine W.widen (k := 0) (n := 0) (Nat.le_of_ble_eq_true rfl) (Nat.le_of_ble_eq_true rfl) ?_
            exact W.iret (v := 0) hx hb hr (fun t ht hW => ⟨⟨_, 1, rfl, ⟨(show (1 : Int32).toInt = 1 by decide).trans (by omega), fun h => absurd h (by omega)⟩, ⟨fun h => absurd h (by omega), fun _ => ⟨by rw [ht]; exact hP, hD⟩⟩⟩, hS.F ht⟩) hS.2.2 dX2_takePattern_55
    · have _u := True.intro
      refine lv_iconst (v := 1) hx hb dX2_takePattern_18 (by decide) ?_
      refine lv_goto (tgt := 23) hx hb dX2_takePattern_19 (by decide) ?_
      refine lv_istore_n (lv' := [(3, .int 1), (0, .ref g0), (1, .int x1), (2, .int x2)]) hx hb dX2_takePattern_23 rfl hl (by decide) rfl (fun ls hl => ?_)
      refine lv_aload_n hx hb dX2_takePattern_24 rfl (lv_at hl 1 rfl) ?_
      refine lv_iload_n hx hb dX2_takePattern_25 rfl (lv_at hl 3 rfl) ?_
      refine z_if_lt (tgt := 35) hx hb dX2_takePattern_26 (by decide) rfl (fun c26 => ?_) (fun c26 => ?_)
      · have _u := True.intro
        refine lv_iconst (v := 1) hx hb dX2_takePattern_35 (by decide) ?_
        refine lv_goto (tgt := 48) hx hb dX2_takePattern_36 (by decide) ?_
        have hFc := va_free (wc := (MW g0 g1 g2 y4 y5 th (n) (w) T P)) hD hS hA [0, 1, 2] rfl
        refine va_calli (va_runV (As := [.int 1]) (rest := []) ⟨hx, hb, hml, hown, hts⟩ (c_X2_goesWell l D E g0 g1 g2 y4 y5 s.heap.size (n) (w) th T P hn hw hT hPt (hD.weaken (fun _ _ _ _ => trivial)) 1 (1) (Eq.trans (show (1 : Int32).toInt = 1 by decide) (by omega))) (cwV 1 hts gX2_takePattern_X2_goesWell rfl rfl rfl (by decide +kernel) ⟨Nat.le_of_ble_eq_true rfl, Nat.le_of_ble_eq_true rfl⟩) ⟨cp.blind, va_recv hK hP (ci := 1) (q0 := 0) rfl rfl, fun U hU hW => ⟨rfl, cp.call hP hK hE hS hFc hU hW⟩⟩ rfl rfl hl.1 rfl (lv_room (Nat.le_of_ble_eq_true rfl)) dX2_takePattern_48 ⟨Nat.le_of_ble_eq_true rfl, Nat.le_of_ble_eq_true rfl⟩) hS (fun q _ h => hFc q h) hFc (fun v48 u t H1 locs1 ht hvm e48 hB hz1 hk1 hS => ?_)
        obtain ⟨hP1, hD1⟩ := hB
        rw [ht] at hP1
        obtain ⟨hP, hD⟩ := va_join (wr := []) (w1 := (MW g0 g1 g2 y4 y5 1 (n) (w) T P)) hP hD [0, 1, 2] [] rfl rfl (by decide) (by decide) hk1 hFc hP1 hD1
        have hP : va_P D vwCl (MW g0 g1 g2 y4 y5 1 (n) (w) T P) H1 := hP
        have hD : va_D (va_A (MW g0 g1 g2 y4 y5 th (n) (w) T P) s.heap.size) (MW g0 g1 g2 y4 y5 1 (n) (w) T P) := hD
        generalize H1 = H at hP hS ⊢
        generalize locs1 = locs at hS ⊢
        refine zb_if_ne (tgt := 56) hx hb dX2_takePattern_51 (by decide) e48 (fun c51 => ?_) (fun c51 => ?_)
        · have _u := True.intro
          exact absurd c51 (by decide)
        · have _u := True.intro
          refine lv_iconst (v := 0) hx hb dX2_takePattern_54 (by decide) ?_
          have hk0 : kTP n x1.toInt x2.toInt = 1 := by unfold kTP; (repeat' split) <;> omega
          refine W.widen (k := 0) (n := 0) (Nat.le_of_ble_eq_true rfl) (Nat.le_of_ble_eq_true rfl) ?_
          exact W.iret (v := 0) hx hb hr (fun t ht hW => ⟨⟨_, 1, rfl, ⟨(show (1 : Int32).toInt = 1 by decide).trans (by omega), fun h => absurd h (by omega)⟩, ⟨fun h => absurd h (by omega), fun _ => ⟨by rw [ht]; exact hP, hD⟩⟩⟩, hS.F ht⟩) hS.2.2 dX2_takePattern_55
      · have _u := True.intro
        refine lv_iload_n hx hb dX2_takePattern_29 rfl (lv_at hl 3 rfl) ?_
        refine lv_bipush (v := 24) hx hb dX2_takePattern_30 (by decide) ?_
        refine z_icmp_le (tgt := 39) hx hb dX2_takePattern_32 (by decide) rfl (show (24 : Int32).toInt = 24 by decide) (fun c32 => ?_) (fun c32 => ?_)
        · have _u := True.intro
          refine lv_iload_n hx hb dX2_takePattern_39 rfl (lv_at hl 0 rfl) ?_
          refine z_if_eq (tgt := 47) hx hb dX2_takePattern_40 (by decide) (show (1 : Int32).toInt = 1 by decide) (fun c40 => ?_) (fun c40 => ?_)
          · have _u := True.intro
            exfalso; omega
          · have _u := True.intro
            refine lv_iconst (v := 0) hx hb dX2_takePattern_43 (by decide) ?_
            refine lv_goto (tgt := 48) hx hb dX2_takePattern_44 (by decide) ?_
            have hFc := va_free (wc := (MW g0 g1 g2 y4 y5 th (n) (w) T P)) hD hS hA [0, 1, 2] rfl
            refine va_calli (va_runV (As := [.int 0]) (rest := []) ⟨hx, hb, hml, hown, hts⟩ (c_X2_goesWell l D E g0 g1 g2 y4 y5 s.heap.size (n) (w) th T P hn hw hT hPt (hD.weaken (fun _ _ _ _ => trivial)) 0 (0) (Eq.trans (show (0 : Int32).toInt = 0 by decide) (by omega))) (cwV 1 hts gX2_takePattern_X2_goesWell rfl rfl rfl (by decide +kernel) ⟨Nat.le_of_ble_eq_true rfl, Nat.le_of_ble_eq_true rfl⟩) ⟨cp.blind, va_recv hK hP (ci := 1) (q0 := 0) rfl rfl, fun U hU hW => ⟨rfl, cp.call hP hK hE hS hFc hU hW⟩⟩ rfl rfl hl.1 rfl (lv_room (Nat.le_of_ble_eq_true rfl)) dX2_takePattern_48 ⟨Nat.le_of_ble_eq_true rfl, Nat.le_of_ble_eq_true rfl⟩) hS (fun q _ h => hFc q h) hFc (fun v48 u t H1 locs1 ht hvm e48 hB hz1 hk1 hS => ?_)
            obtain ⟨hP1, hD1⟩ := hB
            rw [ht] at hP1
            obtain ⟨hP, hD⟩ := va_join (wr := []) (w1 := (MW g0 g1 g2 y4 y5 0 (n) (w) T P)) hP hD [0, 1, 2] [] rfl rfl (by decide) (by decide) hk1 hFc hP1 hD1
            have hP : va_P D vwCl (MW g0 g1 g2 y4 y5 0 (n) (w) T P) H1 := hP
            have hD : va_D (va_A (MW g0 g1 g2 y4 y5 th (n) (w) T P) s.heap.size) (MW g0 g1 g2 y4 y5 0 (n) (w) T P) := hD
            generalize H1 = H at hP hS ⊢
            generalize locs1 = locs at hS ⊢
            refine zb_if_ne (tgt := 56) hx hb dX2_takePattern_51 (by decide) e48 (fun c51 => ?_) (fun c51 => ?_)
            · have _u := True.intro
              refine lv_aload_n hx hb dX2_takePattern_56 rfl (lv_at hl 1 rfl) ?_
              refine lv_iload_n hx hb dX2_takePattern_57 rfl (lv_at hl 3 rfl) ?_
              refine lv_as (y := nI (x2.toInt.toNat)) (nIe (Eq.trans rfl (by omega))) ?_
              refine va_put (D := D) (ci := 1) (v := .int (nI (x2.toInt.toNat))) (ty := .int) (C := RX2) (T := TX2) (N := 5) hx hb hts hin0 tyX2 tyX2_ok nmX2 hown hK hP hD hS 0 rfl rfl 4 (by decide) hf_m (fun _ h9 => h9) rfl (by decide +kernel) rfl rfl (Nat.le_of_ble_eq_true rfl) dX2_takePattern_58 (fun H locs hP hD hS => ?_)
              have hP : va_P D vwCl (MW g0 g1 g2 y4 y5 0 (n) (x2.toInt.toNat) T P) H := hP
              have hD : va_D (va_A (MW g0 g1 g2 y4 y5 th (n) (w) T P) s.heap.size) (MW g0 g1 g2 y4 y5 0 (n) (x2.toInt.toNat) T P) := hD
              refine lv_iconst (v := 0) hx hb dX2_takePattern_61 (by decide) ?_
              refine lv_istore (lv' := [(4, .int 0), (3, .int 1), (0, .ref g0), (1, .int x1), (2, .int x2)]) hx hb dX2_takePattern_62 hl (by decide) rfl (fun ls hl => ?_)
              refine lv_iconst (v := 0) hx hb dX2_takePattern_64 (by decide) ?_
              refine lv_istore (lv' := [(5, .int 0), (4, .int 0), (3, .int 1), (0, .ref g0), (1, .int x1), (2, .int x2)]) hx hb dX2_takePattern_65 hl (by decide) rfl (fun ls hl => ?_)
              have lp67 : ∀ (nf : Nat) (j : Nat) (x4 : Int32) (x5 : Int32) (Pk : Nat → Int32), x2.toInt.toNat - j < nf → (j ≤ x2.toInt.toNat) → (Pk = va_cpy T P x1.toInt.toNat 0 j) → x4.toInt = ((cnt (bf (fun i => T (x1.toInt.toNat + i))) j : Nat) : Int) → x5.toInt = (j : Int) → ∀ (H : Heap) (locs : List Loc), va_P D vwCl (MW g0 g1 g2 y4 y5 0 (n) (x2.toInt.toNat) T Pk) H → va_D (va_A (MW g0 g1 g2 y4 y5 th (n) (w) T P) s.heap.size) (MW g0 g1 g2 y4 y5 0 (n) (x2.toInt.toNat) T Pk) → va_S (va_A (MW g0 g1 g2 y4 y5 th (n) (w) T P) s.heap.size) s.heap H locs → ∀ (ls : Array Slot), lv_has ls 6 [(0, .ref g0), (1, .int x1), (2, .int x2), (4, .int x4), (5, .int x5)] → W p l e (headSpec wsX2_takePattern ({ frames := 1, cells := 0, slots := 0, locals := 21 })).room s m [.ref g0, .int x1, .int x2].toArray below meth c H locs 0 0 (MQ below (va_Qi (fun (r : Int32) (th2 : Int32) => th2.toInt = ((kTP n x1.toInt x2.toInt : Nat) : Int) ∧ (kTP n x1.toInt x2.toInt = 0 → r.toInt = ((cnt (bf (va_cpy T P x1.toInt.toNat 0 x2.toInt.toNat)) x2.toInt.toNat : Nat) : Int))) (fun (th2 : Int32) t => (kTP n x1.toInt x2.toInt = 0 → va_P D vwCl (MW g0 g1 g2 y4 y5 th2 (n) (x2.toInt.toNat) T (va_cpy T P x1.toInt.toNat 0 x2.toInt.toNat)) t.heap ∧ va_D (va_A (MW g0 g1 g2 y4 y5 th (n) (w) T P) s.heap.size) (MW g0 g1 g2 y4 y5 th2 (n) (x2.toInt.toNat) T (va_cpy T P x1.toInt.toNat 0 x2.toInt.toNat))) ∧ (¬ kTP n x1.toInt x2.toInt = 0 → va_P D vwCl (MW g0 g1 g2 y4 y5 th2 (n) (w) T P) t.heap ∧ va_D (va_A (MW g0 g1 g2 y4 y5 th (n) (w) T P) s.heap.size) (MW g0 g1 g2 y4 y5 th2 (n) (w) T P))) (va_A (MW g0 g1 g2 y4 y5 th (n) (w) T P) s.heap.size)) [.ref g0, .int x1, .int x2].toArray s 0 0 (va_A (MW g0 g1 g2 y4 y5 th (n) (w) T P) s.heap.size)) (F0 m 67 ls []) := by
                intro nf
                induction nf with
                | zero => intros; omega
                | succ nf ih67 =>
                  intro j x4 x5 Pk hnf hj hPk e_x4 e_x5 H locs hP hD hS ls hl
                  have hcl := cnt_le (bf (fun i => T (x1.toInt.toNat + i))) j
                  refine lv_iload hx hb dX2_takePattern_67 (lv_at hl 4 rfl) ?_
                  refine lv_iload_n hx hb dX2_takePattern_69 rfl (lv_at hl 2 rfl) ?_
                  refine z_icmp_ge (tgt := 115) hx hb dX2_takePattern_70 (by decide) e_x5 rfl (fun c70 => ?_) (fun c70 => ?_)
                  · have _u := True.intro
                    refine lv_iload hx hb dX2_takePattern_115 (lv_at hl 3 rfl) ?_
                    rw [hPk, show j = x2.toInt.toNat by omega] at hP hD
                    have hk0 : kTP n x1.toInt x2.toInt = 0 := by unfold kTP; (repeat' split) <;> omega
                    refine W.widen (k := 0) (n := 0) (Nat.le_of_ble_eq_true rfl) (Nat.le_of_ble_eq_true rfl) ?_
                    exact W.iret (v := x4) hx hb hr (fun t ht hW => ⟨⟨_, 0, rfl, ⟨(show (0 : Int32).toInt = 0 by decide).trans (by omega), fun _ => (Eq.trans e_x4 (by rw [bf_cpy, show j = x2.toInt.toNat by omega]))⟩, ⟨fun _ => ⟨by rw [ht]; exact hP, hD⟩, fun h => absurd hk0 h⟩⟩, hS.F ht⟩) hS.2.2 dX2_takePattern_117
                  · have _u := True.intro
                    refine lv_aload_n hx hb dX2_takePattern_73 rfl (lv_at hl 0 rfl) ?_
                    refine va_get (D := D) (ci := 1) (v := .ref g2) (C := RX2) (T := TX2) (N := 5) hx hb hts hin0 hown hK hP 0 rfl rfl 2 (by decide) hf_pattern (fun _ h9 => h9) rfl dX2_takePattern_74 ?_
                    refine lv_iload hx hb dX2_takePattern_77 (lv_at hl 4 rfl) ?_
                    refine lv_aload_n hx hb dX2_takePattern_79 rfl (lv_at hl 0 rfl) ?_
                    refine va_get (D := D) (ci := 1) (v := .ref g1) (C := RX2) (T := TX2) (N := 5) hx hb hts hin0 hown hK hP 0 rfl rfl 1 (by decide) hf_text (fun _ h9 => h9) rfl dX2_takePattern_80 ?_
                    refine lv_iload_n hx hb dX2_takePattern_83 rfl (lv_at hl 1 rfl) ?_
                    refine lv_iload hx hb dX2_takePattern_84 (lv_at hl 4 rfl) ?_
                    refine z_iadd hx hb dX2_takePattern_86 rfl e_x5 (by omega) (by omega) (fun v86 e86 => ?_)
                    refine z_iald hx hb hK hP 1 0 rfl rfl (x1.toInt.toNat + j) e86 (by omega) (by omega) dX2_takePattern_87 ?_
                    refine z_iast hx hb hK hP hD hS 2 1 rfl rfl (j) e_x5 (by omega) (by omega) dX2_takePattern_88 (fun H locs hP hD hS => ?_)
                    have hP : va_P D vwCl (MW g0 g1 g2 y4 y5 0 (n) (x2.toInt.toNat) T (upd Pk (j) (T (x1.toInt.toNat + j)))) H := hP
                    have hD : va_D (va_A (MW g0 g1 g2 y4 y5 th (n) (w) T P) s.heap.size) (MW g0 g1 g2 y4 y5 0 (n) (x2.toInt.toNat) T (upd Pk (j) (T (x1.toInt.toNat + j)))) := hD
                    refine lv_iload hx hb dX2_takePattern_89 (lv_at hl 3 rfl) ?_
                    refine lv_aload_n hx hb dX2_takePattern_91 rfl (lv_at hl 0 rfl) ?_
                    refine va_get (D := D) (ci := 1) (v := .ref g2) (C := RX2) (T := TX2) (N := 5) hx hb hts hin0 hown hK hP 0 rfl rfl 2 (by decide) hf_pattern (fun _ h9 => h9) rfl dX2_takePattern_92 ?_
                    refine lv_iload hx hb dX2_takePattern_95 (lv_at hl 4 rfl) ?_
                    refine z_iald hx hb hK hP 2 1 rfl rfl (j) e_x5 (by omega) (by omega) dX2_takePattern_97 ?_
                    refine z_if_ne (tgt := 105) hx hb dX2_takePattern_98 (by decide) rfl (fun c98 => ?_) (fun c98 => ?_)
                    · have _u := True.intro
                      have q := cnt_f (f := (bf (fun i => T (x1.toInt.toNat + i)))) (k := j) (bf_f (by rw [pk_us] at c98; exact c98))
                      refine lv_iconst (v := 0) hx hb dX2_takePattern_105 (by decide) ?_
                      refine z_iadd hx hb dX2_takePattern_106 e_x4 (show (0 : Int32).toInt = 0 by decide) (by omega) (by omega) (fun v106 e106 => ?_)
                      refine lv_istore (lv' := [(4, .int v106), (0, .ref g0), (1, .int x1), (2, .int x2), (5, .int x5)]) hx hb dX2_takePattern_107 hl (by decide) rfl (fun ls hl => ?_)
                      refine z_iinc (k := 4) (lv' := fun v => [(5, .int v), (4, .int v106), (0, .ref g0), (1, .int x1), (2, .int x2)]) hx hb dX2_takePattern_109 hl rfl e_x5 (by decide) (by omega) (by omega) (by decide) (fun _ => rfl) (fun v109 ls e109 hl => ?_)
                      refine lv_goto (tgt := 67) hx hb dX2_takePattern_112 (by decide) ?_
                      exact ih67 (j + 1) v106 v109 (upd Pk (j) (T (x1.toInt.toNat + j))) (by omega) (by omega) (by rw [hPk]; exact cpy_s0 rfl) (Eq.trans e106 (by omega)) (Eq.trans e109 (by omega)) _ _ hP hD hS _ (lv_sub hl [2, 3, 4, 1, 0] rfl)
                    · have _u := True.intro
                      have q := cnt_t (f := (bf (fun i => T (x1.toInt.toNat + i)))) (k := j) (bf_t (by rw [pk_us] at c98; exact c98))
                      refine lv_iconst (v := 1) hx hb dX2_takePattern_101 (by decide) ?_
                      refine lv_goto (tgt := 106) hx hb dX2_takePattern_102 (by decide) ?_
                      refine z_iadd hx hb dX2_takePattern_106 e_x4 (show (1 : Int32).toInt = 1 by decide) (by omega) (by omega) (fun v106 e106 => ?_)
                      refine lv_istore (lv' := [(4, .int v106), (0, .ref g0), (1, .int x1), (2, .int x2), (5, .int x5)]) hx hb dX2_takePattern_107 hl (by decide) rfl (fun ls hl => ?_)
                      refine z_iinc (k := 4) (lv' := fun v => [(5, .int v), (4, .int v106), (0, .ref g0), (1, .int x1), (2, .int x2)]) hx hb dX2_takePattern_109 hl rfl e_x5 (by decide) (by omega) (by omega) (by decide) (fun _ => rfl) (fun v109 ls e109 hl => ?_)
                      refine lv_goto (tgt := 67) hx hb dX2_takePattern_112 (by decide) ?_
                      exact ih67 (j + 1) v106 v109 (upd Pk (j) (T (x1.toInt.toNat + j))) (by omega) (by omega) (by rw [hPk]; exact cpy_s0 rfl) (Eq.trans e106 (by omega)) (Eq.trans e109 (by omega)) _ _ hP hD hS _ (lv_sub hl [2, 3, 4, 1, 0] rfl)
              have hc0 := cnt_0 (bf (fun i => T (x1.toInt.toNat + i)))
              exact lp67 ((x2.toInt.toNat - 0) + 1) (0) 0 0 P (by omega) (by omega) (cpy_0.symm) (Eq.trans (show (0 : Int32).toInt = 0 by decide) (by omega)) (Eq.trans (show (0 : Int32).toInt = 0 by decide) (by omega)) _ _ hP hD hS _ (lv_sub hl [3, 4, 5, 1, 0] rfl)
            · have _u := True.intro
              exact absurd c51 (by decide)
        · have _u := True.intro
          refine lv_iconst (v := 1) hx hb dX2_takePattern_35 (by decide) ?_
          refine lv_goto (tgt := 48) hx hb dX2_takePattern_36 (by decide) ?_
          have hFc := va_free (wc := (MW g0 g1 g2 y4 y5 th (n) (w) T P)) hD hS hA [0, 1, 2] rfl
          refine va_calli (va_runV (As := [.int 1]) (rest := []) ⟨hx, hb, hml, hown, hts⟩ (c_X2_goesWell l D E g0 g1 g2 y4 y5 s.heap.size (n) (w) th T P hn hw hT hPt (hD.weaken (fun _ _ _ _ => trivial)) 1 (1) (Eq.trans (show (1 : Int32).toInt = 1 by decide) (by omega))) (cwV 1 hts gX2_takePattern_X2_goesWell rfl rfl rfl (by decide +kernel) ⟨Nat.le_of_ble_eq_true rfl, Nat.le_of_ble_eq_true rfl⟩) ⟨cp.blind, va_recv hK hP (ci := 1) (q0 := 0) rfl rfl, fun U hU hW => ⟨rfl, cp.call hP hK hE hS hFc hU hW⟩⟩ rfl rfl hl.1 rfl (lv_room (Nat.le_of_ble_eq_true rfl)) dX2_takePattern_48 ⟨Nat.le_of_ble_eq_true rfl, Nat.le_of_ble_eq_true rfl⟩) hS (fun q _ h => hFc q h) hFc (fun v48 u t H1 locs1 ht hvm e48 hB hz1 hk1 hS => ?_)
          obtain ⟨hP1, hD1⟩ := hB
          rw [ht] at hP1
          obtain ⟨hP, hD⟩ := va_join (wr := []) (w1 := (MW g0 g1 g2 y4 y5 1 (n) (w) T P)) hP hD [0, 1, 2] [] rfl rfl (by decide) (by decide) hk1 hFc hP1 hD1
          have hP : va_P D vwCl (MW g0 g1 g2 y4 y5 1 (n) (w) T P) H1 := hP
          have hD : va_D (va_A (MW g0 g1 g2 y4 y5 th (n) (w) T P) s.heap.size) (MW g0 g1 g2 y4 y5 1 (n) (w) T P) := hD
          generalize H1 = H at hP hS ⊢
          generalize locs1 = locs at hS ⊢
          refine zb_if_ne (tgt := 56) hx hb dX2_takePattern_51 (by decide) e48 (fun c51 => ?_) (fun c51 => ?_)
          · have _u := True.intro
            exact absurd c51 (by decide)
          · have _u := True.intro
            refine lv_iconst (v := 0) hx hb dX2_takePattern_54 (by decide) ?_
            have hk0 : kTP n x1.toInt x2.toInt = 1 := by unfold kTP; (repeat' split) <;> omega
            refine W.widen (k := 0) (n := 0) (Nat.le_of_ble_eq_true rfl) (Nat.le_of_ble_eq_true rfl) ?_
            exact W.iret (v := 0) hx hb hr (fun t ht hW => ⟨⟨_, 1, rfl, ⟨(show (1 : Int32).toInt = 1 by decide).trans (by omega), fun h => absurd h (by omega)⟩, ⟨fun h => absurd h (by omega), fun _ => ⟨by rw [ht]; exact hP, hD⟩⟩⟩, hS.F ht⟩) hS.2.2 dX2_takePattern_55

set_option maxHeartbeats 4000000 in
set_option maxRecDepth 100000 in
theorem c_X2_clearText (l : Launch) (D : va_G) (E : Nat × Nat × Nat) (g0 g1 g2 : Nat) (y4 y5 : ClassId) (sz n w : Nat) (th : Int32) (T P : Nat → Int32) (hn : n ≤ 64) (hw : w ≤ 24) (hT : SymF T) (hPt : SymF P) (hD0 : va_D (fun _ => True) (MW g0 g1 g2 y4 y5 th (n) (w) T P)) : Met l yX2_clearText wsX2_clearText ({ frames := 0, cells := 0, slots := 0, locals := 0 }) (va_Pc [.ref g0] (cp D (MW g0 g1 g2 y4 y5 th (n) (w) T P) (MT y4 y5) E (va_A (MW g0 g1 g2 y4 y5 th (n) (w) T P) sz) sz)) (va_Qi (fun (r : Int32) (_ : Unit) => r.toInt = (n : Int)) (fun _ t => va_P D vwCl (MW g0 g1 g2 y4 y5 0 (0) (w) T P) t.heap ∧ va_D (va_A (MW g0 g1 g2 y4 y5 th (n) (w) T P) sz) (MW g0 g1 g2 y4 y5 0 (0) (w) T P)) (va_A (MW g0 g1 g2 y4 y5 th (n) (w) T P) sz)) 0 0 (va_A (MW g0 g1 g2 y4 y5 th (n) (w) T P) sz) := by
  refine Met.ofW (cc := cX2_clearText) (maxL := 2) (ret := (some .int)) (by decide) rfl ?_
  intro p e s m args below meth c s₁ B hml hv
  obtain ⟨rfl, hsz, hP, hK, hE⟩ := hv
  have hx := B.exec
  have hb := B.bytes
  have hr := B.returns
  have hts := atoms_spec (ws := wsX2_clearText) B.pre
  have hown : s.vm.findClass RX2 = some m.cls := findClass_of_methodNamed B.named
  have hlocks := B.notSynchronized
  have hsz : s.heap.size = sz := hsz
  subst hsz
  have hD := hD0.self (sz := s.heap.size)
  have hA : ∀ q : Nat, s.heap.size ≤ q → (va_A (MW g0 g1 g2 y4 y5 th (n) (w) T P) s.heap.size) q := fun q h => Or.inr h
  have hS : va_S (va_A (MW g0 g1 g2 y4 y5 th (n) (w) T P) s.heap.size) s.heap s.heap [] := va_S.rf
  have inn : (nI n).toInt = (n : Int) := nI_toInt (by omega)
  have iww : (nI w).toInt = (w : Int) := nI_toInt (by omega)
  have hf_n := hts (.fieldLink RX2 24 "BlankMatcherModel" "n" "I") (by decide +kernel)
  have hf_thrown := hts (.fieldLink RX2 16 "BlankMatcherModel" "thrown" "I") (by decide +kernel)
  have hpl : pl n w = n + 1 - w := rfl
  have hin0 : ∀ w ∈ wsX20, w ∈ wsX2_clearText := by decide +kernel
  have hl := lv_entry ([.ref g0]) (n := 2) (Nat.le_of_ble_eq_true rfl)
  rw [lg_entry_eq]
  generalize (lg_sl ([.ref g0]) ++ List.replicate (2 - (lg_sl ([.ref g0])).length) Slot.unset).toArray = ls at hl ⊢
  have hl : lv_has ls 2 [(0, .ref g0)] := hl
  refine lv_aload_n hx hb dX2_clearText_0 rfl (lv_at hl 0 rfl) ?_
  refine lv_iconst (v := 0) hx hb dX2_clearText_1 (by decide) ?_
  refine va_put (D := D) (ci := 1) (v := .int 0) (ty := .int) (C := RX2) (T := TX2) (N := 5) hx hb hts hin0 tyX2 tyX2_ok nmX2 hown hK hP hD hS 0 rfl rfl 0 (by decide) hf_thrown (fun _ h9 => h9) rfl (by decide +kernel) rfl rfl (Nat.le_of_ble_eq_true rfl) dX2_clearText_2 (fun H locs hP hD hS => ?_)
  have hP : va_P D vwCl (MW g0 g1 g2 y4 y5 0 (n) (w) T P) H := hP
  have hD : va_D (va_A (MW g0 g1 g2 y4 y5 th (n) (w) T P) s.heap.size) (MW g0 g1 g2 y4 y5 0 (n) (w) T P) := hD
  refine lv_aload_n hx hb dX2_clearText_5 rfl (lv_at hl 0 rfl) ?_
  refine va_get (D := D) (ci := 1) (v := .int (nI n)) (C := RX2) (T := TX2) (N := 5) hx hb hts hin0 hown hK hP 0 rfl rfl 3 (by decide) hf_n (fun _ h9 => h9) rfl dX2_clearText_6 ?_
  refine lv_istore_n (lv' := [(1, .int (nI n)), (0, .ref g0)]) hx hb dX2_clearText_9 rfl hl (by decide) rfl (fun ls hl => ?_)
  refine lv_aload_n hx hb dX2_clearText_10 rfl (lv_at hl 1 rfl) ?_
  refine lv_iconst (v := 0) hx hb dX2_clearText_11 (by decide) ?_
  refine lv_as (y := nI (0)) (nIe (Eq.trans (show (0 : Int32).toInt = 0 by decide) (by omega))) ?_
  refine va_put (D := D) (ci := 1) (v := .int (nI (0))) (ty := .int) (C := RX2) (T := TX2) (N := 5) hx hb hts hin0 tyX2 tyX2_ok nmX2 hown hK hP hD hS 0 rfl rfl 3 (by decide) hf_n (fun _ h9 => h9) rfl (by decide +kernel) rfl rfl (Nat.le_of_ble_eq_true rfl) dX2_clearText_12 (fun H locs hP hD hS => ?_)
  have hP : va_P D vwCl (MW g0 g1 g2 y4 y5 0 (0) (w) T P) H := hP
  have hD : va_D (va_A (MW g0 g1 g2 y4 y5 th (n) (w) T P) s.heap.size) (MW g0 g1 g2 y4 y5 0 (0) (w) T P) := hD
  refine lv_iload_n hx hb dX2_clearText_15 rfl (lv_at hl 0 rfl) ?_
  refine W.widen (k := 0) (n := 0) (Nat.le_of_ble_eq_true rfl) (Nat.le_of_ble_eq_true rfl) ?_
  exact W.iret (v := (nI n)) hx hb hr (fun t ht hW => ⟨⟨_, (), rfl, (Eq.trans inn (by omega)), ⟨by rw [ht]; exact hP, hD⟩⟩, hS.F ht⟩) hS.2.2 dX2_clearText_16

set_option maxHeartbeats 4000000 in
set_option maxRecDepth 100000 in
theorem c_X2_clearPattern (l : Launch) (D : va_G) (E : Nat × Nat × Nat) (g0 g1 g2 : Nat) (y4 y5 : ClassId) (sz n w : Nat) (th : Int32) (T P : Nat → Int32) (hn : n ≤ 64) (hw : w ≤ 24) (hT : SymF T) (hPt : SymF P) (hD0 : va_D (fun _ => True) (MW g0 g1 g2 y4 y5 th (n) (w) T P)) : Met l yX2_clearPattern wsX2_clearPattern ({ frames := 0, cells := 0, slots := 0, locals := 0 }) (va_Pc [.ref g0] (cp D (MW g0 g1 g2 y4 y5 th (n) (w) T P) (MT y4 y5) E (va_A (MW g0 g1 g2 y4 y5 th (n) (w) T P) sz) sz)) (va_Qi (fun (r : Int32) (_ : Unit) => r.toInt = (w : Int)) (fun _ t => va_P D vwCl (MW g0 g1 g2 y4 y5 0 (n) (0) T P) t.heap ∧ va_D (va_A (MW g0 g1 g2 y4 y5 th (n) (w) T P) sz) (MW g0 g1 g2 y4 y5 0 (n) (0) T P)) (va_A (MW g0 g1 g2 y4 y5 th (n) (w) T P) sz)) 0 0 (va_A (MW g0 g1 g2 y4 y5 th (n) (w) T P) sz) := by
  refine Met.ofW (cc := cX2_clearPattern) (maxL := 2) (ret := (some .int)) (by decide) rfl ?_
  intro p e s m args below meth c s₁ B hml hv
  obtain ⟨rfl, hsz, hP, hK, hE⟩ := hv
  have hx := B.exec
  have hb := B.bytes
  have hr := B.returns
  have hts := atoms_spec (ws := wsX2_clearPattern) B.pre
  have hown : s.vm.findClass RX2 = some m.cls := findClass_of_methodNamed B.named
  have hlocks := B.notSynchronized
  have hsz : s.heap.size = sz := hsz
  subst hsz
  have hD := hD0.self (sz := s.heap.size)
  have hA : ∀ q : Nat, s.heap.size ≤ q → (va_A (MW g0 g1 g2 y4 y5 th (n) (w) T P) s.heap.size) q := fun q h => Or.inr h
  have hS : va_S (va_A (MW g0 g1 g2 y4 y5 th (n) (w) T P) s.heap.size) s.heap s.heap [] := va_S.rf
  have inn : (nI n).toInt = (n : Int) := nI_toInt (by omega)
  have iww : (nI w).toInt = (w : Int) := nI_toInt (by omega)
  have hf_m := hts (.fieldLink RX2 30 "BlankMatcherModel" "m" "I") (by decide +kernel)
  have hf_thrown := hts (.fieldLink RX2 16 "BlankMatcherModel" "thrown" "I") (by decide +kernel)
  have hpl : pl n w = n + 1 - w := rfl
  have hin0 : ∀ w ∈ wsX20, w ∈ wsX2_clearPattern := by decide +kernel
  have hl := lv_entry ([.ref g0]) (n := 2) (Nat.le_of_ble_eq_true rfl)
  rw [lg_entry_eq]
  generalize (lg_sl ([.ref g0]) ++ List.replicate (2 - (lg_sl ([.ref g0])).length) Slot.unset).toArray = ls at hl ⊢
  have hl : lv_has ls 2 [(0, .ref g0)] := hl
  refine lv_aload_n hx hb dX2_clearPattern_0 rfl (lv_at hl 0 rfl) ?_
  refine lv_iconst (v := 0) hx hb dX2_clearPattern_1 (by decide) ?_
  refine va_put (D := D) (ci := 1) (v := .int 0) (ty := .int) (C := RX2) (T := TX2) (N := 5) hx hb hts hin0 tyX2 tyX2_ok nmX2 hown hK hP hD hS 0 rfl rfl 0 (by decide) hf_thrown (fun _ h9 => h9) rfl (by decide +kernel) rfl rfl (Nat.le_of_ble_eq_true rfl) dX2_clearPattern_2 (fun H locs hP hD hS => ?_)
  have hP : va_P D vwCl (MW g0 g1 g2 y4 y5 0 (n) (w) T P) H := hP
  have hD : va_D (va_A (MW g0 g1 g2 y4 y5 th (n) (w) T P) s.heap.size) (MW g0 g1 g2 y4 y5 0 (n) (w) T P) := hD
  refine lv_aload_n hx hb dX2_clearPattern_5 rfl (lv_at hl 0 rfl) ?_
  refine va_get (D := D) (ci := 1) (v := .int (nI w)) (C := RX2) (T := TX2) (N := 5) hx hb hts hin0 hown hK hP 0 rfl rfl 4 (by decide) hf_m (fun _ h9 => h9) rfl dX2_clearPattern_6 ?_
  refine lv_istore_n (lv' := [(1, .int (nI w)), (0, .ref g0)]) hx hb dX2_clearPattern_9 rfl hl (by decide) rfl (fun ls hl => ?_)
  refine lv_aload_n hx hb dX2_clearPattern_10 rfl (lv_at hl 1 rfl) ?_
  refine lv_iconst (v := 0) hx hb dX2_clearPattern_11 (by decide) ?_
  refine lv_as (y := nI (0)) (nIe (Eq.trans (show (0 : Int32).toInt = 0 by decide) (by omega))) ?_
  refine va_put (D := D) (ci := 1) (v := .int (nI (0))) (ty := .int) (C := RX2) (T := TX2) (N := 5) hx hb hts hin0 tyX2 tyX2_ok nmX2 hown hK hP hD hS 0 rfl rfl 4 (by decide) hf_m (fun _ h9 => h9) rfl (by decide +kernel) rfl rfl (Nat.le_of_ble_eq_true rfl) dX2_clearPattern_12 (fun H locs hP hD hS => ?_)
  have hP : va_P D vwCl (MW g0 g1 g2 y4 y5 0 (n) (0) T P) H := hP
  have hD : va_D (va_A (MW g0 g1 g2 y4 y5 th (n) (w) T P) s.heap.size) (MW g0 g1 g2 y4 y5 0 (n) (0) T P) := hD
  refine lv_iload_n hx hb dX2_clearPattern_15 rfl (lv_at hl 0 rfl) ?_
  refine W.widen (k := 0) (n := 0) (Nat.le_of_ble_eq_true rfl) (Nat.le_of_ble_eq_true rfl) ?_
  exact W.iret (v := (nI w)) hx hb hr (fun t ht hW => ⟨⟨_, (), rfl, (Eq.trans iww (by omega)), ⟨by rw [ht]; exact hP, hD⟩⟩, hS.F ht⟩) hS.2.2 dX2_clearPattern_16

set_option maxHeartbeats 4000000 in
set_option maxRecDepth 100000 in
theorem c_X2_textLength (l : Launch) (D : va_G) (E : Nat × Nat × Nat) (g0 g1 g2 : Nat) (y4 y5 : ClassId) (sz n w : Nat) (th : Int32) (T P : Nat → Int32) (hn : n ≤ 64) (hw : w ≤ 24) (hT : SymF T) (hPt : SymF P) (hD0 : va_D (fun _ => True) (MW g0 g1 g2 y4 y5 th (n) (w) T P)) : Met l yX2_textLength wsX2_textLength ({ frames := 0, cells := 0, slots := 0, locals := 0 }) (va_Pc [.ref g0] (cp D (MW g0 g1 g2 y4 y5 th (n) (w) T P) (MT y4 y5) E (va_A (MW g0 g1 g2 y4 y5 th (n) (w) T P) sz) sz)) (va_Qi (fun (r : Int32) (_ : Unit) => r.toInt = (n : Int)) (fun _ t => va_P D vwCl (MW g0 g1 g2 y4 y5 0 (n) (w) T P) t.heap ∧ va_D (va_A (MW g0 g1 g2 y4 y5 th (n) (w) T P) sz) (MW g0 g1 g2 y4 y5 0 (n) (w) T P)) (va_A (MW g0 g1 g2 y4 y5 th (n) (w) T P) sz)) 0 0 (va_A (MW g0 g1 g2 y4 y5 th (n) (w) T P) sz) := by
  refine Met.ofW (cc := cX2_textLength) (maxL := 1) (ret := (some .int)) (by decide) rfl ?_
  intro p e s m args below meth c s₁ B hml hv
  obtain ⟨rfl, hsz, hP, hK, hE⟩ := hv
  have hx := B.exec
  have hb := B.bytes
  have hr := B.returns
  have hts := atoms_spec (ws := wsX2_textLength) B.pre
  have hown : s.vm.findClass RX2 = some m.cls := findClass_of_methodNamed B.named
  have hlocks := B.notSynchronized
  have hsz : s.heap.size = sz := hsz
  subst hsz
  have hD := hD0.self (sz := s.heap.size)
  have hA : ∀ q : Nat, s.heap.size ≤ q → (va_A (MW g0 g1 g2 y4 y5 th (n) (w) T P) s.heap.size) q := fun q h => Or.inr h
  have hS : va_S (va_A (MW g0 g1 g2 y4 y5 th (n) (w) T P) s.heap.size) s.heap s.heap [] := va_S.rf
  have inn : (nI n).toInt = (n : Int) := nI_toInt (by omega)
  have iww : (nI w).toInt = (w : Int) := nI_toInt (by omega)
  have hf_n := hts (.fieldLink RX2 24 "BlankMatcherModel" "n" "I") (by decide +kernel)
  have hf_thrown := hts (.fieldLink RX2 16 "BlankMatcherModel" "thrown" "I") (by decide +kernel)
  have hpl : pl n w = n + 1 - w := rfl
  have hin0 : ∀ w ∈ wsX20, w ∈ wsX2_textLength := by decide +kernel
  have hl := lv_entry ([.ref g0]) (n := 1) (Nat.le_of_ble_eq_true rfl)
  rw [lg_entry_eq]
  generalize (lg_sl ([.ref g0]) ++ List.replicate (1 - (lg_sl ([.ref g0])).length) Slot.unset).toArray = ls at hl ⊢
  have hl : lv_has ls 1 [(0, .ref g0)] := hl
  refine lv_aload_n hx hb dX2_textLength_0 rfl (lv_at hl 0 rfl) ?_
  refine lv_iconst (v := 0) hx hb dX2_textLength_1 (by decide) ?_
  refine va_put (D := D) (ci := 1) (v := .int 0) (ty := .int) (C := RX2) (T := TX2) (N := 5) hx hb hts hin0 tyX2 tyX2_ok nmX2 hown hK hP hD hS 0 rfl rfl 0 (by decide) hf_thrown (fun _ h9 => h9) rfl (by decide +kernel) rfl rfl (Nat.le_of_ble_eq_true rfl) dX2_textLength_2 (fun H locs hP hD hS => ?_)
  have hP : va_P D vwCl (MW g0 g1 g2 y4 y5 0 (n) (w) T P) H := hP
  have hD : va_D (va_A (MW g0 g1 g2 y4 y5 th (n) (w) T P) s.heap.size) (MW g0 g1 g2 y4 y5 0 (n) (w) T P) := hD
  refine lv_aload_n hx hb dX2_textLength_5 rfl (lv_at hl 0 rfl) ?_
  refine va_get (D := D) (ci := 1) (v := .int (nI n)) (C := RX2) (T := TX2) (N := 5) hx hb hts hin0 hown hK hP 0 rfl rfl 3 (by decide) hf_n (fun _ h9 => h9) rfl dX2_textLength_6 ?_
  refine W.widen (k := 0) (n := 0) (Nat.le_of_ble_eq_true rfl) (Nat.le_of_ble_eq_true rfl) ?_
  exact W.iret (v := (nI n)) hx hb hr (fun t ht hW => ⟨⟨_, (), rfl, (Eq.trans inn (by omega)), ⟨by rw [ht]; exact hP, hD⟩⟩, hS.F ht⟩) hS.2.2 dX2_textLength_9

set_option maxHeartbeats 4000000 in
set_option maxRecDepth 100000 in
theorem c_X2_patternLength (l : Launch) (D : va_G) (E : Nat × Nat × Nat) (g0 g1 g2 : Nat) (y4 y5 : ClassId) (sz n w : Nat) (th : Int32) (T P : Nat → Int32) (hn : n ≤ 64) (hw : w ≤ 24) (hT : SymF T) (hPt : SymF P) (hD0 : va_D (fun _ => True) (MW g0 g1 g2 y4 y5 th (n) (w) T P)) : Met l yX2_patternLength wsX2_patternLength ({ frames := 0, cells := 0, slots := 0, locals := 0 }) (va_Pc [.ref g0] (cp D (MW g0 g1 g2 y4 y5 th (n) (w) T P) (MT y4 y5) E (va_A (MW g0 g1 g2 y4 y5 th (n) (w) T P) sz) sz)) (va_Qi (fun (r : Int32) (_ : Unit) => r.toInt = (w : Int)) (fun _ t => va_P D vwCl (MW g0 g1 g2 y4 y5 0 (n) (w) T P) t.heap ∧ va_D (va_A (MW g0 g1 g2 y4 y5 th (n) (w) T P) sz) (MW g0 g1 g2 y4 y5 0 (n) (w) T P)) (va_A (MW g0 g1 g2 y4 y5 th (n) (w) T P) sz)) 0 0 (va_A (MW g0 g1 g2 y4 y5 th (n) (w) T P) sz) := by
  refine Met.ofW (cc := cX2_patternLength) (maxL := 1) (ret := (some .int)) (by decide) rfl ?_
  intro p e s m args below meth c s₁ B hml hv
  obtain ⟨rfl, hsz, hP, hK, hE⟩ := hv
  have hx := B.exec
  have hb := B.bytes
  have hr := B.returns
  have hts := atoms_spec (ws := wsX2_patternLength) B.pre
  have hown : s.vm.findClass RX2 = some m.cls := findClass_of_methodNamed B.named
  have hlocks := B.notSynchronized
  have hsz : s.heap.size = sz := hsz
  subst hsz
  have hD := hD0.self (sz := s.heap.size)
  have hA : ∀ q : Nat, s.heap.size ≤ q → (va_A (MW g0 g1 g2 y4 y5 th (n) (w) T P) s.heap.size) q := fun q h => Or.inr h
  have hS : va_S (va_A (MW g0 g1 g2 y4 y5 th (n) (w) T P) s.heap.size) s.heap s.heap [] := va_S.rf
  have inn : (nI n).toInt = (n : Int) := nI_toInt (by omega)
  have iww : (nI w).toInt = (w : Int) := nI_toInt (by omega)
  have hf_m := hts (.fieldLink RX2 30 "BlankMatcherModel" "m" "I") (by decide +kernel)
  have hf_thrown := hts (.fieldLink RX2 16 "BlankMatcherModel" "thrown" "I") (by decide +kernel)
  have hpl : pl n w = n + 1 - w := rfl
  have hin0 : ∀ w ∈ wsX20, w ∈ wsX2_patternLength := by decide +kernel
  have hl := lv_entry ([.ref g0]) (n := 1) (Nat.le_of_ble_eq_true rfl)
  rw [lg_entry_eq]
  generalize (lg_sl ([.ref g0]) ++ List.replicate (1 - (lg_sl ([.ref g0])).length) Slot.unset).toArray = ls at hl ⊢
  have hl : lv_has ls 1 [(0, .ref g0)] := hl
  refine lv_aload_n hx hb dX2_patternLength_0 rfl (lv_at hl 0 rfl) ?_
  refine lv_iconst (v := 0) hx hb dX2_patternLength_1 (by decide) ?_
  refine va_put (D := D) (ci := 1) (v := .int 0) (ty := .int) (C := RX2) (T := TX2) (N := 5) hx hb hts hin0 tyX2 tyX2_ok nmX2 hown hK hP hD hS 0 rfl rfl 0 (by decide) hf_thrown (fun _ h9 => h9) rfl (by decide +kernel) rfl rfl (Nat.le_of_ble_eq_true rfl) dX2_patternLength_2 (fun H locs hP hD hS => ?_)
  have hP : va_P D vwCl (MW g0 g1 g2 y4 y5 0 (n) (w) T P) H := hP
  have hD : va_D (va_A (MW g0 g1 g2 y4 y5 th (n) (w) T P) s.heap.size) (MW g0 g1 g2 y4 y5 0 (n) (w) T P) := hD
  refine lv_aload_n hx hb dX2_patternLength_5 rfl (lv_at hl 0 rfl) ?_
  refine va_get (D := D) (ci := 1) (v := .int (nI w)) (C := RX2) (T := TX2) (N := 5) hx hb hts hin0 hown hK hP 0 rfl rfl 4 (by decide) hf_m (fun _ h9 => h9) rfl dX2_patternLength_6 ?_
  refine W.widen (k := 0) (n := 0) (Nat.le_of_ble_eq_true rfl) (Nat.le_of_ble_eq_true rfl) ?_
  exact W.iret (v := (nI w)) hx hb hr (fun t ht hW => ⟨⟨_, (), rfl, (Eq.trans iww (by omega)), ⟨by rw [ht]; exact hP, hD⟩⟩, hS.F ht⟩) hS.2.2 dX2_patternLength_9

set_option maxHeartbeats 4000000 in
set_option maxRecDepth 100000 in
theorem c_X2_places (l : Launch) (D : va_G) (E : Nat × Nat × Nat) (g0 g1 g2 : Nat) (y4 y5 : ClassId) (sz n w : Nat) (th : Int32) (T P : Nat → Int32) (hn : n ≤ 64) (hw : w ≤ 24) (hT : SymF T) (hPt : SymF P) (hD0 : va_D (fun _ => True) (MW g0 g1 g2 y4 y5 th (n) (w) T P)) : Met l yX2_places wsX2_places ({ frames := 1, cells := 0, slots := 0, locals := 20 }) (va_Pc [.ref g0] (cp D (MW g0 g1 g2 y4 y5 th (n) (w) T P) (MT y4 y5) E (va_A (MW g0 g1 g2 y4 y5 th (n) (w) T P) sz) sz)) (va_Qi (fun (r : Int32) (_ : Unit) => r.toInt = ((pl n w : Nat) : Int)) (fun _ t => va_P D vwCl (MW g0 g1 g2 y4 y5 0 (n) (w) T P) t.heap ∧ va_D (va_A (MW g0 g1 g2 y4 y5 th (n) (w) T P) sz) (MW g0 g1 g2 y4 y5 0 (n) (w) T P)) (va_A (MW g0 g1 g2 y4 y5 th (n) (w) T P) sz)) 0 0 (va_A (MW g0 g1 g2 y4 y5 th (n) (w) T P) sz) := by
  refine Met.ofW (cc := cX2_places) (maxL := 1) (ret := (some .int)) (by decide) rfl ?_
  intro p e s m args below meth c s₁ B hml hv
  obtain ⟨rfl, hsz, hP, hK, hE⟩ := hv
  have hx := B.exec
  have hb := B.bytes
  have hr := B.returns
  have hts := atoms_spec (ws := wsX2_places) B.pre
  have hown : s.vm.findClass RX2 = some m.cls := findClass_of_methodNamed B.named
  have hlocks := B.notSynchronized
  have hsz : s.heap.size = sz := hsz
  subst hsz
  have hD := hD0.self (sz := s.heap.size)
  have hA : ∀ q : Nat, s.heap.size ≤ q → (va_A (MW g0 g1 g2 y4 y5 th (n) (w) T P) s.heap.size) q := fun q h => Or.inr h
  have hS : va_S (va_A (MW g0 g1 g2 y4 y5 th (n) (w) T P) s.heap.size) s.heap s.heap [] := va_S.rf
  have inn : (nI n).toInt = (n : Int) := nI_toInt (by omega)
  have iww : (nI w).toInt = (w : Int) := nI_toInt (by omega)
  have hf_thrown := hts (.fieldLink RX2 16 "BlankMatcherModel" "thrown" "I") (by decide +kernel)
  have hpl : pl n w = n + 1 - w := rfl
  have hin0 : ∀ w ∈ wsX20, w ∈ wsX2_places := by decide +kernel
  have hl := lv_entry ([.ref g0]) (n := 1) (Nat.le_of_ble_eq_true rfl)
  rw [lg_entry_eq]
  generalize (lg_sl ([.ref g0]) ++ List.replicate (1 - (lg_sl ([.ref g0])).length) Slot.unset).toArray = ls at hl ⊢
  have hl : lv_has ls 1 [(0, .ref g0)] := hl
  refine lv_aload_n hx hb dX2_places_0 rfl (lv_at hl 0 rfl) ?_
  refine lv_iconst (v := 0) hx hb dX2_places_1 (by decide) ?_
  refine va_put (D := D) (ci := 1) (v := .int 0) (ty := .int) (C := RX2) (T := TX2) (N := 5) hx hb hts hin0 tyX2 tyX2_ok nmX2 hown hK hP hD hS 0 rfl rfl 0 (by decide) hf_thrown (fun _ h9 => h9) rfl (by decide +kernel) rfl rfl (Nat.le_of_ble_eq_true rfl) dX2_places_2 (fun H locs hP hD hS => ?_)
  have hP : va_P D vwCl (MW g0 g1 g2 y4 y5 0 (n) (w) T P) H := hP
  have hD : va_D (va_A (MW g0 g1 g2 y4 y5 th (n) (w) T P) s.heap.size) (MW g0 g1 g2 y4 y5 0 (n) (w) T P) := hD
  refine lv_aload_n hx hb dX2_places_5 rfl (lv_at hl 0 rfl) ?_
  refine va_calli (va_runV (As := []) (rest := []) ⟨hx, hb, hml, hown, hts⟩ (c_X2_placeMany l D E g0 g1 g2 y4 y5 H.size (n) (w) 0 T P hn hw hT hPt) (cwV 0 hts gX2_places_X2_placeMany rfl rfl rfl (by decide +kernel) ⟨Nat.le_of_ble_eq_true rfl, Nat.le_of_ble_eq_true rfl⟩) ⟨cp.blind, va_recv hK hP (ci := 1) (q0 := 0) rfl rfl, fun U hU hW => ⟨rfl, cp.call hP hK hE hS (fr0 hS hA) hU hW⟩⟩ rfl rfl hl.1 rfl (lv_room (Nat.le_of_ble_eq_true rfl)) dX2_places_6 ⟨Nat.le_of_ble_eq_true rfl, Nat.le_of_ble_eq_true rfl⟩) hS (fun q _ h => (fr0 hS hA) q h) (fr0 hS hA) (fun v6 u t H1 locs1 ht hvm e6 hB hz1 hk1 hS => ?_)
  have hP := kp hP hk1
  generalize H1 = H at hP hS ⊢
  generalize locs1 = locs at hS ⊢
  refine W.widen (k := 0) (n := 0) (Nat.le_of_ble_eq_true rfl) (Nat.le_of_ble_eq_true rfl) ?_
  exact W.iret (v := v6) hx hb hr (fun t ht hW => ⟨⟨_, (), rfl, (Eq.trans e6 (by omega)), ⟨by rw [ht]; exact hP, hD⟩⟩, hS.F ht⟩) hS.2.2 dX2_places_9
