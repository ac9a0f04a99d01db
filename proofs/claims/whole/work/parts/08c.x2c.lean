set_option maxHeartbeats 4000000 in
set_option maxRecDepth 100000 in
theorem c_X2_product (l : Launch) (D : va_G) (E : Nat × Nat × Nat) (g0 g1 g2 : Nat) (y4 y5 : ClassId) (sz n w : Nat) (th : Int32) (T P : Nat → Int32) (hn : n ≤ 64) (hw : w ≤ 24) (hT : SymF T) (hPt : SymF P) (hD0 : va_D (fun _ => True) (MW g0 g1 g2 y4 y5 th (n) (w) T P)) (x1 : Int32) : Met l yX2_product wsX2_product ({ frames := 1, cells := 0, slots := 0, locals := 21 }) (va_Pc [.ref g0, .int x1] (cp D (MW g0 g1 g2 y4 y5 th (n) (w) T P) (MT y4 y5) E (va_A (MW g0 g1 g2 y4 y5 th (n) (w) T P) sz) sz)) (va_Qi (fun (r : Int32) (th2 : Int32) => th2.toInt = ((kNeg x1.toInt : Nat) : Int) ∧ (kNeg x1.toInt = 0 → r.toInt = (isum (pg T P n w x1.toInt.toNat) w).toInt)) (fun (th2 : Int32) t => va_P D vwCl (MW g0 g1 g2 y4 y5 th2 (n) (w) T P) t.heap ∧ va_D (va_A (MW g0 g1 g2 y4 y5 th (n) (w) T P) sz) (MW g0 g1 g2 y4 y5 th2 (n) (w) T P)) (va_A (MW g0 g1 g2 y4 y5 th (n) (w) T P) sz)) 0 0 (va_A (MW g0 g1 g2 y4 y5 th (n) (w) T P) sz) := by
  refine Met.ofW (cc := cX2_product) (maxL := 5) (ret := (some .int)) (by decide) rfl ?_
  intro p e s m args below meth c s₁ B hml hv
  obtain ⟨rfl, hsz, hP, hK, hE⟩ := hv
  have hx := B.exec
  have hb := B.bytes
  have hr := B.returns
  have hts := atoms_spec (ws := wsX2_product) B.pre
  have hown : s.vm.findClass RX2 = some m.cls := findClass_of_methodNamed B.named
  have hlocks := B.notSynchronized
  have hsz : s.heap.size = sz := hsz
  subst hsz
  have hD := hD0.self (sz := s.heap.size)
  have hA : ∀ q : Nat, s.heap.size ≤ q → (va_A (MW g0 g1 g2 y4 y5 th (n) (w) T P) s.heap.size) q := fun q h => Or.inr h
  have hS : va_S (va_A (MW g0 g1 g2 y4 y5 th (n) (w) T P) s.heap.size) s.heap s.heap [] := va_S.rf
  have inn : (nI n).toInt = (n : Int) := nI_toInt (by omega)
  have iww : (nI w).toInt = (w : Int) := nI_toInt (by omega)
  have hf_m := hts (.fieldLink RX2 30 "BlankMatcherModel" "m" "I") (by decide +kernel)
  have hf_n := hts (.fieldLink RX2 24 "BlankMatcherModel" "n" "I") (by decide +kernel)
  have hf_pattern := hts (.fieldLink RX2 13 "BlankMatcherModel" "pattern" "[I") (by decide +kernel)
  have hf_text := hts (.fieldLink RX2 7 "BlankMatcherModel" "text" "[I") (by decide +kernel)
  have hpl : pl n w = n + 1 - w := rfl
  have hin0 : ∀ w ∈ wsX20, w ∈ wsX2_product := by decide +kernel
  have g_x1 := rg x1
  have hl := lv_entry ([.ref g0, .int x1]) (n := 5) (Nat.le_of_ble_eq_true rfl)
  rw [lg_entry_eq]
  generalize (lg_sl ([.ref g0, .int x1]) ++ List.replicate (5 - (lg_sl ([.ref g0, .int x1])).length) Slot.unset).toArray = ls at hl ⊢
  have hl : lv_has ls 5 [(0, .ref g0), (1, .int x1)] := hl
  refine lv_aload_n hx hb dX2_product_0 rfl (lv_at hl 0 rfl) ?_
  refine lv_iload_n hx hb dX2_product_1 rfl (lv_at hl 1 rfl) ?_
  refine z_if_ge (tgt := 9) hx hb dX2_product_2 (by decide) rfl (fun c2 => ?_) (fun c2 => ?_)
  · have _u := True.intro
    refine lv_iconst (v := 0) hx hb dX2_product_9 (by decide) ?_
    have hFc := va_free (wc := (MW g0 g1 g2 y4 y5 th (n) (w) T P)) hD hS hA [0, 1, 2] rfl
    refine va_calli (va_runV (As := [.int 0]) (rest := []) ⟨hx, hb, hml, hown, hts⟩ (c_X2_goesWell l D E g0 g1 g2 y4 y5 s.heap.size (n) (w) th T P hn hw hT hPt (hD.weaken (fun _ _ _ _ => trivial)) 0 (0) (Eq.trans (show (0 : Int32).toInt = 0 by decide) (by omega))) (cwV 1 hts gX2_product_X2_goesWell rfl rfl rfl (by decide +kernel) ⟨Nat.le_of_ble_eq_true rfl, Nat.le_of_ble_eq_true rfl⟩) ⟨cp.blind, va_recv hK hP (ci := 1) (q0 := 0) rfl rfl, fun U hU hW => ⟨rfl, cp.call hP hK hE hS hFc hU hW⟩⟩ rfl rfl hl.1 rfl (lv_room (Nat.le_of_ble_eq_true rfl)) dX2_product_10 ⟨Nat.le_of_ble_eq_true rfl, Nat.le_of_ble_eq_true rfl⟩) hS (fun q _ h => hFc q h) hFc (fun v10 u t H1 locs1 ht hvm e10 hB hz1 hk1 hS => ?_)
    obtain ⟨hP1, hD1⟩ := hB
    rw [ht] at hP1
    obtain ⟨hP, hD⟩ := va_join (wr := []) (w1 := (MW g0 g1 g2 y4 y5 0 (n) (w) T P)) hP hD [0, 1, 2] [] rfl rfl (by decide) (by decide) hk1 hFc hP1 hD1
    have hP : va_P D vwCl (MW g0 g1 g2 y4 y5 0 (n) (w) T P) H1 := hP
    have hD : va_D (va_A (MW g0 g1 g2 y4 y5 th (n) (w) T P) s.heap.size) (MW g0 g1 g2 y4 y5 0 (n) (w) T P) := hD
    generalize H1 = H at hP hS ⊢
    generalize locs1 = locs at hS ⊢
    refine zb_if_ne (tgt := 18) hx hb dX2_product_13 (by decide) e10 (fun c13 => ?_) (fun c13 => ?_)
    · have _u := True.intro
      obtain ⟨k, ek⟩ : ∃ k : Nat, x1.toInt = (k : Int) := ⟨x1.toInt.toNat, by omega⟩
      have ek2 : x1.toInt.toNat = k := by omega
      refine lv_iconst (v := 0) hx hb dX2_product_18 (by decide) ?_
      refine lv_istore_n (lv' := [(2, .int 0), (0, .ref g0), (1, .int x1)]) hx hb dX2_product_19 rfl hl (by decide) rfl (fun ls hl => ?_)
      refine lv_iconst (v := 0) hx hb dX2_product_20 (by decide) ?_
      refine lv_istore_n (lv' := [(3, .int 0), (2, .int 0), (0, .ref g0), (1, .int x1)]) hx hb dX2_product_21 rfl hl (by decide) rfl (fun ls hl => ?_)
      have lp22 : ∀ (nf : Nat) (j : Nat) (x2 : Int32) (x3 : Int32), w - j < nf → (j ≤ w) → (x2 = isum (pg T P n w k) j) → x3.toInt = (j : Int) → ∀ (H : Heap) (locs : List Loc), va_P D vwCl (MW g0 g1 g2 y4 y5 0 (n) (w) T P) H → va_D (va_A (MW g0 g1 g2 y4 y5 th (n) (w) T P) s.heap.size) (MW g0 g1 g2 y4 y5 0 (n) (w) T P) → va_S (va_A (MW g0 g1 g2 y4 y5 th (n) (w) T P) s.heap.size) s.heap H locs → ∀ (ls : Array Slot), lv_has ls 5 [(0, .ref g0), (1, .int x1), (2, .int x2), (3, .int x3)] → W p l e (headSpec wsX2_product ({ frames := 1, cells := 0, slots := 0, locals := 21 })).room s m [.ref g0, .int x1].toArray below meth c H locs 0 0 (MQ below (va_Qi (fun (r : Int32) (th2 : Int32) => th2.toInt = ((kNeg x1.toInt : Nat) : Int) ∧ (kNeg x1.toInt = 0 → r.toInt = (isum (pg T P n w x1.toInt.toNat) w).toInt)) (fun (th2 : Int32) t => va_P D vwCl (MW g0 g1 g2 y4 y5 th2 (n) (w) T P) t.heap ∧ va_D (va_A (MW g0 g1 g2 y4 y5 th (n) (w) T P) s.heap.size) (MW g0 g1 g2 y4 y5 th2 (n) (w) T P)) (va_A (MW g0 g1 g2 y4 y5 th (n) (w) T P) s.heap.size)) [.ref g0, .int x1].toArray s 0 0 (va_A (MW g0 g1 g2 y4 y5 th (n) (w) T P) s.heap.size)) (F0 m 22 ls []) := by
        intro nf
        induction nf with
        | zero => intros; omega
        | succ nf ih22 =>
          intro j x2 x3 hnf hj hx2 e_x3 H locs hP hD hS ls hl
          refine lv_iload_n hx hb dX2_product_22 rfl (lv_at hl 3 rfl) ?_
          refine lv_aload_n hx hb dX2_product_23 rfl (lv_at hl 0 rfl) ?_
          refine va_get (D := D) (ci := 1) (v := .int (nI w)) (C := RX2) (T := TX2) (N := 5) hx hb hts hin0 hown hK hP 0 rfl rfl 4 (by decide) hf_m (fun _ h9 => h9) rfl dX2_product_24 ?_
          refine z_icmp_ge (tgt := 83) hx hb dX2_product_27 (by decide) e_x3 iww (fun c27 => ?_) (fun c27 => ?_)
          · have _u := True.intro
            have hj2 : j = w := by omega
            refine lv_iload_n hx hb dX2_product_83 rfl (lv_at hl 2 rfl) ?_
            have hk0 : kNeg x1.toInt = 0 := by unfold kNeg; (repeat' split) <;> omega
            refine W.widen (k := 0) (n := 0) (Nat.le_of_ble_eq_true rfl) (Nat.le_of_ble_eq_true rfl) ?_
            exact W.iret (v := x2) hx hb hr (fun t ht hW => ⟨⟨_, 0, rfl, ⟨(show (0 : Int32).toInt = 0 by decide).trans (by omega), fun _ => (by rw [hx2, hj2, ek2])⟩, ⟨by rw [ht]; exact hP, hD⟩⟩, hS.F ht⟩) hS.2.2 dX2_product_84
          · have _u := True.intro
            refine lv_iload_n hx hb dX2_product_30 rfl (lv_at hl 1 rfl) ?_
            refine lv_aload_n hx hb dX2_product_31 rfl (lv_at hl 0 rfl) ?_
            refine va_get (D := D) (ci := 1) (v := .int (nI w)) (C := RX2) (T := TX2) (N := 5) hx hb hts hin0 hown hK hP 0 rfl rfl 4 (by decide) hf_m (fun _ h9 => h9) rfl dX2_product_32 ?_
            refine lv_iconst (v := 1) hx hb dX2_product_35 (by decide) ?_
            refine z_isub hx hb dX2_product_36 iww (show (1 : Int32).toInt = 1 by decide) (by omega) (by omega) (fun v36 e36 => ?_)
            refine lv_iload_n hx hb dX2_product_37 rfl (lv_at hl 3 rfl) ?_
            refine z_isub hx hb dX2_product_38 e36 e_x3 (by omega) (by omega) (fun v38 e38 => ?_)
            refine z_isub hx hb dX2_product_39 rfl e38 (by omega) (by omega) (fun v39 e39 => ?_)
            refine lv_istore (lv' := [(4, .int v39), (0, .ref g0), (1, .int x1), (2, .int x2), (3, .int x3)]) hx hb dX2_product_40 hl (by decide) rfl (fun ls hl => ?_)
            refine lv_iload_n hx hb dX2_product_42 rfl (lv_at hl 3 rfl) ?_
            refine lv_iload hx hb dX2_product_43 (lv_at hl 0 rfl) ?_
            refine z_if_lt (tgt := 74) hx hb dX2_product_45 (by decide) e39 (fun c45 => ?_) (fun c45 => ?_)
            · have _u := True.intro
              refine lv_iconst (v := 0) hx hb dX2_product_74 (by decide) ?_
              refine lv_iadd hx hb dX2_product_75 ?_
              refine lv_istore_n (lv' := [(2, .int (x2 + 0)), (4, .int v39), (0, .ref g0), (1, .int x1), (3, .int x3)]) hx hb dX2_product_76 rfl hl (by decide) rfl (fun ls hl => ?_)
              refine z_iinc (k := 4) (lv' := fun v => [(3, .int v), (2, .int (x2 + 0)), (4, .int v39), (0, .ref g0), (1, .int x1)]) hx hb dX2_product_77 hl rfl e_x3 (by decide) (by omega) (by omega) (by decide) (fun _ => rfl) (fun v77 ls e77 hl => ?_)
              refine lv_goto (tgt := 22) hx hb dX2_product_80 (by decide) ?_
              exact ih22 (j + 1) (x2 + 0) v77 (by omega) (by omega) (by first | (rw [hx2, isum_s, pg_t (by omega) (by omega)]) | (rw [hx2, isum_s, pg_f (by omega)])) (Eq.trans e77 (by omega)) _ _ hP hD hS _ (lv_sub hl [3, 4, 1, 0] rfl)
            · have _u := True.intro
              refine lv_iload hx hb dX2_product_48 (lv_at hl 0 rfl) ?_
              refine lv_aload_n hx hb dX2_product_50 rfl (lv_at hl 1 rfl) ?_
              refine va_get (D := D) (ci := 1) (v := .int (nI n)) (C := RX2) (T := TX2) (N := 5) hx hb hts hin0 hown hK hP 0 rfl rfl 3 (by decide) hf_n (fun _ h9 => h9) rfl dX2_product_51 ?_
              refine z_icmp_ge (tgt := 74) hx hb dX2_product_54 (by decide) e39 inn (fun c54 => ?_) (fun c54 => ?_)
              · have _u := True.intro
                refine lv_iconst (v := 0) hx hb dX2_product_74 (by decide) ?_
                refine lv_iadd hx hb dX2_product_75 ?_
                refine lv_istore_n (lv' := [(2, .int (x2 + 0)), (4, .int v39), (0, .ref g0), (1, .int x1), (3, .int x3)]) hx hb dX2_product_76 rfl hl (by decide) rfl (fun ls hl => ?_)
                refine z_iinc (k := 4) (lv' := fun v => [(3, .int v), (2, .int (x2 + 0)), (4, .int v39), (0, .ref g0), (1, .int x1)]) hx hb dX2_product_77 hl rfl e_x3 (by decide) (by omega) (by omega) (by decide) (fun _ => rfl) (fun v77 ls e77 hl => ?_)
                refine lv_goto (tgt := 22) hx hb dX2_product_80 (by decide) ?_
                exact ih22 (j + 1) (x2 + 0) v77 (by omega) (by omega) (by first | (rw [hx2, isum_s, pg_t (by omega) (by omega)]) | (rw [hx2, isum_s, pg_f (by omega)])) (Eq.trans e77 (by omega)) _ _ hP hD hS _ (lv_sub hl [3, 4, 1, 0] rfl)
              · have _u := True.intro
                refine lv_aload_n hx hb dX2_product_57 rfl (lv_at hl 1 rfl) ?_
                refine va_get (D := D) (ci := 1) (v := .ref g1) (C := RX2) (T := TX2) (N := 5) hx hb hts hin0 hown hK hP 0 rfl rfl 1 (by decide) hf_text (fun _ h9 => h9) rfl dX2_product_58 ?_
                refine lv_iload hx hb dX2_product_61 (lv_at hl 0 rfl) ?_
                refine z_iald hx hb hK hP 1 0 rfl rfl (k + 1 + j - w) e39 (by omega) (by omega) dX2_product_63 ?_
                refine lv_aload_n hx hb dX2_product_64 rfl (lv_at hl 1 rfl) ?_
                refine va_get (D := D) (ci := 1) (v := .ref g2) (C := RX2) (T := TX2) (N := 5) hx hb hts hin0 hown hK hP 0 rfl rfl 2 (by decide) hf_pattern (fun _ h9 => h9) rfl dX2_product_65 ?_
                refine lv_iload_n hx hb dX2_product_68 rfl (lv_at hl 4 rfl) ?_
                refine z_iald hx hb hK hP 2 1 rfl rfl (j) e_x3 (by omega) (by omega) dX2_product_69 ?_
                refine lv_imul hx hb dX2_product_70 ?_
                refine lv_goto (tgt := 75) hx hb dX2_product_71 (by decide) ?_
                refine lv_iadd hx hb dX2_product_75 ?_
                refine lv_istore_n (lv' := [(2, .int (x2 + ((T (k + 1 + j - w)) * (P (j))))), (4, .int v39), (0, .ref g0), (1, .int x1), (3, .int x3)]) hx hb dX2_product_76 rfl hl (by decide) rfl (fun ls hl => ?_)
                refine z_iinc (k := 4) (lv' := fun v => [(3, .int v), (2, .int (x2 + ((T (k + 1 + j - w)) * (P (j))))), (4, .int v39), (0, .ref g0), (1, .int x1)]) hx hb dX2_product_77 hl rfl e_x3 (by decide) (by omega) (by omega) (by decide) (fun _ => rfl) (fun v77 ls e77 hl => ?_)
                refine lv_goto (tgt := 22) hx hb dX2_product_80 (by decide) ?_
                exact ih22 (j + 1) (x2 + ((T (k + 1 + j - w)) * (P (j)))) v77 (by omega) (by omega) (by first | (rw [hx2, isum_s, pg_t (by omega) (by omega)]) | (rw [hx2, isum_s, pg_f (by omega)])) (Eq.trans e77 (by omega)) _ _ hP hD hS _ (lv_sub hl [3, 4, 1, 0] rfl)
      exact lp22 ((w - 0) + 1) (0) 0 0 (by omega) (by omega) (rfl) (Eq.trans (show (0 : Int32).toInt = 0 by decide) (by omega)) _ _ hP hD hS _ (lv_sub hl [2, 3, 1, 0] rfl)
    · have _u := True.intro
      exact absurd c13 (by decide)
  · have _u := True.intro
    refine lv_iconst (v := 1) hx hb dX2_product_5 (by decide) ?_
    refine lv_goto (tgt := 10) hx hb dX2_product_6 (by decide) ?_
    have hFc := va_free (wc := (MW g0 g1 g2 y4 y5 th (n) (w) T P)) hD hS hA [0, 1, 2] rfl
    refine va_calli (va_runV (As := [.int 1]) (rest := []) ⟨hx, hb, hml, hown, hts⟩ (c_X2_goesWell l D E g0 g1 g2 y4 y5 s.heap.size (n) (w) th T P hn hw hT hPt (hD.weaken (fun _ _ _ _ => trivial)) 1 (1) (Eq.trans (show (1 : Int32).toInt = 1 by decide) (by omega))) (cwV 1 hts gX2_product_X2_goesWell rfl rfl rfl (by decide +kernel) ⟨Nat.le_of_ble_eq_true rfl, Nat.le_of_ble_eq_true rfl⟩) ⟨cp.blind, va_recv hK hP (ci := 1) (q0 := 0) rfl rfl, fun U hU hW => ⟨rfl, cp.call hP hK hE hS hFc hU hW⟩⟩ rfl rfl hl.1 rfl (lv_room (Nat.le_of_ble_eq_true rfl)) dX2_product_10 ⟨Nat.le_of_ble_eq_true rfl, Nat.le_of_ble_eq_true rfl⟩) hS (fun q _ h => hFc q h) hFc (fun v10 u t H1 locs1 ht hvm e10 hB hz1 hk1 hS => ?_)
    obtain ⟨hP1, hD1⟩ := hB
    rw [ht] at hP1
    obtain ⟨hP, hD⟩ := va_join (wr := []) (w1 := (MW g0 g1 g2 y4 y5 1 (n) (w) T P)) hP hD [0, 1, 2] [] rfl rfl (by decide) (by decide) hk1 hFc hP1 hD1
    have hP : va_P D vwCl (MW g0 g1 g2 y4 y5 1 (n) (w) T P) H1 := hP
    have hD : va_D (va_A (MW g0 g1 g2 y4 y5 th (n) (w) T P) s.heap.size) (MW g0 g1 g2 y4 y5 1 (n) (w) T P) := hD
    generalize H1 = H at hP hS ⊢
    generalize locs1 = locs at hS ⊢
    refine zb_if_ne (tgt := 18) hx hb dX2_product_13 (by decide) e10 (fun c13 => ?_) (fun c13 => ?_)
    · have _u := True.intro
      exact absurd c13 (by decide)
    · have _u := True.intro
      refine lv_iconst (v := 0) hx hb dX2_product_16 (by decide) ?_
      have hk0 : kNeg x1.toInt = 1 := by unfold kNeg; (repeat' split) <;> omega
      refine W.widen (k := 0) (n := 0) (Nat.le_of_ble_eq_true rfl) (Nat.le_of_ble_eq_true rfl) ?_
      exact W.iret (v := 0) hx hb hr (fun t ht hW => ⟨⟨_, 1, rfl, ⟨(show (1 : Int32).toInt = 1 by decide).trans (by omega), fun h => absurd h (by omega)⟩, ⟨by rw [ht]; exact hP, hD⟩⟩, hS.F ht⟩) hS.2.2 dX2_product_17

set_option maxHeartbeats 4000000 in
set_option maxRecDepth 100000 in
theorem c_X2_difference (l : Launch) (D : va_G) (E : Nat × Nat × Nat) (g0 g1 g2 : Nat) (y4 y5 : ClassId) (sz n w : Nat) (th : Int32) (T P : Nat → Int32) (hn : n ≤ 64) (hw : w ≤ 24) (hT : SymF T) (hPt : SymF P) (hD0 : va_D (fun _ => True) (MW g0 g1 g2 y4 y5 th (n) (w) T P)) (x1 : Int32) : Met l yX2_difference wsX2_difference ({ frames := 2, cells := 0, slots := 0, locals := 41 }) (va_Pc [.ref g0, .int x1] (cp D (MW g0 g1 g2 y4 y5 th (n) (w) T P) (MT y4 y5) E (va_A (MW g0 g1 g2 y4 y5 th (n) (w) T P) sz) sz)) (va_Qi (fun (r : Int32) (th2 : Int32) => th2.toInt = ((kPl (pl n w) x1.toInt : Nat) : Int) ∧ (kPl (pl n w) x1.toInt = 0 → r.toInt = (isum (df T P x1.toInt.toNat) w).toInt)) (fun (th2 : Int32) t => va_P D vwCl (MW g0 g1 g2 y4 y5 th2 (n) (w) T P) t.heap ∧ va_D (va_A (MW g0 g1 g2 y4 y5 th (n) (w) T P) sz) (MW g0 g1 g2 y4 y5 th2 (n) (w) T P)) (va_A (MW g0 g1 g2 y4 y5 th (n) (w) T P) sz)) 0 0 (va_A (MW g0 g1 g2 y4 y5 th (n) (w) T P) sz) := by
  refine Met.ofW (cc := cX2_difference) (maxL := 5) (ret := (some .int)) (by decide) rfl ?_
  intro p e s m args below meth c s₁ B hml hv
  obtain ⟨rfl, hsz, hP, hK, hE⟩ := hv
  have hx := B.exec
  have hb := B.bytes
  have hr := B.returns
  have hts := atoms_spec (ws := wsX2_difference) B.pre
  have hown : s.vm.findClass RX2 = some m.cls := findClass_of_methodNamed B.named
  have hlocks := B.notSynchronized
  have hsz : s.heap.size = sz := hsz
  subst hsz
  have hD := hD0.self (sz := s.heap.size)
  have hA : ∀ q : Nat, s.heap.size ≤ q → (va_A (MW g0 g1 g2 y4 y5 th (n) (w) T P) s.heap.size) q := fun q h => Or.inr h
  have hS : va_S (va_A (MW g0 g1 g2 y4 y5 th (n) (w) T P) s.heap.size) s.heap s.heap [] := va_S.rf
  have inn : (nI n).toInt = (n : Int) := nI_toInt (by omega)
  have iww : (nI w).toInt = (w : Int) := nI_toInt (by omega)
  have hf_m := hts (.fieldLink RX2 30 "BlankMatcherModel" "m" "I") (by decide +kernel)
  have hf_pattern := hts (.fieldLink RX2 13 "BlankMatcherModel" "pattern" "[I") (by decide +kernel)
  have hf_text := hts (.fieldLink RX2 7 "BlankMatcherModel" "text" "[I") (by decide +kernel)
  have hpl : pl n w = n + 1 - w := rfl
  have hin0 : ∀ w ∈ wsX20, w ∈ wsX2_difference := by decide +kernel
  have g_x1 := rg x1
  have hl := lv_entry ([.ref g0, .int x1]) (n := 5) (Nat.le_of_ble_eq_true rfl)
  rw [lg_entry_eq]
  generalize (lg_sl ([.ref g0, .int x1]) ++ List.replicate (5 - (lg_sl ([.ref g0, .int x1])).length) Slot.unset).toArray = ls at hl ⊢
  have hl : lv_has ls 5 [(0, .ref g0), (1, .int x1)] := hl
  refine lv_aload_n hx hb dX2_difference_0 rfl (lv_at hl 0 rfl) ?_
  refine lv_aload_n hx hb dX2_difference_1 rfl (lv_at hl 0 rfl) ?_
  refine lv_iload_n hx hb dX2_difference_2 rfl (lv_at hl 1 rfl) ?_
  refine va_calli (va_runV (As := [.int x1]) (rest := [.ref g0]) ⟨hx, hb, hml, hown, hts⟩ (c_X2_isPlace l D E g0 g1 g2 y4 y5 s.heap.size (n) (w) th T P hn hw hT hPt x1) (cwV 1 hts gX2_difference_X2_isPlace rfl rfl rfl (by decide +kernel) ⟨Nat.le_of_ble_eq_true rfl, Nat.le_of_ble_eq_true rfl⟩) ⟨cp.blind, va_recv hK hP (ci := 1) (q0 := 0) rfl rfl, fun U hU hW => ⟨rfl, cp.call hP hK hE hS (fr0 hS hA) hU hW⟩⟩ rfl rfl hl.1 rfl (lv_room (Nat.le_of_ble_eq_true rfl)) dX2_difference_3 ⟨Nat.le_of_ble_eq_true rfl, Nat.le_of_ble_eq_true rfl⟩) hS (fun q _ h => (fr0 hS hA) q h) (fr0 hS hA) (fun v3 u t H1 locs1 ht hvm e3 hB hz1 hk1 hS => ?_)
  have hP := kp hP hk1
  generalize H1 = H at hP hS ⊢
  generalize locs1 = locs at hS ⊢
  refine zb_if_eq (tgt := 13) hx hb dX2_difference_6 (by decide) e3 (fun c6 => ?_) (fun c6 => ?_)
  · have _u := True.intro
    have d6 := of_decide_eq_false c6
    refine lv_iconst (v := 1) hx hb dX2_difference_13 (by decide) ?_
    have hFc := va_free (wc := (MW g0 g1 g2 y4 y5 th (n) (w) T P)) hD hS hA [0, 1, 2] rfl
    refine va_calli (va_runV (As := [.int 1]) (rest := []) ⟨hx, hb, hml, hown, hts⟩ (c_X2_goesWell l D E g0 g1 g2 y4 y5 H.size (n) (w) th T P hn hw hT hPt (hD.weaken (fun _ _ _ _ => trivial)) 1 (1) (Eq.trans (show (1 : Int32).toInt = 1 by decide) (by omega))) (cwV 1 hts gX2_difference_X2_goesWell rfl rfl rfl (by decide +kernel) ⟨Nat.le_of_ble_eq_true rfl, Nat.le_of_ble_eq_true rfl⟩) ⟨cp.blind, va_recv hK hP (ci := 1) (q0 := 0) rfl rfl, fun U hU hW => ⟨rfl, cp.call hP hK hE hS hFc hU hW⟩⟩ rfl rfl hl.1 rfl (lv_room (Nat.le_of_ble_eq_true rfl)) dX2_difference_14 ⟨Nat.le_of_ble_eq_true rfl, Nat.le_of_ble_eq_true rfl⟩) hS (fun q _ h => hFc q h) hFc (fun v14 u t H1 locs1 ht hvm e14 hB hz1 hk1 hS => ?_)
    obtain ⟨hP1, hD1⟩ := hB
    rw [ht] at hP1
    obtain ⟨hP, hD⟩ := va_join (wr := []) (w1 := (MW g0 g1 g2 y4 y5 1 (n) (w) T P)) hP hD [0, 1, 2] [] rfl rfl (by decide) (by decide) hk1 hFc hP1 hD1
    have hP : va_P D vwCl (MW g0 g1 g2 y4 y5 1 (n) (w) T P) H1 := hP
    have hD : va_D (va_A (MW g0 g1 g2 y4 y5 th (n) (w) T P) s.heap.size) (MW g0 g1 g2 y4 y5 1 (n) (w) T P) := hD
    generalize H1 = H at hP hS ⊢
    generalize locs1 = locs at hS ⊢
    refine zb_if_ne (tgt := 22) hx hb dX2_difference_17 (by decide) e14 (fun c17 => ?_) (fun c17 => ?_)
    · have _u := True.intro
      exact absurd c17 (by decide)
    · have _u := True.intro
      refine lv_iconst (v := 0) hx hb dX2_difference_20 (by decide) ?_
      have hk0 : kPl (pl n w) x1.toInt = 1 := by unfold kPl; (repeat' split) <;> omega
      refine W.widen (k := 0) (n := 0) (Nat.le_of_ble_eq_true rfl) (Nat.le_of_ble_eq_true rfl) ?_
      exact W.iret (v := 0) hx hb hr (fun t ht hW => ⟨⟨_, 1, rfl, ⟨(show (1 : Int32).toInt = 1 by decide).trans (by omega), fun h => absurd h (by omega)⟩, ⟨by rw [ht]; exact hP, hD⟩⟩, hS.F ht⟩) hS.2.2 dX2_difference_21
  · have _u := True.intro
    have d6 := of_decide_eq_true c6
    refine lv_iconst (v := 0) hx hb dX2_difference_9 (by decide) ?_
    refine lv_goto (tgt := 14) hx hb dX2_difference_10 (by decide) ?_
    have hFc := va_free (wc := (MW g0 g1 g2 y4 y5 th (n) (w) T P)) hD hS hA [0, 1, 2] rfl
    refine va_calli (va_runV (As := [.int 0]) (rest := []) ⟨hx, hb, hml, hown, hts⟩ (c_X2_goesWell l D E g0 g1 g2 y4 y5 H.size (n) (w) th T P hn hw hT hPt (hD.weaken (fun _ _ _ _ => trivial)) 0 (0) (Eq.trans (show (0 : Int32).toInt = 0 by decide) (by omega))) (cwV 1 hts gX2_difference_X2_goesWell rfl rfl rfl (by decide +kernel) ⟨Nat.le_of_ble_eq_true rfl, Nat.le_of_ble_eq_true rfl⟩) ⟨cp.blind, va_recv hK hP (ci := 1) (q0 := 0) rfl rfl, fun U hU hW => ⟨rfl, cp.call hP hK hE hS hFc hU hW⟩⟩ rfl rfl hl.1 rfl (lv_room (Nat.le_of_ble_eq_true rfl)) dX2_difference_14 ⟨Nat.le_of_ble_eq_true rfl, Nat.le_of_ble_eq_true rfl⟩) hS (fun q _ h => hFc q h) hFc (fun v14 u t H1 locs1 ht hvm e14 hB hz1 hk1 hS => ?_)
    obtain ⟨hP1, hD1⟩ := hB
    rw [ht] at hP1
    obtain ⟨hP, hD⟩ := va_join (wr := []) (w1 := (MW g0 g1 g2 y4 y5 0 (n) (w) T P)) hP hD [0, 1, 2] [] rfl rfl (by decide) (by decide) hk1 hFc hP1 hD1
    have hP : va_P D vwCl (MW g0 g1 g2 y4 y5 0 (n) (w) T P) H1 := hP
    have hD : va_D (va_A (MW g0 g1 g2 y4 y5 th (n) (w) T P) s.heap.size) (MW g0 g1 g2 y4 y5 0 (n) (w) T P) := hD
    generalize H1 = H at hP hS ⊢
    generalize locs1 = locs at hS ⊢
    refine zb_if_ne (tgt := 22) hx hb dX2_difference_17 (by decide) e14 (fun c17 => ?_) (fun c17 => ?_)
    · have _u := True.intro
      obtain ⟨o, eo⟩ : ∃ o : Nat, x1.toInt = (o : Int) := ⟨x1.toInt.toNat, by omega⟩
      have ho : o + w ≤ n := by omega
      have ho2 : x1.toInt.toNat = o := by omega
      refine lv_iconst (v := 0) hx hb dX2_difference_22 (by decide) ?_
      refine lv_istore_n (lv' := [(2, .int 0), (0, .ref g0), (1, .int x1)]) hx hb dX2_difference_23 rfl hl (by decide) rfl (fun ls hl => ?_)
      refine lv_iconst (v := 0) hx hb dX2_difference_24 (by decide) ?_
      refine lv_istore_n (lv' := [(3, .int 0), (2, .int 0), (0, .ref g0), (1, .int x1)]) hx hb dX2_difference_25 rfl hl (by decide) rfl (fun ls hl => ?_)
      have lp26 : ∀ (nf : Nat) (j : Nat) (x2 : Int32) (x3 : Int32), w - j < nf → (j ≤ w) → (x2 = isum (df T P o) j) → x3.toInt = (j : Int) → ∀ (H : Heap) (locs : List Loc), va_P D vwCl (MW g0 g1 g2 y4 y5 0 (n) (w) T P) H → va_D (va_A (MW g0 g1 g2 y4 y5 th (n) (w) T P) s.heap.size) (MW g0 g1 g2 y4 y5 0 (n) (w) T P) → va_S (va_A (MW g0 g1 g2 y4 y5 th (n) (w) T P) s.heap.size) s.heap H locs → ∀ (ls : Array Slot), lv_has ls 5 [(0, .ref g0), (1, .int x1), (2, .int x2), (3, .int x3)] → W p l e (headSpec wsX2_difference ({ frames := 2, cells := 0, slots := 0, locals := 41 })).room s m [.ref g0, .int x1].toArray below meth c H locs 0 0 (MQ below (va_Qi (fun (r : Int32) (th2 : Int32) => th2.toInt = ((kPl (pl n w) x1.toInt : Nat) : Int) ∧ (kPl (pl n w) x1.toInt = 0 → r.toInt = (isum (df T P x1.toInt.toNat) w).toInt)) (fun (th2 : Int32) t => va_P D vwCl (MW g0 g1 g2 y4 y5 th2 (n) (w) T P) t.heap ∧ va_D (va_A (MW g0 g1 g2 y4 y5 th (n) (w) T P) s.heap.size) (MW g0 g1 g2 y4 y5 th2 (n) (w) T P)) (va_A (MW g0 g1 g2 y4 y5 th (n) (w) T P) s.heap.size)) [.ref g0, .int x1].toArray s 0 0 (va_A (MW g0 g1 g2 y4 y5 th (n) (w) T P) s.heap.size)) (F0 m 26 ls []) := by
        intro nf
        induction nf with
        | zero => intros; omega
        | succ nf ih26 =>
          intro j x2 x3 hnf hj hx2 e_x3 H locs hP hD hS ls hl
          refine lv_iload_n hx hb dX2_difference_26 rfl (lv_at hl 3 rfl) ?_
          refine lv_aload_n hx hb dX2_difference_27 rfl (lv_at hl 0 rfl) ?_
          refine va_get (D := D) (ci := 1) (v := .int (nI w)) (C := RX2) (T := TX2) (N := 5) hx hb hts hin0 hown hK hP 0 rfl rfl 4 (by decide) hf_m (fun _ h9 => h9) rfl dX2_difference_28 ?_
          refine z_icmp_ge (tgt := 81) hx hb dX2_difference_31 (by decide) e_x3 iww (fun c31 => ?_) (fun c31 => ?_)
          · have _u := True.intro
            have hj2 : j = w := by omega
            refine lv_iload_n hx hb dX2_difference_81 rfl (lv_at hl 2 rfl) ?_
            have hk0 : kPl (pl n w) x1.toInt = 0 := by unfold kPl; (repeat' split) <;> omega
            refine W.widen (k := 0) (n := 0) (Nat.le_of_ble_eq_true rfl) (Nat.le_of_ble_eq_true rfl) ?_
            exact W.iret (v := x2) hx hb hr (fun t ht hW => ⟨⟨_, 0, rfl, ⟨(show (0 : Int32).toInt = 0 by decide).trans (by omega), fun _ => (by rw [hx2, hj2, ho2])⟩, ⟨by rw [ht]; exact hP, hD⟩⟩, hS.F ht⟩) hS.2.2 dX2_difference_82
          · have _u := True.intro
            refine lv_aload_n hx hb dX2_difference_34 rfl (lv_at hl 0 rfl) ?_
            refine va_get (D := D) (ci := 1) (v := .ref g2) (C := RX2) (T := TX2) (N := 5) hx hb hts hin0 hown hK hP 0 rfl rfl 2 (by decide) hf_pattern (fun _ h9 => h9) rfl dX2_difference_35 ?_
            refine lv_iload_n hx hb dX2_difference_38 rfl (lv_at hl 3 rfl) ?_
            refine z_iald hx hb hK hP 2 1 rfl rfl (j) e_x3 (by omega) (by omega) dX2_difference_39 ?_
            refine lv_aload_n hx hb dX2_difference_40 rfl (lv_at hl 0 rfl) ?_
            refine va_get (D := D) (ci := 1) (v := .ref g1) (C := RX2) (T := TX2) (N := 5) hx hb hts hin0 hown hK hP 0 rfl rfl 1 (by decide) hf_text (fun _ h9 => h9) rfl dX2_difference_41 ?_
            refine lv_iload_n hx hb dX2_difference_44 rfl (lv_at hl 1 rfl) ?_
            refine lv_iload_n hx hb dX2_difference_45 rfl (lv_at hl 3 rfl) ?_
            refine z_iadd hx hb dX2_difference_46 rfl e_x3 (by omega) (by omega) (fun v46 e46 => ?_)
            refine z_iald hx hb hK hP 1 0 rfl rfl (o + j) e46 (by omega) (by omega) dX2_difference_47 ?_
            refine lv_isub hx hb dX2_difference_48 ?_
            refine lv_istore (lv' := [(4, .int ((P (j)) - (T (o + j)))), (0, .ref g0), (1, .int x1), (2, .int x2), (3, .int x3)]) hx hb dX2_difference_49 hl (by decide) rfl (fun ls hl => ?_)
            refine lv_iload_n hx hb dX2_difference_51 rfl (lv_at hl 3 rfl) ?_
            refine lv_aload_n hx hb dX2_difference_52 rfl (lv_at hl 1 rfl) ?_
            refine va_get (D := D) (ci := 1) (v := .ref g2) (C := RX2) (T := TX2) (N := 5) hx hb hts hin0 hown hK hP 0 rfl rfl 2 (by decide) hf_pattern (fun _ h9 => h9) rfl dX2_difference_53 ?_
            refine lv_iload_n hx hb dX2_difference_56 rfl (lv_at hl 4 rfl) ?_
            refine z_iald hx hb hK hP 2 1 rfl rfl (j) e_x3 (by omega) (by omega) dX2_difference_57 ?_
            refine lv_aload_n hx hb dX2_difference_58 rfl (lv_at hl 1 rfl) ?_
            refine va_get (D := D) (ci := 1) (v := .ref g1) (C := RX2) (T := TX2) (N := 5) hx hb hts hin0 hown hK hP 0 rfl rfl 1 (by decide) hf_text (fun _ h9 => h9) rfl dX2_difference_59 ?_
            refine lv_iload_n hx hb dX2_difference_62 rfl (lv_at hl 2 rfl) ?_
            refine lv_iload_n hx hb dX2_difference_63 rfl (lv_at hl 4 rfl) ?_
            refine z_iadd hx hb dX2_difference_64 rfl e_x3 (by omega) (by omega) (fun v64 e64 => ?_)
            refine z_iald hx hb hK hP 1 0 rfl rfl (o + j) e64 (by omega) (by omega) dX2_difference_65 ?_
            refine lv_imul hx hb dX2_difference_66 ?_
            refine lv_iload hx hb dX2_difference_67 (lv_at hl 0 rfl) ?_
            refine lv_imul hx hb dX2_difference_69 ?_
            refine lv_iload hx hb dX2_difference_70 (lv_at hl 0 rfl) ?_
            refine lv_imul hx hb dX2_difference_72 ?_
            refine lv_iadd hx hb dX2_difference_73 ?_
            refine lv_istore_n (lv' := [(2, .int (x2 + ((((P (j)) * (T (o + j))) * ((P (j)) - (T (o + j)))) * ((P (j)) - (T (o + j)))))), (4, .int ((P (j)) - (T (o + j)))), (0, .ref g0), (1, .int x1), (3, .int x3)]) hx hb dX2_difference_74 rfl hl (by decide) rfl (fun ls hl => ?_)
            refine z_iinc (k := 4) (lv' := fun v => [(3, .int v), (2, .int (x2 + ((((P (j)) * (T (o + j))) * ((P (j)) - (T (o + j)))) * ((P (j)) - (T (o + j)))))), (4, .int ((P (j)) - (T (o + j)))), (0, .ref g0), (1, .int x1)]) hx hb dX2_difference_75 hl rfl e_x3 (by decide) (by omega) (by omega) (by decide) (fun _ => rfl) (fun v75 ls e75 hl => ?_)
            refine lv_goto (tgt := 26) hx hb dX2_difference_78 (by decide) ?_
            exact ih26 (j + 1) (x2 + ((((P (j)) * (T (o + j))) * ((P (j)) - (T (o + j)))) * ((P (j)) - (T (o + j))))) v75 (by omega) (by omega) (by rw [hx2]; rfl) (Eq.trans e75 (by omega)) _ _ hP hD hS _ (lv_sub hl [3, 4, 1, 0] rfl)
      exact lp26 ((w - 0) + 1) (0) 0 0 (by omega) (by omega) (rfl) (Eq.trans (show (0 : Int32).toInt = 0 by decide) (by omega)) _ _ hP hD hS _ (lv_sub hl [2, 3, 1, 0] rfl)
    · have _u := True.intro
      exact absurd c17 (by decide)

set_option maxHeartbeats 4000000 in
set_option maxRecDepth 100000 in
theorem c_X2_matches (l : Launch) (D : va_G) (E : Nat × Nat × Nat) (g0 g1 g2 : Nat) (y4 y5 : ClassId) (sz n w : Nat) (th : Int32) (T P : Nat → Int32) (hn : n ≤ 64) (hw : w ≤ 24) (hT : SymF T) (hPt : SymF P) (hD0 : va_D (fun _ => True) (MW g0 g1 g2 y4 y5 th (n) (w) T P)) : Met l yX2_matches wsX2_matches ({ frames := 4, cells := 0, slots := 0, locals := 89 }) (va_Pc [.ref g0] (cp D (MW g0 g1 g2 y4 y5 th (n) (w) T P) (MT y4 y5) E (va_A (MW g0 g1 g2 y4 y5 th (n) (w) T P) sz) sz)) (va_Qi (fun (r : Int32) (_ : Unit) => r.toInt = ((cnt (lik 0 T P w) (pl n w) : Nat) : Int)) (fun _ t => va_P D vwCl (MW g0 g1 g2 y4 y5 0 (n) (w) T P) t.heap ∧ va_D (va_A (MW g0 g1 g2 y4 y5 th (n) (w) T P) sz) (MW g0 g1 g2 y4 y5 0 (n) (w) T P)) (va_A (MW g0 g1 g2 y4 y5 th (n) (w) T P) sz)) 0 0 (va_A (MW g0 g1 g2 y4 y5 th (n) (w) T P) sz) := by
  refine Met.ofW (cc := cX2_matches) (maxL := 1) (ret := (some .int)) (by decide) rfl ?_
  intro p e s m args below meth c s₁ B hml hv
  obtain ⟨rfl, hsz, hP, hK, hE⟩ := hv
  have hx := B.exec
  have hb := B.bytes
  have hr := B.returns
  have hts := atoms_spec (ws := wsX2_matches) B.pre
  have hown : s.vm.findClass RX2 = some m.cls := findClass_of_methodNamed B.named
  have hlocks := B.notSynchronized
  have hsz : s.heap.size = sz := hsz
  subst hsz
  have hD := hD0.self (sz := s.heap.size)
  have hA : ∀ q : Nat, s.heap.size ≤ q → (va_A (MW g0 g1 g2 y4 y5 th (n) (w) T P) s.heap.size) q := fun q h => Or.inr h
  have hS : va_S (va_A (MW g0 g1 g2 y4 y5 th (n) (w) T P) s.heap.size) s.heap s.heap [] := va_S.rf
  have inn : (nI n).toInt = (n : Int) := nI_toInt (by omega)
  have iww : (nI w).toInt = (w : Int) := nI_toInt (by omega)
  have hf_thrown := hts (.fieldLink RX2 16 "BlankMatcherModel" "thrown" "I") (by decide +kernel)
  have hpl : pl n w = n + 1 - w := rfl
  have hin0 : ∀ w ∈ wsX20, w ∈ wsX2_matches := by decide +kernel
  have hl := lv_entry ([.ref g0]) (n := 1) (Nat.le_of_ble_eq_true rfl)
  rw [lg_entry_eq]
  generalize (lg_sl ([.ref g0]) ++ List.replicate (1 - (lg_sl ([.ref g0])).length) Slot.unset).toArray = ls at hl ⊢
  have hl : lv_has ls 1 [(0, .ref g0)] := hl
  refine lv_aload_n hx hb dX2_matches_0 rfl (lv_at hl 0 rfl) ?_
  refine lv_iconst (v := 0) hx hb dX2_matches_1 (by decide) ?_
  refine va_put (D := D) (ci := 1) (v := .int 0) (ty := .int) (C := RX2) (T := TX2) (N := 5) hx hb hts hin0 tyX2 tyX2_ok nmX2 hown hK hP hD hS 0 rfl rfl 0 (by decide) hf_thrown (fun _ h9 => h9) rfl (by decide +kernel) rfl rfl (Nat.le_of_ble_eq_true rfl) dX2_matches_2 (fun H locs hP hD hS => ?_)
  have hP : va_P D vwCl (MW g0 g1 g2 y4 y5 0 (n) (w) T P) H := hP
  have hD : va_D (va_A (MW g0 g1 g2 y4 y5 th (n) (w) T P) s.heap.size) (MW g0 g1 g2 y4 y5 0 (n) (w) T P) := hD
  refine lv_aload_n hx hb dX2_matches_5 rfl (lv_at hl 0 rfl) ?_
  refine lv_iconst (v := 0) hx hb dX2_matches_6 (by decide) ?_
  refine va_calli (va_runV (As := [.int 0]) (rest := []) ⟨hx, hb, hml, hown, hts⟩ (c_X2_wanted l D E g0 g1 g2 y4 y5 H.size (n) (w) 0 T P hn hw hT hPt 0 (0) (Eq.trans (show (0 : Int32).toInt = 0 by decide) (by omega)) (by omega)) (cwV 1 hts gX2_matches_X2_wanted rfl rfl rfl (by decide +kernel) ⟨Nat.le_of_ble_eq_true rfl, Nat.le_of_ble_eq_true rfl⟩) ⟨cp.blind, va_recv hK hP (ci := 1) (q0 := 0) rfl rfl, fun U hU hW => ⟨rfl, cp.call hP hK hE hS (fr0 hS hA) hU hW⟩⟩ rfl rfl hl.1 rfl (lv_room (Nat.le_of_ble_eq_true rfl)) dX2_matches_7 ⟨Nat.le_of_ble_eq_true rfl, Nat.le_of_ble_eq_true rfl⟩) hS (fun q _ h => (fr0 hS hA) q h) (fr0 hS hA) (fun v7 u t H1 locs1 ht hvm e7 hB hz1 hk1 hS => ?_)
  have hP := kp hP hk1
  generalize H1 = H at hP hS ⊢
  generalize locs1 = locs at hS ⊢
  refine W.widen (k := 0) (n := 0) (Nat.le_of_ble_eq_true rfl) (Nat.le_of_ble_eq_true rfl) ?_
  exact W.iret (v := v7) hx hb hr (fun t ht hW => ⟨⟨_, (), rfl, (Eq.trans e7 (by omega)), ⟨by rw [ht]; exact hP, hD⟩⟩, hS.F ht⟩) hS.2.2 dX2_matches_10

set_option maxHeartbeats 4000000 in
set_option maxRecDepth 100000 in
theorem c_X2_match (l : Launch) (D : va_G) (E : Nat × Nat × Nat) (g0 g1 g2 : Nat) (y4 y5 : ClassId) (sz n w : Nat) (th : Int32) (T P : Nat → Int32) (hn : n ≤ 64) (hw : w ≤ 24) (hT : SymF T) (hPt : SymF P) (hD0 : va_D (fun _ => True) (MW g0 g1 g2 y4 y5 th (n) (w) T P)) (x1 : Int32) : Met l yX2_match wsX2_match ({ frames := 5, cells := 0, slots := 0, locals := 111 }) (va_Pc [.ref g0, .int x1] (cp D (MW g0 g1 g2 y4 y5 th (n) (w) T P) (MT y4 y5) E (va_A (MW g0 g1 g2 y4 y5 th (n) (w) T P) sz) sz)) (va_Qi (fun (r : Int32) (th2 : Int32) => th2.toInt = ((kMt 0 T P w n x1.toInt : Nat) : Int) ∧ (kMt 0 T P w n x1.toInt = 0 → r.toInt = fnd 0 T P w n x1.toInt)) (fun (th2 : Int32) t => va_P D vwCl (MW g0 g1 g2 y4 y5 th2 (n) (w) T P) t.heap ∧ va_D (va_A (MW g0 g1 g2 y4 y5 th (n) (w) T P) sz) (MW g0 g1 g2 y4 y5 th2 (n) (w) T P)) (va_A (MW g0 g1 g2 y4 y5 th (n) (w) T P) sz)) 0 0 (va_A (MW g0 g1 g2 y4 y5 th (n) (w) T P) sz) := by
  refine Met.ofW (cc := cX2_match) (maxL := 2) (ret := (some .int)) (by decide) rfl ?_
  intro p e s m args below meth c s₁ B hml hv
  obtain ⟨rfl, hsz, hP, hK, hE⟩ := hv
  have hx := B.exec
  have hb := B.bytes
  have hr := B.returns
  have hts := atoms_spec (ws := wsX2_match) B.pre
  have hown : s.vm.findClass RX2 = some m.cls := findClass_of_methodNamed B.named
  have hlocks := B.notSynchronized
  have hsz : s.heap.size = sz := hsz
  subst hsz
  have hD := hD0.self (sz := s.heap.size)
  have hA : ∀ q : Nat, s.heap.size ≤ q → (va_A (MW g0 g1 g2 y4 y5 th (n) (w) T P) s.heap.size) q := fun q h => Or.inr h
  have hS : va_S (va_A (MW g0 g1 g2 y4 y5 th (n) (w) T P) s.heap.size) s.heap s.heap [] := va_S.rf
  have inn : (nI n).toInt = (n : Int) := nI_toInt (by omega)
  have iww : (nI w).toInt = (w : Int) := nI_toInt (by omega)
  have hpl : pl n w = n + 1 - w := rfl
  have g_x1 := rg x1
  have hl := lv_entry ([.ref g0, .int x1]) (n := 2) (Nat.le_of_ble_eq_true rfl)
  rw [lg_entry_eq]
  generalize (lg_sl ([.ref g0, .int x1]) ++ List.replicate (2 - (lg_sl ([.ref g0, .int x1])).length) Slot.unset).toArray = ls at hl ⊢
  have hl : lv_has ls 2 [(0, .ref g0), (1, .int x1)] := hl
  refine lv_aload_n hx hb dX2_match_0 rfl (lv_at hl 0 rfl) ?_
  refine lv_aload_n hx hb dX2_match_1 rfl (lv_at hl 0 rfl) ?_
  refine lv_iconst (v := 0) hx hb dX2_match_2 (by decide) ?_
  refine lv_iload_n hx hb dX2_match_3 rfl (lv_at hl 1 rfl) ?_
  refine va_calli (va_runV (As := [.int 0, .int x1]) (rest := [.ref g0]) ⟨hx, hb, hml, hown, hts⟩ (c_X2_isNumber l D E g0 g1 g2 y4 y5 s.heap.size (n) (w) th T P hn hw hT hPt 0 x1 (0) (Eq.trans (show (0 : Int32).toInt = 0 by decide) (by omega)) (by omega)) (cwV 2 hts gX2_match_X2_isNumber rfl rfl rfl (by decide +kernel) ⟨Nat.le_of_ble_eq_true rfl, Nat.le_of_ble_eq_true rfl⟩) ⟨cp.blind, va_recv hK hP (ci := 1) (q0 := 0) rfl rfl, fun U hU hW => ⟨rfl, cp.call hP hK hE hS (fr0 hS hA) hU hW⟩⟩ rfl rfl hl.1 rfl (lv_room (Nat.le_of_ble_eq_true rfl)) dX2_match_4 ⟨Nat.le_of_ble_eq_true rfl, Nat.le_of_ble_eq_true rfl⟩) hS (fun q _ h => (fr0 hS hA) q h) (fr0 hS hA) (fun v4 u t H1 locs1 ht hvm e4 hB hz1 hk1 hS => ?_)
  have hP := kp hP hk1
  generalize H1 = H at hP hS ⊢
  generalize locs1 = locs at hS ⊢
  refine zb_if_eq (tgt := 14) hx hb dX2_match_7 (by decide) e4 (fun c7 => ?_) (fun c7 => ?_)
  · have _u := True.intro
    have d7 := of_decide_eq_false c7
    refine lv_iconst (v := 1) hx hb dX2_match_14 (by decide) ?_
    have hFc := va_free (wc := (MW g0 g1 g2 y4 y5 th (n) (w) T P)) hD hS hA [0, 1, 2] rfl
    refine va_calli (va_runV (As := [.int 1]) (rest := []) ⟨hx, hb, hml, hown, hts⟩ (c_X2_goesWell l D E g0 g1 g2 y4 y5 H.size (n) (w) th T P hn hw hT hPt (hD.weaken (fun _ _ _ _ => trivial)) 1 (1) (Eq.trans (show (1 : Int32).toInt = 1 by decide) (by omega))) (cwV 1 hts gX2_match_X2_goesWell rfl rfl rfl (by decide +kernel) ⟨Nat.le_of_ble_eq_true rfl, Nat.le_of_ble_eq_true rfl⟩) ⟨cp.blind, va_recv hK hP (ci := 1) (q0 := 0) rfl rfl, fun U hU hW => ⟨rfl, cp.call hP hK hE hS hFc hU hW⟩⟩ rfl rfl hl.1 rfl (lv_room (Nat.le_of_ble_eq_true rfl)) dX2_match_15 ⟨Nat.le_of_ble_eq_true rfl, Nat.le_of_ble_eq_true rfl⟩) hS (fun q _ h => hFc q h) hFc (fun v15 u t H1 locs1 ht hvm e15 hB hz1 hk1 hS => ?_)
    obtain ⟨hP1, hD1⟩ := hB
    rw [ht] at hP1
    obtain ⟨hP, hD⟩ := va_join (wr := []) (w1 := (MW g0 g1 g2 y4 y5 1 (n) (w) T P)) hP hD [0, 1, 2] [] rfl rfl (by decide) (by decide) hk1 hFc hP1 hD1
    have hP : va_P D vwCl (MW g0 g1 g2 y4 y5 1 (n) (w) T P) H1 := hP
    have hD : va_D (va_A (MW g0 g1 g2 y4 y5 th (n) (w) T P) s.heap.size) (MW g0 g1 g2 y4 y5 1 (n) (w) T P) := hD
    generalize H1 = H at hP hS ⊢
    generalize locs1 = locs at hS ⊢
    refine zb_if_eq (tgt := 30) hx hb dX2_match_18 (by decide) e15 (fun c18 => ?_) (fun c18 => ?_)
    · have _u := True.intro
      refine lv_iconst (v := 0) hx hb dX2_match_30 (by decide) ?_
      have hk0 : kMt 0 T P w n x1.toInt = 1 := by unfold kMt; (repeat' split) <;> omega
      refine W.widen (k := 0) (n := 0) (Nat.le_of_ble_eq_true rfl) (Nat.le_of_ble_eq_true rfl) ?_
      exact W.iret (v := 0) hx hb hr (fun t ht hW => ⟨⟨_, 1, rfl, ⟨(show (1 : Int32).toInt = 1 by decide).trans (by omega), fun h => absurd h (by omega)⟩, ⟨by rw [ht]; exact hP, hD⟩⟩, hS.F ht⟩) hS.2.2 dX2_match_31
    · have _u := True.intro
      exact absurd c18 (by decide)
  · have _u := True.intro
    have d7 := of_decide_eq_true c7
    refine lv_iconst (v := 0) hx hb dX2_match_10 (by decide) ?_
    refine lv_goto (tgt := 15) hx hb dX2_match_11 (by decide) ?_
    have hFc := va_free (wc := (MW g0 g1 g2 y4 y5 th (n) (w) T P)) hD hS hA [0, 1, 2] rfl
    refine va_calli (va_runV (As := [.int 0]) (rest := []) ⟨hx, hb, hml, hown, hts⟩ (c_X2_goesWell l D E g0 g1 g2 y4 y5 H.size (n) (w) th T P hn hw hT hPt (hD.weaken (fun _ _ _ _ => trivial)) 0 (0) (Eq.trans (show (0 : Int32).toInt = 0 by decide) (by omega))) (cwV 1 hts gX2_match_X2_goesWell rfl rfl rfl (by decide +kernel) ⟨Nat.le_of_ble_eq_true rfl, Nat.le_of_ble_eq_true rfl⟩) ⟨cp.blind, va_recv hK hP (ci := 1) (q0 := 0) rfl rfl, fun U hU hW => ⟨rfl, cp.call hP hK hE hS hFc hU hW⟩⟩ rfl rfl hl.1 rfl (lv_room (Nat.le_of_ble_eq_true rfl)) dX2_match_15 ⟨Nat.le_of_ble_eq_true rfl, Nat.le_of_ble_eq_true rfl⟩) hS (fun q _ h => hFc q h) hFc (fun v15 u t H1 locs1 ht hvm e15 hB hz1 hk1 hS => ?_)
    obtain ⟨hP1, hD1⟩ := hB
    rw [ht] at hP1
    obtain ⟨hP, hD⟩ := va_join (wr := []) (w1 := (MW g0 g1 g2 y4 y5 0 (n) (w) T P)) hP hD [0, 1, 2] [] rfl rfl (by decide) (by decide) hk1 hFc hP1 hD1
    have hP : va_P D vwCl (MW g0 g1 g2 y4 y5 0 (n) (w) T P) H1 := hP
    have hD : va_D (va_A (MW g0 g1 g2 y4 y5 th (n) (w) T P) s.heap.size) (MW g0 g1 g2 y4 y5 0 (n) (w) T P) := hD
    generalize H1 = H at hP hS ⊢
    generalize locs1 = locs at hS ⊢
    refine zb_if_eq (tgt := 30) hx hb dX2_match_18 (by decide) e15 (fun c18 => ?_) (fun c18 => ?_)
    · have _u := True.intro
      exact absurd c18 (by decide)
    · have _u := True.intro
      refine lv_aload_n hx hb dX2_match_21 rfl (lv_at hl 0 rfl) ?_
      refine lv_iconst (v := 0) hx hb dX2_match_22 (by decide) ?_
      refine lv_iload_n hx hb dX2_match_23 rfl (lv_at hl 1 rfl) ?_
      refine va_calli (va_runV (As := [.int 0, .int x1]) (rest := []) ⟨hx, hb, hml, hown, hts⟩ (c_X2_find l D E g0 g1 g2 y4 y5 H.size (n) (w) 0 T P hn hw hT hPt 0 x1 (0) (Eq.trans (show (0 : Int32).toInt = 0 by decide) (by omega)) (by omega) (d7)) (cwV 2 hts gX2_match_X2_find rfl rfl rfl (by decide +kernel) ⟨Nat.le_of_ble_eq_true rfl, Nat.le_of_ble_eq_true rfl⟩) ⟨cp.blind, va_recv hK hP (ci := 1) (q0 := 0) rfl rfl, fun U hU hW => ⟨rfl, cp.call hP hK hE hS (fr0 hS hA) hU hW⟩⟩ rfl rfl hl.1 rfl (lv_room (Nat.le_of_ble_eq_true rfl)) dX2_match_24 ⟨Nat.le_of_ble_eq_true rfl, Nat.le_of_ble_eq_true rfl⟩) hS (fun q _ h => (fr0 hS hA) q h) (fr0 hS hA) (fun v24 u t H1 locs1 ht hvm e24 hB hz1 hk1 hS => ?_)
      have hP := kp hP hk1
      generalize H1 = H at hP hS ⊢
      generalize locs1 = locs at hS ⊢
      refine lv_goto (tgt := 31) hx hb dX2_match_27 (by decide) ?_
      have hk0 : kMt 0 T P w n x1.toInt = 0 := by unfold kMt; (repeat' split) <;> omega
      refine W.widen (k := 0) (n := 0) (Nat.le_of_ble_eq_true rfl) (Nat.le_of_ble_eq_true rfl) ?_
      exact W.iret (v := v24) hx hb hr (fun t ht hW => ⟨⟨_, 0, rfl, ⟨(show (0 : Int32).toInt = 0 by decide).trans (by omega), fun _ => (Eq.trans e24 (rfl))⟩, ⟨by rw [ht]; exact hP, hD⟩⟩, hS.F ht⟩) hS.2.2 dX2_match_31

set_option maxHeartbeats 4000000 in
set_option maxRecDepth 100000 in
theorem c_X2_sumMatches (l : Launch) (D : va_G) (E : Nat × Nat × Nat) (g0 g1 g2 : Nat) (y4 y5 : ClassId) (sz n w : Nat) (th : Int32) (T P : Nat → Int32) (hn : n ≤ 64) (hw : w ≤ 24) (hT : SymF T) (hPt : SymF P) (hD0 : va_D (fun _ => True) (MW g0 g1 g2 y4 y5 th (n) (w) T P)) : Met l yX2_sumMatches wsX2_sumMatches ({ frames := 4, cells := 0, slots := 0, locals := 89 }) (va_Pc [.ref g0] (cp D (MW g0 g1 g2 y4 y5 th (n) (w) T P) (MT y4 y5) E (va_A (MW g0 g1 g2 y4 y5 th (n) (w) T P) sz) sz)) (va_Qi (fun (r : Int32) (_ : Unit) => r.toInt = ((cnt (lik 1 T P w) (pl n w) : Nat) : Int)) (fun _ t => va_P D vwCl (MW g0 g1 g2 y4 y5 0 (n) (w) T P) t.heap ∧ va_D (va_A (MW g0 g1 g2 y4 y5 th (n) (w) T P) sz) (MW g0 g1 g2 y4 y5 0 (n) (w) T P)) (va_A (MW g0 g1 g2 y4 y5 th (n) (w) T P) sz)) 0 0 (va_A (MW g0 g1 g2 y4 y5 th (n) (w) T P) sz) := by
  refine Met.ofW (cc := cX2_sumMatches) (maxL := 1) (ret := (some .int)) (by decide) rfl ?_
  intro p e s m args below meth c s₁ B hml hv
  obtain ⟨rfl, hsz, hP, hK, hE⟩ := hv
  have hx := B.exec
  have hb := B.bytes
  have hr := B.returns
  have hts := atoms_spec (ws := wsX2_sumMatches) B.pre
  have hown : s.vm.findClass RX2 = some m.cls := findClass_of_methodNamed B.named
  have hlocks := B.notSynchronized
  have hsz : s.heap.size = sz := hsz
  subst hsz
  have hD := hD0.self (sz := s.heap.size)
  have hA : ∀ q : Nat, s.heap.size ≤ q → (va_A (MW g0 g1 g2 y4 y5 th (n) (w) T P) s.heap.size) q := fun q h => Or.inr h
  have hS : va_S (va_A (MW g0 g1 g2 y4 y5 th (n) (w) T P) s.heap.size) s.heap s.heap [] := va_S.rf
  have inn : (nI n).toInt = (n : Int) := nI_toInt (by omega)
  have iww : (nI w).toInt = (w : Int) := nI_toInt (by omega)
  have hf_thrown := hts (.fieldLink RX2 16 "BlankMatcherModel" "thrown" "I") (by decide +kernel)
  have hpl : pl n w = n + 1 - w := rfl
  have hin0 : ∀ w ∈ wsX20, w ∈ wsX2_sumMatches := by decide +kernel
  have hl := lv_entry ([.ref g0]) (n := 1) (Nat.le_of_ble_eq_true rfl)
  rw [lg_entry_eq]
  generalize (lg_sl ([.ref g0]) ++ List.replicate (1 - (lg_sl ([.ref g0])).length) Slot.unset).toArray = ls at hl ⊢
  have hl : lv_has ls 1 [(0, .ref g0)] := hl
  refine lv_aload_n hx hb dX2_sumMatches_0 rfl (lv_at hl 0 rfl) ?_
  refine lv_iconst (v := 0) hx hb dX2_sumMatches_1 (by decide) ?_
  refine va_put (D := D) (ci := 1) (v := .int 0) (ty := .int) (C := RX2) (T := TX2) (N := 5) hx hb hts hin0 tyX2 tyX2_ok nmX2 hown hK hP hD hS 0 rfl rfl 0 (by decide) hf_thrown (fun _ h9 => h9) rfl (by decide +kernel) rfl rfl (Nat.le_of_ble_eq_true rfl) dX2_sumMatches_2 (fun H locs hP hD hS => ?_)
  have hP : va_P D vwCl (MW g0 g1 g2 y4 y5 0 (n) (w) T P) H := hP
  have hD : va_D (va_A (MW g0 g1 g2 y4 y5 th (n) (w) T P) s.heap.size) (MW g0 g1 g2 y4 y5 0 (n) (w) T P) := hD
  refine lv_aload_n hx hb dX2_sumMatches_5 rfl (lv_at hl 0 rfl) ?_
  refine lv_iconst (v := 1) hx hb dX2_sumMatches_6 (by decide) ?_
  refine va_calli (va_runV (As := [.int 1]) (rest := []) ⟨hx, hb, hml, hown, hts⟩ (c_X2_wanted l D E g0 g1 g2 y4 y5 H.size (n) (w) 0 T P hn hw hT hPt 1 (1) (Eq.trans (show (1 : Int32).toInt = 1 by decide) (by omega)) (by omega)) (cwV 1 hts gX2_sumMatches_X2_wanted rfl rfl rfl (by decide +kernel) ⟨Nat.le_of_ble_eq_true rfl, Nat.le_of_ble_eq_true rfl⟩) ⟨cp.blind, va_recv hK hP (ci := 1) (q0 := 0) rfl rfl, fun U hU hW => ⟨rfl, cp.call hP hK hE hS (fr0 hS hA) hU hW⟩⟩ rfl rfl hl.1 rfl (lv_room (Nat.le_of_ble_eq_true rfl)) dX2_sumMatches_7 ⟨Nat.le_of_ble_eq_true rfl, Nat.le_of_ble_eq_true rfl⟩) hS (fun q _ h => (fr0 hS hA) q h) (fr0 hS hA) (fun v7 u t H1 locs1 ht hvm e7 hB hz1 hk1 hS => ?_)
  have hP := kp hP hk1
  generalize H1 = H at hP hS ⊢
  generalize locs1 = locs at hS ⊢
  refine W.widen (k := 0) (n := 0) (Nat.le_of_ble_eq_true rfl) (Nat.le_of_ble_eq_true rfl) ?_
  exact W.iret (v := v7) hx hb hr (fun t ht hW => ⟨⟨_, (), rfl, (Eq.trans e7 (by omega)), ⟨by rw [ht]; exact hP, hD⟩⟩, hS.F ht⟩) hS.2.2 dX2_sumMatches_10

set_option maxHeartbeats 4000000 in
set_option maxRecDepth 100000 in
theorem c_X2_sumMatch (l : Launch) (D : va_G) (E : Nat × Nat × Nat) (g0 g1 g2 : Nat) (y4 y5 : ClassId) (sz n w : Nat) (th : Int32) (T P : Nat → Int32) (hn : n ≤ 64) (hw : w ≤ 24) (hT : SymF T) (hPt : SymF P) (hD0 : va_D (fun _ => True) (MW g0 g1 g2 y4 y5 th (n) (w) T P)) (x1 : Int32) : Met l yX2_sumMatch wsX2_sumMatch ({ frames := 5, cells := 0, slots := 0, locals := 111 }) (va_Pc [.ref g0, .int x1] (cp D (MW g0 g1 g2 y4 y5 th (n) (w) T P) (MT y4 y5) E (va_A (MW g0 g1 g2 y4 y5 th (n) (w) T P) sz) sz)) (va_Qi (fun (r : Int32) (th2 : Int32) => th2.toInt = ((kMt 1 T P w n x1.toInt : Nat) : Int) ∧ (kMt 1 T P w n x1.toInt = 0 → r.toInt = fnd 1 T P w n x1.toInt)) (fun (th2 : Int32) t => va_P D vwCl (MW g0 g1 g2 y4 y5 th2 (n) (w) T P) t.heap ∧ va_D (va_A (MW g0 g1 g2 y4 y5 th (n) (w) T P) sz) (MW g0 g1 g2 y4 y5 th2 (n) (w) T P)) (va_A (MW g0 g1 g2 y4 y5 th (n) (w) T P) sz)) 0 0 (va_A (MW g0 g1 g2 y4 y5 th (n) (w) T P) sz) := by
  refine Met.ofW (cc := cX2_sumMatch) (maxL := 2) (ret := (some .int)) (by decide) rfl ?_
  intro p e s m args below meth c s₁ B hml hv
  obtain ⟨rfl, hsz, hP, hK, hE⟩ := hv
  have hx := B.exec
  have hb := B.bytes
  have hr := B.returns
  have hts := atoms_spec (ws := wsX2_sumMatch) B.pre
  have hown : s.vm.findClass RX2 = some m.cls := findClass_of_methodNamed B.named
  have hlocks := B.notSynchronized
  have hsz : s.heap.size = sz := hsz
  subst hsz
  have hD := hD0.self (sz := s.heap.size)
  have hA : ∀ q : Nat, s.heap.size ≤ q → (va_A (MW g0 g1 g2 y4 y5 th (n) (w) T P) s.heap.size) q := fun q h => Or.inr h
  have hS : va_S (va_A (MW g0 g1 g2 y4 y5 th (n) (w) T P) s.heap.size) s.heap s.heap [] := va_S.rf
  have inn : (nI n).toInt = (n : Int) := nI_toInt (by omega)
  have iww : (nI w).toInt = (w : Int) := nI_toInt (by omega)
  have hpl : pl n w = n + 1 - w := rfl
  have g_x1 := rg x1
  have hl := lv_entry ([.ref g0, .int x1]) (n := 2) (Nat.le_of_ble_eq_true rfl)
  rw [lg_entry_eq]
  generalize (lg_sl ([.ref g0, .int x1]) ++ List.replicate (2 - (lg_sl ([.ref g0, .int x1])).length) Slot.unset).toArray = ls at hl ⊢
  have hl : lv_has ls 2 [(0, .ref g0), (1, .int x1)] := hl
  refine lv_aload_n hx hb dX2_sumMatch_0 rfl (lv_at hl 0 rfl) ?_
  refine lv_aload_n hx hb dX2_sumMatch_1 rfl (lv_at hl 0 rfl) ?_
  refine lv_iconst (v := 1) hx hb dX2_sumMatch_2 (by decide) ?_
  refine lv_iload_n hx hb dX2_sumMatch_3 rfl (lv_at hl 1 rfl) ?_
  refine va_calli (va_runV (As := [.int 1, .int x1]) (rest := [.ref g0]) ⟨hx, hb, hml, hown, hts⟩ (c_X2_isNumber l D E g0 g1 g2 y4 y5 s.heap.size (n) (w) th T P hn hw hT hPt 1 x1 (1) (Eq.trans (show (1 : Int32).toInt = 1 by decide) (by omega)) (by omega)) (cwV 2 hts gX2_sumMatch_X2_isNumber rfl rfl rfl (by decide +kernel) ⟨Nat.le_of_ble_eq_true rfl, Nat.le_of_ble_eq_true rfl⟩) ⟨cp.blind, va_recv hK hP (ci := 1) (q0 := 0) rfl rfl, fun U hU hW => ⟨rfl, cp.call hP hK hE hS (fr0 hS hA) hU hW⟩⟩ rfl rfl hl.1 rfl (lv_room (Nat.le_of_ble_eq_true rfl)) dX2_sumMatch_4 ⟨Nat.le_of_ble_eq_true rfl, Nat.le_of_ble_eq_true rfl⟩) hS (fun q _ h => (fr0 hS hA) q h) (fr0 hS hA) (fun v4 u t H1 locs1 ht hvm e4 hB hz1 hk1 hS => ?_)
  have hP := kp hP hk1
  generalize H1 = H at hP hS ⊢
  generalize locs1 = locs at hS ⊢
  refine zb_if_eq (tgt := 14) hx hb dX2_sumMatch_7 (by decide) e4 (fun c7 => ?_) (fun c7 => ?_)
  · have _u := True.intro
    have d7 := of_decide_eq_false c7
    refine lv_iconst (v := 1) hx hb dX2_sumMatch_14 (by decide) ?_
    have hFc := va_free (wc := (MW g0 g1 g2 y4 y5 th (n) (w) T P)) hD hS hA [0, 1, 2] rfl
    refine va_calli (va_runV (As := [.int 1]) (rest := []) ⟨hx, hb, hml, hown, hts⟩ (c_X2_goesWell l D E g0 g1 g2 y4 y5 H.size (n) (w) th T P hn hw hT hPt (hD.weaken (fun _ _ _ _ => trivial)) 1 (1) (Eq.trans (show (1 : Int32).toInt = 1 by decide) (by omega))) (cwV 1 hts gX2_sumMatch_X2_goesWell rfl rfl rfl (by decide +kernel) ⟨Nat.le_of_ble_eq_true rfl, Nat.le_of_ble_eq_true rfl⟩) ⟨cp.blind, va_recv hK hP (ci := 1) (q0 := 0) rfl rfl, fun U hU hW => ⟨rfl, cp.call hP hK hE hS hFc hU hW⟩⟩ rfl rfl hl.1 rfl (lv_room (Nat.le_of_ble_eq_true rfl)) dX2_sumMatch_15 ⟨Nat.le_of_ble_eq_true rfl, Nat.le_of_ble_eq_true rfl⟩) hS (fun q _ h => hFc q h) hFc (fun v15 u t H1 locs1 ht hvm e15 hB hz1 hk1 hS => ?_)
    obtain ⟨hP1, hD1⟩ := hB
    rw [ht] at hP1
    obtain ⟨hP, hD⟩ := va_join (wr := []) (w1 := (MW g0 g1 g2 y4 y5 1 (n) (w) T P)) hP hD [0, 1, 2] [] rfl rfl (by decide) (by decide) hk1 hFc hP1 hD1
    have hP : va_P D vwCl (MW g0 g1 g2 y4 y5 1 (n) (w) T P) H1 := hP
    have hD : va_D (va_A (MW g0 g1 g2 y4 y5 th (n) (w) T P) s.heap.size) (MW g0 g1 g2 y4 y5 1 (n) (w) T P) := hD
    generalize H1 = H at hP hS ⊢
    generalize locs1 = locs at hS ⊢
    refine zb_if_eq (tgt := 30) hx hb dX2_sumMatch_18 (by decide) e15 (fun c18 => ?_) (fun c18 => ?_)
    · have _u := True.intro
      refine lv_iconst (v := 0) hx hb dX2_sumMatch_30 (by decide) ?_
      have hk0 : kMt 1 T P w n x1.toInt = 1 := by unfold kMt; (repeat' split) <;> omega
      refine W.widen (k := 0) (n := 0) (Nat.le_of_ble_eq_true rfl) (Nat.le_of_ble_eq_true rfl) ?_
      exact W.iret (v := 0) hx hb hr (fun t ht hW => ⟨⟨_, 1, rfl, ⟨(show (1 : Int32).toInt = 1 by decide).trans (by omega), fun h => absurd h (by omega)⟩, ⟨by rw [ht]; exact hP, hD⟩⟩, hS.F ht⟩) hS.2.2 dX2_sumMatch_31
    · have _u := True.intro
      exact absurd c18 (by decide)
  · have _u := True.intro
    have d7 := of_decide_eq_true c7
    refine lv_iconst (v := 0) hx hb dX2_sumMatch_10 (by decide) ?_
    refine lv_goto (tgt := 15) hx hb dX2_sumMatch_11 (by decide) ?_
    have hFc := va_free (wc := (MW g0 g1 g2 y4 y5 th (n) (w) T P)) hD hS hA [0, 1, 2] rfl
    refine va_calli (va_runV (As := [.int 0]) (rest := []) ⟨hx, hb, hml, hown, hts⟩ (c_X2_goesWell l D E g0 g1 g2 y4 y5 H.size (n) (w) th T P hn hw hT hPt (hD.weaken (fun _ _ _ _ => trivial)) 0 (0) (Eq.trans (show (0 : Int32).toInt = 0 by decide) (by omega))) (cwV 1 hts gX2_sumMatch_X2_goesWell rfl rfl rfl (by decide +kernel) ⟨Nat.le_of_ble_eq_true rfl, Nat.le_of_ble_eq_true rfl⟩) ⟨cp.blind, va_recv hK hP (ci := 1) (q0 := 0) rfl rfl, fun U hU hW => ⟨rfl, cp.call hP hK hE hS hFc hU hW⟩⟩ rfl rfl hl.1 rfl (lv_room (Nat.le_of_ble_eq_true rfl)) dX2_sumMatch_15 ⟨Nat.le_of_ble_eq_true rfl, Nat.le_of_ble_eq_true rfl⟩) hS (fun q _ h => hFc q h) hFc (fun v15 u t H1 locs1 ht hvm e15 hB hz1 hk1 hS => ?_)
    obtain ⟨hP1, hD1⟩ := hB
    rw [ht] at hP1
    obtain ⟨hP, hD⟩ := va_join (wr := []) (w1 := (MW g0 g1 g2 y4 y5 0 (n) (w) T P)) hP hD [0, 1, 2] [] rfl rfl (by decide) (by decide) hk1 hFc hP1 hD1
    have hP : va_P D vwCl (MW g0 g1 g2 y4 y5 0 (n) (w) T P) H1 := hP
    have hD : va_D (va_A (MW g0 g1 g2 y4 y5 th (n) (w) T P) s.heap.size) (MW g0 g1 g2 y4 y5 0 (n) (w) T P) := hD
    generalize H1 = H at hP hS ⊢
    generalize locs1 = locs at hS ⊢
    refine zb_if_eq (tgt := 30) hx hb dX2_sumMatch_18 (by decide) e15 (fun c18 => ?_) (fun c18 => ?_)
    · have _u := True.intro
      exact absurd c18 (by decide)
    · have _u := True.intro
      refine lv_aload_n hx hb dX2_sumMatch_21 rfl (lv_at hl 0 rfl) ?_
      refine lv_iconst (v := 1) hx hb dX2_sumMatch_22 (by decide) ?_
      refine lv_iload_n hx hb dX2_sumMatch_23 rfl (lv_at hl 1 rfl) ?_
      refine va_calli (va_runV (As := [.int 1, .int x1]) (rest := []) ⟨hx, hb, hml, hown, hts⟩ (c_X2_find l D E g0 g1 g2 y4 y5 H.size (n) (w) 0 T P hn hw hT hPt 1 x1 (1) (Eq.trans (show (1 : Int32).toInt = 1 by decide) (by omega)) (by omega) (d7)) (cwV 2 hts gX2_sumMatch_X2_find rfl rfl rfl (by decide +kernel) ⟨Nat.le_of_ble_eq_true rfl, Nat.le_of_ble_eq_true rfl⟩) ⟨cp.blind, va_recv hK hP (ci := 1) (q0 := 0) rfl rfl, fun U hU hW => ⟨rfl, cp.call hP hK hE hS (fr0 hS hA) hU hW⟩⟩ rfl rfl hl.1 rfl (lv_room (Nat.le_of_ble_eq_true rfl)) dX2_sumMatch_24 ⟨Nat.le_of_ble_eq_true rfl, Nat.le_of_ble_eq_true rfl⟩) hS (fun q _ h => (fr0 hS hA) q h) (fr0 hS hA) (fun v24 u t H1 locs1 ht hvm e24 hB hz1 hk1 hS => ?_)
      have hP := kp hP hk1
      generalize H1 = H at hP hS ⊢
      generalize locs1 = locs at hS ⊢
      refine lv_goto (tgt := 31) hx hb dX2_sumMatch_27 (by decide) ?_
      have hk0 : kMt 1 T P w n x1.toInt = 0 := by unfold kMt; (repeat' split) <;> omega
      refine W.widen (k := 0) (n := 0) (Nat.le_of_ble_eq_true rfl) (Nat.le_of_ble_eq_true rfl) ?_
      exact W.iret (v := v24) hx hb hr (fun t ht hW => ⟨⟨_, 0, rfl, ⟨(show (0 : Int32).toInt = 0 by decide).trans (by omega), fun _ => (Eq.trans e24 (rfl))⟩, ⟨by rw [ht]; exact hP, hD⟩⟩, hS.F ht⟩) hS.2.2 dX2_sumMatch_31

set_option maxHeartbeats 4000000 in
set_option maxRecDepth 100000 in
theorem c_X2_orderMatches (l : Launch) (D : va_G) (E : Nat × Nat × Nat) (g0 g1 g2 : Nat) (y4 y5 : ClassId) (sz n w : Nat) (th : Int32) (T P : Nat → Int32) (hn : n ≤ 64) (hw : w ≤ 24) (hT : SymF T) (hPt : SymF P) (hD0 : va_D (fun _ => True) (MW g0 g1 g2 y4 y5 th (n) (w) T P)) : Met l yX2_orderMatches wsX2_orderMatches ({ frames := 4, cells := 0, slots := 0, locals := 89 }) (va_Pc [.ref g0] (cp D (MW g0 g1 g2 y4 y5 th (n) (w) T P) (MT y4 y5) E (va_A (MW g0 g1 g2 y4 y5 th (n) (w) T P) sz) sz)) (va_Qi (fun (r : Int32) (_ : Unit) => r.toInt = ((cnt (lik 2 T P w) (pl n w) : Nat) : Int)) (fun _ t => va_P D vwCl (MW g0 g1 g2 y4 y5 0 (n) (w) T P) t.heap ∧ va_D (va_A (MW g0 g1 g2 y4 y5 th (n) (w) T P) sz) (MW g0 g1 g2 y4 y5 0 (n) (w) T P)) (va_A (MW g0 g1 g2 y4 y5 th (n) (w) T P) sz)) 0 0 (va_A (MW g0 g1 g2 y4 y5 th (n) (w) T P) sz) := by
  refine Met.ofW (cc := cX2_orderMatches) (maxL := 1) (ret := (some .int)) (by decide) rfl ?_
  intro p e s m args below meth c s₁ B hml hv
  obtain ⟨rfl, hsz, hP, hK, hE⟩ := hv
  have hx := B.exec
  have hb := B.bytes
  have hr := B.returns
  have hts := atoms_spec (ws := wsX2_orderMatches) B.pre
  have hown : s.vm.findClass RX2 = some m.cls := findClass_of_methodNamed B.named
  have hlocks := B.notSynchronized
  have hsz : s.heap.size = sz := hsz
  subst hsz
  have hD := hD0.self (sz := s.heap.size)
  have hA : ∀ q : Nat, s.heap.size ≤ q → (va_A (MW g0 g1 g2 y4 y5 th (n) (w) T P) s.heap.size) q := fun q h => Or.inr h
  have hS : va_S (va_A (MW g0 g1 g2 y4 y5 th (n) (w) T P) s.heap.size) s.heap s.heap [] := va_S.rf
  have inn : (nI n).toInt = (n : Int) := nI_toInt (by omega)
  have iww : (nI w).toInt = (w : Int) := nI_toInt (by omega)
  have hf_thrown := hts (.fieldLink RX2 16 "BlankMatcherModel" "thrown" "I") (by decide +kernel)
  have hpl : pl n w = n + 1 - w := rfl
  have hin0 : ∀ w ∈ wsX20, w ∈ wsX2_orderMatches := by decide +kernel
  have hl := lv_entry ([.ref g0]) (n := 1) (Nat.le_of_ble_eq_true rfl)
  rw [lg_entry_eq]
  generalize (lg_sl ([.ref g0]) ++ List.replicate (1 - (lg_sl ([.ref g0])).length) Slot.unset).toArray = ls at hl ⊢
  have hl : lv_has ls 1 [(0, .ref g0)] := hl
  refine lv_aload_n hx hb dX2_orderMatches_0 rfl (lv_at hl 0 rfl) ?_
  refine lv_iconst (v := 0) hx hb dX2_orderMatches_1 (by decide) ?_
  refine va_put (D := D) (ci := 1) (v := .int 0) (ty := .int) (C := RX2) (T := TX2) (N := 5) hx hb hts hin0 tyX2 tyX2_ok nmX2 hown hK hP hD hS 0 rfl rfl 0 (by decide) hf_thrown (fun _ h9 => h9) rfl (by decide +kernel) rfl rfl (Nat.le_of_ble_eq_true rfl) dX2_orderMatches_2 (fun H locs hP hD hS => ?_)
  have hP : va_P D vwCl (MW g0 g1 g2 y4 y5 0 (n) (w) T P) H := hP
  have hD : va_D (va_A (MW g0 g1 g2 y4 y5 th (n) (w) T P) s.heap.size) (MW g0 g1 g2 y4 y5 0 (n) (w) T P) := hD
  refine lv_aload_n hx hb dX2_orderMatches_5 rfl (lv_at hl 0 rfl) ?_
  refine lv_iconst (v := 2) hx hb dX2_orderMatches_6 (by decide) ?_
  refine va_calli (va_runV (As := [.int 2]) (rest := []) ⟨hx, hb, hml, hown, hts⟩ (c_X2_wanted l D E g0 g1 g2 y4 y5 H.size (n) (w) 0 T P hn hw hT hPt 2 (2) (Eq.trans (show (2 : Int32).toInt = 2 by decide) (by omega)) (by omega)) (cwV 1 hts gX2_orderMatches_X2_wanted rfl rfl rfl (by decide +kernel) ⟨Nat.le_of_ble_eq_true rfl, Nat.le_of_ble_eq_true rfl⟩) ⟨cp.blind, va_recv hK hP (ci := 1) (q0 := 0) rfl rfl, fun U hU hW => ⟨rfl, cp.call hP hK hE hS (fr0 hS hA) hU hW⟩⟩ rfl rfl hl.1 rfl (lv_room (Nat.le_of_ble_eq_true rfl)) dX2_orderMatches_7 ⟨Nat.le_of_ble_eq_true rfl, Nat.le_of_ble_eq_true rfl⟩) hS (fun q _ h => (fr0 hS hA) q h) (fr0 hS hA) (fun v7 u t H1 locs1 ht hvm e7 hB hz1 hk1 hS => ?_)
  have hP := kp hP hk1
  generalize H1 = H at hP hS ⊢
  generalize locs1 = locs at hS ⊢
  refine W.widen (k := 0) (n := 0) (Nat.le_of_ble_eq_true rfl) (Nat.le_of_ble_eq_true rfl) ?_
  exact W.iret (v := v7) hx hb hr (fun t ht hW => ⟨⟨_, (), rfl, (Eq.trans e7 (by omega)), ⟨by rw [ht]; exact hP, hD⟩⟩, hS.F ht⟩) hS.2.2 dX2_orderMatches_10

set_option maxHeartbeats 4000000 in
set_option maxRecDepth 100000 in
theorem c_X2_orderMatch (l : Launch) (D : va_G) (E : Nat × Nat × Nat) (g0 g1 g2 : Nat) (y4 y5 : ClassId) (sz n w : Nat) (th : Int32) (T P : Nat → Int32) (hn : n ≤ 64) (hw : w ≤ 24) (hT : SymF T) (hPt : SymF P) (hD0 : va_D (fun _ => True) (MW g0 g1 g2 y4 y5 th (n) (w) T P)) (x1 : Int32) : Met l yX2_orderMatch wsX2_orderMatch ({ frames := 5, cells := 0, slots := 0, locals := 111 }) (va_Pc [.ref g0, .int x1] (cp D (MW g0 g1 g2 y4 y5 th (n) (w) T P) (MT y4 y5) E (va_A (MW g0 g1 g2 y4 y5 th (n) (w) T P) sz) sz)) (va_Qi (fun (r : Int32) (th2 : Int32) => th2.toInt = ((kMt 2 T P w n x1.toInt : Nat) : Int) ∧ (kMt 2 T P w n x1.toInt = 0 → r.toInt = fnd 2 T P w n x1.toInt)) (fun (th2 : Int32) t => va_P D vwCl (MW g0 g1 g2 y4 y5 th2 (n) (w) T P) t.heap ∧ va_D (va_A (MW g0 g1 g2 y4 y5 th (n) (w) T P) sz) (MW g0 g1 g2 y4 y5 th2 (n) (w) T P)) (va_A (MW g0 g1 g2 y4 y5 th (n) (w) T P) sz)) 0 0 (va_A (MW g0 g1 g2 y4 y5 th (n) (w) T P) sz) := by
  refine Met.ofW (cc := cX2_orderMatch) (maxL := 2) (ret := (some .int)) (by decide) rfl ?_
  intro p e s m args below meth c s₁ B hml hv
  obtain ⟨rfl, hsz, hP, hK, hE⟩ := hv
  have hx := B.exec
  have hb := B.bytes
  have hr := B.returns
  have hts := atoms_spec (ws := wsX2_orderMatch) B.pre
  have hown : s.vm.findClass RX2 = some m.cls := findClass_of_methodNamed B.named
  have hlocks := B.notSynchronized
  have hsz : s.heap.size = sz := hsz
  subst hsz
  have hD := hD0.self (sz := s.heap.size)
  have hA : ∀ q : Nat, s.heap.size ≤ q → (va_A (MW g0 g1 g2 y4 y5 th (n) (w) T P) s.heap.size) q := fun q h => Or.inr h
  have hS : va_S (va_A (MW g0 g1 g2 y4 y5 th (n) (w) T P) s.heap.size) s.heap s.heap [] := va_S.rf
  have inn : (nI n).toInt = (n : Int) := nI_toInt (by omega)
  have iww : (nI w).toInt = (w : Int) := nI_toInt (by omega)
  have hpl : pl n w = n + 1 - w := rfl
  have g_x1 := rg x1
  have hl := lv_entry ([.ref g0, .int x1]) (n := 2) (Nat.le_of_ble_eq_true rfl)
  rw [lg_entry_eq]
  generalize (lg_sl ([.ref g0, .int x1]) ++ List.replicate (2 - (lg_sl ([.ref g0, .int x1])).length) Slot.unset).toArray = ls at hl ⊢
  have hl : lv_has ls 2 [(0, .ref g0), (1, .int x1)] := hl
  refine lv_aload_n hx hb dX2_orderMatch_0 rfl (lv_at hl 0 rfl) ?_
  refine lv_aload_n hx hb dX2_orderMatch_1 rfl (lv_at hl 0 rfl) ?_
  refine lv_iconst (v := 2) hx hb dX2_orderMatch_2 (by decide) ?_
  refine lv_iload_n hx hb dX2_orderMatch_3 rfl (lv_at hl 1 rfl) ?_
  refine va_calli (va_runV (As := [.int 2, .int x1]) (rest := [.ref g0]) ⟨hx, hb, hml, hown, hts⟩ (c_X2_isNumber l D E g0 g1 g2 y4 y5 s.heap.size (n) (w) th T P hn hw hT hPt 2 x1 (2) (Eq.trans (show (2 : Int32).toInt = 2 by decide) (by omega)) (by omega)) (cwV 2 hts gX2_orderMatch_X2_isNumber rfl rfl rfl (by decide +kernel) ⟨Nat.le_of_ble_eq_true rfl, Nat.le_of_ble_eq_true rfl⟩) ⟨cp.blind, va_recv hK hP (ci := 1) (q0 := 0) rfl rfl, fun U hU hW => ⟨rfl, cp.call hP hK hE hS (fr0 hS hA) hU hW⟩⟩ rfl rfl hl.1 rfl (lv_room (Nat.le_of_ble_eq_true rfl)) dX2_orderMatch_4 ⟨Nat.le_of_ble_eq_true rfl, Nat.le_of_ble_eq_true rfl⟩) hS (fun q _ h => (fr0 hS hA) q h) (fr0 hS hA) (fun v4 u t H1 locs1 ht hvm e4 hB hz1 hk1 hS => ?_)
  have hP := kp hP hk1
  generalize H1 = H at hP hS ⊢
  generalize locs1 = locs at hS ⊢
  refine zb_if_eq (tgt := 14) hx hb dX2_orderMatch_7 (by decide) e4 (fun c7 => ?_) (fun c7 => ?_)
  · have _u := True.intro
    have d7 := of_decide_eq_false c7
    refine lv_iconst (v := 1) hx hb dX2_orderMatch_14 (by decide) ?_
    have hFc := va_free (wc := (MW g0 g1 g2 y4 y5 th (n) (w) T P)) hD hS hA [0, 1, 2] rfl
    refine va_calli (va_runV (As := [.int 1]) (rest := []) ⟨hx, hb, hml, hown, hts⟩ (c_X2_goesWell l D E g0 g1 g2 y4 y5 H.size (n) (w) th T P hn hw hT hPt (hD.weaken (fun _ _ _ _ => trivial)) 1 (1) (Eq.trans (show (1 : Int32).toInt = 1 by decide) (by omega))) (cwV 1 hts gX2_orderMatch_X2_goesWell rfl rfl rfl (by decide +kernel) ⟨Nat.le_of_ble_eq_true rfl, Nat.le_of_ble_eq_true rfl⟩) ⟨cp.blind, va_recv hK hP (ci := 1) (q0 := 0) rfl rfl, fun U hU hW => ⟨rfl, cp.call hP hK hE hS hFc hU hW⟩⟩ rfl rfl hl.1 rfl (lv_room (Nat.le_of_ble_eq_true rfl)) dX2_orderMatch_15 ⟨Nat.le_of_ble_eq_true rfl, Nat.le_of_ble_eq_true rfl⟩) hS (fun q _ h => hFc q h) hFc (fun v15 u t H1 locs1 ht hvm e15 hB hz1 hk1 hS => ?_)
    obtain ⟨hP1, hD1⟩ := hB
    rw [ht] at hP1
    obtain ⟨hP, hD⟩ := va_join (wr := []) (w1 := (MW g0 g1 g2 y4 y5 1 (n) (w) T P)) hP hD [0, 1, 2] [] rfl rfl (by decide) (by decide) hk1 hFc hP1 hD1
    have hP : va_P D vwCl (MW g0 g1 g2 y4 y5 1 (n) (w) T P) H1 := hP
    have hD : va_D (va_A (MW g0 g1 g2 y4 y5 th (n) (w) T P) s.heap.size) (MW g0 g1 g2 y4 y5 1 (n) (w) T P) := hD
    generalize H1 = H at hP hS ⊢
    generalize locs1 = locs at hS ⊢
    refine zb_if_eq (tgt := 30) hx hb dX2_orderMatch_18 (by decide) e15 (fun c18 => ?_) (fun c18 => ?_)
    · have _u := True.intro
      refine lv_iconst (v := 0) hx hb dX2_orderMatch_30 (by decide) ?_
      have hk0 : kMt 2 T P w n x1.toInt = 1 := by unfold kMt; (repeat' split) <;> omega
      refine W.widen (k := 0) (n := 0) (Nat.le_of_ble_eq_true rfl) (Nat.le_of_ble_eq_true rfl) ?_
      exact W.iret (v := 0) hx hb hr (fun t ht hW => ⟨⟨_, 1, rfl, ⟨(show (1 : Int32).toInt = 1 by decide).trans (by omega), fun h => absurd h (by omega)⟩, ⟨by rw [ht]; exact hP, hD⟩⟩, hS.F ht⟩) hS.2.2 dX2_orderMatch_31
    · have _u := True.intro
      exact absurd c18 (by decide)
  · have _u := True.intro
    have d7 := of_decide_eq_true c7
    refine lv_iconst (v := 0) hx hb dX2_orderMatch_10 (by decide) ?_
    refine lv_goto (tgt := 15) hx hb dX2_orderMatch_11 (by decide) ?_
    have hFc := va_free (wc := (MW g0 g1 g2 y4 y5 th (n) (w) T P)) hD hS hA [0, 1, 2] rfl
    refine va_calli (va_runV (As := [.int 0]) (rest := []) ⟨hx, hb, hml, hown, hts⟩ (c_X2_goesWell l D E g0 g1 g2 y4 y5 H.size (n) (w) th T P hn hw hT hPt (hD.weaken (fun _ _ _ _ => trivial)) 0 (0) (Eq.trans (show (0 : Int32).toInt = 0 by decide) (by omega))) (cwV 1 hts gX2_orderMatch_X2_goesWell rfl rfl rfl (by decide +kernel) ⟨Nat.le_of_ble_eq_true rfl, Nat.le_of_ble_eq_true rfl⟩) ⟨cp.blind, va_recv hK hP (ci := 1) (q0 := 0) rfl rfl, fun U hU hW => ⟨rfl, cp.call hP hK hE hS hFc hU hW⟩⟩ rfl rfl hl.1 rfl (lv_room (Nat.le_of_ble_eq_true rfl)) dX2_orderMatch_15 ⟨Nat.le_of_ble_eq_true rfl, Nat.le_of_ble_eq_true rfl⟩) hS (fun q _ h => hFc q h) hFc (fun v15 u t H1 locs1 ht hvm e15 hB hz1 hk1 hS => ?_)
    obtain ⟨hP1, hD1⟩ := hB
    rw [ht] at hP1
    obtain ⟨hP, hD⟩ := va_join (wr := []) (w1 := (MW g0 g1 g2 y4 y5 0 (n) (w) T P)) hP hD [0, 1, 2] [] rfl rfl (by decide) (by decide) hk1 hFc hP1 hD1
    have hP : va_P D vwCl (MW g0 g1 g2 y4 y5 0 (n) (w) T P) H1 := hP
    have hD : va_D (va_A (MW g0 g1 g2 y4 y5 th (n) (w) T P) s.heap.size) (MW g0 g1 g2 y4 y5 0 (n) (w) T P) := hD
    generalize H1 = H at hP hS ⊢
    generalize locs1 = locs at hS ⊢
    refine zb_if_eq (tgt := 30) hx hb dX2_orderMatch_18 (by decide) e15 (fun c18 => ?_) (fun c18 => ?_)
    · have _u := True.intro
      exact absurd c18 (by decide)
    · have _u := True.intro
      refine lv_aload_n hx hb dX2_orderMatch_21 rfl (lv_at hl 0 rfl) ?_
      refine lv_iconst (v := 2) hx hb dX2_orderMatch_22 (by decide) ?_
      refine lv_iload_n hx hb dX2_orderMatch_23 rfl (lv_at hl 1 rfl) ?_
      refine va_calli (va_runV (As := [.int 2, .int x1]) (rest := []) ⟨hx, hb, hml, hown, hts⟩ (c_X2_find l D E g0 g1 g2 y4 y5 H.size (n) (w) 0 T P hn hw hT hPt 2 x1 (2) (Eq.trans (show (2 : Int32).toInt = 2 by decide) (by omega)) (by omega) (d7)) (cwV 2 hts gX2_orderMatch_X2_find rfl rfl rfl (by decide +kernel) ⟨Nat.le_of_ble_eq_true rfl, Nat.le_of_ble_eq_true rfl⟩) ⟨cp.blind, va_recv hK hP (ci := 1) (q0 := 0) rfl rfl, fun U hU hW => ⟨rfl, cp.call hP hK hE hS (fr0 hS hA) hU hW⟩⟩ rfl rfl hl.1 rfl (lv_room (Nat.le_of_ble_eq_true rfl)) dX2_orderMatch_24 ⟨Nat.le_of_ble_eq_true rfl, Nat.le_of_ble_eq_true rfl⟩) hS (fun q _ h => (fr0 hS hA) q h) (fr0 hS hA) (fun v24 u t H1 locs1 ht hvm e24 hB hz1 hk1 hS => ?_)
      have hP := kp hP hk1
      generalize H1 = H at hP hS ⊢
      generalize locs1 = locs at hS ⊢
      refine lv_goto (tgt := 31) hx hb dX2_orderMatch_27 (by decide) ?_
      have hk0 : kMt 2 T P w n x1.toInt = 0 := by unfold kMt; (repeat' split) <;> omega
      refine W.widen (k := 0) (n := 0) (Nat.le_of_ble_eq_true rfl) (Nat.le_of_ble_eq_true rfl) ?_
      exact W.iret (v := v24) hx hb hr (fun t ht hW => ⟨⟨_, 0, rfl, ⟨(show (0 : Int32).toInt = 0 by decide).trans (by omega), fun _ => (Eq.trans e24 (rfl))⟩, ⟨by rw [ht]; exact hP, hD⟩⟩, hS.F ht⟩) hS.2.2 dX2_orderMatch_31

set_option maxHeartbeats 4000000 in
set_option maxRecDepth 100000 in
theorem c_X2_apart (l : Launch) (D : va_G) (E : Nat × Nat × Nat) (g0 g1 g2 : Nat) (y4 y5 : ClassId) (sz n w : Nat) (th : Int32) (T P : Nat → Int32) (hn : n ≤ 64) (hw : w ≤ 24) (hT : SymF T) (hPt : SymF P) (hD0 : va_D (fun _ => True) (MW g0 g1 g2 y4 y5 th (n) (w) T P)) : Met l yX2_apart wsX2_apart ({ frames := 3, cells := 0, slots := 0, locals := 66 }) (va_Pc [.ref g0] (cp D (MW g0 g1 g2 y4 y5 th (n) (w) T P) (MT y4 y5) E (va_A (MW g0 g1 g2 y4 y5 th (n) (w) T P) sz) sz)) (va_Qi (fun (r : Int32) (_ : Unit) => r.toInt = (((apk (lik 0 T P w) w (pl n w)).1 : Nat) : Int)) (fun _ t => va_P D vwCl (MW g0 g1 g2 y4 y5 0 (n) (w) T P) t.heap ∧ va_D (va_A (MW g0 g1 g2 y4 y5 th (n) (w) T P) sz) (MW g0 g1 g2 y4 y5 0 (n) (w) T P)) (va_A (MW g0 g1 g2 y4 y5 th (n) (w) T P) sz)) 0 0 (va_A (MW g0 g1 g2 y4 y5 th (n) (w) T P) sz) := by
  refine Met.ofW (cc := cX2_apart) (maxL := 4) (ret := (some .int)) (by decide) rfl ?_
  intro p e s m args below meth c s₁ B hml hv
  obtain ⟨rfl, hsz, hP, hK, hE⟩ := hv
  have hx := B.exec
  have hb := B.bytes
  have hr := B.returns
  have hts := atoms_spec (ws := wsX2_apart) B.pre
  have hown : s.vm.findClass RX2 = some m.cls := findClass_of_methodNamed B.named
  have hlocks := B.notSynchronized
  have hsz : s.heap.size = sz := hsz
  subst hsz
  have hD := hD0.self (sz := s.heap.size)
  have hA : ∀ q : Nat, s.heap.size ≤ q → (va_A (MW g0 g1 g2 y4 y5 th (n) (w) T P) s.heap.size) q := fun q h => Or.inr h
  have hS : va_S (va_A (MW g0 g1 g2 y4 y5 th (n) (w) T P) s.heap.size) s.heap s.heap [] := va_S.rf
  have inn : (nI n).toInt = (n : Int) := nI_toInt (by omega)
  have iww : (nI w).toInt = (w : Int) := nI_toInt (by omega)
  have hf_m := hts (.fieldLink RX2 30 "BlankMatcherModel" "m" "I") (by decide +kernel)
  have hf_thrown := hts (.fieldLink RX2 16 "BlankMatcherModel" "thrown" "I") (by decide +kernel)
  have hpl : pl n w = n + 1 - w := rfl
  have hin0 : ∀ w ∈ wsX20, w ∈ wsX2_apart := by decide +kernel
  have hl := lv_entry ([.ref g0]) (n := 4) (Nat.le_of_ble_eq_true rfl)
  rw [lg_entry_eq]
  generalize (lg_sl ([.ref g0]) ++ List.replicate (4 - (lg_sl ([.ref g0])).length) Slot.unset).toArray = ls at hl ⊢
  have hl : lv_has ls 4 [(0, .ref g0)] := hl
  refine lv_aload_n hx hb dX2_apart_0 rfl (lv_at hl 0 rfl) ?_
  refine lv_iconst (v := 0) hx hb dX2_apart_1 (by decide) ?_
  refine va_put (D := D) (ci := 1) (v := .int 0) (ty := .int) (C := RX2) (T := TX2) (N := 5) hx hb hts hin0 tyX2 tyX2_ok nmX2 hown hK hP hD hS 0 rfl rfl 0 (by decide) hf_thrown (fun _ h9 => h9) rfl (by decide +kernel) rfl rfl (Nat.le_of_ble_eq_true rfl) dX2_apart_2 (fun H locs hP hD hS => ?_)
  have hP : va_P D vwCl (MW g0 g1 g2 y4 y5 0 (n) (w) T P) H := hP
  have hD : va_D (va_A (MW g0 g1 g2 y4 y5 th (n) (w) T P) s.heap.size) (MW g0 g1 g2 y4 y5 0 (n) (w) T P) := hD
  refine lv_iconst (v := 0) hx hb dX2_apart_5 (by decide) ?_
  refine lv_istore_n (lv' := [(1, .int 0), (0, .ref g0)]) hx hb dX2_apart_6 rfl hl (by decide) rfl (fun ls hl => ?_)
  refine lv_iconst (v := 0) hx hb dX2_apart_7 (by decide) ?_
  refine lv_istore_n (lv' := [(2, .int 0), (1, .int 0), (0, .ref g0)]) hx hb dX2_apart_8 rfl hl (by decide) rfl (fun ls hl => ?_)
  refine lv_iconst (v := 0) hx hb dX2_apart_9 (by decide) ?_
  refine lv_istore_n (lv' := [(3, .int 0), (2, .int 0), (1, .int 0), (0, .ref g0)]) hx hb dX2_apart_10 rfl hl (by decide) rfl (fun ls hl => ?_)
  have lp11 : ∀ (nf : Nat) (j : Nat) (x1 : Int32) (x2 : Int32) (x3 : Int32), pl n w - j < nf → (j ≤ pl n w) → x1.toInt = (((apk (lik 0 T P w) w j).1 : Nat) : Int) → x2.toInt = (((apk (lik 0 T P w) w j).2 : Nat) : Int) → x3.toInt = (j : Int) → ∀ (H : Heap) (locs : List Loc), va_P D vwCl (MW g0 g1 g2 y4 y5 0 (n) (w) T P) H → va_D (va_A (MW g0 g1 g2 y4 y5 th (n) (w) T P) s.heap.size) (MW g0 g1 g2 y4 y5 0 (n) (w) T P) → va_S (va_A (MW g0 g1 g2 y4 y5 th (n) (w) T P) s.heap.size) s.heap H locs → ∀ (ls : Array Slot), lv_has ls 4 [(0, .ref g0), (1, .int x1), (2, .int x2), (3, .int x3)] → W p l e (headSpec wsX2_apart ({ frames := 3, cells := 0, slots := 0, locals := 66 })).room s m [.ref g0].toArray below meth c H locs 0 0 (MQ below (va_Qi (fun (r : Int32) (_ : Unit) => r.toInt = (((apk (lik 0 T P w) w (pl n w)).1 : Nat) : Int)) (fun _ t => va_P D vwCl (MW g0 g1 g2 y4 y5 0 (n) (w) T P) t.heap ∧ va_D (va_A (MW g0 g1 g2 y4 y5 th (n) (w) T P) s.heap.size) (MW g0 g1 g2 y4 y5 0 (n) (w) T P)) (va_A (MW g0 g1 g2 y4 y5 th (n) (w) T P) s.heap.size)) [.ref g0].toArray s 0 0 (va_A (MW g0 g1 g2 y4 y5 th (n) (w) T P) s.heap.size)) (F0 m 11 ls []) := by
    intro nf
    induction nf with
    | zero => intros; omega
    | succ nf ih11 =>
      intro j x1 x2 x3 hnf hj e_x1 e_x2 e_x3 H locs hP hD hS ls hl
      have hcl := apk_le (lik 0 T P w) w j
      refine lv_iload_n hx hb dX2_apart_11 rfl (lv_at hl 3 rfl) ?_
      refine lv_aload_n hx hb dX2_apart_12 rfl (lv_at hl 0 rfl) ?_
      refine va_calli (va_runV (As := []) (rest := [.int x3]) ⟨hx, hb, hml, hown, hts⟩ (c_X2_placeMany l D E g0 g1 g2 y4 y5 H.size (n) (w) 0 T P hn hw hT hPt) (cwV 0 hts gX2_apart_X2_placeMany rfl rfl rfl (by decide +kernel) ⟨Nat.le_of_ble_eq_true rfl, Nat.le_of_ble_eq_true rfl⟩) ⟨cp.blind, va_recv hK hP (ci := 1) (q0 := 0) rfl rfl, fun U hU hW => ⟨rfl, cp.call hP hK hE hS (fr0 hS hA) hU hW⟩⟩ rfl rfl hl.1 rfl (lv_room (Nat.le_of_ble_eq_true rfl)) dX2_apart_13 ⟨Nat.le_of_ble_eq_true rfl, Nat.le_of_ble_eq_true rfl⟩) hS (fun q _ h => (fr0 hS hA) q h) (fr0 hS hA) (fun v13 u t H1 locs1 ht hvm e13 hB hz1 hk1 hS => ?_)
      have hP := kp hP hk1
      generalize H1 = H at hP hS ⊢
      generalize locs1 = locs at hS ⊢
      refine z_icmp_ge (tgt := 49) hx hb dX2_apart_16 (by decide) e_x3 e13 (fun c16 => ?_) (fun c16 => ?_)
      · have _u := True.intro
        refine lv_iload_n hx hb dX2_apart_49 rfl (lv_at hl 1 rfl) ?_
        refine W.widen (k := 0) (n := 0) (Nat.le_of_ble_eq_true rfl) (Nat.le_of_ble_eq_true rfl) ?_
        exact W.iret (v := x1) hx hb hr (fun t ht hW => ⟨⟨_, (), rfl, (Eq.trans e_x1 (by rw [show j = pl n w by omega])), ⟨by rw [ht]; exact hP, hD⟩⟩, hS.F ht⟩) hS.2.2 dX2_apart_50
      · have _u := True.intro
        refine lv_iload_n hx hb dX2_apart_19 rfl (lv_at hl 3 rfl) ?_
        refine lv_iload_n hx hb dX2_apart_20 rfl (lv_at hl 2 rfl) ?_
        refine z_icmp_lt (tgt := 43) hx hb dX2_apart_21 (by decide) e_x3 e_x2 (fun c21 => ?_) (fun c21 => ?_)
        · have _u := True.intro
          have q := apk_f (f := (lik 0 T P w)) (w := w) (k := j) (fun q9 => absurd q9.1 (by omega))
          have q1 := congrArg Prod.fst q
          have q2 := congrArg Prod.snd q
          refine z_iinc (k := 3) (lv' := fun v => [(3, .int v), (0, .ref g0), (1, .int x1), (2, .int x2)]) hx hb dX2_apart_43 hl rfl e_x3 (by decide) (by omega) (by omega) (by decide) (fun _ => rfl) (fun v43 ls e43 hl => ?_)
          refine lv_goto (tgt := 11) hx hb dX2_apart_46 (by decide) ?_
          exact ih11 (j + 1) x1 x2 v43 (by omega) (by omega) (Eq.trans e_x1 (by omega)) (Eq.trans e_x2 (by omega)) (Eq.trans e43 (by omega)) _ _ hP hD hS _ (lv_sub hl [1, 2, 3, 0] rfl)
        · have _u := True.intro
          refine lv_aload_n hx hb dX2_apart_24 rfl (lv_at hl 0 rfl) ?_
          refine lv_iconst (v := 0) hx hb dX2_apart_25 (by decide) ?_
          refine lv_iload_n hx hb dX2_apart_26 rfl (lv_at hl 3 rfl) ?_
          refine va_calli (va_runV (As := [.int 0, .int x3]) (rest := []) ⟨hx, hb, hml, hown, hts⟩ (c_X2_isWanted l D E g0 g1 g2 y4 y5 H.size (n) (w) 0 T P hn hw hT hPt 0 x3 (0) (Eq.trans (show (0 : Int32).toInt = 0 by decide) (by omega)) (j) (Eq.trans e_x3 (by omega)) (by omega) (by omega)) (cwV 2 hts gX2_apart_X2_isWanted rfl rfl rfl (by decide +kernel) ⟨Nat.le_of_ble_eq_true rfl, Nat.le_of_ble_eq_true rfl⟩) ⟨cp.blind, va_recv hK hP (ci := 1) (q0 := 0) rfl rfl, fun U hU hW => ⟨rfl, cp.call hP hK hE hS (fr0 hS hA) hU hW⟩⟩ rfl rfl hl.1 rfl (lv_room (Nat.le_of_ble_eq_true rfl)) dX2_apart_27 ⟨Nat.le_of_ble_eq_true rfl, Nat.le_of_ble_eq_true rfl⟩) hS (fun q _ h => (fr0 hS hA) q h) (fr0 hS hA) (fun v27 u t H1 locs1 ht hvm e27 hB hz1 hk1 hS => ?_)
          have hP := kp hP hk1
          generalize H1 = H at hP hS ⊢
          generalize locs1 = locs at hS ⊢
          refine zb_if_eq (tgt := 43) hx hb dX2_apart_30 (by decide) e27 (fun c30 => ?_) (fun c30 => ?_)
          · have _u := True.intro
            have q := apk_f (f := (lik 0 T P w)) (w := w) (k := j) (fun q9 => by rw [c30] at q9; exact absurd q9.2 (by decide))
            have q1 := congrArg Prod.fst q
            have q2 := congrArg Prod.snd q
            refine z_iinc (k := 3) (lv' := fun v => [(3, .int v), (0, .ref g0), (1, .int x1), (2, .int x2)]) hx hb dX2_apart_43 hl rfl e_x3 (by decide) (by omega) (by omega) (by decide) (fun _ => rfl) (fun v43 ls e43 hl => ?_)
            refine lv_goto (tgt := 11) hx hb dX2_apart_46 (by decide) ?_
            exact ih11 (j + 1) x1 x2 v43 (by omega) (by omega) (Eq.trans e_x1 (by omega)) (Eq.trans e_x2 (by omega)) (Eq.trans e43 (by omega)) _ _ hP hD hS _ (lv_sub hl [1, 2, 3, 0] rfl)
          · have _u := True.intro
            have q := apk_t (f := (lik 0 T P w)) (w := w) (k := j) (by omega) c30
            have q1 : (apk (lik 0 T P w) w (j + 1)).1 = (apk (lik 0 T P w) w j).1 + 1 := congrArg Prod.fst q
            have q2 : (apk (lik 0 T P w) w (j + 1)).2 = j + w := congrArg Prod.snd q
            refine z_iinc (k := 1) (lv' := fun v => [(1, .int v), (0, .ref g0), (2, .int x2), (3, .int x3)]) hx hb dX2_apart_33 hl rfl e_x1 (by decide) (by omega) (by omega) (by decide) (fun _ => rfl) (fun v33 ls e33 hl => ?_)
            refine lv_iload_n hx hb dX2_apart_36 rfl (lv_at hl 3 rfl) ?_
            refine lv_aload_n hx hb dX2_apart_37 rfl (lv_at hl 1 rfl) ?_
            refine va_get (D := D) (ci := 1) (v := .int (nI w)) (C := RX2) (T := TX2) (N := 5) hx hb hts hin0 hown hK hP 0 rfl rfl 4 (by decide) hf_m (fun _ h9 => h9) rfl dX2_apart_38 ?_
            refine z_iadd hx hb dX2_apart_41 e_x3 iww (by omega) (by omega) (fun v41 e41 => ?_)
            refine lv_istore_n (lv' := [(2, .int v41), (1, .int v33), (0, .ref g0), (3, .int x3)]) hx hb dX2_apart_42 rfl hl (by decide) rfl (fun ls hl => ?_)
            refine z_iinc (k := 3) (lv' := fun v => [(3, .int v), (2, .int v41), (1, .int v33), (0, .ref g0)]) hx hb dX2_apart_43 hl rfl e_x3 (by decide) (by omega) (by omega) (by decide) (fun _ => rfl) (fun v43 ls e43 hl => ?_)
            refine lv_goto (tgt := 11) hx hb dX2_apart_46 (by decide) ?_
            exact ih11 (j + 1) v33 v41 v43 (by omega) (by omega) (Eq.trans e33 (by omega)) (Eq.trans e41 (by omega)) (Eq.trans e43 (by omega)) _ _ hP hD hS _ (lv_sub hl [3, 2, 1, 0] rfl)
  exact lp11 ((pl n w - 0) + 1) (0) 0 0 0 (by omega) (by omega) (Eq.trans (show (0 : Int32).toInt = 0 by decide) (rfl)) (Eq.trans (show (0 : Int32).toInt = 0 by decide) (rfl)) (Eq.trans (show (0 : Int32).toInt = 0 by decide) (by omega)) _ _ hP hD hS _ (lv_sub hl [3, 2, 1, 0] rfl)

set_option maxHeartbeats 4000000 in
set_option maxRecDepth 100000 in
theorem c_X2_mismatches (l : Launch) (D : va_G) (E : Nat × Nat × Nat) (g0 g1 g2 : Nat) (y4 y5 : ClassId) (sz n w : Nat) (th : Int32) (T P : Nat → Int32) (hn : n ≤ 64) (hw : w ≤ 24) (hT : SymF T) (hPt : SymF P) (hD0 : va_D (fun _ => True) (MW g0 g1 g2 y4 y5 th (n) (w) T P)) (x1 : Int32) : Met l yX2_mismatches wsX2_mismatches ({ frames := 2, cells := 0, slots := 0, locals := 44 }) (va_Pc [.ref g0, .int x1] (cp D (MW g0 g1 g2 y4 y5 th (n) (w) T P) (MT y4 y5) E (va_A (MW g0 g1 g2 y4 y5 th (n) (w) T P) sz) sz)) (va_Qi (fun (r : Int32) (th2 : Int32) => th2.toInt = ((kPl (pl n w) x1.toInt : Nat) : Int) ∧ (kPl (pl n w) x1.toInt = 0 → r.toInt = ((mis T P x1.toInt.toNat w : Nat) : Int))) (fun (th2 : Int32) t => va_P D vwCl (MW g0 g1 g2 y4 y5 th2 (n) (w) T P) t.heap ∧ va_D (va_A (MW g0 g1 g2 y4 y5 th (n) (w) T P) sz) (MW g0 g1 g2 y4 y5 th2 (n) (w) T P)) (va_A (MW g0 g1 g2 y4 y5 th (n) (w) T P) sz)) 0 0 (va_A (MW g0 g1 g2 y4 y5 th (n) (w) T P) sz) := by
  refine Met.ofW (cc := cX2_mismatches) (maxL := 2) (ret := (some .int)) (by decide) rfl ?_
  intro p e s m args below meth c s₁ B hml hv
  obtain ⟨rfl, hsz, hP, hK, hE⟩ := hv
  have hx := B.exec
  have hb := B.bytes
  have hr := B.returns
  have hts := atoms_spec (ws := wsX2_mismatches) B.pre
  have hown : s.vm.findClass RX2 = some m.cls := findClass_of_methodNamed B.named
  have hlocks := B.notSynchronized
  have hsz : s.heap.size = sz := hsz
  subst hsz
  have hD := hD0.self (sz := s.heap.size)
  have hA : ∀ q : Nat, s.heap.size ≤ q → (va_A (MW g0 g1 g2 y4 y5 th (n) (w) T P) s.heap.size) q := fun q h => Or.inr h
  have hS : va_S (va_A (MW g0 g1 g2 y4 y5 th (n) (w) T P) s.heap.size) s.heap s.heap [] := va_S.rf
  have inn : (nI n).toInt = (n : Int) := nI_toInt (by omega)
  have iww : (nI w).toInt = (w : Int) := nI_toInt (by omega)
  have hpl : pl n w = n + 1 - w := rfl
  have g_x1 := rg x1
  have hl := lv_entry ([.ref g0, .int x1]) (n := 2) (Nat.le_of_ble_eq_true rfl)
  rw [lg_entry_eq]
  generalize (lg_sl ([.ref g0, .int x1]) ++ List.replicate (2 - (lg_sl ([.ref g0, .int x1])).length) Slot.unset).toArray = ls at hl ⊢
  have hl : lv_has ls 2 [(0, .ref g0), (1, .int x1)] := hl
  refine lv_aload_n hx hb dX2_mismatches_0 rfl (lv_at hl 0 rfl) ?_
  refine lv_aload_n hx hb dX2_mismatches_1 rfl (lv_at hl 0 rfl) ?_
  refine lv_iload_n hx hb dX2_mismatches_2 rfl (lv_at hl 1 rfl) ?_
  refine va_calli (va_runV (As := [.int x1]) (rest := [.ref g0]) ⟨hx, hb, hml, hown, hts⟩ (c_X2_isPlace l D E g0 g1 g2 y4 y5 s.heap.size (n) (w) th T P hn hw hT hPt x1) (cwV 1 hts gX2_mismatches_X2_isPlace rfl rfl rfl (by decide +kernel) ⟨Nat.le_of_ble_eq_true rfl, Nat.le_of_ble_eq_true rfl⟩) ⟨cp.blind, va_recv hK hP (ci := 1) (q0 := 0) rfl rfl, fun U hU hW => ⟨rfl, cp.call hP hK hE hS (fr0 hS hA) hU hW⟩⟩ rfl rfl hl.1 rfl (lv_room (Nat.le_of_ble_eq_true rfl)) dX2_mismatches_3 ⟨Nat.le_of_ble_eq_true rfl, Nat.le_of_ble_eq_true rfl⟩) hS (fun q _ h => (fr0 hS hA) q h) (fr0 hS hA) (fun v3 u t H1 locs1 ht hvm e3 hB hz1 hk1 hS => ?_)
  have hP := kp hP hk1
  generalize H1 = H at hP hS ⊢
  generalize locs1 = locs at hS ⊢
  refine zb_if_eq (tgt := 13) hx hb dX2_mismatches_6 (by decide) e3 (fun c6 => ?_) (fun c6 => ?_)
  · have _u := True.intro
    have d6 := of_decide_eq_false c6
    refine lv_iconst (v := 1) hx hb dX2_mismatches_13 (by decide) ?_
    have hFc := va_free (wc := (MW g0 g1 g2 y4 y5 th (n) (w) T P)) hD hS hA [0, 1, 2] rfl
    refine va_calli (va_runV (As := [.int 1]) (rest := []) ⟨hx, hb, hml, hown, hts⟩ (c_X2_goesWell l D E g0 g1 g2 y4 y5 H.size (n) (w) th T P hn hw hT hPt (hD.weaken (fun _ _ _ _ => trivial)) 1 (1) (Eq.trans (show (1 : Int32).toInt = 1 by decide) (by omega))) (cwV 1 hts gX2_mismatches_X2_goesWell rfl rfl rfl (by decide +kernel) ⟨Nat.le_of_ble_eq_true rfl, Nat.le_of_ble_eq_true rfl⟩) ⟨cp.blind, va_recv hK hP (ci := 1) (q0 := 0) rfl rfl, fun U hU hW => ⟨rfl, cp.call hP hK hE hS hFc hU hW⟩⟩ rfl rfl hl.1 rfl (lv_room (Nat.le_of_ble_eq_true rfl)) dX2_mismatches_14 ⟨Nat.le_of_ble_eq_true rfl, Nat.le_of_ble_eq_true rfl⟩) hS (fun q _ h => hFc q h) hFc (fun v14 u t H1 locs1 ht hvm e14 hB hz1 hk1 hS => ?_)
    obtain ⟨hP1, hD1⟩ := hB
    rw [ht] at hP1
    obtain ⟨hP, hD⟩ := va_join (wr := []) (w1 := (MW g0 g1 g2 y4 y5 1 (n) (w) T P)) hP hD [0, 1, 2] [] rfl rfl (by decide) (by decide) hk1 hFc hP1 hD1
    have hP : va_P D vwCl (MW g0 g1 g2 y4 y5 1 (n) (w) T P) H1 := hP
    have hD : va_D (va_A (MW g0 g1 g2 y4 y5 th (n) (w) T P) s.heap.size) (MW g0 g1 g2 y4 y5 1 (n) (w) T P) := hD
    generalize H1 = H at hP hS ⊢
    generalize locs1 = locs at hS ⊢
    refine zb_if_eq (tgt := 28) hx hb dX2_mismatches_17 (by decide) e14 (fun c17 => ?_) (fun c17 => ?_)
    · have _u := True.intro
      refine lv_iconst (v := 0) hx hb dX2_mismatches_28 (by decide) ?_
      have hk0 : kPl (pl n w) x1.toInt = 1 := by unfold kPl; (repeat' split) <;> omega
      refine W.widen (k := 0) (n := 0) (Nat.le_of_ble_eq_true rfl) (Nat.le_of_ble_eq_true rfl) ?_
      exact W.iret (v := 0) hx hb hr (fun t ht hW => ⟨⟨_, 1, rfl, ⟨(show (1 : Int32).toInt = 1 by decide).trans (by omega), fun h => absurd h (by omega)⟩, ⟨by rw [ht]; exact hP, hD⟩⟩, hS.F ht⟩) hS.2.2 dX2_mismatches_29
    · have _u := True.intro
      exact absurd c17 (by decide)
  · have _u := True.intro
    have d6 := of_decide_eq_true c6
    refine lv_iconst (v := 0) hx hb dX2_mismatches_9 (by decide) ?_
    refine lv_goto (tgt := 14) hx hb dX2_mismatches_10 (by decide) ?_
    have hFc := va_free (wc := (MW g0 g1 g2 y4 y5 th (n) (w) T P)) hD hS hA [0, 1, 2] rfl
    refine va_calli (va_runV (As := [.int 0]) (rest := []) ⟨hx, hb, hml, hown, hts⟩ (c_X2_goesWell l D E g0 g1 g2 y4 y5 H.size (n) (w) th T P hn hw hT hPt (hD.weaken (fun _ _ _ _ => trivial)) 0 (0) (Eq.trans (show (0 : Int32).toInt = 0 by decide) (by omega))) (cwV 1 hts gX2_mismatches_X2_goesWell rfl rfl rfl (by decide +kernel) ⟨Nat.le_of_ble_eq_true rfl, Nat.le_of_ble_eq_true rfl⟩) ⟨cp.blind, va_recv hK hP (ci := 1) (q0 := 0) rfl rfl, fun U hU hW => ⟨rfl, cp.call hP hK hE hS hFc hU hW⟩⟩ rfl rfl hl.1 rfl (lv_room (Nat.le_of_ble_eq_true rfl)) dX2_mismatches_14 ⟨Nat.le_of_ble_eq_true rfl, Nat.le_of_ble_eq_true rfl⟩) hS (fun q _ h => hFc q h) hFc (fun v14 u t H1 locs1 ht hvm e14 hB hz1 hk1 hS => ?_)
    obtain ⟨hP1, hD1⟩ := hB
    rw [ht] at hP1
    obtain ⟨hP, hD⟩ := va_join (wr := []) (w1 := (MW g0 g1 g2 y4 y5 0 (n) (w) T P)) hP hD [0, 1, 2] [] rfl rfl (by decide) (by decide) hk1 hFc hP1 hD1
    have hP : va_P D vwCl (MW g0 g1 g2 y4 y5 0 (n) (w) T P) H1 := hP
    have hD : va_D (va_A (MW g0 g1 g2 y4 y5 th (n) (w) T P) s.heap.size) (MW g0 g1 g2 y4 y5 0 (n) (w) T P) := hD
    generalize H1 = H at hP hS ⊢
    generalize locs1 = locs at hS ⊢
    refine zb_if_eq (tgt := 28) hx hb dX2_mismatches_17 (by decide) e14 (fun c17 => ?_) (fun c17 => ?_)
    · have _u := True.intro
      exact absurd c17 (by decide)
    · have _u := True.intro
      refine lv_aload_n hx hb dX2_mismatches_20 rfl (lv_at hl 0 rfl) ?_
      refine lv_iload_n hx hb dX2_mismatches_21 rfl (lv_at hl 1 rfl) ?_
      refine va_calli (va_runV (As := [.int x1]) (rest := []) ⟨hx, hb, hml, hown, hts⟩ (c_X2_countAt l D E g0 g1 g2 y4 y5 H.size (n) (w) 0 T P hn hw hT hPt x1 (x1.toInt.toNat) (Eq.trans rfl (by omega)) (by omega)) (cwV 1 hts gX2_mismatches_X2_countAt rfl rfl rfl (by decide +kernel) ⟨Nat.le_of_ble_eq_true rfl, Nat.le_of_ble_eq_true rfl⟩) ⟨cp.blind, va_recv hK hP (ci := 1) (q0 := 0) rfl rfl, fun U hU hW => ⟨rfl, cp.call hP hK hE hS (fr0 hS hA) hU hW⟩⟩ rfl rfl hl.1 rfl (lv_room (Nat.le_of_ble_eq_true rfl)) dX2_mismatches_22 ⟨Nat.le_of_ble_eq_true rfl, Nat.le_of_ble_eq_true rfl⟩) hS (fun q _ h => (fr0 hS hA) q h) (fr0 hS hA) (fun v22 u t H1 locs1 ht hvm e22 hB hz1 hk1 hS => ?_)
      have hP := kp hP hk1
      generalize H1 = H at hP hS ⊢
      generalize locs1 = locs at hS ⊢
      refine lv_goto (tgt := 29) hx hb dX2_mismatches_25 (by decide) ?_
      have hk0 : kPl (pl n w) x1.toInt = 0 := by unfold kPl; (repeat' split) <;> omega
      refine W.widen (k := 0) (n := 0) (Nat.le_of_ble_eq_true rfl) (Nat.le_of_ble_eq_true rfl) ?_
      exact W.iret (v := v22) hx hb hr (fun t ht hW => ⟨⟨_, 0, rfl, ⟨(show (0 : Int32).toInt = 0 by decide).trans (by omega), fun _ => (Eq.trans e22 (rfl))⟩, ⟨by rw [ht]; exact hP, hD⟩⟩, hS.F ht⟩) hS.2.2 dX2_mismatches_29

set_option maxHeartbeats 4000000 in
set_option maxRecDepth 100000 in
theorem c_X2_mismatchesOf (l : Launch) (D : va_G) (E : Nat × Nat × Nat) (g0 g1 g2 : Nat) (y4 y5 : ClassId) (sz n w : Nat) (th : Int32) (T P : Nat → Int32) (hn : n ≤ 64) (hw : w ≤ 24) (hT : SymF T) (hPt : SymF P) (hD0 : va_D (fun _ => True) (MW g0 g1 g2 y4 y5 th (n) (w) T P)) (x1 : Int32) (x2 : Int32) : Met l yX2_mismatchesOf wsX2_mismatchesOf ({ frames := 2, cells := 0, slots := 0, locals := 41 }) (va_Pc [.ref g0, .int x1, .int x2] (cp D (MW g0 g1 g2 y4 y5 th (n) (w) T P) (MT y4 y5) E (va_A (MW g0 g1 g2 y4 y5 th (n) (w) T P) sz) sz)) (va_Qi (fun (r : Int32) (th2 : Int32) => th2.toInt = ((kMO (pl n w) x1.toInt x2.toInt : Nat) : Int) ∧ (kMO (pl n w) x1.toInt x2.toInt = 0 → r.toInt = ((cnt (mof T P x2 x1.toInt.toNat) w : Nat) : Int))) (fun (th2 : Int32) t => va_P D vwCl (MW g0 g1 g2 y4 y5 th2 (n) (w) T P) t.heap ∧ va_D (va_A (MW g0 g1 g2 y4 y5 th (n) (w) T P) sz) (MW g0 g1 g2 y4 y5 th2 (n) (w) T P)) (va_A (MW g0 g1 g2 y4 y5 th (n) (w) T P) sz)) 0 0 (va_A (MW g0 g1 g2 y4 y5 th (n) (w) T P) sz) := by
  refine Met.ofW (cc := cX2_mismatchesOf) (maxL := 5) (ret := (some .int)) (by decide) rfl ?_
  intro p e s m args below meth c s₁ B hml hv
  obtain ⟨rfl, hsz, hP, hK, hE⟩ := hv
  have hx := B.exec
  have hb := B.bytes
  have hr := B.returns
  have hts := atoms_spec (ws := wsX2_mismatchesOf) B.pre
  have hown : s.vm.findClass RX2 = some m.cls := findClass_of_methodNamed B.named
  have hlocks := B.notSynchronized
  have hsz : s.heap.size = sz := hsz
  subst hsz
  have hD := hD0.self (sz := s.heap.size)
  have hA : ∀ q : Nat, s.heap.size ≤ q → (va_A (MW g0 g1 g2 y4 y5 th (n) (w) T P) s.heap.size) q := fun q h => Or.inr h
  have hS : va_S (va_A (MW g0 g1 g2 y4 y5 th (n) (w) T P) s.heap.size) s.heap s.heap [] := va_S.rf
  have inn : (nI n).toInt = (n : Int) := nI_toInt (by omega)
  have iww : (nI w).toInt = (w : Int) := nI_toInt (by omega)
  have hf_m := hts (.fieldLink RX2 30 "BlankMatcherModel" "m" "I") (by decide +kernel)
  have hf_pattern := hts (.fieldLink RX2 13 "BlankMatcherModel" "pattern" "[I") (by decide +kernel)
  have hf_text := hts (.fieldLink RX2 7 "BlankMatcherModel" "text" "[I") (by decide +kernel)
  have hpl : pl n w = n + 1 - w := rfl
  have hin0 : ∀ w ∈ wsX20, w ∈ wsX2_mismatchesOf := by decide +kernel
  have g_x1 := rg x1
  have g_x2 := rg x2
  have hl := lv_entry ([.ref g0, .int x1, .int x2]) (n := 5) (Nat.le_of_ble_eq_true rfl)
  rw [lg_entry_eq]
  generalize (lg_sl ([.ref g0, .int x1, .int x2]) ++ List.replicate (5 - (lg_sl ([.ref g0, .int x1, .int x2])).length) Slot.unset).toArray = ls at hl ⊢
  have hl : lv_has ls 5 [(0, .ref g0), (1, .int x1), (2, .int x2)] := hl
  refine lv_aload_n hx hb dX2_mismatchesOf_0 rfl (lv_at hl 0 rfl) ?_
  refine lv_iload_n hx hb dX2_mismatchesOf_1 rfl (lv_at hl 2 rfl) ?_
  refine lv_iconst (v := 1) hx hb dX2_mismatchesOf_2 (by decide) ?_
  refine z_icmp_lt (tgt := 12) hx hb dX2_mismatchesOf_3 (by decide) rfl (show (1 : Int32).toInt = 1 by decide) (fun c3 => ?_) (fun c3 => ?_)
  · have _u := True.intro
    refine lv_iconst (v := 1) hx hb dX2_mismatchesOf_12 (by decide) ?_
    refine lv_goto (tgt := 29) hx hb dX2_mismatchesOf_13 (by decide) ?_
    have hFc := va_free (wc := (MW g0 g1 g2 y4 y5 th (n) (w) T P)) hD hS hA [0, 1, 2] rfl
    refine va_calli (va_runV (As := [.int 1]) (rest := []) ⟨hx, hb, hml, hown, hts⟩ (c_X2_goesWell l D E g0 g1 g2 y4 y5 s.heap.size (n) (w) th T P hn hw hT hPt (hD.weaken (fun _ _ _ _ => trivial)) 1 (1) (Eq.trans (show (1 : Int32).toInt = 1 by decide) (by omega))) (cwV 1 hts gX2_mismatchesOf_X2_goesWell rfl rfl rfl (by decide +kernel) ⟨Nat.le_of_ble_eq_true rfl, Nat.le_of_ble_eq_true rfl⟩) ⟨cp.blind, va_recv hK hP (ci := 1) (q0 := 0) rfl rfl, fun U hU hW => ⟨rfl, cp.call hP hK hE hS hFc hU hW⟩⟩ rfl rfl hl.1 rfl (lv_room (Nat.le_of_ble_eq_true rfl)) dX2_mismatchesOf_29 ⟨Nat.le_of_ble_eq_true rfl, Nat.le_of_ble_eq_true rfl⟩) hS (fun q _ h => hFc q h) hFc (fun v29 u t H1 locs1 ht hvm e29 hB hz1 hk1 hS => ?_)
    obtain ⟨hP1, hD1⟩ := hB
    rw [ht] at hP1
    obtain ⟨hP, hD⟩ := va_join (wr := []) (w1 := (MW g0 g1 g2 y4 y5 1 (n) (w) T P)) hP hD [0, 1, 2] [] rfl rfl (by decide) (by decide) hk1 hFc hP1 hD1
    have hP : va_P D vwCl (MW g0 g1 g2 y4 y5 1 (n) (w) T P) H1 := hP
    have hD : va_D (va_A (MW g0 g1 g2 y4 y5 th (n) (w) T P) s.heap.size) (MW g0 g1 g2 y4 y5 1 (n) (w) T P) := hD
    generalize H1 = H at hP hS ⊢
    generalize locs1 = locs at hS ⊢
    refine zb_if_ne (tgt := 37) hx hb dX2_mismatchesOf_32 (by decide) e29 (fun c32 => ?_) (fun c32 => ?_)
    · have _u := True.intro
      exact absurd c32 (by decide)
    · have _u := True.intro
      refine lv_iconst (v := 0) hx hb dX2_mismatchesOf_35 (by decide) ?_
      have hk0 : kMO (pl n w) x1.toInt x2.toInt = 1 := by unfold kMO; (repeat' split) <;> omega
      refine W.widen (k := 0) (n := 0) (Nat.le_of_ble_eq_true rfl) (Nat.le_of_ble_eq_true rfl) ?_
      exact W.iret (v := 0) hx hb hr (fun t ht hW => ⟨⟨_, 1, rfl, ⟨(show (1 : Int32).toInt = 1 by decide).trans (by omega), fun h => absurd h (by omega)⟩, ⟨by rw [ht]; exact hP, hD⟩⟩, hS.F ht⟩) hS.2.2 dX2_mismatchesOf_36
  · have _u := True.intro
    refine lv_iload_n hx hb dX2_mismatchesOf_6 rfl (lv_at hl 2 rfl) ?_
    refine lv_bipush (v := 26) hx hb dX2_mismatchesOf_7 (by decide) ?_
    refine z_icmp_le (tgt := 16) hx hb dX2_mismatchesOf_9 (by decide) rfl (show (26 : Int32).toInt = 26 by decide) (fun c9 => ?_) (fun c9 => ?_)
    · have _u := True.intro
      refine lv_aload_n hx hb dX2_mismatchesOf_16 rfl (lv_at hl 0 rfl) ?_
      refine lv_iload_n hx hb dX2_mismatchesOf_17 rfl (lv_at hl 1 rfl) ?_
      refine va_calli (va_runV (As := [.int x1]) (rest := [.ref g0]) ⟨hx, hb, hml, hown, hts⟩ (c_X2_isPlace l D E g0 g1 g2 y4 y5 s.heap.size (n) (w) th T P hn hw hT hPt x1) (cwV 1 hts gX2_mismatchesOf_X2_isPlace rfl rfl rfl (by decide +kernel) ⟨Nat.le_of_ble_eq_true rfl, Nat.le_of_ble_eq_true rfl⟩) ⟨cp.blind, va_recv hK hP (ci := 1) (q0 := 0) rfl rfl, fun U hU hW => ⟨rfl, cp.call hP hK hE hS (fr0 hS hA) hU hW⟩⟩ rfl rfl hl.1 rfl (lv_room (Nat.le_of_ble_eq_true rfl)) dX2_mismatchesOf_18 ⟨Nat.le_of_ble_eq_true rfl, Nat.le_of_ble_eq_true rfl⟩) hS (fun q _ h => (fr0 hS hA) q h) (fr0 hS hA) (fun v18 u t H1 locs1 ht hvm e18 hB hz1 hk1 hS => ?_)
      have hP := kp hP hk1
      generalize H1 = H at hP hS ⊢
      generalize locs1 = locs at hS ⊢
      refine zb_if_eq (tgt := 28) hx hb dX2_mismatchesOf_21 (by decide) e18 (fun c21 => ?_) (fun c21 => ?_)
      · have _u := True.intro
        have d21 := of_decide_eq_false c21
        refine lv_iconst (v := 2) hx hb dX2_mismatchesOf_28 (by decide) ?_
        have hFc := va_free (wc := (MW g0 g1 g2 y4 y5 th (n) (w) T P)) hD hS hA [0, 1, 2] rfl
        refine va_calli (va_runV (As := [.int 2]) (rest := []) ⟨hx, hb, hml, hown, hts⟩ (c_X2_goesWell l D E g0 g1 g2 y4 y5 H.size (n) (w) th T P hn hw hT hPt (hD.weaken (fun _ _ _ _ => trivial)) 2 (2) (Eq.trans (show (2 : Int32).toInt = 2 by decide) (by omega))) (cwV 1 hts gX2_mismatchesOf_X2_goesWell rfl rfl rfl (by decide +kernel) ⟨Nat.le_of_ble_eq_true rfl, Nat.le_of_ble_eq_true rfl⟩) ⟨cp.blind, va_recv hK hP (ci := 1) (q0 := 0) rfl rfl, fun U hU hW => ⟨rfl, cp.call hP hK hE hS hFc hU hW⟩⟩ rfl rfl hl.1 rfl (lv_room (Nat.le_of_ble_eq_true rfl)) dX2_mismatchesOf_29 ⟨Nat.le_of_ble_eq_true rfl, Nat.le_of_ble_eq_true rfl⟩) hS (fun q _ h => hFc q h) hFc (fun v29 u t H1 locs1 ht hvm e29 hB hz1 hk1 hS => ?_)
        obtain ⟨hP1, hD1⟩ := hB
        rw [ht] at hP1
        obtain ⟨hP, hD⟩ := va_join (wr := []) (w1 := (MW g0 g1 g2 y4 y5 2 (n) (w) T P)) hP hD [0, 1, 2] [] rfl rfl (by decide) (by decide) hk1 hFc hP1 hD1
        have hP : va_P D vwCl (MW g0 g1 g2 y4 y5 2 (n) (w) T P) H1 := hP
        have hD : va_D (va_A (MW g0 g1 g2 y4 y5 th (n) (w) T P) s.heap.size) (MW g0 g1 g2 y4 y5 2 (n) (w) T P) := hD
        generalize H1 = H at hP hS ⊢
        generalize locs1 = locs at hS ⊢
        refine zb_if_ne (tgt := 37) hx hb dX2_mismatchesOf_32 (by decide) e29 (fun c32 => ?_) (fun c32 => ?_)
        · have _u := True.intro
          exact absurd c32 (by decide)
        · have _u := True.intro
          refine lv_iconst (v := 0) hx hb dX2_mismatchesOf_35 (by decide) ?_
          have hk0 : kMO (pl n w) x1.toInt x2.toInt = 2 := by unfold kMO; (repeat' split) <;> omega
          refine W.widen (k := 0) (n := 0) (Nat.le_of_ble_eq_true rfl) (Nat.le_of_ble_eq_true rfl) ?_
          exact W.iret (v := 0) hx hb hr (fun t ht hW => ⟨⟨_, 2, rfl, ⟨(show (2 : Int32).toInt = 2 by decide).trans (by omega), fun h => absurd h (by omega)⟩, ⟨by rw [ht]; exact hP, hD⟩⟩, hS.F ht⟩) hS.2.2 dX2_mismatchesOf_36
      · have _u := True.intro
        have d21 := of_decide_eq_true c21
        refine lv_iconst (v := 0) hx hb dX2_mismatchesOf_24 (by decide) ?_
        refine lv_goto (tgt := 29) hx hb dX2_mismatchesOf_25 (by decide) ?_
        have hFc := va_free (wc := (MW g0 g1 g2 y4 y5 th (n) (w) T P)) hD hS hA [0, 1, 2] rfl
        refine va_calli (va_runV (As := [.int 0]) (rest := []) ⟨hx, hb, hml, hown, hts⟩ (c_X2_goesWell l D E g0 g1 g2 y4 y5 H.size (n) (w) th T P hn hw hT hPt (hD.weaken (fun _ _ _ _ => trivial)) 0 (0) (Eq.trans (show (0 : Int32).toInt = 0 by decide) (by omega))) (cwV 1 hts gX2_mismatchesOf_X2_goesWell rfl rfl rfl (by decide +kernel) ⟨Nat.le_of_ble_eq_true rfl, Nat.le_of_ble_eq_true rfl⟩) ⟨cp.blind, va_recv hK hP (ci := 1) (q0 := 0) rfl rfl, fun U hU hW => ⟨rfl, cp.call hP hK hE hS hFc hU hW⟩⟩ rfl rfl hl.1 rfl (lv_room (Nat.le_of_ble_eq_true rfl)) dX2_mismatchesOf_29 ⟨Nat.le_of_ble_eq_true rfl, Nat.le_of_ble_eq_true rfl⟩) hS (fun q _ h => hFc q h) hFc (fun v29 u t H1 locs1 ht hvm e29 hB hz1 hk1 hS => ?_)
        obtain ⟨hP1, hD1⟩ := hB
        rw [ht] at hP1
        obtain ⟨hP, hD⟩ := va_join (wr := []) (w1 := (MW g0 g1 g2 y4 y5 0 (n) (w) T P)) hP hD [0, 1, 2] [] rfl rfl (by decide) (by decide) hk1 hFc hP1 hD1
        have hP : va_P D vwCl (MW g0 g1 g2 y4 y5 0 (n) (w) T P) H1 := hP
        have hD : va_D (va_A (MW g0 g1 g2 y4 y5 th (n) (w) T P) s.heap.size) (MW g0 g1 g2 y4 y5 0 (n) (w) T P) := hD
        generalize H1 = H at hP hS ⊢
        generalize locs1 = locs at hS ⊢
        refine zb_if_ne (tgt := 37) hx hb dX2_mismatchesOf_32 (by decide) e29 (fun c32 => ?_) (fun c32 => ?_)
        · have _u := True.intro
          obtain ⟨o, eo⟩ : ∃ o : Nat, x1.toInt = (o : Int) := ⟨x1.toInt.toNat, by omega⟩
          have ho : o + w ≤ n := by omega
          have ho2 : x1.toInt.toNat = o := by omega
          refine lv_iconst (v := 0) hx hb dX2_mismatchesOf_37 (by decide) ?_
          refine lv_istore_n (lv' := [(3, .int 0), (0, .ref g0), (1, .int x1), (2, .int x2)]) hx hb dX2_mismatchesOf_38 rfl hl (by decide) rfl (fun ls hl => ?_)
          refine lv_iconst (v := 0) hx hb dX2_mismatchesOf_39 (by decide) ?_
          refine lv_istore (lv' := [(4, .int 0), (3, .int 0), (0, .ref g0), (1, .int x1), (2, .int x2)]) hx hb dX2_mismatchesOf_40 hl (by decide) rfl (fun ls hl => ?_)
          have lp42 : ∀ (nf : Nat) (j : Nat) (x3 : Int32) (x4 : Int32), w - j < nf → (j ≤ w) → x3.toInt = ((cnt (mof T P x2 o) j : Nat) : Int) → x4.toInt = (j : Int) → ∀ (H : Heap) (locs : List Loc), va_P D vwCl (MW g0 g1 g2 y4 y5 0 (n) (w) T P) H → va_D (va_A (MW g0 g1 g2 y4 y5 th (n) (w) T P) s.heap.size) (MW g0 g1 g2 y4 y5 0 (n) (w) T P) → va_S (va_A (MW g0 g1 g2 y4 y5 th (n) (w) T P) s.heap.size) s.heap H locs → ∀ (ls : Array Slot), lv_has ls 5 [(0, .ref g0), (1, .int x1), (2, .int x2), (3, .int x3), (4, .int x4)] → W p l e (headSpec wsX2_mismatchesOf ({ frames := 2, cells := 0, slots := 0, locals := 41 })).room s m [.ref g0, .int x1, .int x2].toArray below meth c H locs 0 0 (MQ below (va_Qi (fun (r : Int32) (th2 : Int32) => th2.toInt = ((kMO (pl n w) x1.toInt x2.toInt : Nat) : Int) ∧ (kMO (pl n w) x1.toInt x2.toInt = 0 → r.toInt = ((cnt (mof T P x2 x1.toInt.toNat) w : Nat) : Int))) (fun (th2 : Int32) t => va_P D vwCl (MW g0 g1 g2 y4 y5 th2 (n) (w) T P) t.heap ∧ va_D (va_A (MW g0 g1 g2 y4 y5 th (n) (w) T P) s.heap.size) (MW g0 g1 g2 y4 y5 th2 (n) (w) T P)) (va_A (MW g0 g1 g2 y4 y5 th (n) (w) T P) s.heap.size)) [.ref g0, .int x1, .int x2].toArray s 0 0 (va_A (MW g0 g1 g2 y4 y5 th (n) (w) T P) s.heap.size)) (F0 m 42 ls []) := by
            intro nf
            induction nf with
            | zero => intros; omega
            | succ nf ih42 =>
              intro j x3 x4 hnf hj e_x3 e_x4 H locs hP hD hS ls hl
              have hcl := cnt_le (mof T P x2 o) j
              refine lv_iload hx hb dX2_mismatchesOf_42 (lv_at hl 4 rfl) ?_
              refine lv_aload_n hx hb dX2_mismatchesOf_44 rfl (lv_at hl 0 rfl) ?_
              refine va_get (D := D) (ci := 1) (v := .int (nI w)) (C := RX2) (T := TX2) (N := 5) hx hb hts hin0 hown hK hP 0 rfl rfl 4 (by decide) hf_m (fun _ h9 => h9) rfl dX2_mismatchesOf_45 ?_
              refine z_icmp_ge (tgt := 92) hx hb dX2_mismatchesOf_48 (by decide) e_x4 iww (fun c48 => ?_) (fun c48 => ?_)
              · have _u := True.intro
                refine lv_iload_n hx hb dX2_mismatchesOf_92 rfl (lv_at hl 3 rfl) ?_
                have hk0 : kMO (pl n w) x1.toInt x2.toInt = 0 := by unfold kMO; (repeat' split) <;> omega
                refine W.widen (k := 0) (n := 0) (Nat.le_of_ble_eq_true rfl) (Nat.le_of_ble_eq_true rfl) ?_
                exact W.iret (v := x3) hx hb hr (fun t ht hW => ⟨⟨_, 0, rfl, ⟨(show (0 : Int32).toInt = 0 by decide).trans (by omega), fun _ => (Eq.trans e_x3 (by have q : j = w := (by omega); rw [q, ho2]))⟩, ⟨by rw [ht]; exact hP, hD⟩⟩, hS.F ht⟩) hS.2.2 dX2_mismatchesOf_93
              · have _u := True.intro
                refine lv_iload_n hx hb dX2_mismatchesOf_51 rfl (lv_at hl 3 rfl) ?_
                refine lv_aload_n hx hb dX2_mismatchesOf_52 rfl (lv_at hl 0 rfl) ?_
                refine va_get (D := D) (ci := 1) (v := .ref g2) (C := RX2) (T := TX2) (N := 5) hx hb hts hin0 hown hK hP 0 rfl rfl 2 (by decide) hf_pattern (fun _ h9 => h9) rfl dX2_mismatchesOf_53 ?_
                refine lv_iload hx hb dX2_mismatchesOf_56 (lv_at hl 4 rfl) ?_
                refine z_iald hx hb hK hP 2 1 rfl rfl (j) e_x4 (by omega) (by omega) dX2_mismatchesOf_58 ?_
                refine lv_iload_n hx hb dX2_mismatchesOf_59 rfl (lv_at hl 2 rfl) ?_
                refine z_icmp_ne (tgt := 83) hx hb dX2_mismatchesOf_60 (by decide) rfl rfl (fun c60 => ?_) (fun c60 => ?_)
                · have _u := True.intro
                  have q := cnt_f (f := mof T P x2 o) (k := j) (mof_f1 c60)
                  refine lv_iconst (v := 0) hx hb dX2_mismatchesOf_83 (by decide) ?_
                  refine z_iadd hx hb dX2_mismatchesOf_84 e_x3 (show (0 : Int32).toInt = 0 by decide) (by omega) (by omega) (fun v84 e84 => ?_)
                  refine lv_istore_n (lv' := [(3, .int v84), (0, .ref g0), (1, .int x1), (2, .int x2), (4, .int x4)]) hx hb dX2_mismatchesOf_85 rfl hl (by decide) rfl (fun ls hl => ?_)
                  refine z_iinc (k := 4) (lv' := fun v => [(4, .int v), (3, .int v84), (0, .ref g0), (1, .int x1), (2, .int x2)]) hx hb dX2_mismatchesOf_86 hl rfl e_x4 (by decide) (by omega) (by omega) (by decide) (fun _ => rfl) (fun v86 ls e86 hl => ?_)
                  refine lv_goto (tgt := 42) hx hb dX2_mismatchesOf_89 (by decide) ?_
                  exact ih42 (j + 1) v84 v86 (by omega) (by omega) (Eq.trans e84 (by omega)) (Eq.trans e86 (by omega)) _ _ hP hD hS _ (lv_sub hl [2, 3, 4, 1, 0] rfl)
                · have _u := True.intro
                  have hPx : x2 = P j := Int32.toInt_inj.mp c60.symm
                  refine lv_iload_n hx hb dX2_mismatchesOf_63 rfl (lv_at hl 2 rfl) ?_
                  refine lv_aload_n hx hb dX2_mismatchesOf_64 rfl (lv_at hl 0 rfl) ?_
                  refine va_get (D := D) (ci := 1) (v := .ref g1) (C := RX2) (T := TX2) (N := 5) hx hb hts hin0 hown hK hP 0 rfl rfl 1 (by decide) hf_text (fun _ h9 => h9) rfl dX2_mismatchesOf_65 ?_
                  refine lv_iload_n hx hb dX2_mismatchesOf_68 rfl (lv_at hl 1 rfl) ?_
                  refine lv_iload hx hb dX2_mismatchesOf_69 (lv_at hl 4 rfl) ?_
                  refine z_iadd hx hb dX2_mismatchesOf_71 rfl e_x4 (by omega) (by omega) (fun v71 e71 => ?_)
                  refine z_iald hx hb hK hP 1 0 rfl rfl (o + j) e71 (by omega) (by omega) dX2_mismatchesOf_72 ?_
                  refine va_calli (va_runS (As := [.int x2, .int (T (o + j))]) (rest := [.int x3]) ⟨hx, hb, hml, hown, hts⟩ (c_X2_agree l H.size x2 (T (o + j))) (va_cwS 2 hts gX2_mismatchesOf_X2_agree rfl rfl rfl (by decide +kernel) ⟨Nat.le_of_ble_eq_true rfl, Nat.le_of_ble_eq_true rfl⟩) ⟨cz.blind, fun U hU hW => ⟨rfl, cz.call hU⟩⟩ rfl rfl hl.1 rfl (lv_room (Nat.le_of_ble_eq_true rfl)) dX2_mismatchesOf_73 ⟨Nat.le_of_ble_eq_true rfl, Nat.le_of_ble_eq_true rfl⟩) hS (fun q _ h => (fr0 hS hA) q h) (fr0 hS hA) (fun v73 u t H1 locs1 ht hvm e73 hB hz1 hk1 hS => ?_)
                  have hP := kp hP hk1
                  generalize H1 = H at hP hS ⊢
                  generalize locs1 = locs at hS ⊢
                  refine zb_if_ne (tgt := 83) hx hb dX2_mismatchesOf_76 (by decide) e73 (fun c76 => ?_) (fun c76 => ?_)
                  · have _u := True.intro
                    have q := cnt_f (f := mof T P x2 o) (k := j) (mof_f2 (by rw [← hPx]; exact c76))
                    refine lv_iconst (v := 0) hx hb dX2_mismatchesOf_83 (by decide) ?_
                    refine z_iadd hx hb dX2_mismatchesOf_84 e_x3 (show (0 : Int32).toInt = 0 by decide) (by omega) (by omega) (fun v84 e84 => ?_)
                    refine lv_istore_n (lv' := [(3, .int v84), (0, .ref g0), (1, .int x1), (2, .int x2), (4, .int x4)]) hx hb dX2_mismatchesOf_85 rfl hl (by decide) rfl (fun ls hl => ?_)
                    refine z_iinc (k := 4) (lv' := fun v => [(4, .int v), (3, .int v84), (0, .ref g0), (1, .int x1), (2, .int x2)]) hx hb dX2_mismatchesOf_86 hl rfl e_x4 (by decide) (by omega) (by omega) (by decide) (fun _ => rfl) (fun v86 ls e86 hl => ?_)
                    refine lv_goto (tgt := 42) hx hb dX2_mismatchesOf_89 (by decide) ?_
                    exact ih42 (j + 1) v84 v86 (by omega) (by omega) (Eq.trans e84 (by omega)) (Eq.trans e86 (by omega)) _ _ hP hD hS _ (lv_sub hl [2, 3, 4, 1, 0] rfl)
                  · have _u := True.intro
                    have q := cnt_t (f := mof T P x2 o) (k := j) (mof_t c60 (by rw [← hPx]; exact c76))
                    refine lv_iconst (v := 1) hx hb dX2_mismatchesOf_79 (by decide) ?_
                    refine lv_goto (tgt := 84) hx hb dX2_mismatchesOf_80 (by decide) ?_
                    refine z_iadd hx hb dX2_mismatchesOf_84 e_x3 (show (1 : Int32).toInt = 1 by decide) (by omega) (by omega) (fun v84 e84 => ?_)
                    refine lv_istore_n (lv' := [(3, .int v84), (0, .ref g0), (1, .int x1), (2, .int x2), (4, .int x4)]) hx hb dX2_mismatchesOf_85 rfl hl (by decide) rfl (fun ls hl => ?_)
                    refine z_iinc (k := 4) (lv' := fun v => [(4, .int v), (3, .int v84), (0, .ref g0), (1, .int x1), (2, .int x2)]) hx hb dX2_mismatchesOf_86 hl rfl e_x4 (by decide) (by omega) (by omega) (by decide) (fun _ => rfl) (fun v86 ls e86 hl => ?_)
                    refine lv_goto (tgt := 42) hx hb dX2_mismatchesOf_89 (by decide) ?_
                    exact ih42 (j + 1) v84 v86 (by omega) (by omega) (Eq.trans e84 (by omega)) (Eq.trans e86 (by omega)) _ _ hP hD hS _ (lv_sub hl [2, 3, 4, 1, 0] rfl)
          have hc0 := cnt_0 (mof T P x2 o)
          exact lp42 ((w - 0) + 1) (0) 0 0 (by omega) (by omega) (Eq.trans (show (0 : Int32).toInt = 0 by decide) (by omega)) (Eq.trans (show (0 : Int32).toInt = 0 by decide) (by omega)) _ _ hP hD hS _ (lv_sub hl [2, 3, 4, 1, 0] rfl)
        · have _u := True.intro
          exact absurd c32 (by decide)
    · have _u := True.intro
      refine lv_iconst (v := 1) hx hb dX2_mismatchesOf_12 (by decide) ?_
      refine lv_goto (tgt := 29) hx hb dX2_mismatchesOf_13 (by decide) ?_
      have hFc := va_free (wc := (MW g0 g1 g2 y4 y5 th (n) (w) T P)) hD hS hA [0, 1, 2] rfl
      refine va_calli (va_runV (As := [.int 1]) (rest := []) ⟨hx, hb, hml, hown, hts⟩ (c_X2_goesWell l D E g0 g1 g2 y4 y5 s.heap.size (n) (w) th T P hn hw hT hPt (hD.weaken (fun _ _ _ _ => trivial)) 1 (1) (Eq.trans (show (1 : Int32).toInt = 1 by decide) (by omega))) (cwV 1 hts gX2_mismatchesOf_X2_goesWell rfl rfl rfl (by decide +kernel) ⟨Nat.le_of_ble_eq_true rfl, Nat.le_of_ble_eq_true rfl⟩) ⟨cp.blind, va_recv hK hP (ci := 1) (q0 := 0) rfl rfl, fun U hU hW => ⟨rfl, cp.call hP hK hE hS hFc hU hW⟩⟩ rfl rfl hl.1 rfl (lv_room (Nat.le_of_ble_eq_true rfl)) dX2_mismatchesOf_29 ⟨Nat.le_of_ble_eq_true rfl, Nat.le_of_ble_eq_true rfl⟩) hS (fun q _ h => hFc q h) hFc (fun v29 u t H1 locs1 ht hvm e29 hB hz1 hk1 hS => ?_)
      obtain ⟨hP1, hD1⟩ := hB
      rw [ht] at hP1
      obtain ⟨hP, hD⟩ := va_join (wr := []) (w1 := (MW g0 g1 g2 y4 y5 1 (n) (w) T P)) hP hD [0, 1, 2] [] rfl rfl (by decide) (by decide) hk1 hFc hP1 hD1
      have hP : va_P D vwCl (MW g0 g1 g2 y4 y5 1 (n) (w) T P) H1 := hP
      have hD : va_D (va_A (MW g0 g1 g2 y4 y5 th (n) (w) T P) s.heap.size) (MW g0 g1 g2 y4 y5 1 (n) (w) T P) := hD
      generalize H1 = H at hP hS ⊢
      generalize locs1 = locs at hS ⊢
      refine zb_if_ne (tgt := 37) hx hb dX2_mismatchesOf_32 (by decide) e29 (fun c32 => ?_) (fun c32 => ?_)
      · have _u := True.intro
        exact absurd c32 (by decide)
      · have _u := True.intro
        refine lv_iconst (v := 0) hx hb dX2_mismatchesOf_35 (by decide) ?_
        have hk0 : kMO (pl n w) x1.toInt x2.toInt = 1 := by unfold kMO; (repeat' split) <;> omega
        refine W.widen (k := 0) (n := 0) (Nat.le_of_ble_eq_true rfl) (Nat.le_of_ble_eq_true rfl) ?_
        exact W.iret (v := 0) hx hb hr (fun t ht hW => ⟨⟨_, 1, rfl, ⟨(show (1 : Int32).toInt = 1 by decide).trans (by omega), fun h => absurd h (by omega)⟩, ⟨by rw [ht]; exact hP, hD⟩⟩, hS.F ht⟩) hS.2.2 dX2_mismatchesOf_36

set_option maxHeartbeats 4000000 in
set_option maxRecDepth 100000 in
theorem c_X2_nextMismatch (l : Launch) (D : va_G) (E : Nat × Nat × Nat) (g0 g1 g2 : Nat) (y4 y5 : ClassId) (sz n w : Nat) (th : Int32) (T P : Nat → Int32) (hn : n ≤ 64) (hw : w ≤ 24) (hT : SymF T) (hPt : SymF P) (hD0 : va_D (fun _ => True) (MW g0 g1 g2 y4 y5 th (n) (w) T P)) (x1 : Int32) (x2 : Int32) : Met l yX2_nextMismatch wsX2_nextMismatch ({ frames := 2, cells := 0, slots := 0, locals := 41 }) (va_Pc [.ref g0, .int x1, .int x2] (cp D (MW g0 g1 g2 y4 y5 th (n) (w) T P) (MT y4 y5) E (va_A (MW g0 g1 g2 y4 y5 th (n) (w) T P) sz) sz)) (va_Qi (fun (r : Int32) (th2 : Int32) => th2.toInt = ((kNM (pl n w) x1.toInt x2.toInt : Nat) : Int) ∧ (kNM (pl n w) x1.toInt x2.toInt = 0 → r.toInt = fmis T P x1.toInt.toNat x2.toInt.toNat w)) (fun (th2 : Int32) t => va_P D vwCl (MW g0 g1 g2 y4 y5 th2 (n) (w) T P) t.heap ∧ va_D (va_A (MW g0 g1 g2 y4 y5 th (n) (w) T P) sz) (MW g0 g1 g2 y4 y5 th2 (n) (w) T P)) (va_A (MW g0 g1 g2 y4 y5 th (n) (w) T P) sz)) 0 0 (va_A (MW g0 g1 g2 y4 y5 th (n) (w) T P) sz) := by
  refine Met.ofW (cc := cX2_nextMismatch) (maxL := 4) (ret := (some .int)) (by decide) rfl ?_
  intro p e s m args below meth c s₁ B hml hv
  obtain ⟨rfl, hsz, hP, hK, hE⟩ := hv
  have hx := B.exec
  have hb := B.bytes
  have hr := B.returns
  have hts := atoms_spec (ws := wsX2_nextMismatch) B.pre
  have hown : s.vm.findClass RX2 = some m.cls := findClass_of_methodNamed B.named
  have hlocks := B.notSynchronized
  have hsz : s.heap.size = sz := hsz
  subst hsz
  have hD := hD0.self (sz := s.heap.size)
  have hA : ∀ q : Nat, s.heap.size ≤ q → (va_A (MW g0 g1 g2 y4 y5 th (n) (w) T P) s.heap.size) q := fun q h => Or.inr h
  have hS : va_S (va_A (MW g0 g1 g2 y4 y5 th (n) (w) T P) s.heap.size) s.heap s.heap [] := va_S.rf
  have inn : (nI n).toInt = (n : Int) := nI_toInt (by omega)
  have iww : (nI w).toInt = (w : Int) := nI_toInt (by omega)
  have hf_m := hts (.fieldLink RX2 30 "BlankMatcherModel" "m" "I") (by decide +kernel)
  have hf_pattern := hts (.fieldLink RX2 13 "BlankMatcherModel" "pattern" "[I") (by decide +kernel)
  have hf_text := hts (.fieldLink RX2 7 "BlankMatcherModel" "text" "[I") (by decide +kernel)
  have hpl : pl n w = n + 1 - w := rfl
  have hin0 : ∀ w ∈ wsX20, w ∈ wsX2_nextMismatch := by decide +kernel
  have g_x1 := rg x1
  have g_x2 := rg x2
  have hl := lv_entry ([.ref g0, .int x1, .int x2]) (n := 4) (Nat.le_of_ble_eq_true rfl)
  rw [lg_entry_eq]
  generalize (lg_sl ([.ref g0, .int x1, .int x2]) ++ List.replicate (4 - (lg_sl ([.ref g0, .int x1, .int x2])).length) Slot.unset).toArray = ls at hl ⊢
  have hl : lv_has ls 4 [(0, .ref g0), (1, .int x1), (2, .int x2)] := hl
  refine lv_aload_n hx hb dX2_nextMismatch_0 rfl (lv_at hl 0 rfl) ?_
  refine lv_iload_n hx hb dX2_nextMismatch_1 rfl (lv_at hl 2 rfl) ?_
  refine z_if_ge (tgt := 9) hx hb dX2_nextMismatch_2 (by decide) rfl (fun c2 => ?_) (fun c2 => ?_)
  · have _u := True.intro
    refine lv_aload_n hx hb dX2_nextMismatch_9 rfl (lv_at hl 0 rfl) ?_
    refine lv_iload_n hx hb dX2_nextMismatch_10 rfl (lv_at hl 1 rfl) ?_
    refine va_calli (va_runV (As := [.int x1]) (rest := [.ref g0]) ⟨hx, hb, hml, hown, hts⟩ (c_X2_isPlace l D E g0 g1 g2 y4 y5 s.heap.size (n) (w) th T P hn hw hT hPt x1) (cwV 1 hts gX2_nextMismatch_X2_isPlace rfl rfl rfl (by decide +kernel) ⟨Nat.le_of_ble_eq_true rfl, Nat.le_of_ble_eq_true rfl⟩) ⟨cp.blind, va_recv hK hP (ci := 1) (q0 := 0) rfl rfl, fun U hU hW => ⟨rfl, cp.call hP hK hE hS (fr0 hS hA) hU hW⟩⟩ rfl rfl hl.1 rfl (lv_room (Nat.le_of_ble_eq_true rfl)) dX2_nextMismatch_11 ⟨Nat.le_of_ble_eq_true rfl, Nat.le_of_ble_eq_true rfl⟩) hS (fun q _ h => (fr0 hS hA) q h) (fr0 hS hA) (fun v11 u t H1 locs1 ht hvm e11 hB hz1 hk1 hS => ?_)
    have hP := kp hP hk1
    generalize H1 = H at hP hS ⊢
    generalize locs1 = locs at hS ⊢
    refine zb_if_eq (tgt := 21) hx hb dX2_nextMismatch_14 (by decide) e11 (fun c14 => ?_) (fun c14 => ?_)
    · have _u := True.intro
      have d14 := of_decide_eq_false c14
      refine lv_iconst (v := 2) hx hb dX2_nextMismatch_21 (by decide) ?_
      have hFc := va_free (wc := (MW g0 g1 g2 y4 y5 th (n) (w) T P)) hD hS hA [0, 1, 2] rfl
      refine va_calli (va_runV (As := [.int 2]) (rest := []) ⟨hx, hb, hml, hown, hts⟩ (c_X2_goesWell l D E g0 g1 g2 y4 y5 H.size (n) (w) th T P hn hw hT hPt (hD.weaken (fun _ _ _ _ => trivial)) 2 (2) (Eq.trans (show (2 : Int32).toInt = 2 by decide) (by omega))) (cwV 1 hts gX2_nextMismatch_X2_goesWell rfl rfl rfl (by decide +kernel) ⟨Nat.le_of_ble_eq_true rfl, Nat.le_of_ble_eq_true rfl⟩) ⟨cp.blind, va_recv hK hP (ci := 1) (q0 := 0) rfl rfl, fun U hU hW => ⟨rfl, cp.call hP hK hE hS hFc hU hW⟩⟩ rfl rfl hl.1 rfl (lv_room (Nat.le_of_ble_eq_true rfl)) dX2_nextMismatch_22 ⟨Nat.le_of_ble_eq_true rfl, Nat.le_of_ble_eq_true rfl⟩) hS (fun q _ h => hFc q h) hFc (fun v22 u t H1 locs1 ht hvm e22 hB hz1 hk1 hS => ?_)
      obtain ⟨hP1, hD1⟩ := hB
      rw [ht] at hP1
      obtain ⟨hP, hD⟩ := va_join (wr := []) (w1 := (MW g0 g1 g2 y4 y5 2 (n) (w) T P)) hP hD [0, 1, 2] [] rfl rfl (by decide) (by decide) hk1 hFc hP1 hD1
      have hP : va_P D vwCl (MW g0 g1 g2 y4 y5 2 (n) (w) T P) H1 := hP
      have hD : va_D (va_A (MW g0 g1 g2 y4 y5 th (n) (w) T P) s.heap.size) (MW g0 g1 g2 y4 y5 2 (n) (w) T P) := hD
      generalize H1 = H at hP hS ⊢
      generalize locs1 = locs at hS ⊢
      refine zb_if_ne (tgt := 30) hx hb dX2_nextMismatch_25 (by decide) e22 (fun c25 => ?_) (fun c25 => ?_)
      · have _u := True.intro
        exact absurd c25 (by decide)
      · have _u := True.intro
        refine lv_iconst (v := 0) hx hb dX2_nextMismatch_28 (by decide) ?_
        have hk0 : kNM (pl n w) x1.toInt x2.toInt = 2 := by unfold kNM; (repeat' split) <;> omega
        refine W.widen (k := 0) (n := 0) (Nat.le_of_ble_eq_true rfl) (Nat.le_of_ble_eq_true rfl) ?_
        exact W.iret (v := 0) hx hb hr (fun t ht hW => ⟨⟨_, 2, rfl, ⟨(show (2 : Int32).toInt = 2 by decide).trans (by omega), fun h => absurd h (by omega)⟩, ⟨by rw [ht]; exact hP, hD⟩⟩, hS.F ht⟩) hS.2.2 dX2_nextMismatch_29
    · have _u := True.intro
      have d14 := of_decide_eq_true c14
      refine lv_iconst (v := 0) hx hb dX2_nextMismatch_17 (by decide) ?_
      refine lv_goto (tgt := 22) hx hb dX2_nextMismatch_18 (by decide) ?_
      have hFc := va_free (wc := (MW g0 g1 g2 y4 y5 th (n) (w) T P)) hD hS hA [0, 1, 2] rfl
      refine va_calli (va_runV (As := [.int 0]) (rest := []) ⟨hx, hb, hml, hown, hts⟩ (c_X2_goesWell l D E g0 g1 g2 y4 y5 H.size (n) (w) th T P hn hw hT hPt (hD.weaken (fun _ _ _ _ => trivial)) 0 (0) (Eq.trans (show (0 : Int32).toInt = 0 by decide) (by omega))) (cwV 1 hts gX2_nextMismatch_X2_goesWell rfl rfl rfl (by decide +kernel) ⟨Nat.le_of_ble_eq_true rfl, Nat.le_of_ble_eq_true rfl⟩) ⟨cp.blind, va_recv hK hP (ci := 1) (q0 := 0) rfl rfl, fun U hU hW => ⟨rfl, cp.call hP hK hE hS hFc hU hW⟩⟩ rfl rfl hl.1 rfl (lv_room (Nat.le_of_ble_eq_true rfl)) dX2_nextMismatch_22 ⟨Nat.le_of_ble_eq_true rfl, Nat.le_of_ble_eq_true rfl⟩) hS (fun q _ h => hFc q h) hFc (fun v22 u t H1 locs1 ht hvm e22 hB hz1 hk1 hS => ?_)
      obtain ⟨hP1, hD1⟩ := hB
      rw [ht] at hP1
      obtain ⟨hP, hD⟩ := va_join (wr := []) (w1 := (MW g0 g1 g2 y4 y5 0 (n) (w) T P)) hP hD [0, 1, 2] [] rfl rfl (by decide) (by decide) hk1 hFc hP1 hD1
      have hP : va_P D vwCl (MW g0 g1 g2 y4 y5 0 (n) (w) T P) H1 := hP
      have hD : va_D (va_A (MW g0 g1 g2 y4 y5 th (n) (w) T P) s.heap.size) (MW g0 g1 g2 y4 y5 0 (n) (w) T P) := hD
      generalize H1 = H at hP hS ⊢
      generalize locs1 = locs at hS ⊢
      refine zb_if_ne (tgt := 30) hx hb dX2_nextMismatch_25 (by decide) e22 (fun c25 => ?_) (fun c25 => ?_)
      · have _u := True.intro
        obtain ⟨o, eo⟩ : ∃ o : Nat, x1.toInt = (o : Int) := ⟨x1.toInt.toNat, by omega⟩
        have ho : o + w ≤ n := by omega
        have ho2 : x1.toInt.toNat = o := by omega
        obtain ⟨f, ef⟩ : ∃ f : Nat, x2.toInt = (f : Int) := ⟨x2.toInt.toNat, by omega⟩
        have hf2 : x2.toInt.toNat = f := by omega
        refine lv_iload_n hx hb dX2_nextMismatch_30 rfl (lv_at hl 2 rfl) ?_
        refine lv_istore_n (lv' := [(3, .int x2), (0, .ref g0), (1, .int x1), (2, .int x2)]) hx hb dX2_nextMismatch_31 rfl hl (by decide) rfl (fun ls hl => ?_)
        have lp32 : ∀ (nf : Nat) (j : Nat) (x3 : Int32), w - j < nf → (f ≤ j) → (∀ i, f ≤ i → i < j → mf T P o i = false) → x3.toInt = (j : Int) → ∀ (H : Heap) (locs : List Loc), va_P D vwCl (MW g0 g1 g2 y4 y5 0 (n) (w) T P) H → va_D (va_A (MW g0 g1 g2 y4 y5 th (n) (w) T P) s.heap.size) (MW g0 g1 g2 y4 y5 0 (n) (w) T P) → va_S (va_A (MW g0 g1 g2 y4 y5 th (n) (w) T P) s.heap.size) s.heap H locs → ∀ (ls : Array Slot), lv_has ls 4 [(0, .ref g0), (1, .int x1), (2, .int x2), (3, .int x3)] → W p l e (headSpec wsX2_nextMismatch ({ frames := 2, cells := 0, slots := 0, locals := 41 })).room s m [.ref g0, .int x1, .int x2].toArray below meth c H locs 0 0 (MQ below (va_Qi (fun (r : Int32) (th2 : Int32) => th2.toInt = ((kNM (pl n w) x1.toInt x2.toInt : Nat) : Int) ∧ (kNM (pl n w) x1.toInt x2.toInt = 0 → r.toInt = fmis T P x1.toInt.toNat x2.toInt.toNat w)) (fun (th2 : Int32) t => va_P D vwCl (MW g0 g1 g2 y4 y5 th2 (n) (w) T P) t.heap ∧ va_D (va_A (MW g0 g1 g2 y4 y5 th (n) (w) T P) s.heap.size) (MW g0 g1 g2 y4 y5 th2 (n) (w) T P)) (va_A (MW g0 g1 g2 y4 y5 th (n) (w) T P) s.heap.size)) [.ref g0, .int x1, .int x2].toArray s 0 0 (va_A (MW g0 g1 g2 y4 y5 th (n) (w) T P) s.heap.size)) (F0 m 32 ls []) := by
          intro nf
          induction nf with
          | zero => intros; omega
          | succ nf ih32 =>
            intro j x3 hnf hj hz e_x3 H locs hP hD hS ls hl
            refine lv_iload_n hx hb dX2_nextMismatch_32 rfl (lv_at hl 3 rfl) ?_
            refine lv_aload_n hx hb dX2_nextMismatch_33 rfl (lv_at hl 0 rfl) ?_
            refine va_get (D := D) (ci := 1) (v := .int (nI w)) (C := RX2) (T := TX2) (N := 5) hx hb hts hin0 hown hK hP 0 rfl rfl 4 (by decide) hf_m (fun _ h9 => h9) rfl dX2_nextMismatch_34 ?_
            refine z_icmp_ge (tgt := 68) hx hb dX2_nextMismatch_37 (by decide) e_x3 iww (fun c37 => ?_) (fun c37 => ?_)
            · have _u := True.intro
              refine lv_iconst (v := (-1)) hx hb dX2_nextMismatch_68 (by decide) ?_
              have hk0 : kNM (pl n w) x1.toInt x2.toInt = 0 := by unfold kNM; (repeat' split) <;> omega
              refine W.widen (k := 0) (n := 0) (Nat.le_of_ble_eq_true rfl) (Nat.le_of_ble_eq_true rfl) ?_
              exact W.iret (v := (-1)) hx hb hr (fun t ht hW => ⟨⟨_, 0, rfl, ⟨(show (0 : Int32).toInt = 0 by decide).trans (by omega), fun _ => (Eq.trans (show (-1 : Int32).toInt = (-1) by decide) (by rw [ho2, hf2]; exact (fmis_no (fun i h1 h2 => hz i h1 (by omega))).symm))⟩, ⟨by rw [ht]; exact hP, hD⟩⟩, hS.F ht⟩) hS.2.2 dX2_nextMismatch_69
            · have _u := True.intro
              refine lv_aload_n hx hb dX2_nextMismatch_40 rfl (lv_at hl 0 rfl) ?_
              refine va_get (D := D) (ci := 1) (v := .ref g2) (C := RX2) (T := TX2) (N := 5) hx hb hts hin0 hown hK hP 0 rfl rfl 2 (by decide) hf_pattern (fun _ h9 => h9) rfl dX2_nextMismatch_41 ?_
              refine lv_iload_n hx hb dX2_nextMismatch_44 rfl (lv_at hl 3 rfl) ?_
              refine z_iald hx hb hK hP 2 1 rfl rfl (j) e_x3 (by omega) (by omega) dX2_nextMismatch_45 ?_
              refine lv_aload_n hx hb dX2_nextMismatch_46 rfl (lv_at hl 0 rfl) ?_
              refine va_get (D := D) (ci := 1) (v := .ref g1) (C := RX2) (T := TX2) (N := 5) hx hb hts hin0 hown hK hP 0 rfl rfl 1 (by decide) hf_text (fun _ h9 => h9) rfl dX2_nextMismatch_47 ?_
              refine lv_iload_n hx hb dX2_nextMismatch_50 rfl (lv_at hl 1 rfl) ?_
              refine lv_iload_n hx hb dX2_nextMismatch_51 rfl (lv_at hl 3 rfl) ?_
              refine z_iadd hx hb dX2_nextMismatch_52 rfl e_x3 (by omega) (by omega) (fun v52 e52 => ?_)
              refine z_iald hx hb hK hP 1 0 rfl rfl (o + j) e52 (by omega) (by omega) dX2_nextMismatch_53 ?_
              refine va_calli (va_runS (As := [.int (P (j)), .int (T (o + j))]) (rest := []) ⟨hx, hb, hml, hown, hts⟩ (c_X2_agree l H.size (P (j)) (T (o + j))) (va_cwS 2 hts gX2_nextMismatch_X2_agree rfl rfl rfl (by decide +kernel) ⟨Nat.le_of_ble_eq_true rfl, Nat.le_of_ble_eq_true rfl⟩) ⟨cz.blind, fun U hU hW => ⟨rfl, cz.call hU⟩⟩ rfl rfl hl.1 rfl (lv_room (Nat.le_of_ble_eq_true rfl)) dX2_nextMismatch_54 ⟨Nat.le_of_ble_eq_true rfl, Nat.le_of_ble_eq_true rfl⟩) hS (fun q _ h => (fr0 hS hA) q h) (fr0 hS hA) (fun v54 u t H1 locs1 ht hvm e54 hB hz1 hk1 hS => ?_)
              have hP := kp hP hk1
              generalize H1 = H at hP hS ⊢
              generalize locs1 = locs at hS ⊢
              refine zb_if_ne (tgt := 62) hx hb dX2_nextMismatch_57 (by decide) e54 (fun c57 => ?_) (fun c57 => ?_)
              · have _u := True.intro
                refine z_iinc (k := 3) (lv' := fun v => [(3, .int v), (0, .ref g0), (1, .int x1), (2, .int x2)]) hx hb dX2_nextMismatch_62 hl rfl e_x3 (by decide) (by omega) (by omega) (by decide) (fun _ => rfl) (fun v62 ls e62 hl => ?_)
                refine lv_goto (tgt := 32) hx hb dX2_nextMismatch_65 (by decide) ?_
                exact ih32 (j + 1) v62 (by omega) (by omega) (ltS hz (mf_f c57)) (Eq.trans e62 (by omega)) _ _ hP hD hS _ (lv_sub hl [1, 2, 3, 0] rfl)
              · have _u := True.intro
                refine lv_iload_n hx hb dX2_nextMismatch_60 rfl (lv_at hl 3 rfl) ?_
                have hk0 : kNM (pl n w) x1.toInt x2.toInt = 0 := by unfold kNM; (repeat' split) <;> omega
                refine W.widen (k := 0) (n := 0) (Nat.le_of_ble_eq_true rfl) (Nat.le_of_ble_eq_true rfl) ?_
                exact W.iret (v := x3) hx hb hr (fun t ht hW => ⟨⟨_, 0, rfl, ⟨(show (0 : Int32).toInt = 0 by decide).trans (by omega), fun _ => (Eq.trans e_x3 (by rw [ho2, hf2]; exact (fmis_at (by omega) hj (mf_t c57) hz).symm))⟩, ⟨by rw [ht]; exact hP, hD⟩⟩, hS.F ht⟩) hS.2.2 dX2_nextMismatch_61
        exact lp32 ((w - f) + 1) (f) x2 (by omega) (by omega) (fun i h1 h2 => absurd h1 (by omega)) (Eq.trans rfl (by omega)) _ _ hP hD hS _ (lv_sub hl [1, 2, 3, 0] rfl)
      · have _u := True.intro
        exact absurd c25 (by decide)
  · have _u := True.intro
    refine lv_iconst (v := 1) hx hb dX2_nextMismatch_5 (by decide) ?_
    refine lv_goto (tgt := 22) hx hb dX2_nextMismatch_6 (by decide) ?_
    have hFc := va_free (wc := (MW g0 g1 g2 y4 y5 th (n) (w) T P)) hD hS hA [0, 1, 2] rfl
    refine va_calli (va_runV (As := [.int 1]) (rest := []) ⟨hx, hb, hml, hown, hts⟩ (c_X2_goesWell l D E g0 g1 g2 y4 y5 s.heap.size (n) (w) th T P hn hw hT hPt (hD.weaken (fun _ _ _ _ => trivial)) 1 (1) (Eq.trans (show (1 : Int32).toInt = 1 by decide) (by omega))) (cwV 1 hts gX2_nextMismatch_X2_goesWell rfl rfl rfl (by decide +kernel) ⟨Nat.le_of_ble_eq_true rfl, Nat.le_of_ble_eq_true rfl⟩) ⟨cp.blind, va_recv hK hP (ci := 1) (q0 := 0) rfl rfl, fun U hU hW => ⟨rfl, cp.call hP hK hE hS hFc hU hW⟩⟩ rfl rfl hl.1 rfl (lv_room (Nat.le_of_ble_eq_true rfl)) dX2_nextMismatch_22 ⟨Nat.le_of_ble_eq_true rfl, Nat.le_of_ble_eq_true rfl⟩) hS (fun q _ h => hFc q h) hFc (fun v22 u t H1 locs1 ht hvm e22 hB hz1 hk1 hS => ?_)
    obtain ⟨hP1, hD1⟩ := hB
    rw [ht] at hP1
    obtain ⟨hP, hD⟩ := va_join (wr := []) (w1 := (MW g0 g1 g2 y4 y5 1 (n) (w) T P)) hP hD [0, 1, 2] [] rfl rfl (by decide) (by decide) hk1 hFc hP1 hD1
    have hP : va_P D vwCl (MW g0 g1 g2 y4 y5 1 (n) (w) T P) H1 := hP
    have hD : va_D (va_A (MW g0 g1 g2 y4 y5 th (n) (w) T P) s.heap.size) (MW g0 g1 g2 y4 y5 1 (n) (w) T P) := hD
    generalize H1 = H at hP hS ⊢
    generalize locs1 = locs at hS ⊢
    refine zb_if_ne (tgt := 30) hx hb dX2_nextMismatch_25 (by decide) e22 (fun c25 => ?_) (fun c25 => ?_)
    · have _u := True.intro
      exact absurd c25 (by decide)
    · have _u := True.intro
      refine lv_iconst (v := 0) hx hb dX2_nextMismatch_28 (by decide) ?_
      have hk0 : kNM (pl n w) x1.toInt x2.toInt = 1 := by unfold kNM; (repeat' split) <;> omega
      refine W.widen (k := 0) (n := 0) (Nat.le_of_ble_eq_true rfl) (Nat.le_of_ble_eq_true rfl) ?_
      exact W.iret (v := 0) hx hb hr (fun t ht hW => ⟨⟨_, 1, rfl, ⟨(show (1 : Int32).toInt = 1 by decide).trans (by omega), fun h => absurd h (by omega)⟩, ⟨by rw [ht]; exact hP, hD⟩⟩, hS.F ht⟩) hS.2.2 dX2_nextMismatch_29

set_option maxHeartbeats 4000000 in
set_option maxRecDepth 100000 in
theorem c_X2_agreement (l : Launch) (D : va_G) (E : Nat × Nat × Nat) (g0 g1 g2 : Nat) (y4 y5 : ClassId) (sz n w : Nat) (th : Int32) (T P : Nat → Int32) (hn : n ≤ 64) (hw : w ≤ 24) (hT : SymF T) (hPt : SymF P) (hD0 : va_D (fun _ => True) (MW g0 g1 g2 y4 y5 th (n) (w) T P)) (x1 : Int32) (x2 : Int32) : Met l yX2_agreement wsX2_agreement ({ frames := 1, cells := 0, slots := 0, locals := 21 }) (va_Pc [.ref g0, .int x1, .int x2] (cp D (MW g0 g1 g2 y4 y5 th (n) (w) T P) (MT y4 y5) E (va_A (MW g0 g1 g2 y4 y5 th (n) (w) T P) sz) sz)) (va_Qi (fun (r : Int32) (th2 : Int32) => th2.toInt = ((kAg n w x1.toInt x2.toInt : Nat) : Int) ∧ (kAg n w x1.toInt x2.toInt = 0 → r.toInt = ((agr T P n w x1.toInt.toNat x2.toInt.toNat : Nat) : Int))) (fun (th2 : Int32) t => va_P D vwCl (MW g0 g1 g2 y4 y5 th2 (n) (w) T P) t.heap ∧ va_D (va_A (MW g0 g1 g2 y4 y5 th (n) (w) T P) sz) (MW g0 g1 g2 y4 y5 th2 (n) (w) T P)) (va_A (MW g0 g1 g2 y4 y5 th (n) (w) T P) sz)) 0 0 (va_A (MW g0 g1 g2 y4 y5 th (n) (w) T P) sz) := by
  refine Met.ofW (cc := cX2_agreement) (maxL := 5) (ret := (some .int)) (by decide) rfl ?_
  intro p e s m args below meth c s₁ B hml hv
  obtain ⟨rfl, hsz, hP, hK, hE⟩ := hv
  have hx := B.exec
  have hb := B.bytes
  have hr := B.returns
  have hts := atoms_spec (ws := wsX2_agreement) B.pre
  have hown : s.vm.findClass RX2 = some m.cls := findClass_of_methodNamed B.named
  have hlocks := B.notSynchronized
  have hsz : s.heap.size = sz := hsz
  subst hsz
  have hD := hD0.self (sz := s.heap.size)
  have hA : ∀ q : Nat, s.heap.size ≤ q → (va_A (MW g0 g1 g2 y4 y5 th (n) (w) T P) s.heap.size) q := fun q h => Or.inr h
  have hS : va_S (va_A (MW g0 g1 g2 y4 y5 th (n) (w) T P) s.heap.size) s.heap s.heap [] := va_S.rf
  have inn : (nI n).toInt = (n : Int) := nI_toInt (by omega)
  have iww : (nI w).toInt = (w : Int) := nI_toInt (by omega)
  have hf_m := hts (.fieldLink RX2 30 "BlankMatcherModel" "m" "I") (by decide +kernel)
  have hf_n := hts (.fieldLink RX2 24 "BlankMatcherModel" "n" "I") (by decide +kernel)
  have hf_pattern := hts (.fieldLink RX2 13 "BlankMatcherModel" "pattern" "[I") (by decide +kernel)
  have hf_text := hts (.fieldLink RX2 7 "BlankMatcherModel" "text" "[I") (by decide +kernel)
  have hpl : pl n w = n + 1 - w := rfl
  have hin0 : ∀ w ∈ wsX20, w ∈ wsX2_agreement := by decide +kernel
  have g_x1 := rg x1
  have g_x2 := rg x2
  have hl := lv_entry ([.ref g0, .int x1, .int x2]) (n := 5) (Nat.le_of_ble_eq_true rfl)
  rw [lg_entry_eq]
  generalize (lg_sl ([.ref g0, .int x1, .int x2]) ++ List.replicate (5 - (lg_sl ([.ref g0, .int x1, .int x2])).length) Slot.unset).toArray = ls at hl ⊢
  have hl : lv_has ls 5 [(0, .ref g0), (1, .int x1), (2, .int x2)] := hl
  refine lv_iload_n hx hb dX2_agreement_0 rfl (lv_at hl 1 rfl) ?_
  refine z_if_lt (tgt := 28) hx hb dX2_agreement_1 (by decide) rfl (fun c1 => ?_) (fun c1 => ?_)
  · have _u := True.intro
    refine lv_iconst (v := 0) hx hb dX2_agreement_28 (by decide) ?_
    refine lv_istore_n (lv' := [(3, .int 0), (0, .ref g0), (1, .int x1), (2, .int x2)]) hx hb dX2_agreement_29 rfl hl (by decide) rfl (fun ls hl => ?_)
    refine lv_aload_n hx hb dX2_agreement_30 rfl (lv_at hl 1 rfl) ?_
    refine lv_iload_n hx hb dX2_agreement_31 rfl (lv_at hl 0 rfl) ?_
    refine z_if_eq (tgt := 39) hx hb dX2_agreement_32 (by decide) (show (0 : Int32).toInt = 0 by decide) (fun c32 => ?_) (fun c32 => ?_)
    · have _u := True.intro
      refine lv_iconst (v := 1) hx hb dX2_agreement_39 (by decide) ?_
      have hFc := va_free (wc := (MW g0 g1 g2 y4 y5 th (n) (w) T P)) hD hS hA [0, 1, 2] rfl
      refine va_calli (va_runV (As := [.int 1]) (rest := []) ⟨hx, hb, hml, hown, hts⟩ (c_X2_goesWell l D E g0 g1 g2 y4 y5 s.heap.size (n) (w) th T P hn hw hT hPt (hD.weaken (fun _ _ _ _ => trivial)) 1 (1) (Eq.trans (show (1 : Int32).toInt = 1 by decide) (by omega))) (cwV 1 hts gX2_agreement_X2_goesWell rfl rfl rfl (by decide +kernel) ⟨Nat.le_of_ble_eq_true rfl, Nat.le_of_ble_eq_true rfl⟩) ⟨cp.blind, va_recv hK hP (ci := 1) (q0 := 0) rfl rfl, fun U hU hW => ⟨rfl, cp.call hP hK hE hS hFc hU hW⟩⟩ rfl rfl hl.1 rfl (lv_room (Nat.le_of_ble_eq_true rfl)) dX2_agreement_40 ⟨Nat.le_of_ble_eq_true rfl, Nat.le_of_ble_eq_true rfl⟩) hS (fun q _ h => hFc q h) hFc (fun v40 u t H1 locs1 ht hvm e40 hB hz1 hk1 hS => ?_)
      obtain ⟨hP1, hD1⟩ := hB
      rw [ht] at hP1
      obtain ⟨hP, hD⟩ := va_join (wr := []) (w1 := (MW g0 g1 g2 y4 y5 1 (n) (w) T P)) hP hD [0, 1, 2] [] rfl rfl (by decide) (by decide) hk1 hFc hP1 hD1
      have hP : va_P D vwCl (MW g0 g1 g2 y4 y5 1 (n) (w) T P) H1 := hP
      have hD : va_D (va_A (MW g0 g1 g2 y4 y5 th (n) (w) T P) s.heap.size) (MW g0 g1 g2 y4 y5 1 (n) (w) T P) := hD
      generalize H1 = H at hP hS ⊢
      generalize locs1 = locs at hS ⊢
      refine zb_if_ne (tgt := 48) hx hb dX2_agreement_43 (by decide) e40 (fun c43 => ?_) (fun c43 => ?_)
      · have _u := True.intro
        exact absurd c43 (by decide)
      · have _u := True.intro
        refine lv_iconst (v := 0) hx hb dX2_agreement_46 (by decide) ?_
        have hk0 : kAg n w x1.toInt x2.toInt = 1 := by unfold kAg; (repeat' split) <;> omega
        refine W.widen (k := 0) (n := 0) (Nat.le_of_ble_eq_true rfl) (Nat.le_of_ble_eq_true rfl) ?_
        exact W.iret (v := 0) hx hb hr (fun t ht hW => ⟨⟨_, 1, rfl, ⟨(show (1 : Int32).toInt = 1 by decide).trans (by omega), fun h => absurd h (by omega)⟩, ⟨by rw [ht]; exact hP, hD⟩⟩, hS.F ht⟩) hS.2.2 dX2_agreement_47
    · have _u := True.intro
      exfalso; omega
  · have _u := True.intro
    refine lv_iload_n hx hb dX2_agreement_4 rfl (lv_at hl 1 rfl) ?_
    refine lv_aload_n hx hb dX2_agreement_5 rfl (lv_at hl 0 rfl) ?_
    refine va_get (D := D) (ci := 1) (v := .int (nI n)) (C := RX2) (T := TX2) (N := 5) hx hb hts hin0 hown hK hP 0 rfl rfl 3 (by decide) hf_n (fun _ h9 => h9) rfl dX2_agreement_6 ?_
    refine z_icmp_gt (tgt := 28) hx hb dX2_agreement_9 (by decide) rfl inn (fun c9 => ?_) (fun c9 => ?_)
    · have _u := True.intro
      refine lv_iconst (v := 0) hx hb dX2_agreement_28 (by decide) ?_
      refine lv_istore_n (lv' := [(3, .int 0), (0, .ref g0), (1, .int x1), (2, .int x2)]) hx hb dX2_agreement_29 rfl hl (by decide) rfl (fun ls hl => ?_)
      refine lv_aload_n hx hb dX2_agreement_30 rfl (lv_at hl 1 rfl) ?_
      refine lv_iload_n hx hb dX2_agreement_31 rfl (lv_at hl 0 rfl) ?_
      refine z_if_eq (tgt := 39) hx hb dX2_agreement_32 (by decide) (show (0 : Int32).toInt = 0 by decide) (fun c32 => ?_) (fun c32 => ?_)
      · have _u := True.intro
        refine lv_iconst (v := 1) hx hb dX2_agreement_39 (by decide) ?_
        have hFc := va_free (wc := (MW g0 g1 g2 y4 y5 th (n) (w) T P)) hD hS hA [0, 1, 2] rfl
        refine va_calli (va_runV (As := [.int 1]) (rest := []) ⟨hx, hb, hml, hown, hts⟩ (c_X2_goesWell l D E g0 g1 g2 y4 y5 s.heap.size (n) (w) th T P hn hw hT hPt (hD.weaken (fun _ _ _ _ => trivial)) 1 (1) (Eq.trans (show (1 : Int32).toInt = 1 by decide) (by omega))) (cwV 1 hts gX2_agreement_X2_goesWell rfl rfl rfl (by decide +kernel) ⟨Nat.le_of_ble_eq_true rfl, Nat.le_of_ble_eq_true rfl⟩) ⟨cp.blind, va_recv hK hP (ci := 1) (q0 := 0) rfl rfl, fun U hU hW => ⟨rfl, cp.call hP hK hE hS hFc hU hW⟩⟩ rfl rfl hl.1 rfl (lv_room (Nat.le_of_ble_eq_true rfl)) dX2_agreement_40 ⟨Nat.le_of_ble_eq_true rfl, Nat.le_of_ble_eq_true rfl⟩) hS (fun q _ h => hFc q h) hFc (fun v40 u t H1 locs1 ht hvm e40 hB hz1 hk1 hS => ?_)
        obtain ⟨hP1, hD1⟩ := hB
        rw [ht] at hP1
        obtain ⟨hP, hD⟩ := va_join (wr := []) (w1 := (MW g0 g1 g2 y4 y5 1 (n) (w) T P)) hP hD [0, 1, 2] [] rfl rfl (by decide) (by decide) hk1 hFc hP1 hD1
        have hP : va_P D vwCl (MW g0 g1 g2 y4 y5 1 (n) (w) T P) H1 := hP
        have hD : va_D (va_A (MW g0 g1 g2 y4 y5 th (n) (w) T P) s.heap.size) (MW g0 g1 g2 y4 y5 1 (n) (w) T P) := hD
        generalize H1 = H at hP hS ⊢
        generalize locs1 = locs at hS ⊢
        refine zb_if_ne (tgt := 48) hx hb dX2_agreement_43 (by decide) e40 (fun c43 => ?_) (fun c43 => ?_)
        · have _u := True.intro
          exact absurd c43 (by decide)
        · have _u := True.intro
          refine lv_iconst (v := 0) hx hb dX2_agreement_46 (by decide) ?_
          have hk0 : kAg n w x1.toInt x2.toInt = 1 := by unfold kAg; (repeat' split) <;> omega
          refine W.widen (k := 0) (n := 0) (Nat.le_of_ble_eq_true rfl) (Nat.le_of_ble_eq_true rfl) ?_
          exact W.iret (v := 0) hx hb hr (fun t ht hW => ⟨⟨_, 1, rfl, ⟨(show (1 : Int32).toInt = 1 by decide).trans (by omega), fun h => absurd h (by omega)⟩, ⟨by rw [ht]; exact hP, hD⟩⟩, hS.F ht⟩) hS.2.2 dX2_agreement_47
      · have _u := True.intro
        exfalso; omega
    · have _u := True.intro
      refine lv_iload_n hx hb dX2_agreement_12 rfl (lv_at hl 2 rfl) ?_
      refine z_if_lt (tgt := 28) hx hb dX2_agreement_13 (by decide) rfl (fun c13 => ?_) (fun c13 => ?_)
      · have _u := True.intro
        refine lv_iconst (v := 0) hx hb dX2_agreement_28 (by decide) ?_
        refine lv_istore_n (lv' := [(3, .int 0), (0, .ref g0), (1, .int x1), (2, .int x2)]) hx hb dX2_agreement_29 rfl hl (by decide) rfl (fun ls hl => ?_)
        refine lv_aload_n hx hb dX2_agreement_30 rfl (lv_at hl 1 rfl) ?_
        refine lv_iload_n hx hb dX2_agreement_31 rfl (lv_at hl 0 rfl) ?_
        refine z_if_eq (tgt := 39) hx hb dX2_agreement_32 (by decide) (show (0 : Int32).toInt = 0 by decide) (fun c32 => ?_) (fun c32 => ?_)
        · have _u := True.intro
          refine lv_iconst (v := 1) hx hb dX2_agreement_39 (by decide) ?_
          have hFc := va_free (wc := (MW g0 g1 g2 y4 y5 th (n) (w) T P)) hD hS hA [0, 1, 2] rfl
          refine va_calli (va_runV (As := [.int 1]) (rest := []) ⟨hx, hb, hml, hown, hts⟩ (c_X2_goesWell l D E g0 g1 g2 y4 y5 s.heap.size (n) (w) th T P hn hw hT hPt (hD.weaken (fun _ _ _ _ => trivial)) 1 (1) (Eq.trans (show (1 : Int32).toInt = 1 by decide) (by omega))) (cwV 1 hts gX2_agreement_X2_goesWell rfl rfl rfl (by decide +kernel) ⟨Nat.le_of_ble_eq_true rfl, Nat.le_of_ble_eq_true rfl⟩) ⟨cp.blind, va_recv hK hP (ci := 1) (q0 := 0) rfl rfl, fun U hU hW => ⟨rfl, cp.call hP hK hE hS hFc hU hW⟩⟩ rfl rfl hl.1 rfl (lv_room (Nat.le_of_ble_eq_true rfl)) dX2_agreement_40 ⟨Nat.le_of_ble_eq_true rfl, Nat.le_of_ble_eq_true rfl⟩) hS (fun q _ h => hFc q h) hFc (fun v40 u t H1 locs1 ht hvm e40 hB hz1 hk1 hS => ?_)
          obtain ⟨hP1, hD1⟩ := hB
          rw [ht] at hP1
          obtain ⟨hP, hD⟩ := va_join (wr := []) (w1 := (MW g0 g1 g2 y4 y5 1 (n) (w) T P)) hP hD [0, 1, 2] [] rfl rfl (by decide) (by decide) hk1 hFc hP1 hD1
          have hP : va_P D vwCl (MW g0 g1 g2 y4 y5 1 (n) (w) T P) H1 := hP
          have hD : va_D (va_A (MW g0 g1 g2 y4 y5 th (n) (w) T P) s.heap.size) (MW g0 g1 g2 y4 y5 1 (n) (w) T P) := hD
          generalize H1 = H at hP hS ⊢
          generalize locs1 = locs at hS ⊢
          refine zb_if_ne (tgt := 48) hx hb dX2_agreement_43 (by decide) e40 (fun c43 => ?_) (fun c43 => ?_)
          · have _u := True.intro
            exact absurd c43 (by decide)
          · have _u := True.intro
            refine lv_iconst (v := 0) hx hb dX2_agreement_46 (by decide) ?_
            have hk0 : kAg n w x1.toInt x2.toInt = 1 := by unfold kAg; (repeat' split) <;> omega
            refine W.widen (k := 0) (n := 0) (Nat.le_of_ble_eq_true rfl) (Nat.le_of_ble_eq_true rfl) ?_
            exact W.iret (v := 0) hx hb hr (fun t ht hW => ⟨⟨_, 1, rfl, ⟨(show (1 : Int32).toInt = 1 by decide).trans (by omega), fun h => absurd h (by omega)⟩, ⟨by rw [ht]; exact hP, hD⟩⟩, hS.F ht⟩) hS.2.2 dX2_agreement_47
        · have _u := True.intro
          exfalso; omega
      · have _u := True.intro
        refine lv_iload_n hx hb dX2_agreement_16 rfl (lv_at hl 2 rfl) ?_
        refine lv_aload_n hx hb dX2_agreement_17 rfl (lv_at hl 0 rfl) ?_
        refine va_get (D := D) (ci := 1) (v := .int (nI w)) (C := RX2) (T := TX2) (N := 5) hx hb hts hin0 hown hK hP 0 rfl rfl 4 (by decide) hf_m (fun _ h9 => h9) rfl dX2_agreement_18 ?_
        refine z_icmp_gt (tgt := 28) hx hb dX2_agreement_21 (by decide) rfl iww (fun c21 => ?_) (fun c21 => ?_)
        · have _u := True.intro
          refine lv_iconst (v := 0) hx hb dX2_agreement_28 (by decide) ?_
          refine lv_istore_n (lv' := [(3, .int 0), (0, .ref g0), (1, .int x1), (2, .int x2)]) hx hb dX2_agreement_29 rfl hl (by decide) rfl (fun ls hl => ?_)
          refine lv_aload_n hx hb dX2_agreement_30 rfl (lv_at hl 1 rfl) ?_
          refine lv_iload_n hx hb dX2_agreement_31 rfl (lv_at hl 0 rfl) ?_
          refine z_if_eq (tgt := 39) hx hb dX2_agreement_32 (by decide) (show (0 : Int32).toInt = 0 by decide) (fun c32 => ?_) (fun c32 => ?_)
          · have _u := True.intro
            refine lv_iconst (v := 1) hx hb dX2_agreement_39 (by decide) ?_
            have hFc := va_free (wc := (MW g0 g1 g2 y4 y5 th (n) (w) T P)) hD hS hA [0, 1, 2] rfl
            refine va_calli (va_runV (As := [.int 1]) (rest := []) ⟨hx, hb, hml, hown, hts⟩ (c_X2_goesWell l D E g0 g1 g2 y4 y5 s.heap.size (n) (w) th T P hn hw hT hPt (hD.weaken (fun _ _ _ _ => trivial)) 1 (1) (Eq.trans (show (1 : Int32).toInt = 1 by decide) (by omega))) (cwV 1 hts gX2_agreement_X2_goesWell rfl rfl rfl (by decide +kernel) ⟨Nat.le_of_ble_eq_true rfl, Nat.le_of_ble_eq_true rfl⟩) ⟨cp.blind, va_recv hK hP (ci := 1) (q0 := 0) rfl rfl, fun U hU hW => ⟨rfl, cp.call hP hK hE hS hFc hU hW⟩⟩ rfl rfl hl.1 rfl (lv_room (Nat.le_of_ble_eq_true rfl)) dX2_agreement_40 ⟨Nat.le_of_ble_eq_true rfl, Nat.le_of_ble_eq_true rfl⟩) hS (fun q _ h => hFc q h) hFc (fun v40 u t H1 locs1 ht hvm e40 hB hz1 hk1 hS => ?_)
            obtain ⟨hP1, hD1⟩ := hB
            rw [ht] at hP1
            obtain ⟨hP, hD⟩ := va_join (wr := []) (w1 := (MW g0 g1 g2 y4 y5 1 (n) (w) T P)) hP hD [0, 1, 2] [] rfl rfl (by decide) (by decide) hk1 hFc hP1 hD1
            have hP : va_P D vwCl (MW g0 g1 g2 y4 y5 1 (n) (w) T P) H1 := hP
            have hD : va_D (va_A (MW g0 g1 g2 y4 y5 th (n) (w) T P) s.heap.size) (MW g0 g1 g2 y4 y5 1 (n) (w) T P) := hD
            generalize H1 = H at hP hS ⊢
            generalize locs1 = locs at hS ⊢
            refine zb_if_ne (tgt := 48) hx hb dX2_agreement_43 (by decide) e40 (fun c43 => ?_) (fun c43 => ?_)
            · have _u := True.intro
              exact absurd c43 (by decide)
            · have _u := True.intro
              refine lv_iconst (v := 0) hx hb dX2_agreement_46 (by decide) ?_
              have hk0 : kAg n w x1.toInt x2.toInt = 1 := by unfold kAg; (repeat' split) <;> omega
              refine W.widen (k := 0) (n := 0) (Nat.le_of_ble_eq_true rfl) (Nat.le_of_ble_eq_true rfl) ?_
              exact W.iret (v := 0) hx hb hr (fun t ht hW => ⟨⟨_, 1, rfl, ⟨(show (1 : Int32).toInt = 1 by decide).trans (by omega), fun h => absurd h (by omega)⟩, ⟨by rw [ht]; exact hP, hD⟩⟩, hS.F ht⟩) hS.2.2 dX2_agreement_47
          · have _u := True.intro
            exfalso; omega
        · have _u := True.intro
          refine lv_iconst (v := 1) hx hb dX2_agreement_24 (by decide) ?_
          refine lv_goto (tgt := 29) hx hb dX2_agreement_25 (by decide) ?_
          refine lv_istore_n (lv' := [(3, .int 1), (0, .ref g0), (1, .int x1), (2, .int x2)]) hx hb dX2_agreement_29 rfl hl (by decide) rfl (fun ls hl => ?_)
          refine lv_aload_n hx hb dX2_agreement_30 rfl (lv_at hl 1 rfl) ?_
          refine lv_iload_n hx hb dX2_agreement_31 rfl (lv_at hl 0 rfl) ?_
          refine z_if_eq (tgt := 39) hx hb dX2_agreement_32 (by decide) (show (1 : Int32).toInt = 1 by decide) (fun c32 => ?_) (fun c32 => ?_)
          · have _u := True.intro
            exfalso; omega
          · have _u := True.intro
            refine lv_iconst (v := 0) hx hb dX2_agreement_35 (by decide) ?_
            refine lv_goto (tgt := 40) hx hb dX2_agreement_36 (by decide) ?_
            have hFc := va_free (wc := (MW g0 g1 g2 y4 y5 th (n) (w) T P)) hD hS hA [0, 1, 2] rfl
            refine va_calli (va_runV (As := [.int 0]) (rest := []) ⟨hx, hb, hml, hown, hts⟩ (c_X2_goesWell l D E g0 g1 g2 y4 y5 s.heap.size (n) (w) th T P hn hw hT hPt (hD.weaken (fun _ _ _ _ => trivial)) 0 (0) (Eq.trans (show (0 : Int32).toInt = 0 by decide) (by omega))) (cwV 1 hts gX2_agreement_X2_goesWell rfl rfl rfl (by decide +kernel) ⟨Nat.le_of_ble_eq_true rfl, Nat.le_of_ble_eq_true rfl⟩) ⟨cp.blind, va_recv hK hP (ci := 1) (q0 := 0) rfl rfl, fun U hU hW => ⟨rfl, cp.call hP hK hE hS hFc hU hW⟩⟩ rfl rfl hl.1 rfl (lv_room (Nat.le_of_ble_eq_true rfl)) dX2_agreement_40 ⟨Nat.le_of_ble_eq_true rfl, Nat.le_of_ble_eq_true rfl⟩) hS (fun q _ h => hFc q h) hFc (fun v40 u t H1 locs1 ht hvm e40 hB hz1 hk1 hS => ?_)
            obtain ⟨hP1, hD1⟩ := hB
            rw [ht] at hP1
            obtain ⟨hP, hD⟩ := va_join (wr := []) (w1 := (MW g0 g1 g2 y4 y5 0 (n) (w) T P)) hP hD [0, 1, 2] [] rfl rfl (by decide) (by decide) hk1 hFc hP1 hD1
            have hP : va_P D vwCl (MW g0 g1 g2 y4 y5 0 (n) (w) T P) H1 := hP
            have hD : va_D (va_A (MW g0 g1 g2 y4 y5 th (n) (w) T P) s.heap.size) (MW g0 g1 g2 y4 y5 0 (n) (w) T P) := hD
            generalize H1 = H at hP hS ⊢
            generalize locs1 = locs at hS ⊢
            refine zb_if_ne (tgt := 48) hx hb dX2_agreement_43 (by decide) e40 (fun c43 => ?_) (fun c43 => ?_)
            · have _u := True.intro
              refine lv_iconst (v := 0) hx hb dX2_agreement_48 (by decide) ?_
              refine lv_istore (lv' := [(4, .int 0), (3, .int 1), (0, .ref g0), (1, .int x1), (2, .int x2)]) hx hb dX2_agreement_49 hl (by decide) rfl (fun ls hl => ?_)
              have lp51 : ∀ (nf : Nat) (j : Nat) (x4 : Int32), (min (n - x1.toInt.toNat) (w - x2.toInt.toNat)) - j < nf → (j ≤ (min (n - x1.toInt.toNat) (w - x2.toInt.toNat))) → (∀ i, 0 ≤ i → i < j → naf T P x1.toInt.toNat x2.toInt.toNat i = false) → x4.toInt = (j : Int) → ∀ (H : Heap) (locs : List Loc), va_P D vwCl (MW g0 g1 g2 y4 y5 0 (n) (w) T P) H → va_D (va_A (MW g0 g1 g2 y4 y5 th (n) (w) T P) s.heap.size) (MW g0 g1 g2 y4 y5 0 (n) (w) T P) → va_S (va_A (MW g0 g1 g2 y4 y5 th (n) (w) T P) s.heap.size) s.heap H locs → ∀ (ls : Array Slot), lv_has ls 5 [(0, .ref g0), (1, .int x1), (2, .int x2), (4, .int x4)] → W p l e (headSpec wsX2_agreement ({ frames := 1, cells := 0, slots := 0, locals := 21 })).room s m [.ref g0, .int x1, .int x2].toArray below meth c H locs 0 0 (MQ below (va_Qi (fun (r : Int32) (th2 : Int32) => th2.toInt = ((kAg n w x1.toInt x2.toInt : Nat) : Int) ∧ (kAg n w x1.toInt x2.toInt = 0 → r.toInt = ((agr T P n w x1.toInt.toNat x2.toInt.toNat : Nat) : Int))) (fun (th2 : Int32) t => va_P D vwCl (MW g0 g1 g2 y4 y5 th2 (n) (w) T P) t.heap ∧ va_D (va_A (MW g0 g1 g2 y4 y5 th (n) (w) T P) s.heap.size) (MW g0 g1 g2 y4 y5 th2 (n) (w) T P)) (va_A (MW g0 g1 g2 y4 y5 th (n) (w) T P) s.heap.size)) [.ref g0, .int x1, .int x2].toArray s 0 0 (va_A (MW g0 g1 g2 y4 y5 th (n) (w) T P) s.heap.size)) (F0 m 51 ls []) := by
                intro nf
                induction nf with
                | zero => intros; omega
                | succ nf ih51 =>
                  intro j x4 hnf hj hz e_x4 H locs hP hD hS ls hl
                  refine lv_iload_n hx hb dX2_agreement_51 rfl (lv_at hl 1 rfl) ?_
                  refine lv_iload hx hb dX2_agreement_52 (lv_at hl 3 rfl) ?_
                  refine z_iadd hx hb dX2_agreement_54 rfl e_x4 (by omega) (by omega) (fun v54 e54 => ?_)
                  refine lv_aload_n hx hb dX2_agreement_55 rfl (lv_at hl 0 rfl) ?_
                  refine va_get (D := D) (ci := 1) (v := .int (nI n)) (C := RX2) (T := TX2) (N := 5) hx hb hts hin0 hown hK hP 0 rfl rfl 3 (by decide) hf_n (fun _ h9 => h9) rfl dX2_agreement_56 ?_
                  refine z_icmp_ge (tgt := 103) hx hb dX2_agreement_59 (by decide) e54 inn (fun c59 => ?_) (fun c59 => ?_)
                  · have _u := True.intro
                    have qq : agr T P n w x1.toInt.toNat x2.toInt.toNat = j := (fst_no (fun i hi => hz i (Nat.zero_le i) (by omega))).trans (by omega)
                    refine lv_iload hx hb dX2_agreement_103 (lv_at hl 3 rfl) ?_
                    have hk0 : kAg n w x1.toInt x2.toInt = 0 := by unfold kAg; (repeat' split) <;> omega
                    refine W.widen (k := 0) (n := 0) (Nat.le_of_ble_eq_true rfl) (Nat.le_of_ble_eq_true rfl) ?_
                    exact W.iret (v := x4) hx hb hr (fun t ht hW => ⟨⟨_, 0, rfl, ⟨(show (0 : Int32).toInt = 0 by decide).trans (by omega), fun _ => (Eq.trans e_x4 (by rw [qq]))⟩, ⟨by rw [ht]; exact hP, hD⟩⟩, hS.F ht⟩) hS.2.2 dX2_agreement_105
                  · have _u := True.intro
                    refine lv_iload_n hx hb dX2_agreement_62 rfl (lv_at hl 2 rfl) ?_
                    refine lv_iload hx hb dX2_agreement_63 (lv_at hl 3 rfl) ?_
                    refine z_iadd hx hb dX2_agreement_65 rfl e_x4 (by omega) (by omega) (fun v65 e65 => ?_)
                    refine lv_aload_n hx hb dX2_agreement_66 rfl (lv_at hl 0 rfl) ?_
                    refine va_get (D := D) (ci := 1) (v := .int (nI w)) (C := RX2) (T := TX2) (N := 5) hx hb hts hin0 hown hK hP 0 rfl rfl 4 (by decide) hf_m (fun _ h9 => h9) rfl dX2_agreement_67 ?_
                    refine z_icmp_ge (tgt := 103) hx hb dX2_agreement_70 (by decide) e65 iww (fun c70 => ?_) (fun c70 => ?_)
                    · have _u := True.intro
                      have qq : agr T P n w x1.toInt.toNat x2.toInt.toNat = j := (fst_no (fun i hi => hz i (Nat.zero_le i) (by omega))).trans (by omega)
                      refine lv_iload hx hb dX2_agreement_103 (lv_at hl 3 rfl) ?_
                      have hk0 : kAg n w x1.toInt x2.toInt = 0 := by unfold kAg; (repeat' split) <;> omega
                      refine W.widen (k := 0) (n := 0) (Nat.le_of_ble_eq_true rfl) (Nat.le_of_ble_eq_true rfl) ?_
                      exact W.iret (v := x4) hx hb hr (fun t ht hW => ⟨⟨_, 0, rfl, ⟨(show (0 : Int32).toInt = 0 by decide).trans (by omega), fun _ => (Eq.trans e_x4 (by rw [qq]))⟩, ⟨by rw [ht]; exact hP, hD⟩⟩, hS.F ht⟩) hS.2.2 dX2_agreement_105
                    · have _u := True.intro
                      refine lv_aload_n hx hb dX2_agreement_73 rfl (lv_at hl 0 rfl) ?_
                      refine va_get (D := D) (ci := 1) (v := .ref g1) (C := RX2) (T := TX2) (N := 5) hx hb hts hin0 hown hK hP 0 rfl rfl 1 (by decide) hf_text (fun _ h9 => h9) rfl dX2_agreement_74 ?_
                      refine lv_iload_n hx hb dX2_agreement_77 rfl (lv_at hl 1 rfl) ?_
                      refine lv_iload hx hb dX2_agreement_78 (lv_at hl 3 rfl) ?_
                      refine z_iadd hx hb dX2_agreement_80 rfl e_x4 (by omega) (by omega) (fun v80 e80 => ?_)
                      refine z_iald hx hb hK hP 1 0 rfl rfl (x1.toInt.toNat + j) e80 (by omega) (by omega) dX2_agreement_81 ?_
                      refine lv_aload_n hx hb dX2_agreement_82 rfl (lv_at hl 0 rfl) ?_
                      refine va_get (D := D) (ci := 1) (v := .ref g2) (C := RX2) (T := TX2) (N := 5) hx hb hts hin0 hown hK hP 0 rfl rfl 2 (by decide) hf_pattern (fun _ h9 => h9) rfl dX2_agreement_83 ?_
                      refine lv_iload_n hx hb dX2_agreement_86 rfl (lv_at hl 2 rfl) ?_
                      refine lv_iload hx hb dX2_agreement_87 (lv_at hl 3 rfl) ?_
                      refine z_iadd hx hb dX2_agreement_89 rfl e_x4 (by omega) (by omega) (fun v89 e89 => ?_)
                      refine z_iald hx hb hK hP 2 1 rfl rfl (x2.toInt.toNat + j) e89 (by omega) (by omega) dX2_agreement_90 ?_
                      refine va_calli (va_runS (As := [.int (T (x1.toInt.toNat + j)), .int (P (x2.toInt.toNat + j))]) (rest := []) ⟨hx, hb, hml, hown, hts⟩ (c_X2_agree l H.size (T (x1.toInt.toNat + j)) (P (x2.toInt.toNat + j))) (va_cwS 2 hts gX2_agreement_X2_agree rfl rfl rfl (by decide +kernel) ⟨Nat.le_of_ble_eq_true rfl, Nat.le_of_ble_eq_true rfl⟩) ⟨cz.blind, fun U hU hW => ⟨rfl, cz.call hU⟩⟩ rfl rfl hl.1 rfl (lv_room (Nat.le_of_ble_eq_true rfl)) dX2_agreement_91 ⟨Nat.le_of_ble_eq_true rfl, Nat.le_of_ble_eq_true rfl⟩) hS (fun q _ h => (fr0 hS hA) q h) (fr0 hS hA) (fun v91 u t H1 locs1 ht hvm e91 hB hz1 hk1 hS => ?_)
                      have hP := kp hP hk1
                      generalize H1 = H at hP hS ⊢
                      generalize locs1 = locs at hS ⊢
                      refine zb_if_eq (tgt := 103) hx hb dX2_agreement_94 (by decide) e91 (fun c94 => ?_) (fun c94 => ?_)
                      · have _u := True.intro
                        have qq : agr T P n w x1.toInt.toNat x2.toInt.toNat = j := fst_eq (by omega) (naf_t c94) (fun i hi => hz i (Nat.zero_le i) hi)
                        refine lv_iload hx hb dX2_agreement_103 (lv_at hl 3 rfl) ?_
                        have hk0 : kAg n w x1.toInt x2.toInt = 0 := by unfold kAg; (repeat' split) <;> omega
                        refine W.widen (k := 0) (n := 0) (Nat.le_of_ble_eq_true rfl) (Nat.le_of_ble_eq_true rfl) ?_
                        exact W.iret (v := x4) hx hb hr (fun t ht hW => ⟨⟨_, 0, rfl, ⟨(show (0 : Int32).toInt = 0 by decide).trans (by omega), fun _ => (Eq.trans e_x4 (by rw [qq]))⟩, ⟨by rw [ht]; exact hP, hD⟩⟩, hS.F ht⟩) hS.2.2 dX2_agreement_105
                      · have _u := True.intro
                        refine z_iinc (k := 3) (lv' := fun v => [(4, .int v), (0, .ref g0), (1, .int x1), (2, .int x2)]) hx hb dX2_agreement_97 hl rfl e_x4 (by decide) (by omega) (by omega) (by decide) (fun _ => rfl) (fun v97 ls e97 hl => ?_)
                        refine lv_goto (tgt := 51) hx hb dX2_agreement_100 (by decide) ?_
                        exact ih51 (j + 1) v97 (by omega) (by omega) (ltS hz (naf_f c94)) (Eq.trans e97 (by omega)) _ _ hP hD hS _ (lv_sub hl [1, 2, 3, 0] rfl)
              exact lp51 (((min (n - x1.toInt.toNat) (w - x2.toInt.toNat)) - 0) + 1) (0) 0 (by omega) (by omega) (fun i h1 h2 => absurd h1 (by omega)) (Eq.trans (show (0 : Int32).toInt = 0 by decide) (by omega)) _ _ hP hD hS _ (lv_sub hl [2, 3, 4, 0] rfl)
            · have _u := True.intro
              exact absurd c43 (by decide)

set_option maxHeartbeats 4000000 in
set_option maxRecDepth 100000 in
theorem c_X2_within (l : Launch) (D : va_G) (E : Nat × Nat × Nat) (g0 g1 g2 : Nat) (y4 y5 : ClassId) (sz n w : Nat) (th : Int32) (T P : Nat → Int32) (hn : n ≤ 64) (hw : w ≤ 24) (hT : SymF T) (hPt : SymF P) (hD0 : va_D (fun _ => True) (MW g0 g1 g2 y4 y5 th (n) (w) T P)) (x1 : Int32) : Met l yX2_within wsX2_within ({ frames := 2, cells := 0, slots := 0, locals := 44 }) (va_Pc [.ref g0, .int x1] (cp D (MW g0 g1 g2 y4 y5 th (n) (w) T P) (MT y4 y5) E (va_A (MW g0 g1 g2 y4 y5 th (n) (w) T P) sz) sz)) (va_Qi (fun (r : Int32) (th2 : Int32) => th2.toInt = ((kNeg x1.toInt : Nat) : Int) ∧ (kNeg x1.toInt = 0 → r.toInt = ((cnt (wf T P w x1.toInt) (pl n w) : Nat) : Int))) (fun (th2 : Int32) t => va_P D vwCl (MW g0 g1 g2 y4 y5 th2 (n) (w) T P) t.heap ∧ va_D (va_A (MW g0 g1 g2 y4 y5 th (n) (w) T P) sz) (MW g0 g1 g2 y4 y5 th2 (n) (w) T P)) (va_A (MW g0 g1 g2 y4 y5 th (n) (w) T P) sz)) 0 0 (va_A (MW g0 g1 g2 y4 y5 th (n) (w) T P) sz) := by
  refine Met.ofW (cc := cX2_within) (maxL := 4) (ret := (some .int)) (by decide) rfl ?_
  intro p e s m args below meth c s₁ B hml hv
  obtain ⟨rfl, hsz, hP, hK, hE⟩ := hv
  have hx := B.exec
  have hb := B.bytes
  have hr := B.returns
  have hts := atoms_spec (ws := wsX2_within) B.pre
  have hown : s.vm.findClass RX2 = some m.cls := findClass_of_methodNamed B.named
  have hlocks := B.notSynchronized
  have hsz : s.heap.size = sz := hsz
  subst hsz
  have hD := hD0.self (sz := s.heap.size)
  have hA : ∀ q : Nat, s.heap.size ≤ q → (va_A (MW g0 g1 g2 y4 y5 th (n) (w) T P) s.heap.size) q := fun q h => Or.inr h
  have hS : va_S (va_A (MW g0 g1 g2 y4 y5 th (n) (w) T P) s.heap.size) s.heap s.heap [] := va_S.rf
  have inn : (nI n).toInt = (n : Int) := nI_toInt (by omega)
  have iww : (nI w).toInt = (w : Int) := nI_toInt (by omega)
  have hpl : pl n w = n + 1 - w := rfl
  have g_x1 := rg x1
  have hl := lv_entry ([.ref g0, .int x1]) (n := 4) (Nat.le_of_ble_eq_true rfl)
  rw [lg_entry_eq]
  generalize (lg_sl ([.ref g0, .int x1]) ++ List.replicate (4 - (lg_sl ([.ref g0, .int x1])).length) Slot.unset).toArray = ls at hl ⊢
  have hl : lv_has ls 4 [(0, .ref g0), (1, .int x1)] := hl
  refine lv_aload_n hx hb dX2_within_0 rfl (lv_at hl 0 rfl) ?_
  refine lv_iload_n hx hb dX2_within_1 rfl (lv_at hl 1 rfl) ?_
  refine z_if_ge (tgt := 9) hx hb dX2_within_2 (by decide) rfl (fun c2 => ?_) (fun c2 => ?_)
  · have _u := True.intro
    refine lv_iconst (v := 0) hx hb dX2_within_9 (by decide) ?_
    have hFc := va_free (wc := (MW g0 g1 g2 y4 y5 th (n) (w) T P)) hD hS hA [0, 1, 2] rfl
    refine va_calli (va_runV (As := [.int 0]) (rest := []) ⟨hx, hb, hml, hown, hts⟩ (c_X2_goesWell l D E g0 g1 g2 y4 y5 s.heap.size (n) (w) th T P hn hw hT hPt (hD.weaken (fun _ _ _ _ => trivial)) 0 (0) (Eq.trans (show (0 : Int32).toInt = 0 by decide) (by omega))) (cwV 1 hts gX2_within_X2_goesWell rfl rfl rfl (by decide +kernel) ⟨Nat.le_of_ble_eq_true rfl, Nat.le_of_ble_eq_true rfl⟩) ⟨cp.blind, va_recv hK hP (ci := 1) (q0 := 0) rfl rfl, fun U hU hW => ⟨rfl, cp.call hP hK hE hS hFc hU hW⟩⟩ rfl rfl hl.1 rfl (lv_room (Nat.le_of_ble_eq_true rfl)) dX2_within_10 ⟨Nat.le_of_ble_eq_true rfl, Nat.le_of_ble_eq_true rfl⟩) hS (fun q _ h => hFc q h) hFc (fun v10 u t H1 locs1 ht hvm e10 hB hz1 hk1 hS => ?_)
    obtain ⟨hP1, hD1⟩ := hB
    rw [ht] at hP1
    obtain ⟨hP, hD⟩ := va_join (wr := []) (w1 := (MW g0 g1 g2 y4 y5 0 (n) (w) T P)) hP hD [0, 1, 2] [] rfl rfl (by decide) (by decide) hk1 hFc hP1 hD1
    have hP : va_P D vwCl (MW g0 g1 g2 y4 y5 0 (n) (w) T P) H1 := hP
    have hD : va_D (va_A (MW g0 g1 g2 y4 y5 th (n) (w) T P) s.heap.size) (MW g0 g1 g2 y4 y5 0 (n) (w) T P) := hD
    generalize H1 = H at hP hS ⊢
    generalize locs1 = locs at hS ⊢
    refine zb_if_ne (tgt := 18) hx hb dX2_within_13 (by decide) e10 (fun c13 => ?_) (fun c13 => ?_)
    · have _u := True.intro
      refine lv_iconst (v := 0) hx hb dX2_within_18 (by decide) ?_
      refine lv_istore_n (lv' := [(2, .int 0), (0, .ref g0), (1, .int x1)]) hx hb dX2_within_19 rfl hl (by decide) rfl (fun ls hl => ?_)
      refine lv_iconst (v := 0) hx hb dX2_within_20 (by decide) ?_
      refine lv_istore_n (lv' := [(3, .int 0), (2, .int 0), (0, .ref g0), (1, .int x1)]) hx hb dX2_within_21 rfl hl (by decide) rfl (fun ls hl => ?_)
      have lp22 : ∀ (nf : Nat) (j : Nat) (x2 : Int32) (x3 : Int32), pl n w - j < nf → (j ≤ pl n w) → x2.toInt = ((cnt (wf T P w x1.toInt) j : Nat) : Int) → x3.toInt = (j : Int) → ∀ (H : Heap) (locs : List Loc), va_P D vwCl (MW g0 g1 g2 y4 y5 0 (n) (w) T P) H → va_D (va_A (MW g0 g1 g2 y4 y5 th (n) (w) T P) s.heap.size) (MW g0 g1 g2 y4 y5 0 (n) (w) T P) → va_S (va_A (MW g0 g1 g2 y4 y5 th (n) (w) T P) s.heap.size) s.heap H locs → ∀ (ls : Array Slot), lv_has ls 4 [(0, .ref g0), (1, .int x1), (2, .int x2), (3, .int x3)] → W p l e (headSpec wsX2_within ({ frames := 2, cells := 0, slots := 0, locals := 44 })).room s m [.ref g0, .int x1].toArray below meth c H locs 0 0 (MQ below (va_Qi (fun (r : Int32) (th2 : Int32) => th2.toInt = ((kNeg x1.toInt : Nat) : Int) ∧ (kNeg x1.toInt = 0 → r.toInt = ((cnt (wf T P w x1.toInt) (pl n w) : Nat) : Int))) (fun (th2 : Int32) t => va_P D vwCl (MW g0 g1 g2 y4 y5 th2 (n) (w) T P) t.heap ∧ va_D (va_A (MW g0 g1 g2 y4 y5 th (n) (w) T P) s.heap.size) (MW g0 g1 g2 y4 y5 th2 (n) (w) T P)) (va_A (MW g0 g1 g2 y4 y5 th (n) (w) T P) s.heap.size)) [.ref g0, .int x1].toArray s 0 0 (va_A (MW g0 g1 g2 y4 y5 th (n) (w) T P) s.heap.size)) (F0 m 22 ls []) := by
        intro nf
        induction nf with
        | zero => intros; omega
        | succ nf ih22 =>
          intro j x2 x3 hnf hj e_x2 e_x3 H locs hP hD hS ls hl
          have hcl := cnt_le (wf T P w x1.toInt) j
          refine lv_iload_n hx hb dX2_within_22 rfl (lv_at hl 3 rfl) ?_
          refine lv_aload_n hx hb dX2_within_23 rfl (lv_at hl 0 rfl) ?_
          refine va_calli (va_runV (As := []) (rest := [.int x3]) ⟨hx, hb, hml, hown, hts⟩ (c_X2_placeMany l D E g0 g1 g2 y4 y5 H.size (n) (w) 0 T P hn hw hT hPt) (cwV 0 hts gX2_within_X2_placeMany rfl rfl rfl (by decide +kernel) ⟨Nat.le_of_ble_eq_true rfl, Nat.le_of_ble_eq_true rfl⟩) ⟨cp.blind, va_recv hK hP (ci := 1) (q0 := 0) rfl rfl, fun U hU hW => ⟨rfl, cp.call hP hK hE hS (fr0 hS hA) hU hW⟩⟩ rfl rfl hl.1 rfl (lv_room (Nat.le_of_ble_eq_true rfl)) dX2_within_24 ⟨Nat.le_of_ble_eq_true rfl, Nat.le_of_ble_eq_true rfl⟩) hS (fun q _ h => (fr0 hS hA) q h) (fr0 hS hA) (fun v24 u t H1 locs1 ht hvm e24 hB hz1 hk1 hS => ?_)
          have hP := kp hP hk1
          generalize H1 = H at hP hS ⊢
          generalize locs1 = locs at hS ⊢
          refine z_icmp_ge (tgt := 53) hx hb dX2_within_27 (by decide) e_x3 e24 (fun c27 => ?_) (fun c27 => ?_)
          · have _u := True.intro
            refine lv_iload_n hx hb dX2_within_53 rfl (lv_at hl 2 rfl) ?_
            have hk0 : kNeg x1.toInt = 0 := by unfold kNeg; (repeat' split) <;> omega
            refine W.widen (k := 0) (n := 0) (Nat.le_of_ble_eq_true rfl) (Nat.le_of_ble_eq_true rfl) ?_
            exact W.iret (v := x2) hx hb hr (fun t ht hW => ⟨⟨_, 0, rfl, ⟨(show (0 : Int32).toInt = 0 by decide).trans (by omega), fun _ => (Eq.trans e_x2 (by have q : j = pl n w := (by omega); rw [q]))⟩, ⟨by rw [ht]; exact hP, hD⟩⟩, hS.F ht⟩) hS.2.2 dX2_within_54
          · have _u := True.intro
            refine lv_iload_n hx hb dX2_within_30 rfl (lv_at hl 2 rfl) ?_
            refine lv_aload_n hx hb dX2_within_31 rfl (lv_at hl 0 rfl) ?_
            refine lv_iload_n hx hb dX2_within_32 rfl (lv_at hl 3 rfl) ?_
            refine va_calli (va_runV (As := [.int x3]) (rest := [.int x2]) ⟨hx, hb, hml, hown, hts⟩ (c_X2_countAt l D E g0 g1 g2 y4 y5 H.size (n) (w) 0 T P hn hw hT hPt x3 (j) (Eq.trans e_x3 (by omega)) (by omega)) (cwV 1 hts gX2_within_X2_countAt rfl rfl rfl (by decide +kernel) ⟨Nat.le_of_ble_eq_true rfl, Nat.le_of_ble_eq_true rfl⟩) ⟨cp.blind, va_recv hK hP (ci := 1) (q0 := 0) rfl rfl, fun U hU hW => ⟨rfl, cp.call hP hK hE hS (fr0 hS hA) hU hW⟩⟩ rfl rfl hl.1 rfl (lv_room (Nat.le_of_ble_eq_true rfl)) dX2_within_33 ⟨Nat.le_of_ble_eq_true rfl, Nat.le_of_ble_eq_true rfl⟩) hS (fun q _ h => (fr0 hS hA) q h) (fr0 hS hA) (fun v33 u t H1 locs1 ht hvm e33 hB hz1 hk1 hS => ?_)
            have hP := kp hP hk1
            generalize H1 = H at hP hS ⊢
            generalize locs1 = locs at hS ⊢
            refine lv_iload_n hx hb dX2_within_36 rfl (lv_at hl 1 rfl) ?_
            refine z_icmp_gt (tgt := 44) hx hb dX2_within_37 (by decide) e33 rfl (fun c37 => ?_) (fun c37 => ?_)
            · have _u := True.intro
              have q := cnt_f (f := wf T P w x1.toInt) (k := j) (decide_eq_false (by omega))
              refine lv_iconst (v := 0) hx hb dX2_within_44 (by decide) ?_
              refine z_iadd hx hb dX2_within_45 e_x2 (show (0 : Int32).toInt = 0 by decide) (by omega) (by omega) (fun v45 e45 => ?_)
              refine lv_istore_n (lv' := [(2, .int v45), (0, .ref g0), (1, .int x1), (3, .int x3)]) hx hb dX2_within_46 rfl hl (by decide) rfl (fun ls hl => ?_)
              refine z_iinc (k := 3) (lv' := fun v => [(3, .int v), (2, .int v45), (0, .ref g0), (1, .int x1)]) hx hb dX2_within_47 hl rfl e_x3 (by decide) (by omega) (by omega) (by decide) (fun _ => rfl) (fun v47 ls e47 hl => ?_)
              refine lv_goto (tgt := 22) hx hb dX2_within_50 (by decide) ?_
              exact ih22 (j + 1) v45 v47 (by omega) (by omega) (Eq.trans e45 (by omega)) (Eq.trans e47 (by omega)) _ _ hP hD hS _ (lv_sub hl [2, 3, 1, 0] rfl)
            · have _u := True.intro
              have q := cnt_t (f := wf T P w x1.toInt) (k := j) (decide_eq_true (by omega))
              refine lv_iconst (v := 1) hx hb dX2_within_40 (by decide) ?_
              refine lv_goto (tgt := 45) hx hb dX2_within_41 (by decide) ?_
              refine z_iadd hx hb dX2_within_45 e_x2 (show (1 : Int32).toInt = 1 by decide) (by omega) (by omega) (fun v45 e45 => ?_)
              refine lv_istore_n (lv' := [(2, .int v45), (0, .ref g0), (1, .int x1), (3, .int x3)]) hx hb dX2_within_46 rfl hl (by decide) rfl (fun ls hl => ?_)
              refine z_iinc (k := 3) (lv' := fun v => [(3, .int v), (2, .int v45), (0, .ref g0), (1, .int x1)]) hx hb dX2_within_47 hl rfl e_x3 (by decide) (by omega) (by omega) (by decide) (fun _ => rfl) (fun v47 ls e47 hl => ?_)
              refine lv_goto (tgt := 22) hx hb dX2_within_50 (by decide) ?_
              exact ih22 (j + 1) v45 v47 (by omega) (by omega) (Eq.trans e45 (by omega)) (Eq.trans e47 (by omega)) _ _ hP hD hS _ (lv_sub hl [2, 3, 1, 0] rfl)
      have hc0 := cnt_0 (wf T P w x1.toInt)
      exact lp22 ((pl n w - 0) + 1) (0) 0 0 (by omega) (by omega) (Eq.trans (show (0 : Int32).toInt = 0 by decide) (by omega)) (Eq.trans (show (0 : Int32).toInt = 0 by decide) (by omega)) _ _ hP hD hS _ (lv_sub hl [2, 3, 1, 0] rfl)
    · have _u := True.intro
      exact absurd c13 (by decide)
  · have _u := True.intro
    refine lv_iconst (v := 1) hx hb dX2_within_5 (by decide) ?_
    refine lv_goto (tgt := 10) hx hb dX2_within_6 (by decide) ?_
    have hFc := va_free (wc := (MW g0 g1 g2 y4 y5 th (n) (w) T P)) hD hS hA [0, 1, 2] rfl
    refine va_calli (va_runV (As := [.int 1]) (rest := []) ⟨hx, hb, hml, hown, hts⟩ (c_X2_goesWell l D E g0 g1 g2 y4 y5 s.heap.size (n) (w) th T P hn hw hT hPt (hD.weaken (fun _ _ _ _ => trivial)) 1 (1) (Eq.trans (show (1 : Int32).toInt = 1 by decide) (by omega))) (cwV 1 hts gX2_within_X2_goesWell rfl rfl rfl (by decide +kernel) ⟨Nat.le_of_ble_eq_true rfl, Nat.le_of_ble_eq_true rfl⟩) ⟨cp.blind, va_recv hK hP (ci := 1) (q0 := 0) rfl rfl, fun U hU hW => ⟨rfl, cp.call hP hK hE hS hFc hU hW⟩⟩ rfl rfl hl.1 rfl (lv_room (Nat.le_of_ble_eq_true rfl)) dX2_within_10 ⟨Nat.le_of_ble_eq_true rfl, Nat.le_of_ble_eq_true rfl⟩) hS (fun q _ h => hFc q h) hFc (fun v10 u t H1 locs1 ht hvm e10 hB hz1 hk1 hS => ?_)
    obtain ⟨hP1, hD1⟩ := hB
    rw [ht] at hP1
    obtain ⟨hP, hD⟩ := va_join (wr := []) (w1 := (MW g0 g1 g2 y4 y5 1 (n) (w) T P)) hP hD [0, 1, 2] [] rfl rfl (by decide) (by decide) hk1 hFc hP1 hD1
    have hP : va_P D vwCl (MW g0 g1 g2 y4 y5 1 (n) (w) T P) H1 := hP
    have hD : va_D (va_A (MW g0 g1 g2 y4 y5 th (n) (w) T P) s.heap.size) (MW g0 g1 g2 y4 y5 1 (n) (w) T P) := hD
    generalize H1 = H at hP hS ⊢
    generalize locs1 = locs at hS ⊢
    refine zb_if_ne (tgt := 18) hx hb dX2_within_13 (by decide) e10 (fun c13 => ?_) (fun c13 => ?_)
    · have _u := True.intro
      exact absurd c13 (by decide)
    · have _u := True.intro
      refine lv_iconst (v := 0) hx hb dX2_within_16 (by decide) ?_
      have hk0 : kNeg x1.toInt = 1 := by unfold kNeg; (repeat' split) <;> omega
      refine W.widen (k := 0) (n := 0) (Nat.le_of_ble_eq_true rfl) (Nat.le_of_ble_eq_true rfl) ?_
      exact W.iret (v := 0) hx hb hr (fun t ht hW => ⟨⟨_, 1, rfl, ⟨(show (1 : Int32).toInt = 1 by decide).trans (by omega), fun h => absurd h (by omega)⟩, ⟨by rw [ht]; exact hP, hD⟩⟩, hS.F ht⟩) hS.2.2 dX2_within_17

set_option maxHeartbeats 4000000 in
set_option maxRecDepth 100000 in
theorem c_X2_ranked (l : Launch) (D : va_G) (E : Nat × Nat × Nat) (g0 g1 g2 : Nat) (y4 y5 : ClassId) (sz n w : Nat) (th : Int32) (T P : Nat → Int32) (hn : n ≤ 64) (hw : w ≤ 24) (hT : SymF T) (hPt : SymF P) (hD0 : va_D (fun _ => True) (MW g0 g1 g2 y4 y5 th (n) (w) T P)) (x1 : Int32) : Met l yX2_ranked wsX2_ranked ({ frames := 2, cells := 0, slots := 0, locals := 44 }) (va_Pc [.ref g0, .int x1] (cp D (MW g0 g1 g2 y4 y5 th (n) (w) T P) (MT y4 y5) E (va_A (MW g0 g1 g2 y4 y5 th (n) (w) T P) sz) sz)) (va_Qi (fun (r : Int32) (th2 : Int32) => th2.toInt = ((kPl (pl n w) x1.toInt : Nat) : Int) ∧ (kPl (pl n w) x1.toInt = 0 → r.toInt = ((rkP (fun p => mis T P p w) (pl n w) x1.toInt.toNat : Nat) : Int))) (fun (th2 : Int32) t => va_P D vwCl (MW g0 g1 g2 y4 y5 th2 (n) (w) T P) t.heap ∧ va_D (va_A (MW g0 g1 g2 y4 y5 th (n) (w) T P) sz) (MW g0 g1 g2 y4 y5 th2 (n) (w) T P)) (va_A (MW g0 g1 g2 y4 y5 th (n) (w) T P) sz)) 0 0 (va_A (MW g0 g1 g2 y4 y5 th (n) (w) T P) sz) := by
  refine Met.ofW (cc := cX2_ranked) (maxL := 5) (ret := (some .int)) (by decide) rfl ?_
  intro p e s m args below meth c s₁ B hml hv
  obtain ⟨rfl, hsz, hP, hK, hE⟩ := hv
  have hx := B.exec
  have hb := B.bytes
  have hr := B.returns
  have hts := atoms_spec (ws := wsX2_ranked) B.pre
  have hown : s.vm.findClass RX2 = some m.cls := findClass_of_methodNamed B.named
  have hlocks := B.notSynchronized
  have hsz : s.heap.size = sz := hsz
  subst hsz
  have hD := hD0.self (sz := s.heap.size)
  have hA : ∀ q : Nat, s.heap.size ≤ q → (va_A (MW g0 g1 g2 y4 y5 th (n) (w) T P) s.heap.size) q := fun q h => Or.inr h
  have hS : va_S (va_A (MW g0 g1 g2 y4 y5 th (n) (w) T P) s.heap.size) s.heap s.heap [] := va_S.rf
  have inn : (nI n).toInt = (n : Int) := nI_toInt (by omega)
  have iww : (nI w).toInt = (w : Int) := nI_toInt (by omega)
  have hpl : pl n w = n + 1 - w := rfl
  have g_x1 := rg x1
  have hl := lv_entry ([.ref g0, .int x1]) (n := 5) (Nat.le_of_ble_eq_true rfl)
  rw [lg_entry_eq]
  generalize (lg_sl ([.ref g0, .int x1]) ++ List.replicate (5 - (lg_sl ([.ref g0, .int x1])).length) Slot.unset).toArray = ls at hl ⊢
  have hl : lv_has ls 5 [(0, .ref g0), (1, .int x1)] := hl
  refine lv_aload_n hx hb dX2_ranked_0 rfl (lv_at hl 0 rfl) ?_
  refine lv_aload_n hx hb dX2_ranked_1 rfl (lv_at hl 0 rfl) ?_
  refine lv_iload_n hx hb dX2_ranked_2 rfl (lv_at hl 1 rfl) ?_
  refine va_calli (va_runV (As := [.int x1]) (rest := [.ref g0]) ⟨hx, hb, hml, hown, hts⟩ (c_X2_isPlace l D E g0 g1 g2 y4 y5 s.heap.size (n) (w) th T P hn hw hT hPt x1) (cwV 1 hts gX2_ranked_X2_isPlace rfl rfl rfl (by decide +kernel) ⟨Nat.le_of_ble_eq_true rfl, Nat.le_of_ble_eq_true rfl⟩) ⟨cp.blind, va_recv hK hP (ci := 1) (q0 := 0) rfl rfl, fun U hU hW => ⟨rfl, cp.call hP hK hE hS (fr0 hS hA) hU hW⟩⟩ rfl rfl hl.1 rfl (lv_room (Nat.le_of_ble_eq_true rfl)) dX2_ranked_3 ⟨Nat.le_of_ble_eq_true rfl, Nat.le_of_ble_eq_true rfl⟩) hS (fun q _ h => (fr0 hS hA) q h) (fr0 hS hA) (fun v3 u t H1 locs1 ht hvm e3 hB hz1 hk1 hS => ?_)
  have hP := kp hP hk1
  generalize H1 = H at hP hS ⊢
  generalize locs1 = locs at hS ⊢
  refine zb_if_eq (tgt := 13) hx hb dX2_ranked_6 (by decide) e3 (fun c6 => ?_) (fun c6 => ?_)
  · have _u := True.intro
    have d6 := of_decide_eq_false c6
    refine lv_iconst (v := 1) hx hb dX2_ranked_13 (by decide) ?_
    have hFc := va_free (wc := (MW g0 g1 g2 y4 y5 th (n) (w) T P)) hD hS hA [0, 1, 2] rfl
    refine va_calli (va_runV (As := [.int 1]) (rest := []) ⟨hx, hb, hml, hown, hts⟩ (c_X2_goesWell l D E g0 g1 g2 y4 y5 H.size (n) (w) th T P hn hw hT hPt (hD.weaken (fun _ _ _ _ => trivial)) 1 (1) (Eq.trans (show (1 : Int32).toInt = 1 by decide) (by omega))) (cwV 1 hts gX2_ranked_X2_goesWell rfl rfl rfl (by decide +kernel) ⟨Nat.le_of_ble_eq_true rfl, Nat.le_of_ble_eq_true rfl⟩) ⟨cp.blind, va_recv hK hP (ci := 1) (q0 := 0) rfl rfl, fun U hU hW => ⟨rfl, cp.call hP hK hE hS hFc hU hW⟩⟩ rfl rfl hl.1 rfl (lv_room (Nat.le_of_ble_eq_true rfl)) dX2_ranked_14 ⟨Nat.le_of_ble_eq_true rfl, Nat.le_of_ble_eq_true rfl⟩) hS (fun q _ h => hFc q h) hFc (fun v14 u t H1 locs1 ht hvm e14 hB hz1 hk1 hS => ?_)
    obtain ⟨hP1, hD1⟩ := hB
    rw [ht] at hP1
    obtain ⟨hP, hD⟩ := va_join (wr := []) (w1 := (MW g0 g1 g2 y4 y5 1 (n) (w) T P)) hP hD [0, 1, 2] [] rfl rfl (by decide) (by decide) hk1 hFc hP1 hD1
    have hP : va_P D vwCl (MW g0 g1 g2 y4 y5 1 (n) (w) T P) H1 := hP
    have hD : va_D (va_A (MW g0 g1 g2 y4 y5 th (n) (w) T P) s.heap.size) (MW g0 g1 g2 y4 y5 1 (n) (w) T P) := hD
    generalize H1 = H at hP hS ⊢
    generalize locs1 = locs at hS ⊢
    refine zb_if_ne (tgt := 22) hx hb dX2_ranked_17 (by decide) e14 (fun c17 => ?_) (fun c17 => ?_)
    · have _u := True.intro
      exact absurd c17 (by decide)
    · have _u := True.intro
      refine lv_iconst (v := 0) hx hb dX2_ranked_20 (by decide) ?_
      have hk0 : kPl (pl n w) x1.toInt = 1 := by unfold kPl; (repeat' split) <;> omega
      refine W.widen (k := 0) (n := 0) (Nat.le_of_ble_eq_true rfl) (Nat.le_of_ble_eq_true rfl) ?_
      exact W.iret (v := 0) hx hb hr (fun t ht hW => ⟨⟨_, 1, rfl, ⟨(show (1 : Int32).toInt = 1 by decide).trans (by omega), fun h => absurd h (by omega)⟩, ⟨by rw [ht]; exact hP, hD⟩⟩, hS.F ht⟩) hS.2.2 dX2_ranked_21
  · have _u := True.intro
    have d6 := of_decide_eq_true c6
    refine lv_iconst (v := 0) hx hb dX2_ranked_9 (by decide) ?_
    refine lv_goto (tgt := 14) hx hb dX2_ranked_10 (by decide) ?_
    have hFc := va_free (wc := (MW g0 g1 g2 y4 y5 th (n) (w) T P)) hD hS hA [0, 1, 2] rfl
    refine va_calli (va_runV (As := [.int 0]) (rest := []) ⟨hx, hb, hml, hown, hts⟩ (c_X2_goesWell l D E g0 g1 g2 y4 y5 H.size (n) (w) th T P hn hw hT hPt (hD.weaken (fun _ _ _ _ => trivial)) 0 (0) (Eq.trans (show (0 : Int32).toInt = 0 by decide) (by omega))) (cwV 1 hts gX2_ranked_X2_goesWell rfl rfl rfl (by decide +kernel) ⟨Nat.le_of_ble_eq_true rfl, Nat.le_of_ble_eq_true rfl⟩) ⟨cp.blind, va_recv hK hP (ci := 1) (q0 := 0) rfl rfl, fun U hU hW => ⟨rfl, cp.call hP hK hE hS hFc hU hW⟩⟩ rfl rfl hl.1 rfl (lv_room (Nat.le_of_ble_eq_true rfl)) dX2_ranked_14 ⟨Nat.le_of_ble_eq_true rfl, Nat.le_of_ble_eq_true rfl⟩) hS (fun q _ h => hFc q h) hFc (fun v14 u t H1 locs1 ht hvm e14 hB hz1 hk1 hS => ?_)
    obtain ⟨hP1, hD1⟩ := hB
    rw [ht] at hP1
    obtain ⟨hP, hD⟩ := va_join (wr := []) (w1 := (MW g0 g1 g2 y4 y5 0 (n) (w) T P)) hP hD [0, 1, 2] [] rfl rfl (by decide) (by decide) hk1 hFc hP1 hD1
    have hP : va_P D vwCl (MW g0 g1 g2 y4 y5 0 (n) (w) T P) H1 := hP
    have hD : va_D (va_A (MW g0 g1 g2 y4 y5 th (n) (w) T P) s.heap.size) (MW g0 g1 g2 y4 y5 0 (n) (w) T P) := hD
    generalize H1 = H at hP hS ⊢
    generalize locs1 = locs at hS ⊢
    refine zb_if_ne (tgt := 22) hx hb dX2_ranked_17 (by decide) e14 (fun c17 => ?_) (fun c17 => ?_)
    · have _u := True.intro
      refine lv_iconst (v := 0) hx hb dX2_ranked_22 (by decide) ?_
      refine lv_istore_n (lv' := [(2, .int 0), (0, .ref g0), (1, .int x1)]) hx hb dX2_ranked_23 rfl hl (by decide) rfl (fun ls hl => ?_)
      have lp24 : ∀ (nf : Nat) (v : Nat) (x2 : Int32), pl n w - v < nf → (v ≤ pl n w) → (∀ i, 0 ≤ i → i < v → ¬ ahd (fun p => mis T P p w) (pl n w) i = x1.toInt.toNat) → x2.toInt = (v : Int) → ∀ (H : Heap) (locs : List Loc), va_P D vwCl (MW g0 g1 g2 y4 y5 0 (n) (w) T P) H → va_D (va_A (MW g0 g1 g2 y4 y5 th (n) (w) T P) s.heap.size) (MW g0 g1 g2 y4 y5 0 (n) (w) T P) → va_S (va_A (MW g0 g1 g2 y4 y5 th (n) (w) T P) s.heap.size) s.heap H locs → ∀ (ls : Array Slot), lv_has ls 5 [(0, .ref g0), (1, .int x1), (2, .int x2)] → W p l e (headSpec wsX2_ranked ({ frames := 2, cells := 0, slots := 0, locals := 44 })).room s m [.ref g0, .int x1].toArray below meth c H locs 0 0 (MQ below (va_Qi (fun (r : Int32) (th2 : Int32) => th2.toInt = ((kPl (pl n w) x1.toInt : Nat) : Int) ∧ (kPl (pl n w) x1.toInt = 0 → r.toInt = ((rkP (fun p => mis T P p w) (pl n w) x1.toInt.toNat : Nat) : Int))) (fun (th2 : Int32) t => va_P D vwCl (MW g0 g1 g2 y4 y5 th2 (n) (w) T P) t.heap ∧ va_D (va_A (MW g0 g1 g2 y4 y5 th (n) (w) T P) s.heap.size) (MW g0 g1 g2 y4 y5 th2 (n) (w) T P)) (va_A (MW g0 g1 g2 y4 y5 th (n) (w) T P) s.heap.size)) [.ref g0, .int x1].toArray s 0 0 (va_A (MW g0 g1 g2 y4 y5 th (n) (w) T P) s.heap.size)) (F0 m 24 ls []) := by
        intro nf
        induction nf with
        | zero => intros; omega
        | succ nf ih24 =>
          intro v x2 hnf hv hz e_x2 H locs hP hD hS ls hl
          refine lv_iload_n hx hb dX2_ranked_24 rfl (lv_at hl 2 rfl) ?_
          refine lv_aload_n hx hb dX2_ranked_25 rfl (lv_at hl 0 rfl) ?_
          refine va_calli (va_runV (As := []) (rest := [.int x2]) ⟨hx, hb, hml, hown, hts⟩ (c_X2_placeMany l D E g0 g1 g2 y4 y5 H.size (n) (w) 0 T P hn hw hT hPt) (cwV 0 hts gX2_ranked_X2_placeMany rfl rfl rfl (by decide +kernel) ⟨Nat.le_of_ble_eq_true rfl, Nat.le_of_ble_eq_true rfl⟩) ⟨cp.blind, va_recv hK hP (ci := 1) (q0 := 0) rfl rfl, fun U hU hW => ⟨rfl, cp.call hP hK hE hS (fr0 hS hA) hU hW⟩⟩ rfl rfl hl.1 rfl (lv_room (Nat.le_of_ble_eq_true rfl)) dX2_ranked_26 ⟨Nat.le_of_ble_eq_true rfl, Nat.le_of_ble_eq_true rfl⟩) hS (fun q _ h => (fr0 hS hA) q h) (fr0 hS hA) (fun v26 u t H1 locs1 ht hvm e26 hB hz1 hk1 hS => ?_)
          have hP := kp hP hk1
          generalize H1 = H at hP hS ⊢
          generalize locs1 = locs at hS ⊢
          refine z_icmp_ge (tgt := 107) hx hb dX2_ranked_29 (by decide) e_x2 e26 (fun c29 => ?_) (fun c29 => ?_)
          · have _u := True.intro
            obtain ⟨p9, hp9, hp8⟩ := rk_ex (c := (fun p => mis T P p w)) (q := pl n w) (r := x1.toInt.toNat) (W := w + 1) (fun p _ => Nat.lt_succ_of_le (cnt_le (mf T P p) w)) (by omega); exact absurd hp8 (hz p9 (Nat.zero_le _) (by omega))
          · have _u := True.intro
            refine lv_iconst (v := 0) hx hb dX2_ranked_32 (by decide) ?_
            refine lv_istore_n (lv' := [(3, .int 0), (0, .ref g0), (1, .int x1), (2, .int x2)]) hx hb dX2_ranked_33 rfl hl (by decide) rfl (fun ls hl => ?_)
            refine lv_iconst (v := 0) hx hb dX2_ranked_34 (by decide) ?_
            refine lv_istore (lv' := [(4, .int 0), (3, .int 0), (0, .ref g0), (1, .int x1), (2, .int x2)]) hx hb dX2_ranked_35 hl (by decide) rfl (fun ls hl => ?_)
            have lp37 : ∀ (nf : Nat) (j : Nat) (x3 : Int32) (x4 : Int32), pl n w - j < nf → (j ≤ pl n w) → x3.toInt = ((cnt (af (fun p => mis T P p w) v) j : Nat) : Int) → x4.toInt = (j : Int) → ∀ (H : Heap) (locs : List Loc), va_P D vwCl (MW g0 g1 g2 y4 y5 0 (n) (w) T P) H → va_D (va_A (MW g0 g1 g2 y4 y5 th (n) (w) T P) s.heap.size) (MW g0 g1 g2 y4 y5 0 (n) (w) T P) → va_S (va_A (MW g0 g1 g2 y4 y5 th (n) (w) T P) s.heap.size) s.heap H locs → ∀ (ls : Array Slot), lv_has ls 5 [(0, .ref g0), (1, .int x1), (2, .int x2), (3, .int x3), (4, .int x4)] → W p l e (headSpec wsX2_ranked ({ frames := 2, cells := 0, slots := 0, locals := 44 })).room s m [.ref g0, .int x1].toArray below meth c H locs 0 0 (MQ below (va_Qi (fun (r : Int32) (th2 : Int32) => th2.toInt = ((kPl (pl n w) x1.toInt : Nat) : Int) ∧ (kPl (pl n w) x1.toInt = 0 → r.toInt = ((rkP (fun p => mis T P p w) (pl n w) x1.toInt.toNat : Nat) : Int))) (fun (th2 : Int32) t => va_P D vwCl (MW g0 g1 g2 y4 y5 th2 (n) (w) T P) t.heap ∧ va_D (va_A (MW g0 g1 g2 y4 y5 th (n) (w) T P) s.heap.size) (MW g0 g1 g2 y4 y5 th2 (n) (w) T P)) (va_A (MW g0 g1 g2 y4 y5 th (n) (w) T P) s.heap.size)) [.ref g0, .int x1].toArray s 0 0 (va_A (MW g0 g1 g2 y4 y5 th (n) (w) T P) s.heap.size)) (F0 m 37 ls []) := by
              intro nf
              induction nf with
              | zero => intros; omega
              | succ nf ih37 =>
                intro j x3 x4 hnf hj e_x3 e_x4 H locs hP hD hS ls hl
                have hcl := cnt_le (af (fun p => mis T P p w) v) j
                refine lv_iload hx hb dX2_ranked_37 (lv_at hl 4 rfl) ?_
                refine lv_aload_n hx hb dX2_ranked_39 rfl (lv_at hl 0 rfl) ?_
                refine va_calli (va_runV (As := []) (rest := [.int x4]) ⟨hx, hb, hml, hown, hts⟩ (c_X2_placeMany l D E g0 g1 g2 y4 y5 H.size (n) (w) 0 T P hn hw hT hPt) (cwV 0 hts gX2_ranked_X2_placeMany rfl rfl rfl (by decide +kernel) ⟨Nat.le_of_ble_eq_true rfl, Nat.le_of_ble_eq_true rfl⟩) ⟨cp.blind, va_recv hK hP (ci := 1) (q0 := 0) rfl rfl, fun U hU hW => ⟨rfl, cp.call hP hK hE hS (fr0 hS hA) hU hW⟩⟩ rfl rfl hl.1 rfl (lv_room (Nat.le_of_ble_eq_true rfl)) dX2_ranked_40 ⟨Nat.le_of_ble_eq_true rfl, Nat.le_of_ble_eq_true rfl⟩) hS (fun q _ h => (fr0 hS hA) q h) (fr0 hS hA) (fun v40 u t H1 locs1 ht hvm e40 hB hz1 hk1 hS => ?_)
                have hP := kp hP hk1
                generalize H1 = H at hP hS ⊢
                generalize locs1 = locs at hS ⊢
                refine z_icmp_ge (tgt := 94) hx hb dX2_ranked_43 (by decide) e_x4 e40 (fun c43 => ?_) (fun c43 => ?_)
                · have _u := True.intro
                  have hj2 : j = pl n w := by omega
                  have hah := ahd_af (fun p => mis T P p w) (pl n w) v
                  rw [hj2] at e_x3
                  refine lv_iload_n hx hb dX2_ranked_94 rfl (lv_at hl 3 rfl) ?_
                  refine lv_iload_n hx hb dX2_ranked_95 rfl (lv_at hl 1 rfl) ?_
                  refine z_icmp_ne (tgt := 101) hx hb dX2_ranked_96 (by decide) e_x3 rfl (fun c96 => ?_) (fun c96 => ?_)
                  · have _u := True.intro
                    have hnr : ¬ ahd (fun p => mis T P p w) (pl n w) v = x1.toInt.toNat := by omega
                    refine z_iinc (k := 2) (lv' := fun v => [(2, .int v), (0, .ref g0), (1, .int x1), (3, .int x3), (4, .int x4)]) hx hb dX2_ranked_101 hl rfl e_x2 (by decide) (by omega) (by omega) (by decide) (fun _ => rfl) (fun v101 ls e101 hl => ?_)
                    refine lv_goto (tgt := 24) hx hb dX2_ranked_104 (by decide) ?_
                    exact ih24 (v + 1) v101 (by omega) (by omega) (ltS hz hnr) (Eq.trans e101 (by omega)) _ _ hP hD hS _ (lv_sub hl [1, 2, 0] rfl)
                  · have _u := True.intro
                    have hyr : ahd (fun p => mis T P p w) (pl n w) v = x1.toInt.toNat := by omega
                    refine lv_iload_n hx hb dX2_ranked_99 rfl (lv_at hl 2 rfl) ?_
                    have hk0 : kPl (pl n w) x1.toInt = 0 := by unfold kPl; (repeat' split) <;> omega
                    refine W.widen (k := 0) (n := 0) (Nat.le_of_ble_eq_true rfl) (Nat.le_of_ble_eq_true rfl) ?_
                    exact W.iret (v := x2) hx hb hr (fun t ht hW => ⟨⟨_, 0, rfl, ⟨(show (0 : Int32).toInt = 0 by decide).trans (by omega), fun _ => (Eq.trans e_x2 (by rw [rkP_at (by omega) hyr]))⟩, ⟨by rw [ht]; exact hP, hD⟩⟩, hS.F ht⟩) hS.2.2 dX2_ranked_100
                · have _u := True.intro
                  refine lv_iload_n hx hb dX2_ranked_46 rfl (lv_at hl 3 rfl) ?_
                  refine lv_aload_n hx hb dX2_ranked_47 rfl (lv_at hl 0 rfl) ?_
                  refine lv_iload hx hb dX2_ranked_48 (lv_at hl 4 rfl) ?_
                  refine va_calli (va_runV (As := [.int x4]) (rest := [.int x3]) ⟨hx, hb, hml, hown, hts⟩ (c_X2_countAt l D E g0 g1 g2 y4 y5 H.size (n) (w) 0 T P hn hw hT hPt x4 (j) (Eq.trans e_x4 (by omega)) (by omega)) (cwV 1 hts gX2_ranked_X2_countAt rfl rfl rfl (by decide +kernel) ⟨Nat.le_of_ble_eq_true rfl, Nat.le_of_ble_eq_true rfl⟩) ⟨cp.blind, va_recv hK hP (ci := 1) (q0 := 0) rfl rfl, fun U hU hW => ⟨rfl, cp.call hP hK hE hS (fr0 hS hA) hU hW⟩⟩ rfl rfl hl.1 rfl (lv_room (Nat.le_of_ble_eq_true rfl)) dX2_ranked_50 ⟨Nat.le_of_ble_eq_true rfl, Nat.le_of_ble_eq_true rfl⟩) hS (fun q _ h => (fr0 hS hA) q h) (fr0 hS hA) (fun v50 u t H1 locs1 ht hvm e50 hB hz1 hk1 hS => ?_)
                  have hP := kp hP hk1
                  generalize H1 = H at hP hS ⊢
                  generalize locs1 = locs at hS ⊢
                  refine lv_aload_n hx hb dX2_ranked_53 rfl (lv_at hl 0 rfl) ?_
                  refine lv_iload_n hx hb dX2_ranked_54 rfl (lv_at hl 2 rfl) ?_
                  refine va_calli (va_runV (As := [.int x2]) (rest := [.int v50, .int x3]) ⟨hx, hb, hml, hown, hts⟩ (c_X2_countAt l D E g0 g1 g2 y4 y5 H.size (n) (w) 0 T P hn hw hT hPt x2 (v) (Eq.trans e_x2 (by omega)) (by omega)) (cwV 1 hts gX2_ranked_X2_countAt rfl rfl rfl (by decide +kernel) ⟨Nat.le_of_ble_eq_true rfl, Nat.le_of_ble_eq_true rfl⟩) ⟨cp.blind, va_recv hK hP (ci := 1) (q0 := 0) rfl rfl, fun U hU hW => ⟨rfl, cp.call hP hK hE hS (fr0 hS hA) hU hW⟩⟩ rfl rfl hl.1 rfl (lv_room (Nat.le_of_ble_eq_true rfl)) dX2_ranked_55 ⟨Nat.le_of_ble_eq_true rfl, Nat.le_of_ble_eq_true rfl⟩) hS (fun q _ h => (fr0 hS hA) q h) (fr0 hS hA) (fun v55 u t H1 locs1 ht hvm e55 hB hz1 hk1 hS => ?_)
                  have hP := kp hP hk1
                  generalize H1 = H at hP hS ⊢
                  generalize locs1 = locs at hS ⊢
                  refine z_icmp_lt (tgt := 81) hx hb dX2_ranked_58 (by decide) e50 e55 (fun c58 => ?_) (fun c58 => ?_)
                  · have _u := True.intro
                    have q := cnt_t (f := (af (fun p => mis T P p w) v)) (k := j) (by simp only [af, Bool.or_eq_true, Bool.and_eq_true, decide_eq_true_eq]; omega)
                    refine lv_iconst (v := 1) hx hb dX2_ranked_81 (by decide) ?_
                    refine lv_goto (tgt := 86) hx hb dX2_ranked_82 (by decide) ?_
                    refine z_iadd hx hb dX2_ranked_86 e_x3 (show (1 : Int32).toInt = 1 by decide) (by omega) (by omega) (fun v86 e86 => ?_)
                    refine lv_istore_n (lv' := [(3, .int v86), (0, .ref g0), (1, .int x1), (2, .int x2), (4, .int x4)]) hx hb dX2_ranked_87 rfl hl (by decide) rfl (fun ls hl => ?_)
                    refine z_iinc (k := 4) (lv' := fun v => [(4, .int v), (3, .int v86), (0, .ref g0), (1, .int x1), (2, .int x2)]) hx hb dX2_ranked_88 hl rfl e_x4 (by decide) (by omega) (by omega) (by decide) (fun _ => rfl) (fun v88 ls e88 hl => ?_)
                    refine lv_goto (tgt := 37) hx hb dX2_ranked_91 (by decide) ?_
                    exact ih37 (j + 1) v86 v88 (by omega) (by omega) (Eq.trans e86 (by omega)) (Eq.trans e88 (by omega)) _ _ hP hD hS _ (lv_sub hl [2, 3, 4, 1, 0] rfl)
                  · have _u := True.intro
                    refine lv_aload_n hx hb dX2_ranked_61 rfl (lv_at hl 0 rfl) ?_
                    refine lv_iload hx hb dX2_ranked_62 (lv_at hl 4 rfl) ?_
                    refine va_calli (va_runV (As := [.int x4]) (rest := [.int x3]) ⟨hx, hb, hml, hown, hts⟩ (c_X2_countAt l D E g0 g1 g2 y4 y5 H.size (n) (w) 0 T P hn hw hT hPt x4 (j) (Eq.trans e_x4 (by omega)) (by omega)) (cwV 1 hts gX2_ranked_X2_countAt rfl rfl rfl (by decide +kernel) ⟨Nat.le_of_ble_eq_true rfl, Nat.le_of_ble_eq_true rfl⟩) ⟨cp.blind, va_recv hK hP (ci := 1) (q0 := 0) rfl rfl, fun U hU hW => ⟨rfl, cp.call hP hK hE hS (fr0 hS hA) hU hW⟩⟩ rfl rfl hl.1 rfl (lv_room (Nat.le_of_ble_eq_true rfl)) dX2_ranked_64 ⟨Nat.le_of_ble_eq_true rfl, Nat.le_of_ble_eq_true rfl⟩) hS (fun q _ h => (fr0 hS hA) q h) (fr0 hS hA) (fun v64 u t H1 locs1 ht hvm e64 hB hz1 hk1 hS => ?_)
                    have hP := kp hP hk1
                    generalize H1 = H at hP hS ⊢
                    generalize locs1 = locs at hS ⊢
                    refine lv_aload_n hx hb dX2_ranked_67 rfl (lv_at hl 0 rfl) ?_
                    refine lv_iload_n hx hb dX2_ranked_68 rfl (lv_at hl 2 rfl) ?_
                    refine va_calli (va_runV (As := [.int x2]) (rest := [.int v64, .int x3]) ⟨hx, hb, hml, hown, hts⟩ (c_X2_countAt l D E g0 g1 g2 y4 y5 H.size (n) (w) 0 T P hn hw hT hPt x2 (v) (Eq.trans e_x2 (by omega)) (by omega)) (cwV 1 hts gX2_ranked_X2_countAt rfl rfl rfl (by decide +kernel) ⟨Nat.le_of_ble_eq_true rfl, Nat.le_of_ble_eq_true rfl⟩) ⟨cp.blind, va_recv hK hP (ci := 1) (q0 := 0) rfl rfl, fun U hU hW => ⟨rfl, cp.call hP hK hE hS (fr0 hS hA) hU hW⟩⟩ rfl rfl hl.1 rfl (lv_room (Nat.le_of_ble_eq_true rfl)) dX2_ranked_69 ⟨Nat.le_of_ble_eq_true rfl, Nat.le_of_ble_eq_true rfl⟩) hS (fun q _ h => (fr0 hS hA) q h) (fr0 hS hA) (fun v69 u t H1 locs1 ht hvm e69 hB hz1 hk1 hS => ?_)
                    have hP := kp hP hk1
                    generalize H1 = H at hP hS ⊢
                    generalize locs1 = locs at hS ⊢
                    refine z_icmp_ne (tgt := 85) hx hb dX2_ranked_72 (by decide) e64 e69 (fun c72 => ?_) (fun c72 => ?_)
                    · have _u := True.intro
                      have q := cnt_f (f := (af (fun p => mis T P p w) v)) (k := j) (by simp only [af, Bool.or_eq_false_iff, Bool.and_eq_false_iff, decide_eq_false_iff_not]; omega)
                      refine lv_iconst (v := 0) hx hb dX2_ranked_85 (by decide) ?_
                      refine z_iadd hx hb dX2_ranked_86 e_x3 (show (0 : Int32).toInt = 0 by decide) (by omega) (by omega) (fun v86 e86 => ?_)
                      refine lv_istore_n (lv' := [(3, .int v86), (0, .ref g0), (1, .int x1), (2, .int x2), (4, .int x4)]) hx hb dX2_ranked_87 rfl hl (by decide) rfl (fun ls hl => ?_)
                      refine z_iinc (k := 4) (lv' := fun v => [(4, .int v), (3, .int v86), (0, .ref g0), (1, .int x1), (2, .int x2)]) hx hb dX2_ranked_88 hl rfl e_x4 (by decide) (by omega) (by omega) (by decide) (fun _ => rfl) (fun v88 ls e88 hl => ?_)
                      refine lv_goto (tgt := 37) hx hb dX2_ranked_91 (by decide) ?_
                      exact ih37 (j + 1) v86 v88 (by omega) (by omega) (Eq.trans e86 (by omega)) (Eq.trans e88 (by omega)) _ _ hP hD hS _ (lv_sub hl [2, 3, 4, 1, 0] rfl)
                    · have _u := True.intro
                      refine lv_iload hx hb dX2_ranked_75 (lv_at hl 4 rfl) ?_
                      refine lv_iload_n hx hb dX2_ranked_77 rfl (lv_at hl 2 rfl) ?_
                      refine z_icmp_ge (tgt := 85) hx hb dX2_ranked_78 (by decide) e_x4 e_x2 (fun c78 => ?_) (fun c78 => ?_)
                      · have _u := True.intro
                        have q := cnt_f (f := (af (fun p => mis T P p w) v)) (k := j) (by simp only [af, Bool.or_eq_false_iff, Bool.and_eq_false_iff, decide_eq_false_iff_not]; omega)
                        refine lv_iconst (v := 0) hx hb dX2_ranked_85 (by decide) ?_
                        refine z_iadd hx hb dX2_ranked_86 e_x3 (show (0 : Int32).toInt = 0 by decide) (by omega) (by omega) (fun v86 e86 => ?_)
                        refine lv_istore_n (lv' := [(3, .int v86), (0, .ref g0), (1, .int x1), (2, .int x2), (4, .int x4)]) hx hb dX2_ranked_87 rfl hl (by decide) rfl (fun ls hl => ?_)
                        refine z_iinc (k := 4) (lv' := fun v => [(4, .int v), (3, .int v86), (0, .ref g0), (1, .int x1), (2, .int x2)]) hx hb dX2_ranked_88 hl rfl e_x4 (by decide) (by omega) (by omega) (by decide) (fun _ => rfl) (fun v88 ls e88 hl => ?_)
                        refine lv_goto (tgt := 37) hx hb dX2_ranked_91 (by decide) ?_
                        exact ih37 (j + 1) v86 v88 (by omega) (by omega) (Eq.trans e86 (by omega)) (Eq.trans e88 (by omega)) _ _ hP hD hS _ (lv_sub hl [2, 3, 4, 1, 0] rfl)
                      · have _u := True.intro
                        have q := cnt_t (f := (af (fun p => mis T P p w) v)) (k := j) (by simp only [af, Bool.or_eq_true, Bool.and_eq_true, decide_eq_true_eq]; omega)
                        refine lv_iconst (v := 1) hx hb dX2_ranked_81 (by decide) ?_
                        refine lv_goto (tgt := 86) hx hb dX2_ranked_82 (by decide) ?_
                        refine z_iadd hx hb dX2_ranked_86 e_x3 (show (1 : Int32).toInt = 1 by decide) (by omega) (by omega) (fun v86 e86 => ?_)
                        refine lv_istore_n (lv' := [(3, .int v86), (0, .ref g0), (1, .int x1), (2, .int x2), (4, .int x4)]) hx hb dX2_ranked_87 rfl hl (by decide) rfl (fun ls hl => ?_)
                        refine z_iinc (k := 4) (lv' := fun v => [(4, .int v), (3, .int v86), (0, .ref g0), (1, .int x1), (2, .int x2)]) hx hb dX2_ranked_88 hl rfl e_x4 (by decide) (by omega) (by omega) (by decide) (fun _ => rfl) (fun v88 ls e88 hl => ?_)
                        refine lv_goto (tgt := 37) hx hb dX2_ranked_91 (by decide) ?_
                        exact ih37 (j + 1) v86 v88 (by omega) (by omega) (Eq.trans e86 (by omega)) (Eq.trans e88 (by omega)) _ _ hP hD hS _ (lv_sub hl [2, 3, 4, 1, 0] rfl)
            have hc0 := cnt_0 (af (fun p => mis T P p w) v)
            exact lp37 ((pl n w - 0) + 1) (0) 0 0 (by omega) (by omega) (Eq.trans (show (0 : Int32).toInt = 0 by decide) (by omega)) (Eq.trans (show (0 : Int32).toInt = 0 by decide) (by omega)) _ _ hP hD hS _ (lv_sub hl [2, 3, 4, 1, 0] rfl)
      exact lp24 ((pl n w - 0) + 1) (0) 0 (by omega) (by omega) (fun i h1 h2 => absurd h1 (by omega)) (Eq.trans (show (0 : Int32).toInt = 0 by decide) (by omega)) _ _ hP hD hS _ (lv_sub hl [1, 2, 0] rfl)
    · have _u := True.intro
      exact absurd c17 (by decide)

set_option maxHeartbeats 4000000 in
set_option maxRecDepth 100000 in
theorem c_X2_bestLetter (l : Launch) (D : va_G) (E : Nat × Nat × Nat) (g0 g1 g2 : Nat) (y4 y5 : ClassId) (sz n w : Nat) (th : Int32) (T P : Nat → Int32) (hn : n ≤ 64) (hw : w ≤ 24) (hT : SymF T) (hPt : SymF P) (hD0 : va_D (fun _ => True) (MW g0 g1 g2 y4 y5 th (n) (w) T P)) (x1 : Int32) : Met l yX2_bestLetter wsX2_bestLetter ({ frames := 1, cells := 0, slots := 0, locals := 21 }) (va_Pc [.ref g0, .int x1] (cp D (MW g0 g1 g2 y4 y5 th (n) (w) T P) (MT y4 y5) E (va_A (MW g0 g1 g2 y4 y5 th (n) (w) T P) sz) sz)) (va_Qi (fun (r : Int32) (th2 : Int32) => th2.toInt = ((kPl w x1.toInt : Nat) : Int) ∧ (kPl w x1.toInt = 0 → r.toInt = ((bl (blc T x1.toInt.toNat (pl n w)) 25 : Nat) : Int))) (fun (th2 : Int32) t => va_P D vwCl (MW g0 g1 g2 y4 y5 th2 (n) (w) T P) t.heap ∧ va_D (va_A (MW g0 g1 g2 y4 y5 th (n) (w) T P) sz) (MW g0 g1 g2 y4 y5 th2 (n) (w) T P)) (va_A (MW g0 g1 g2 y4 y5 th (n) (w) T P) sz)) 0 0 (va_A (MW g0 g1 g2 y4 y5 th (n) (w) T P) sz) := by
  refine Met.ofW (cc := cX2_bestLetter) (maxL := 7) (ret := (some .int)) (by decide) rfl ?_
  intro p e s m args below meth c s₁ B hml hv
  obtain ⟨rfl, hsz, hP, hK, hE⟩ := hv
  have hx := B.exec
  have hb := B.bytes
  have hr := B.returns
  have hts := atoms_spec (ws := wsX2_bestLetter) B.pre
  have hown : s.vm.findClass RX2 = some m.cls := findClass_of_methodNamed B.named
  have hlocks := B.notSynchronized
  have hsz : s.heap.size = sz := hsz
  subst hsz
  have hD := hD0.self (sz := s.heap.size)
  have hA : ∀ q : Nat, s.heap.size ≤ q → (va_A (MW g0 g1 g2 y4 y5 th (n) (w) T P) s.heap.size) q := fun q h => Or.inr h
  have hS : va_S (va_A (MW g0 g1 g2 y4 y5 th (n) (w) T P) s.heap.size) s.heap s.heap [] := va_S.rf
  have inn : (nI n).toInt = (n : Int) := nI_toInt (by omega)
  have iww : (nI w).toInt = (w : Int) := nI_toInt (by omega)
  have hf_text := hts (.fieldLink RX2 7 "BlankMatcherModel" "text" "[I") (by decide +kernel)
  have hpl : pl n w = n + 1 - w := rfl
  have hin0 : ∀ w ∈ wsX20, w ∈ wsX2_bestLetter := by decide +kernel
  have g_x1 := rg x1
  have hl := lv_entry ([.ref g0, .int x1]) (n := 7) (Nat.le_of_ble_eq_true rfl)
  rw [lg_entry_eq]
  generalize (lg_sl ([.ref g0, .int x1]) ++ List.replicate (7 - (lg_sl ([.ref g0, .int x1])).length) Slot.unset).toArray = ls at hl ⊢
  have hl : lv_has ls 7 [(0, .ref g0), (1, .int x1)] := hl
  refine lv_aload_n hx hb dX2_bestLetter_0 rfl (lv_at hl 0 rfl) ?_
  refine lv_aload_n hx hb dX2_bestLetter_1 rfl (lv_at hl 0 rfl) ?_
  refine lv_iload_n hx hb dX2_bestLetter_2 rfl (lv_at hl 1 rfl) ?_
  refine va_calli (va_runV (As := [.int x1]) (rest := [.ref g0]) ⟨hx, hb, hml, hown, hts⟩ (c_X2_isInPattern l D E g0 g1 g2 y4 y5 s.heap.size (n) (w) th T P hn hw hT hPt x1) (cwV 1 hts gX2_bestLetter_X2_isInPattern rfl rfl rfl (by decide +kernel) ⟨Nat.le_of_ble_eq_true rfl, Nat.le_of_ble_eq_true rfl⟩) ⟨cp.blind, va_recv hK hP (ci := 1) (q0 := 0) rfl rfl, fun U hU hW => ⟨rfl, cp.call hP hK hE hS (fr0 hS hA) hU hW⟩⟩ rfl rfl hl.1 rfl (lv_room (Nat.le_of_ble_eq_true rfl)) dX2_bestLetter_3 ⟨Nat.le_of_ble_eq_true rfl, Nat.le_of_ble_eq_true rfl⟩) hS (fun q _ h => (fr0 hS hA) q h) (fr0 hS hA) (fun v3 u t H1 locs1 ht hvm e3 hB hz1 hk1 hS => ?_)
  have hP := kp hP hk1
  generalize H1 = H at hP hS ⊢
  generalize locs1 = locs at hS ⊢
  refine zb_if_eq (tgt := 13) hx hb dX2_bestLetter_6 (by decide) e3 (fun c6 => ?_) (fun c6 => ?_)
  · have _u := True.intro
    have d6 := of_decide_eq_false c6
    refine lv_iconst (v := 1) hx hb dX2_bestLetter_13 (by decide) ?_
    have hFc := va_free (wc := (MW g0 g1 g2 y4 y5 th (n) (w) T P)) hD hS hA [0, 1, 2] rfl
    refine va_calli (va_runV (As := [.int 1]) (rest := []) ⟨hx, hb, hml, hown, hts⟩ (c_X2_goesWell l D E g0 g1 g2 y4 y5 H.size (n) (w) th T P hn hw hT hPt (hD.weaken (fun _ _ _ _ => trivial)) 1 (1) (Eq.trans (show (1 : Int32).toInt = 1 by decide) (by omega))) (cwV 1 hts gX2_bestLetter_X2_goesWell rfl rfl rfl (by decide +kernel) ⟨Nat.le_of_ble_eq_true rfl, Nat.le_of_ble_eq_true rfl⟩) ⟨cp.blind, va_recv hK hP (ci := 1) (q0 := 0) rfl rfl, fun U hU hW => ⟨rfl, cp.call hP hK hE hS hFc hU hW⟩⟩ rfl rfl hl.1 rfl (lv_room (Nat.le_of_ble_eq_true rfl)) dX2_bestLetter_14 ⟨Nat.le_of_ble_eq_true rfl, Nat.le_of_ble_eq_true rfl⟩) hS (fun q _ h => hFc q h) hFc (fun v14 u t H1 locs1 ht hvm e14 hB hz1 hk1 hS => ?_)
    obtain ⟨hP1, hD1⟩ := hB
    rw [ht] at hP1
    obtain ⟨hP, hD⟩ := va_join (wr := []) (w1 := (MW g0 g1 g2 y4 y5 1 (n) (w) T P)) hP hD [0, 1, 2] [] rfl rfl (by decide) (by decide) hk1 hFc hP1 hD1
    have hP : va_P D vwCl (MW g0 g1 g2 y4 y5 1 (n) (w) T P) H1 := hP
    have hD : va_D (va_A (MW g0 g1 g2 y4 y5 th (n) (w) T P) s.heap.size) (MW g0 g1 g2 y4 y5 1 (n) (w) T P) := hD
    generalize H1 = H at hP hS ⊢
    generalize locs1 = locs at hS ⊢
    refine zb_if_ne (tgt := 22) hx hb dX2_bestLetter_17 (by decide) e14 (fun c17 => ?_) (fun c17 => ?_)
    · have _u := True.intro
      exact absurd c17 (by decide)
    · have _u := True.intro
      refine lv_iconst (v := 0) hx hb dX2_bestLetter_20 (by decide) ?_
      have hk0 : kPl w x1.toInt = 1 := by unfold kPl; (repeat' split) <;> omega
      refine W.widen (k := 0) (n := 0) (Nat.le_of_ble_eq_true rfl) (Nat.le_of_ble_eq_true rfl) ?_
      exact W.iret (v := 0) hx hb hr (fun t ht hW => ⟨⟨_, 1, rfl, ⟨(show (1 : Int32).toInt = 1 by decide).trans (by omega), fun h => absurd h (by omega)⟩, ⟨by rw [ht]; exact hP, hD⟩⟩, hS.F ht⟩) hS.2.2 dX2_bestLetter_21
  · have _u := True.intro
    have d6 := of_decide_eq_true c6
    refine lv_iconst (v := 0) hx hb dX2_bestLetter_9 (by decide) ?_
    refine lv_goto (tgt := 14) hx hb dX2_bestLetter_10 (by decide) ?_
    have hFc := va_free (wc := (MW g0 g1 g2 y4 y5 th (n) (w) T P)) hD hS hA [0, 1, 2] rfl
    refine va_calli (va_runV (As := [.int 0]) (rest := []) ⟨hx, hb, hml, hown, hts⟩ (c_X2_goesWell l D E g0 g1 g2 y4 y5 H.size (n) (w) th T P hn hw hT hPt (hD.weaken (fun _ _ _ _ => trivial)) 0 (0) (Eq.trans (show (0 : Int32).toInt = 0 by decide) (by omega))) (cwV 1 hts gX2_bestLetter_X2_goesWell rfl rfl rfl (by decide +kernel) ⟨Nat.le_of_ble_eq_true rfl, Nat.le_of_ble_eq_true rfl⟩) ⟨cp.blind, va_recv hK hP (ci := 1) (q0 := 0) rfl rfl, fun U hU hW => ⟨rfl, cp.call hP hK hE hS hFc hU hW⟩⟩ rfl rfl hl.1 rfl (lv_room (Nat.le_of_ble_eq_true rfl)) dX2_bestLetter_14 ⟨Nat.le_of_ble_eq_true rfl, Nat.le_of_ble_eq_true rfl⟩) hS (fun q _ h => hFc q h) hFc (fun v14 u t H1 locs1 ht hvm e14 hB hz1 hk1 hS => ?_)
    obtain ⟨hP1, hD1⟩ := hB
    rw [ht] at hP1
    obtain ⟨hP, hD⟩ := va_join (wr := []) (w1 := (MW g0 g1 g2 y4 y5 0 (n) (w) T P)) hP hD [0, 1, 2] [] rfl rfl (by decide) (by decide) hk1 hFc hP1 hD1
    have hP : va_P D vwCl (MW g0 g1 g2 y4 y5 0 (n) (w) T P) H1 := hP
    have hD : va_D (va_A (MW g0 g1 g2 y4 y5 th (n) (w) T P) s.heap.size) (MW g0 g1 g2 y4 y5 0 (n) (w) T P) := hD
    generalize H1 = H at hP hS ⊢
    generalize locs1 = locs at hS ⊢
    refine zb_if_ne (tgt := 22) hx hb dX2_bestLetter_17 (by decide) e14 (fun c17 => ?_) (fun c17 => ?_)
    · have _u := True.intro
      obtain ⟨i0, ei⟩ : ∃ o : Nat, x1.toInt = (o : Int) := ⟨x1.toInt.toNat, by omega⟩
      have hi2 : x1.toInt.toNat = i0 := by omega
      refine lv_iconst (v := 0) hx hb dX2_bestLetter_22 (by decide) ?_
      refine lv_istore_n (lv' := [(2, .int 0), (0, .ref g0), (1, .int x1)]) hx hb dX2_bestLetter_23 rfl hl (by decide) rfl (fun ls hl => ?_)
      refine lv_iconst (v := 0) hx hb dX2_bestLetter_24 (by decide) ?_
      refine lv_istore_n (lv' := [(3, .int 0), (2, .int 0), (0, .ref g0), (1, .int x1)]) hx hb dX2_bestLetter_25 rfl hl (by decide) rfl (fun ls hl => ?_)
      refine lv_iconst (v := 1) hx hb dX2_bestLetter_26 (by decide) ?_
      refine lv_istore (lv' := [(4, .int 1), (3, .int 0), (2, .int 0), (0, .ref g0), (1, .int x1)]) hx hb dX2_bestLetter_27 hl (by decide) rfl (fun ls hl => ?_)
      have lp29 : ∀ (nf : Nat) (k : Nat) (b : Nat) (fw : Nat) (x2 : Int32) (x3 : Int32) (x4 : Int32), 26 - k < nf → (k ≤ 26) → ((k = 0 ∧ b = 0) ∨ (1 ≤ k ∧ b = bl (blc T i0 (pl n w)) (k - 1) ∧ fw = (mi T i0 (pl n w)) b)) → x2.toInt = (b : Int) → x3.toInt = (fw : Int) → x4.toInt = ((k + 1 : Nat) : Int) → ∀ (H : Heap) (locs : List Loc), va_P D vwCl (MW g0 g1 g2 y4 y5 0 (n) (w) T P) H → va_D (va_A (MW g0 g1 g2 y4 y5 th (n) (w) T P) s.heap.size) (MW g0 g1 g2 y4 y5 0 (n) (w) T P) → va_S (va_A (MW g0 g1 g2 y4 y5 th (n) (w) T P) s.heap.size) s.heap H locs → ∀ (ls : Array Slot), lv_has ls 7 [(0, .ref g0), (1, .int x1), (2, .int x2), (3, .int x3), (4, .int x4)] → W p l e (headSpec wsX2_bestLetter ({ frames := 1, cells := 0, slots := 0, locals := 21 })).room s m [.ref g0, .int x1].toArray below meth c H locs 0 0 (MQ below (va_Qi (fun (r : Int32) (th2 : Int32) => th2.toInt = ((kPl w x1.toInt : Nat) : Int) ∧ (kPl w x1.toInt = 0 → r.toInt = ((bl (blc T x1.toInt.toNat (pl n w)) 25 : Nat) : Int))) (fun (th2 : Int32) t => va_P D vwCl (MW g0 g1 g2 y4 y5 th2 (n) (w) T P) t.heap ∧ va_D (va_A (MW g0 g1 g2 y4 y5 th (n) (w) T P) s.heap.size) (MW g0 g1 g2 y4 y5 th2 (n) (w) T P)) (va_A (MW g0 g1 g2 y4 y5 th (n) (w) T P) s.heap.size)) [.ref g0, .int x1].toArray s 0 0 (va_A (MW g0 g1 g2 y4 y5 th (n) (w) T P) s.heap.size)) (F0 m 29 ls []) := by
        intro nf
        induction nf with
        | zero => intros; omega
        | succ nf ih29 =>
          intro k b fw x2 x3 x4 hnf hk hbf e_x2 e_x3 e_x4 H locs hP hD hS ls hl
          refine lv_iload hx hb dX2_bestLetter_29 (lv_at hl 4 rfl) ?_
          refine lv_bipush (v := 26) hx hb dX2_bestLetter_31 (by decide) ?_
          refine z_icmp_gt (tgt := 106) hx hb dX2_bestLetter_33 (by decide) e_x4 (show (26 : Int32).toInt = 26 by decide) (fun c33 => ?_) (fun c33 => ?_)
          · have _u := True.intro
            have hb2 : b = bl (blc T i0 (pl n w)) 25 := by rcases hbf with ⟨h1, h2⟩ | ⟨h1, h2, h3⟩; exact absurd h1 (by omega); rw [h2, show k - 1 = 25 by omega]
            refine lv_iload_n hx hb dX2_bestLetter_106 rfl (lv_at hl 2 rfl) ?_
            have hk0 : kPl w x1.toInt = 0 := by unfold kPl; (repeat' split) <;> omega
            refine W.widen (k := 0) (n := 0) (Nat.le_of_ble_eq_true rfl) (Nat.le_of_ble_eq_true rfl) ?_
            exact W.iret (v := x2) hx hb hr (fun t ht hW => ⟨⟨_, 0, rfl, ⟨(show (0 : Int32).toInt = 0 by decide).trans (by omega), fun _ => (Eq.trans e_x2 (by rw [hb2, hi2]))⟩, ⟨by rw [ht]; exact hP, hD⟩⟩, hS.F ht⟩) hS.2.2 dX2_bestLetter_107
          · have _u := True.intro
            refine lv_iconst (v := 0) hx hb dX2_bestLetter_36 (by decide) ?_
            refine lv_istore (lv' := [(5, .int 0), (0, .ref g0), (1, .int x1), (2, .int x2), (3, .int x3), (4, .int x4)]) hx hb dX2_bestLetter_37 hl (by decide) rfl (fun ls hl => ?_)
            refine lv_iconst (v := 0) hx hb dX2_bestLetter_39 (by decide) ?_
            refine lv_istore (lv' := [(6, .int 0), (5, .int 0), (0, .ref g0), (1, .int x1), (2, .int x2), (3, .int x3), (4, .int x4)]) hx hb dX2_bestLetter_40 hl (by decide) rfl (fun ls hl => ?_)
            have lp42 : ∀ (nf : Nat) (j : Nat) (x5 : Int32) (x6 : Int32), pl n w - j < nf → (j ≤ pl n w) → x5.toInt = ((cnt (mif T (k + 1) i0) j : Nat) : Int) → x6.toInt = (j : Int) → ∀ (H : Heap) (locs : List Loc), va_P D vwCl (MW g0 g1 g2 y4 y5 0 (n) (w) T P) H → va_D (va_A (MW g0 g1 g2 y4 y5 th (n) (w) T P) s.heap.size) (MW g0 g1 g2 y4 y5 0 (n) (w) T P) → va_S (va_A (MW g0 g1 g2 y4 y5 th (n) (w) T P) s.heap.size) s.heap H locs → ∀ (ls : Array Slot), lv_has ls 7 [(0, .ref g0), (1, .int x1), (2, .int x2), (3, .int x3), (4, .int x4), (5, .int x5), (6, .int x6)] → W p l e (headSpec wsX2_bestLetter ({ frames := 1, cells := 0, slots := 0, locals := 21 })).room s m [.ref g0, .int x1].toArray below meth c H locs 0 0 (MQ below (va_Qi (fun (r : Int32) (th2 : Int32) => th2.toInt = ((kPl w x1.toInt : Nat) : Int) ∧ (kPl w x1.toInt = 0 → r.toInt = ((bl (blc T x1.toInt.toNat (pl n w)) 25 : Nat) : Int))) (fun (th2 : Int32) t => va_P D vwCl (MW g0 g1 g2 y4 y5 th2 (n) (w) T P) t.heap ∧ va_D (va_A (MW g0 g1 g2 y4 y5 th (n) (w) T P) s.heap.size) (MW g0 g1 g2 y4 y5 th2 (n) (w) T P)) (va_A (MW g0 g1 g2 y4 y5 th (n) (w) T P) s.heap.size)) [.ref g0, .int x1].toArray s 0 0 (va_A (MW g0 g1 g2 y4 y5 th (n) (w) T P) s.heap.size)) (F0 m 42 ls []) := by
              intro nf
              induction nf with
              | zero => intros; omega
              | succ nf ih42 =>
                intro j x5 x6 hnf hj e_x5 e_x6 H locs hP hD hS ls hl
                have hcl := cnt_le (mif T (k + 1) i0) j
                refine lv_iload hx hb dX2_bestLetter_42 (lv_at hl 6 rfl) ?_
                refine lv_aload_n hx hb dX2_bestLetter_44 rfl (lv_at hl 0 rfl) ?_
                refine va_calli (va_runV (As := []) (rest := [.int x6]) ⟨hx, hb, hml, hown, hts⟩ (c_X2_placeMany l D E g0 g1 g2 y4 y5 H.size (n) (w) 0 T P hn hw hT hPt) (cwV 0 hts gX2_bestLetter_X2_placeMany rfl rfl rfl (by decide +kernel) ⟨Nat.le_of_ble_eq_true rfl, Nat.le_of_ble_eq_true rfl⟩) ⟨cp.blind, va_recv hK hP (ci := 1) (q0 := 0) rfl rfl, fun U hU hW => ⟨rfl, cp.call hP hK hE hS (fr0 hS hA) hU hW⟩⟩ rfl rfl hl.1 rfl (lv_room (Nat.le_of_ble_eq_true rfl)) dX2_bestLetter_45 ⟨Nat.le_of_ble_eq_true rfl, Nat.le_of_ble_eq_true rfl⟩) hS (fun q _ h => (fr0 hS hA) q h) (fr0 hS hA) (fun v45 u t H1 locs1 ht hvm e45 hB hz1 hk1 hS => ?_)
                have hP := kp hP hk1
                generalize H1 = H at hP hS ⊢
                generalize locs1 = locs at hS ⊢
                refine z_icmp_ge (tgt := 84) hx hb dX2_bestLetter_48 (by decide) e_x6 e45 (fun c48 => ?_) (fun c48 => ?_)
                · have _u := True.intro
                  have hj2 : j = pl n w := by omega
                  rw [hj2] at e_x5
                  have hmk := mi_c (T := T) (i := i0) (l := k + 1) (pl n w) (by omega) (by omega)
                  have hml2 : cnt (mif T (k + 1) i0) (pl n w) = (mi T i0 (pl n w)) (k + 1) := rfl
                  refine lv_iload_n hx hb dX2_bestLetter_84 rfl (lv_at hl 2 rfl) ?_
                  refine z_if_eq (tgt := 94) hx hb dX2_bestLetter_85 (by decide) e_x2 (fun c85 => ?_) (fun c85 => ?_)
                  · have _u := True.intro
                    obtain ⟨gb, egb⟩ : ∃ g : Nat, g = k + 1 := ⟨_, rfl⟩
                    obtain ⟨gf, egf⟩ : ∃ g : Nat, g = (mi T i0 (pl n w)) (k + 1) := ⟨_, rfl⟩
                    have hgb : (k + 1 = 0 ∧ gb = 0) ∨ (1 ≤ k + 1 ∧ gb = bl (blc T i0 (pl n w)) (k + 1 - 1) ∧ gf = (mi T i0 (pl n w)) gb) := by rcases hbf with ⟨h1, h2⟩ | ⟨h1, h2, h3⟩; exact Or.inr ⟨by omega, by rw [egb, h1]; rfl, by rw [egf, egb]⟩; exact absurd (bl_le (blc T i0 (pl n w)) (k - 1)).1 (by omega)
                    refine lv_iload hx hb dX2_bestLetter_94 (lv_at hl 4 rfl) ?_
                    refine lv_istore_n (lv' := [(2, .int x4), (0, .ref g0), (1, .int x1), (3, .int x3), (4, .int x4), (5, .int x5), (6, .int x6)]) hx hb dX2_bestLetter_96 rfl hl (by decide) rfl (fun ls hl => ?_)
                    refine lv_iload hx hb dX2_bestLetter_97 (lv_at hl 5 rfl) ?_
                    refine lv_istore_n (lv' := [(3, .int x5), (2, .int x4), (0, .ref g0), (1, .int x1), (4, .int x4), (5, .int x5), (6, .int x6)]) hx hb dX2_bestLetter_99 rfl hl (by decide) rfl (fun ls hl => ?_)
                    refine z_iinc (k := 4) (lv' := fun v => [(4, .int v), (3, .int x5), (2, .int x4), (0, .ref g0), (1, .int x1), (5, .int x5), (6, .int x6)]) hx hb dX2_bestLetter_100 hl rfl e_x4 (by decide) (by omega) (by omega) (by decide) (fun _ => rfl) (fun v100 ls e100 hl => ?_)
                    refine lv_goto (tgt := 29) hx hb dX2_bestLetter_103 (by decide) ?_
                    exact ih29 (k + 1) (gb) (gf) x4 x5 v100 (by omega) (by omega) (hgb) (Eq.trans e_x4 (by omega)) (Eq.trans e_x5 (by omega)) (Eq.trans e100 (by omega)) _ _ hP hD hS _ (lv_sub hl [3, 4, 2, 1, 0] rfl)
                  · have _u := True.intro
                    have hb2 : 1 ≤ k ∧ b = bl (blc T i0 (pl n w)) (k - 1) ∧ fw = (mi T i0 (pl n w)) b := by rcases hbf with ⟨h1, h2⟩ | h1; exact absurd h2 (by omega); exact h1
                    have hble := bl_le (blc T i0 (pl n w)) (k - 1)
                    have hmb := mi_c (T := T) (i := i0) (l := b) (pl n w) (by omega) (by omega)
                    have hk1 : k - 1 + 1 = k := by omega
                    have hk3 : k - 1 + 2 = k + 1 := by omega
                    obtain ⟨hb21, hb22, hb23⟩ := hb2
                    refine lv_iload hx hb dX2_bestLetter_88 (lv_at hl 5 rfl) ?_
                    refine lv_iload_n hx hb dX2_bestLetter_90 rfl (lv_at hl 3 rfl) ?_
                    refine z_icmp_ge (tgt := 100) hx hb dX2_bestLetter_91 (by decide) e_x5 e_x3 (fun c91 => ?_) (fun c91 => ?_)
                    · have _u := True.intro
                      obtain ⟨gb, egb⟩ : ∃ g : Nat, g = b := ⟨_, rfl⟩
                      obtain ⟨gf, egf⟩ : ∃ g : Nat, g = fw := ⟨_, rfl⟩
                      have hbq := bl_f (c := (blc T i0 (pl n w))) (k := k - 1) (by rw [← hb22, hk3]; omega)
                      rw [hk1] at hbq
                      have hgb : (k + 1 = 0 ∧ gb = 0) ∨ (1 ≤ k + 1 ∧ gb = bl (blc T i0 (pl n w)) (k + 1 - 1) ∧ gf = (mi T i0 (pl n w)) gb) := Or.inr ⟨by omega, by rw [Nat.add_sub_cancel, hbq, egb, hb22], by rw [egf, egb, hb23]⟩
                      refine z_iinc (k := 4) (lv' := fun v => [(4, .int v), (0, .ref g0), (1, .int x1), (2, .int x2), (3, .int x3), (5, .int x5), (6, .int x6)]) hx hb dX2_bestLetter_100 hl rfl e_x4 (by decide) (by omega) (by omega) (by decide) (fun _ => rfl) (fun v100 ls e100 hl => ?_)
                      refine lv_goto (tgt := 29) hx hb dX2_bestLetter_103 (by decide) ?_
                      exact ih29 (k + 1) (gb) (gf) x2 x3 v100 (by omega) (by omega) (hgb) (Eq.trans e_x2 (by omega)) (Eq.trans e_x3 (by omega)) (Eq.trans e100 (by omega)) _ _ hP hD hS _ (lv_sub hl [1, 2, 3, 4, 0] rfl)
                    · have _u := True.intro
                      obtain ⟨gb, egb⟩ : ∃ g : Nat, g = k + 1 := ⟨_, rfl⟩
                      obtain ⟨gf, egf⟩ : ∃ g : Nat, g = (mi T i0 (pl n w)) (k + 1) := ⟨_, rfl⟩
                      have hbq := bl_t (c := (blc T i0 (pl n w))) (k := k - 1) (by rw [← hb22, hk3]; omega)
                      rw [hk1, hk3] at hbq
                      have hgb : (k + 1 = 0 ∧ gb = 0) ∨ (1 ≤ k + 1 ∧ gb = bl (blc T i0 (pl n w)) (k + 1 - 1) ∧ gf = (mi T i0 (pl n w)) gb) := Or.inr ⟨by omega, by rw [Nat.add_sub_cancel, hbq, egb], by rw [egf, egb]⟩
                      refine lv_iload hx hb dX2_bestLetter_94 (lv_at hl 4 rfl) ?_
                      refine lv_istore_n (lv' := [(2, .int x4), (0, .ref g0), (1, .int x1), (3, .int x3), (4, .int x4), (5, .int x5), (6, .int x6)]) hx hb dX2_bestLetter_96 rfl hl (by decide) rfl (fun ls hl => ?_)
                      refine lv_iload hx hb dX2_bestLetter_97 (lv_at hl 5 rfl) ?_
                      refine lv_istore_n (lv' := [(3, .int x5), (2, .int x4), (0, .ref g0), (1, .int x1), (4, .int x4), (5, .int x5), (6, .int x6)]) hx hb dX2_bestLetter_99 rfl hl (by decide) rfl (fun ls hl => ?_)
                      refine z_iinc (k := 4) (lv' := fun v => [(4, .int v), (3, .int x5), (2, .int x4), (0, .ref g0), (1, .int x1), (5, .int x5), (6, .int x6)]) hx hb dX2_bestLetter_100 hl rfl e_x4 (by decide) (by omega) (by omega) (by decide) (fun _ => rfl) (fun v100 ls e100 hl => ?_)
                      refine lv_goto (tgt := 29) hx hb dX2_bestLetter_103 (by decide) ?_
                      exact ih29 (k + 1) (gb) (gf) x4 x5 v100 (by omega) (by omega) (hgb) (Eq.trans e_x4 (by omega)) (Eq.trans e_x5 (by omega)) (Eq.trans e100 (by omega)) _ _ hP hD hS _ (lv_sub hl [3, 4, 2, 1, 0] rfl)
                · have _u := True.intro
                  refine lv_iload hx hb dX2_bestLetter_51 (lv_at hl 5 rfl) ?_
                  refine lv_iload hx hb dX2_bestLetter_53 (lv_at hl 4 rfl) ?_
                  refine lv_aload_n hx hb dX2_bestLetter_55 rfl (lv_at hl 0 rfl) ?_
                  refine va_get (D := D) (ci := 1) (v := .ref g1) (C := RX2) (T := TX2) (N := 5) hx hb hts hin0 hown hK hP 0 rfl rfl 1 (by decide) hf_text (fun _ h9 => h9) rfl dX2_bestLetter_56 ?_
                  refine lv_iload hx hb dX2_bestLetter_59 (lv_at hl 6 rfl) ?_
                  refine lv_iload_n hx hb dX2_bestLetter_61 rfl (lv_at hl 1 rfl) ?_
                  refine z_iadd hx hb dX2_bestLetter_62 e_x6 rfl (by omega) (by omega) (fun v62 e62 => ?_)
                  refine z_iald hx hb hK hP 1 0 rfl rfl (i0 + j) e62 (by omega) (by omega) dX2_bestLetter_63 ?_
                  refine va_calli (va_runS (As := [.int x4, .int (T (i0 + j))]) (rest := [.int x5]) ⟨hx, hb, hml, hown, hts⟩ (c_X2_agree l H.size x4 (T (i0 + j))) (va_cwS 2 hts gX2_bestLetter_X2_agree rfl rfl rfl (by decide +kernel) ⟨Nat.le_of_ble_eq_true rfl, Nat.le_of_ble_eq_true rfl⟩) ⟨cz.blind, fun U hU hW => ⟨rfl, cz.call hU⟩⟩ rfl rfl hl.1 rfl (lv_room (Nat.le_of_ble_eq_true rfl)) dX2_bestLetter_64 ⟨Nat.le_of_ble_eq_true rfl, Nat.le_of_ble_eq_true rfl⟩) hS (fun q _ h => (fr0 hS hA) q h) (fr0 hS hA) (fun v64 u t H1 locs1 ht hvm e64 hB hz1 hk1 hS => ?_)
                  have hP := kp hP hk1
                  generalize H1 = H at hP hS ⊢
                  generalize locs1 = locs at hS ⊢
                  rw [show x4 = nI (k + 1) from nIe e_x4] at e64
                  refine zb_if_eq (tgt := 74) hx hb dX2_bestLetter_67 (by decide) e64 (fun c67 => ?_) (fun c67 => ?_)
                  · have _u := True.intro
                    have q := cnt_t (f := (mif T (k + 1) i0)) (k := j) (by show (!ag (nI (k + 1)) (T (i0 + j))) = true; rw [c67]; rfl)
                    refine lv_iconst (v := 1) hx hb dX2_bestLetter_74 (by decide) ?_
                    refine z_iadd hx hb dX2_bestLetter_75 e_x5 (show (1 : Int32).toInt = 1 by decide) (by omega) (by omega) (fun v75 e75 => ?_)
                    refine lv_istore (lv' := [(5, .int v75), (0, .ref g0), (1, .int x1), (2, .int x2), (3, .int x3), (4, .int x4), (6, .int x6)]) hx hb dX2_bestLetter_76 hl (by decide) rfl (fun ls hl => ?_)
                    refine z_iinc (k := 6) (lv' := fun v => [(6, .int v), (5, .int v75), (0, .ref g0), (1, .int x1), (2, .int x2), (3, .int x3), (4, .int x4)]) hx hb dX2_bestLetter_78 hl rfl e_x6 (by decide) (by omega) (by omega) (by decide) (fun _ => rfl) (fun v78 ls e78 hl => ?_)
                    refine lv_goto (tgt := 42) hx hb dX2_bestLetter_81 (by decide) ?_
                    exact ih42 (j + 1) v75 v78 (by omega) (by omega) (Eq.trans e75 (by omega)) (Eq.trans e78 (by omega)) _ _ hP hD hS _ (lv_sub hl [2, 3, 4, 5, 6, 1, 0] rfl)
                  · have _u := True.intro
                    have q := cnt_f (f := (mif T (k + 1) i0)) (k := j) (by show (!ag (nI (k + 1)) (T (i0 + j))) = false; rw [c67]; rfl)
                    refine lv_iconst (v := 0) hx hb dX2_bestLetter_70 (by decide) ?_
                    refine lv_goto (tgt := 75) hx hb dX2_bestLetter_71 (by decide) ?_
                    refine z_iadd hx hb dX2_bestLetter_75 e_x5 (show (0 : Int32).toInt = 0 by decide) (by omega) (by omega) (fun v75 e75 => ?_)
                    refine lv_istore (lv' := [(5, .int v75), (0, .ref g0), (1, .int x1), (2, .int x2), (3, .int x3), (4, .int x4), (6, .int x6)]) hx hb dX2_bestLetter_76 hl (by decide) rfl (fun ls hl => ?_)
                    refine z_iinc (k := 6) (lv' := fun v => [(6, .int v), (5, .int v75), (0, .ref g0), (1, .int x1), (2, .int x2), (3, .int x3), (4, .int x4)]) hx hb dX2_bestLetter_78 hl rfl e_x6 (by decide) (by omega) (by omega) (by decide) (fun _ => rfl) (fun v78 ls e78 hl => ?_)
                    refine lv_goto (tgt := 42) hx hb dX2_bestLetter_81 (by decide) ?_
                    exact ih42 (j + 1) v75 v78 (by omega) (by omega) (Eq.trans e75 (by omega)) (Eq.trans e78 (by omega)) _ _ hP hD hS _ (lv_sub hl [2, 3, 4, 5, 6, 1, 0] rfl)
            have hc0 := cnt_0 (mif T (k + 1) i0)
            exact lp42 ((pl n w - 0) + 1) (0) 0 0 (by omega) (by omega) (Eq.trans (show (0 : Int32).toInt = 0 by decide) (by omega)) (Eq.trans (show (0 : Int32).toInt = 0 by decide) (by omega)) _ _ hP hD hS _ (lv_sub hl [2, 3, 4, 5, 6, 1, 0] rfl)
      exact lp29 ((26 - 0) + 1) (0) (0) (0) 0 0 1 (by omega) (by omega) (Or.inl ⟨rfl, rfl⟩) (Eq.trans (show (0 : Int32).toInt = 0 by decide) (by omega)) (Eq.trans (show (0 : Int32).toInt = 0 by decide) (by omega)) (Eq.trans (show (1 : Int32).toInt = 1 by decide) (by omega)) _ _ hP hD hS _ (lv_sub hl [3, 4, 2, 1, 0] rfl)
    · have _u := True.intro
      exact absurd c17 (by decide)

set_option maxHeartbeats 4000000 in
set_option maxRecDepth 100000 in
theorem c_X2_hasPeriod (l : Launch) (D : va_G) (E : Nat × Nat × Nat) (g0 g1 g2 : Nat) (y4 y5 : ClassId) (sz n w : Nat) (th : Int32) (T P : Nat → Int32) (hn : n ≤ 64) (hw : w ≤ 24) (hT : SymF T) (hPt : SymF P) (hD0 : va_D (fun _ => True) (MW g0 g1 g2 y4 y5 th (n) (w) T P)) (x1 : Int32) : Met l yX2_hasPeriod wsX2_hasPeriod ({ frames := 2, cells := 0, slots := 0, locals := 44 }) (va_Pc [.ref g0, .int x1] (cp D (MW g0 g1 g2 y4 y5 th (n) (w) T P) (MT y4 y5) E (va_A (MW g0 g1 g2 y4 y5 th (n) (w) T P) sz) sz)) (va_Qi (fun (r : Int32) (th2 : Int32) => th2.toInt = ((kHP x1.toInt : Nat) : Int) ∧ (kHP x1.toInt = 0 → r.toInt = bI (per T n x1.toInt.toNat))) (fun (th2 : Int32) t => va_P D vwCl (MW g0 g1 g2 y4 y5 th2 (n) (w) T P) t.heap ∧ va_D (va_A (MW g0 g1 g2 y4 y5 th (n) (w) T P) sz) (MW g0 g1 g2 y4 y5 th2 (n) (w) T P)) (va_A (MW g0 g1 g2 y4 y5 th (n) (w) T P) sz)) 0 0 (va_A (MW g0 g1 g2 y4 y5 th (n) (w) T P) sz) := by
  refine Met.ofW (cc := cX2_hasPeriod) (maxL := 2) (ret := (some .boolean)) (by decide) rfl ?_
  intro p e s m args below meth c s₁ B hml hv
  obtain ⟨rfl, hsz, hP, hK, hE⟩ := hv
  have hx := B.exec
  have hb := B.bytes
  have hr := B.returns
  have hts := atoms_spec (ws := wsX2_hasPeriod) B.pre
  have hown : s.vm.findClass RX2 = some m.cls := findClass_of_methodNamed B.named
  have hlocks := B.notSynchronized
  have hsz : s.heap.size = sz := hsz
  subst hsz
  have hD := hD0.self (sz := s.heap.size)
  have hA : ∀ q : Nat, s.heap.size ≤ q → (va_A (MW g0 g1 g2 y4 y5 th (n) (w) T P) s.heap.size) q := fun q h => Or.inr h
  have hS : va_S (va_A (MW g0 g1 g2 y4 y5 th (n) (w) T P) s.heap.size) s.heap s.heap [] := va_S.rf
  have inn : (nI n).toInt = (n : Int) := nI_toInt (by omega)
  have iww : (nI w).toInt = (w : Int) := nI_toInt (by omega)
  have hpl : pl n w = n + 1 - w := rfl
  have g_x1 := rg x1
  have hl := lv_entry ([.ref g0, .int x1]) (n := 2) (Nat.le_of_ble_eq_true rfl)
  rw [lg_entry_eq]
  generalize (lg_sl ([.ref g0, .int x1]) ++ List.replicate (2 - (lg_sl ([.ref g0, .int x1])).length) Slot.unset).toArray = ls at hl ⊢
  have hl : lv_has ls 2 [(0, .ref g0), (1, .int x1)] := hl
  refine lv_aload_n hx hb dX2_hasPeriod_0 rfl (lv_at hl 0 rfl) ?_
  refine lv_iload_n hx hb dX2_hasPeriod_1 rfl (lv_at hl 1 rfl) ?_
  refine lv_iconst (v := 1) hx hb dX2_hasPeriod_2 (by decide) ?_
  refine z_icmp_ge (tgt := 10) hx hb dX2_hasPeriod_3 (by decide) rfl (show (1 : Int32).toInt = 1 by decide) (fun c3 => ?_) (fun c3 => ?_)
  · have _u := True.intro
    refine lv_iconst (v := 0) hx hb dX2_hasPeriod_10 (by decide) ?_
    have hFc := va_free (wc := (MW g0 g1 g2 y4 y5 th (n) (w) T P)) hD hS hA [0, 1, 2] rfl
    refine va_calli (va_runV (As := [.int 0]) (rest := []) ⟨hx, hb, hml, hown, hts⟩ (c_X2_goesWell l D E g0 g1 g2 y4 y5 s.heap.size (n) (w) th T P hn hw hT hPt (hD.weaken (fun _ _ _ _ => trivial)) 0 (0) (Eq.trans (show (0 : Int32).toInt = 0 by decide) (by omega))) (cwV 1 hts gX2_hasPeriod_X2_goesWell rfl rfl rfl (by decide +kernel) ⟨Nat.le_of_ble_eq_true rfl, Nat.le_of_ble_eq_true rfl⟩) ⟨cp.blind, va_recv hK hP (ci := 1) (q0 := 0) rfl rfl, fun U hU hW => ⟨rfl, cp.call hP hK hE hS hFc hU hW⟩⟩ rfl rfl hl.1 rfl (lv_room (Nat.le_of_ble_eq_true rfl)) dX2_hasPeriod_11 ⟨Nat.le_of_ble_eq_true rfl, Nat.le_of_ble_eq_true rfl⟩) hS (fun q _ h => hFc q h) hFc (fun v11 u t H1 locs1 ht hvm e11 hB hz1 hk1 hS => ?_)
    obtain ⟨hP1, hD1⟩ := hB
    rw [ht] at hP1
    obtain ⟨hP, hD⟩ := va_join (wr := []) (w1 := (MW g0 g1 g2 y4 y5 0 (n) (w) T P)) hP hD [0, 1, 2] [] rfl rfl (by decide) (by decide) hk1 hFc hP1 hD1
    have hP : va_P D vwCl (MW g0 g1 g2 y4 y5 0 (n) (w) T P) H1 := hP
    have hD : va_D (va_A (MW g0 g1 g2 y4 y5 th (n) (w) T P) s.heap.size) (MW g0 g1 g2 y4 y5 0 (n) (w) T P) := hD
    generalize H1 = H at hP hS ⊢
    generalize locs1 = locs at hS ⊢
    refine zb_if_eq (tgt := 29) hx hb dX2_hasPeriod_14 (by decide) e11 (fun c14 => ?_) (fun c14 => ?_)
    · have _u := True.intro
      exact absurd c14 (by decide)
    · have _u := True.intro
      refine lv_aload_n hx hb dX2_hasPeriod_17 rfl (lv_at hl 0 rfl) ?_
      refine lv_iload_n hx hb dX2_hasPeriod_18 rfl (lv_at hl 1 rfl) ?_
      refine va_calli (va_runV (As := [.int x1]) (rest := []) ⟨hx, hb, hml, hown, hts⟩ (c_X2_comesAgain l D E g0 g1 g2 y4 y5 H.size (n) (w) 0 T P hn hw hT hPt x1 (x1.toInt.toNat) (Eq.trans rfl (by omega)) (by omega)) (cwV 1 hts gX2_hasPeriod_X2_comesAgain rfl rfl rfl (by decide +kernel) ⟨Nat.le_of_ble_eq_true rfl, Nat.le_of_ble_eq_true rfl⟩) ⟨cp.blind, va_recv hK hP (ci := 1) (q0 := 0) rfl rfl, fun U hU hW => ⟨rfl, cp.call hP hK hE hS (fr0 hS hA) hU hW⟩⟩ rfl rfl hl.1 rfl (lv_room (Nat.le_of_ble_eq_true rfl)) dX2_hasPeriod_19 ⟨Nat.le_of_ble_eq_true rfl, Nat.le_of_ble_eq_true rfl⟩) hS (fun q _ h => (fr0 hS hA) q h) (fr0 hS hA) (fun v19 u t H1 locs1 ht hvm e19 hB hz1 hk1 hS => ?_)
      have hP := kp hP hk1
      generalize H1 = H at hP hS ⊢
      generalize locs1 = locs at hS ⊢
      refine zb_if_eq (tgt := 29) hx hb dX2_hasPeriod_22 (by decide) e19 (fun c22 => ?_) (fun c22 => ?_)
      · have _u := True.intro
        refine lv_iconst (v := 0) hx hb dX2_hasPeriod_29 (by decide) ?_
        have hk0 : kHP x1.toInt = 0 := by unfold kHP; (repeat' split) <;> omega
        refine W.widen (k := 0) (n := 0) (Nat.le_of_ble_eq_true rfl) (Nat.le_of_ble_eq_true rfl) ?_
        exact W.zret (v := 0) hx hb hr (bnar (b := false) (show (0 : Int32).toInt = bI false by decide)) (fun t ht hW => ⟨⟨_, 0, rfl, ⟨(show (0 : Int32).toInt = 0 by decide).trans (by omega), fun _ => (by first | (rw [c22]; decide))⟩, ⟨by rw [ht]; exact hP, hD⟩⟩, hS.F ht⟩) hS.2.2 dX2_hasPeriod_30
      · have _u := True.intro
        refine lv_iconst (v := 1) hx hb dX2_hasPeriod_25 (by decide) ?_
        refine lv_goto (tgt := 30) hx hb dX2_hasPeriod_26 (by decide) ?_
        have hk0 : kHP x1.toInt = 0 := by unfold kHP; (repeat' split) <;> omega
        refine W.widen (k := 0) (n := 0) (Nat.le_of_ble_eq_true rfl) (Nat.le_of_ble_eq_true rfl) ?_
        exact W.zret (v := 1) hx hb hr (bnar (b := true) (show (1 : Int32).toInt = bI true by decide)) (fun t ht hW => ⟨⟨_, 0, rfl, ⟨(show (0 : Int32).toInt = 0 by decide).trans (by omega), fun _ => (by first | (rw [c22]; decide))⟩, ⟨by rw [ht]; exact hP, hD⟩⟩, hS.F ht⟩) hS.2.2 dX2_hasPeriod_30
  · have _u := True.intro
    refine lv_iconst (v := 1) hx hb dX2_hasPeriod_6 (by decide) ?_
    refine lv_goto (tgt := 11) hx hb dX2_hasPeriod_7 (by decide) ?_
    have hFc := va_free (wc := (MW g0 g1 g2 y4 y5 th (n) (w) T P)) hD hS hA [0, 1, 2] rfl
    refine va_calli (va_runV (As := [.int 1]) (rest := []) ⟨hx, hb, hml, hown, hts⟩ (c_X2_goesWell l D E g0 g1 g2 y4 y5 s.heap.size (n) (w) th T P hn hw hT hPt (hD.weaken (fun _ _ _ _ => trivial)) 1 (1) (Eq.trans (show (1 : Int32).toInt = 1 by decide) (by omega))) (cwV 1 hts gX2_hasPeriod_X2_goesWell rfl rfl rfl (by decide +kernel) ⟨Nat.le_of_ble_eq_true rfl, Nat.le_of_ble_eq_true rfl⟩) ⟨cp.blind, va_recv hK hP (ci := 1) (q0 := 0) rfl rfl, fun U hU hW => ⟨rfl, cp.call hP hK hE hS hFc hU hW⟩⟩ rfl rfl hl.1 rfl (lv_room (Nat.le_of_ble_eq_true rfl)) dX2_hasPeriod_11 ⟨Nat.le_of_ble_eq_true rfl, Nat.le_of_ble_eq_true rfl⟩) hS (fun q _ h => hFc q h) hFc (fun v11 u t H1 locs1 ht hvm e11 hB hz1 hk1 hS => ?_)
    obtain ⟨hP1, hD1⟩ := hB
    rw [ht] at hP1
    obtain ⟨hP, hD⟩ := va_join (wr := []) (w1 := (MW g0 g1 g2 y4 y5 1 (n) (w) T P)) hP hD [0, 1, 2] [] rfl rfl (by decide) (by decide) hk1 hFc hP1 hD1
    have hP : va_P D vwCl (MW g0 g1 g2 y4 y5 1 (n) (w) T P) H1 := hP
    have hD : va_D (va_A (MW g0 g1 g2 y4 y5 th (n) (w) T P) s.heap.size) (MW g0 g1 g2 y4 y5 1 (n) (w) T P) := hD
    generalize H1 = H at hP hS ⊢
    generalize locs1 = locs at hS ⊢
    refine zb_if_eq (tgt := 29) hx hb dX2_hasPeriod_14 (by decide) e11 (fun c14 => ?_) (fun c14 => ?_)
    · have _u := True.intro
      refine lv_iconst (v := 0) hx hb dX2_hasPeriod_29 (by decide) ?_
      have hk0 : kHP x1.toInt = 1 := by unfold kHP; (repeat' split) <;> omega
      refine W.widen (k := 0) (n := 0) (Nat.le_of_ble_eq_true rfl) (Nat.le_of_ble_eq_true rfl) ?_
      exact W.zret (v := 0) hx hb hr (bnar (b := false) (show (0 : Int32).toInt = bI false by decide)) (fun t ht hW => ⟨⟨_, 1, rfl, ⟨(show (1 : Int32).toInt = 1 by decide).trans (by omega), fun h => absurd h (by omega)⟩, ⟨by rw [ht]; exact hP, hD⟩⟩, hS.F ht⟩) hS.2.2 dX2_hasPeriod_30
    · have _u := True.intro
      exact absurd c14 (by decide)

set_option maxHeartbeats 4000000 in
set_option maxRecDepth 100000 in
theorem c_X2_leastPeriod (l : Launch) (D : va_G) (E : Nat × Nat × Nat) (g0 g1 g2 : Nat) (y4 y5 : ClassId) (sz n w : Nat) (th : Int32) (T P : Nat → Int32) (hn : n ≤ 64) (hw : w ≤ 24) (hT : SymF T) (hPt : SymF P) (hD0 : va_D (fun _ => True) (MW g0 g1 g2 y4 y5 th (n) (w) T P)) : Met l yX2_leastPeriod wsX2_leastPeriod ({ frames := 2, cells := 0, slots := 0, locals := 44 }) (va_Pc [.ref g0] (cp D (MW g0 g1 g2 y4 y5 th (n) (w) T P) (MT y4 y5) E (va_A (MW g0 g1 g2 y4 y5 th (n) (w) T P) sz) sz)) (va_Qi (fun (r : Int32) (_ : Unit) => r.toInt = ((lpd T n : Nat) : Int)) (fun _ t => va_P D vwCl (MW g0 g1 g2 y4 y5 0 (n) (w) T P) t.heap ∧ va_D (va_A (MW g0 g1 g2 y4 y5 th (n) (w) T P) sz) (MW g0 g1 g2 y4 y5 0 (n) (w) T P)) (va_A (MW g0 g1 g2 y4 y5 th (n) (w) T P) sz)) 0 0 (va_A (MW g0 g1 g2 y4 y5 th (n) (w) T P) sz) := by
  refine Met.ofW (cc := cX2_leastPeriod) (maxL := 2) (ret := (some .int)) (by decide) rfl ?_
  intro p e s m args below meth c s₁ B hml hv
  obtain ⟨rfl, hsz, hP, hK, hE⟩ := hv
  have hx := B.exec
  have hb := B.bytes
  have hr := B.returns
  have hts := atoms_spec (ws := wsX2_leastPeriod) B.pre
  have hown : s.vm.findClass RX2 = some m.cls := findClass_of_methodNamed B.named
  have hlocks := B.notSynchronized
  have hsz : s.heap.size = sz := hsz
  subst hsz
  have hD := hD0.self (sz := s.heap.size)
  have hA : ∀ q : Nat, s.heap.size ≤ q → (va_A (MW g0 g1 g2 y4 y5 th (n) (w) T P) s.heap.size) q := fun q h => Or.inr h
  have hS : va_S (va_A (MW g0 g1 g2 y4 y5 th (n) (w) T P) s.heap.size) s.heap s.heap [] := va_S.rf
  have inn : (nI n).toInt = (n : Int) := nI_toInt (by omega)
  have iww : (nI w).toInt = (w : Int) := nI_toInt (by omega)
  have hf_thrown := hts (.fieldLink RX2 16 "BlankMatcherModel" "thrown" "I") (by decide +kernel)
  have hpl : pl n w = n + 1 - w := rfl
  have hin0 : ∀ w ∈ wsX20, w ∈ wsX2_leastPeriod := by decide +kernel
  have hl := lv_entry ([.ref g0]) (n := 2) (Nat.le_of_ble_eq_true rfl)
  rw [lg_entry_eq]
  generalize (lg_sl ([.ref g0]) ++ List.replicate (2 - (lg_sl ([.ref g0])).length) Slot.unset).toArray = ls at hl ⊢
  have hl : lv_has ls 2 [(0, .ref g0)] := hl
  refine lv_aload_n hx hb dX2_leastPeriod_0 rfl (lv_at hl 0 rfl) ?_
  refine lv_iconst (v := 0) hx hb dX2_leastPeriod_1 (by decide) ?_
  refine va_put (D := D) (ci := 1) (v := .int 0) (ty := .int) (C := RX2) (T := TX2) (N := 5) hx hb hts hin0 tyX2 tyX2_ok nmX2 hown hK hP hD hS 0 rfl rfl 0 (by decide) hf_thrown (fun _ h9 => h9) rfl (by decide +kernel) rfl rfl (Nat.le_of_ble_eq_true rfl) dX2_leastPeriod_2 (fun H locs hP hD hS => ?_)
  have hP : va_P D vwCl (MW g0 g1 g2 y4 y5 0 (n) (w) T P) H := hP
  have hD : va_D (va_A (MW g0 g1 g2 y4 y5 th (n) (w) T P) s.heap.size) (MW g0 g1 g2 y4 y5 0 (n) (w) T P) := hD
  refine lv_iconst (v := 1) hx hb dX2_leastPeriod_5 (by decide) ?_
  refine lv_istore_n (lv' := [(1, .int 1), (0, .ref g0)]) hx hb dX2_leastPeriod_6 rfl hl (by decide) rfl (fun ls hl => ?_)
  have lp7 : ∀ (nf : Nat) (j : Nat) (x1 : Int32), max 1 n - j < nf → (1 ≤ j ∧ j ≤ max 1 n) → (∀ i, 1 ≤ i → i < j → per T n i = false) → x1.toInt = (j : Int) → ∀ (H : Heap) (locs : List Loc), va_P D vwCl (MW g0 g1 g2 y4 y5 0 (n) (w) T P) H → va_D (va_A (MW g0 g1 g2 y4 y5 th (n) (w) T P) s.heap.size) (MW g0 g1 g2 y4 y5 0 (n) (w) T P) → va_S (va_A (MW g0 g1 g2 y4 y5 th (n) (w) T P) s.heap.size) s.heap H locs → ∀ (ls : Array Slot), lv_has ls 2 [(0, .ref g0), (1, .int x1)] → W p l e (headSpec wsX2_leastPeriod ({ frames := 2, cells := 0, slots := 0, locals := 44 })).room s m [.ref g0].toArray below meth c H locs 0 0 (MQ below (va_Qi (fun (r : Int32) (_ : Unit) => r.toInt = ((lpd T n : Nat) : Int)) (fun _ t => va_P D vwCl (MW g0 g1 g2 y4 y5 0 (n) (w) T P) t.heap ∧ va_D (va_A (MW g0 g1 g2 y4 y5 th (n) (w) T P) s.heap.size) (MW g0 g1 g2 y4 y5 0 (n) (w) T P)) (va_A (MW g0 g1 g2 y4 y5 th (n) (w) T P) s.heap.size)) [.ref g0].toArray s 0 0 (va_A (MW g0 g1 g2 y4 y5 th (n) (w) T P) s.heap.size)) (F0 m 7 ls []) := by
    intro nf
    induction nf with
    | zero => intros; omega
    | succ nf ih7 =>
      intro j x1 hnf hj hz e_x1 H locs hP hD hS ls hl
      refine lv_aload_n hx hb dX2_leastPeriod_7 rfl (lv_at hl 0 rfl) ?_
      refine lv_iload_n hx hb dX2_leastPeriod_8 rfl (lv_at hl 1 rfl) ?_
      refine va_calli (va_runV (As := [.int x1]) (rest := []) ⟨hx, hb, hml, hown, hts⟩ (c_X2_comesAgain l D E g0 g1 g2 y4 y5 H.size (n) (w) 0 T P hn hw hT hPt x1 (j) (Eq.trans e_x1 (by omega)) (by omega)) (cwV 1 hts gX2_leastPeriod_X2_comesAgain rfl rfl rfl (by decide +kernel) ⟨Nat.le_of_ble_eq_true rfl, Nat.le_of_ble_eq_true rfl⟩) ⟨cp.blind, va_recv hK hP (ci := 1) (q0 := 0) rfl rfl, fun U hU hW => ⟨rfl, cp.call hP hK hE hS (fr0 hS hA) hU hW⟩⟩ rfl rfl hl.1 rfl (lv_room (Nat.le_of_ble_eq_true rfl)) dX2_leastPeriod_9 ⟨Nat.le_of_ble_eq_true rfl, Nat.le_of_ble_eq_true rfl⟩) hS (fun q _ h => (fr0 hS hA) q h) (fr0 hS hA) (fun v9 u t H1 locs1 ht hvm e9 hB hz1 hk1 hS => ?_)
      have hP := kp hP hk1
      generalize H1 = H at hP hS ⊢
      generalize locs1 = locs at hS ⊢
      refine zb_if_ne (tgt := 21) hx hb dX2_leastPeriod_12 (by decide) e9 (fun c12 => ?_) (fun c12 => ?_)
      · have _u := True.intro
        refine lv_iload_n hx hb dX2_leastPeriod_21 rfl (lv_at hl 1 rfl) ?_
        refine W.widen (k := 0) (n := 0) (Nat.le_of_ble_eq_true rfl) (Nat.le_of_ble_eq_true rfl) ?_
        exact W.iret (v := x1) hx hb hr (fun t ht hW => ⟨⟨_, (), rfl, (Eq.trans e_x1 (by by_cases q : j < max 1 n; rw [lpd_at hj.1 q c12 hz]; rw [lpd_no (fun i h1 h2 => hz i h1 (by omega))]; omega)), ⟨by rw [ht]; exact hP, hD⟩⟩, hS.F ht⟩) hS.2.2 dX2_leastPeriod_22
      · have _u := True.intro
        have hne : ¬ j = max 1 n := fun q => by rw [per_end (by omega)] at c12; cases c12
        refine z_iinc (k := 1) (lv' := fun v => [(1, .int v), (0, .ref g0)]) hx hb dX2_leastPeriod_15 hl rfl e_x1 (by decide) (by omega) (by omega) (by decide) (fun _ => rfl) (fun v15 ls e15 hl => ?_)
        refine lv_goto (tgt := 7) hx hb dX2_leastPeriod_18 (by decide) ?_
        exact ih7 (j + 1) v15 (by omega) (by omega) (ltS hz c12) (Eq.trans e15 (by omega)) _ _ hP hD hS _ (lv_sub hl [1, 0] rfl)
  exact lp7 ((max 1 n - 1) + 1) (1) 1 (by omega) (by omega) (fun i h1 h2 => absurd h1 (by omega)) (Eq.trans (show (1 : Int32).toInt = 1 by decide) (by omega)) _ _ hP hD hS _ (lv_sub hl [1, 0] rfl)
