set_option maxHeartbeats 4000000 in
set_option maxRecDepth 100000 in
theorem law_c8 {p : Program} {l : Launch} {e : Env} {s : State} {m : MethodId} {below : List Frame} {meth : Method} {c : Code} {D : va_G} {E : Nat × Nat × Nat} {b L : Nat} {xs : Nat → Int32} {h0 h1 h2 h3 b0 g0 g1 g2 : Nat} {y1 y2 y3 y6 y4 y5 : ClassId} {c9 : Nat} {x4 : Int32} {n w : Nat} {th : Int32} {T P M : Nat → Int32} {O : Nat → Int64} {H : Heap} {locs : List Loc} {ls : Array Slot} (hlt : l.stackTraces = false) (hEd : E.1 ≠ E.2.1 ∧ E.1 ≠ E.2.2 ∧ E.2.1 ≠ E.2.2) (hE : XEnv E (fun q : Nat => s.heap.size ≤ q) s s.heap) (hL : L ≤ 1536) (C0 : lw_At p s m meth c b L xs) (h4 : x4.toInt = ((3 * c9 : Nat) : Int)) (hc : 3 * c9 + 3 ≤ L) (hn : n ≤ 64) (hw : w ≤ 24) (hT : SymF T) (hPt : SymF P) (hK : va_K D vwCl (GT y1 y2 y3 y6 y4 y5) s) (hP : va_P D vwCl (GW h0 h1 h2 h3 b0 g0 g1 g2 y1 y2 y3 y6 y4 y5 n w th T P M O) H) (hD : va_D (fun q : Nat => s.heap.size ≤ q) (GW h0 h1 h2 h3 b0 g0 g1 g2 y1 y2 y3 y6 y4 y5 n w th T P M O)) (hS : va_S (fun q : Nat => s.heap.size ≤ q) s.heap H locs) (hl : lv_has ls 7 [(0, .ref b), (1, .ref h0), (2, .ref g0), (3, .ref b0), (4, .int x4)]) (K : LK p l e s m below meth c D b h0 h1 h2 h3 b0 g0 g1 g2 y1 y2 y3 y6 y4 y5 c9 x4) : W p l e room_1 s m #[Value.ref b] below meth c H locs (8 + 2 * c9) (252 + 12 * c9) (lw_Z below #[Value.ref b] s) (F0 m 578 ls []) := by
  obtain ⟨hx, hb, hr, hml, hown, hts0, hX, hbl, hlocks, hgv⟩ := C0
  have hts : ∀ w ∈ wsL_law, w.before #[Value.ref b] s = true := fun w h => hts0 w (wsL_law_in w h)
  have hA : ∀ q : Nat, s.heap.size ≤ q → (fun q : Nat => s.heap.size ≤ q) q := fun _ h => h
  have hbA : ¬ (fun q : Nat => s.heap.size ≤ q) b := Nat.not_le.mpr hbl
  have hR1 : room_1.cells = 1051 := rfl
  have hR2 : room_1.slots = 8558 := rfl
  have hKx := hK.sub (tys' := (XT y1 y2 y3)) [0, 1, 2] rfl
  have hKl := hK.sub (tys' := (LT y1 y2 y3 y6)) [0, 1, 2, 3] rfl
  have hKm := hK.sub (tys' := (MT y4 y5)) [4, 5] rfl
  refine lv_aload_n hx hb dL_law_578 rfl (lv_at hl 1 rfl) ?_
  have hPc := hP.sub (ws' := (XW h0 h1 h2 h3 y1 y2 y3 (n) (w) T P M)) [0, 1, 2, 3] rfl
  refine va_calli (va_runV (As := []) (rest := []) ⟨hx, hb, hml, hown, hts⟩ (c_X1_textLength l D E h0 h1 h2 h3 y1 y2 y3 H.size (n) (w) T P M hn hw hT hPt) (cwV 0 hts gL_law_X1_textLength rfl rfl rfl (by decide +kernel) ⟨Nat.le_of_ble_eq_true rfl, Nat.le_of_ble_eq_true rfl⟩) ⟨cp.blind, va_recv hK hP (ci := 0) (q0 := 0) rfl rfl, fun U hU hW => ⟨rfl, cp.call hPc hKx hE hS (fr0 hS hA) hU hW⟩⟩ rfl rfl hl.1 rfl (lv_room (Nat.le_of_ble_eq_true rfl)) dL_law_579 ⟨by rw [hR1]; omega, by rw [hR2]; omega⟩) hS (fun q _ h => (fr0 hS hA) q h) (fr0 hS hA) (fun v579 u579 t H1 locs1 ht hvm e579 hB hz1 hk1 hS => ?_)
  have hP := kp hP hk1
  generalize H1 = H at hP hS ⊢
  generalize locs1 = locs at hS ⊢
  refine lv_aload_n hx hb dL_law_582 rfl (lv_at hl 2 rfl) ?_
  have hPc := hP.sub (ws' := (MW g0 g1 g2 y4 y5 th (n) (w) T P)) [5, 6, 7] rfl
  have hFc := va_free (wc := (MW g0 g1 g2 y4 y5 th (n) (w) T P)) hD hS hA [5, 6, 7] rfl
  have hDc := hD.sub (ws' := (MW g0 g1 g2 y4 y5 th (n) (w) T P)) [5, 6, 7] (by decide) rfl
  refine va_calli (va_runV (As := []) (rest := [.int v579]) ⟨hx, hb, hml, hown, hts⟩ (c_X2_textLength l D E g0 g1 g2 y4 y5 H.size (n) (w) th T P hn hw hT hPt (hDc.weaken (fun _ _ _ _ => trivial))) (cwV 0 hts gL_law_X2_textLength rfl rfl rfl (by decide +kernel) ⟨Nat.le_of_ble_eq_true rfl, Nat.le_of_ble_eq_true rfl⟩) ⟨cp.blind, va_recv hK hP (ci := 1) (q0 := 5) rfl rfl, fun U hU hW => ⟨rfl, cp.call hPc hKm hE hS hFc hU hW⟩⟩ rfl rfl hl.1 rfl (lv_room (Nat.le_of_ble_eq_true rfl)) dL_law_583 ⟨by rw [hR1]; omega, by rw [hR2]; omega⟩) hS (fun q _ h => hFc q h) hFc (fun v583 u583 t H1 locs1 ht hvm e583 hB hz1 hk1 hS => ?_)
  obtain ⟨hP1, hD1⟩ := hB
  rw [ht] at hP1
  obtain ⟨hP, hD⟩ := va_join (wr := (LW h0 h1 h2 h3 b0 y1 y2 y3 y6 (n) (w) T P M O)) (w1 := (MW g0 g1 g2 y4 y5 0 (n) (w) T P)) hP hD [5, 6, 7] [0, 1, 2, 3, 4] rfl rfl (by decide) (by decide) hk1 hFc hP1 hD1
  have hP : va_P D vwCl (GW h0 h1 h2 h3 b0 g0 g1 g2 y1 y2 y3 y6 y4 y5 (n) (w) 0 T P M O) H1 := hP
  have hD : va_D (fun q : Nat => s.heap.size ≤ q) (GW h0 h1 h2 h3 b0 g0 g1 g2 y1 y2 y3 y6 y4 y5 (n) (w) 0 T P M O) := hD
  generalize H1 = H at hP hS ⊢
  generalize locs1 = locs at hS ⊢
  refine z_icmp_eq (tgt := 1453) hx hb dL_law_586 (by decide) e579 e583 (fun c586 => ?_) (fun c586 => ?_)
  · have _u := True.intro
    refine W.widen (k := 8 + 2 * c9 + 2) (n := 252 + 12 * c9 + 12) (by omega) (by omega) ?_
    exact K (n) (w) 0 T P M O hn hw hT hPt _ _ hP hD hS _ (lv_sub hl [0, 1, 2, 3, 4] rfl)
  · exfalso; omega
set_option maxHeartbeats 4000000 in
set_option maxRecDepth 100000 in
theorem law_c9 {p : Program} {l : Launch} {e : Env} {s : State} {m : MethodId} {below : List Frame} {meth : Method} {c : Code} {D : va_G} {E : Nat × Nat × Nat} {b L : Nat} {xs : Nat → Int32} {h0 h1 h2 h3 b0 g0 g1 g2 : Nat} {y1 y2 y3 y6 y4 y5 : ClassId} {c9 : Nat} {x4 : Int32} {n w : Nat} {th : Int32} {T P M : Nat → Int32} {O : Nat → Int64} {H : Heap} {locs : List Loc} {ls : Array Slot} (hlt : l.stackTraces = false) (hEd : E.1 ≠ E.2.1 ∧ E.1 ≠ E.2.2 ∧ E.2.1 ≠ E.2.2) (hE : XEnv E (fun q : Nat => s.heap.size ≤ q) s s.heap) (hL : L ≤ 1536) (C0 : lw_At p s m meth c b L xs) (h4 : x4.toInt = ((3 * c9 : Nat) : Int)) (hc : 3 * c9 + 3 ≤ L) (hn : n ≤ 64) (hw : w ≤ 24) (hT : SymF T) (hPt : SymF P) (hK : va_K D vwCl (GT y1 y2 y3 y6 y4 y5) s) (hP : va_P D vwCl (GW h0 h1 h2 h3 b0 g0 g1 g2 y1 y2 y3 y6 y4 y5 n w th T P M O) H) (hD : va_D (fun q : Nat => s.heap.size ≤ q) (GW h0 h1 h2 h3 b0 g0 g1 g2 y1 y2 y3 y6 y4 y5 n w th T P M O)) (hS : va_S (fun q : Nat => s.heap.size ≤ q) s.heap H locs) (hl : lv_has ls 7 [(0, .ref b), (1, .ref h0), (2, .ref g0), (3, .ref b0), (4, .int x4)]) (K : LK p l e s m below meth c D b h0 h1 h2 h3 b0 g0 g1 g2 y1 y2 y3 y6 y4 y5 c9 x4) : W p l e room_1 s m #[Value.ref b] below meth c H locs (8 + 2 * c9) (252 + 12 * c9) (lw_Z below #[Value.ref b] s) (F0 m 591 ls []) := by
  obtain ⟨hx, hb, hr, hml, hown, hts0, hX, hbl, hlocks, hgv⟩ := C0
  have hts : ∀ w ∈ wsL_law, w.before #[Value.ref b] s = true := fun w h => hts0 w (wsL_law_in w h)
  have hA : ∀ q : Nat, s.heap.size ≤ q → (fun q : Nat => s.heap.size ≤ q) q := fun _ h => h
  have hbA : ¬ (fun q : Nat => s.heap.size ≤ q) b := Nat.not_le.mpr hbl
  have hR1 : room_1.cells = 1051 := rfl
  have hR2 : room_1.slots = 8558 := rfl
  have hKx := hK.sub (tys' := (XT y1 y2 y3)) [0, 1, 2] rfl
  have hKl := hK.sub (tys' := (LT y1 y2 y3 y6)) [0, 1, 2, 3] rfl
  have hKm := hK.sub (tys' := (MT y4 y5)) [4, 5] rfl
  refine lv_aload_n hx hb dL_law_591 rfl (lv_at hl 1 rfl) ?_
  have hPc := hP.sub (ws' := (XW h0 h1 h2 h3 y1 y2 y3 (n) (w) T P M)) [0, 1, 2, 3] rfl
  refine va_calli (va_runV (As := []) (rest := []) ⟨hx, hb, hml, hown, hts⟩ (c_X1_patternLength l D E h0 h1 h2 h3 y1 y2 y3 H.size (n) (w) T P M hn hw hT hPt) (cwV 0 hts gL_law_X1_patternLength rfl rfl rfl (by decide +kernel) ⟨Nat.le_of_ble_eq_true rfl, Nat.le_of_ble_eq_true rfl⟩) ⟨cp.blind, va_recv hK hP (ci := 0) (q0 := 0) rfl rfl, fun U hU hW => ⟨rfl, cp.call hPc hKx hE hS (fr0 hS hA) hU hW⟩⟩ rfl rfl hl.1 rfl (lv_room (Nat.le_of_ble_eq_true rfl)) dL_law_592 ⟨by rw [hR1]; omega, by rw [hR2]; omega⟩) hS (fun q _ h => (fr0 hS hA) q h) (fr0 hS hA) (fun v592 u592 t H1 locs1 ht hvm e592 hB hz1 hk1 hS => ?_)
  have hP := kp hP hk1
  generalize H1 = H at hP hS ⊢
  generalize locs1 = locs at hS ⊢
  refine lv_aload_n hx hb dL_law_595 rfl (lv_at hl 2 rfl) ?_
  have hPc := hP.sub (ws' := (MW g0 g1 g2 y4 y5 th (n) (w) T P)) [5, 6, 7] rfl
  have hFc := va_free (wc := (MW g0 g1 g2 y4 y5 th (n) (w) T P)) hD hS hA [5, 6, 7] rfl
  have hDc := hD.sub (ws' := (MW g0 g1 g2 y4 y5 th (n) (w) T P)) [5, 6, 7] (by decide) rfl
  refine va_calli (va_runV (As := []) (rest := [.int v592]) ⟨hx, hb, hml, hown, hts⟩ (c_X2_patternLength l D E g0 g1 g2 y4 y5 H.size (n) (w) th T P hn hw hT hPt (hDc.weaken (fun _ _ _ _ => trivial))) (cwV 0 hts gL_law_X2_patternLength rfl rfl rfl (by decide +kernel) ⟨Nat.le_of_ble_eq_true rfl, Nat.le_of_ble_eq_true rfl⟩) ⟨cp.blind, va_recv hK hP (ci := 1) (q0 := 5) rfl rfl, fun U hU hW => ⟨rfl, cp.call hPc hKm hE hS hFc hU hW⟩⟩ rfl rfl hl.1 rfl (lv_room (Nat.le_of_ble_eq_true rfl)) dL_law_596 ⟨by rw [hR1]; omega, by rw [hR2]; omega⟩) hS (fun q _ h => hFc q h) hFc (fun v596 u596 t H1 locs1 ht hvm e596 hB hz1 hk1 hS => ?_)
  obtain ⟨hP1, hD1⟩ := hB
  rw [ht] at hP1
  obtain ⟨hP, hD⟩ := va_join (wr := (LW h0 h1 h2 h3 b0 y1 y2 y3 y6 (n) (w) T P M O)) (w1 := (MW g0 g1 g2 y4 y5 0 (n) (w) T P)) hP hD [5, 6, 7] [0, 1, 2, 3, 4] rfl rfl (by decide) (by decide) hk1 hFc hP1 hD1
  have hP : va_P D vwCl (GW h0 h1 h2 h3 b0 g0 g1 g2 y1 y2 y3 y6 y4 y5 (n) (w) 0 T P M O) H1 := hP
  have hD : va_D (fun q : Nat => s.heap.size ≤ q) (GW h0 h1 h2 h3 b0 g0 g1 g2 y1 y2 y3 y6 y4 y5 (n) (w) 0 T P M O) := hD
  generalize H1 = H at hP hS ⊢
  generalize locs1 = locs at hS ⊢
  refine z_icmp_eq (tgt := 1453) hx hb dL_law_599 (by decide) e592 e596 (fun c599 => ?_) (fun c599 => ?_)
  · have _u := True.intro
    refine W.widen (k := 8 + 2 * c9 + 2) (n := 252 + 12 * c9 + 12) (by omega) (by omega) ?_
    exact K (n) (w) 0 T P M O hn hw hT hPt _ _ hP hD hS _ (lv_sub hl [0, 1, 2, 3, 4] rfl)
  · exfalso; omega
set_option maxHeartbeats 4000000 in
set_option maxRecDepth 100000 in
theorem law_c10 {p : Program} {l : Launch} {e : Env} {s : State} {m : MethodId} {below : List Frame} {meth : Method} {c : Code} {D : va_G} {E : Nat × Nat × Nat} {b L : Nat} {xs : Nat → Int32} {h0 h1 h2 h3 b0 g0 g1 g2 : Nat} {y1 y2 y3 y6 y4 y5 : ClassId} {c9 : Nat} {x4 : Int32} {n w : Nat} {th : Int32} {T P M : Nat → Int32} {O : Nat → Int64} {H : Heap} {locs : List Loc} {ls : Array Slot} (hlt : l.stackTraces = false) (hEd : E.1 ≠ E.2.1 ∧ E.1 ≠ E.2.2 ∧ E.2.1 ≠ E.2.2) (hE : XEnv E (fun q : Nat => s.heap.size ≤ q) s s.heap) (hL : L ≤ 1536) (C0 : lw_At p s m meth c b L xs) (h4 : x4.toInt = ((3 * c9 : Nat) : Int)) (hc : 3 * c9 + 3 ≤ L) (hn : n ≤ 64) (hw : w ≤ 24) (hT : SymF T) (hPt : SymF P) (hK : va_K D vwCl (GT y1 y2 y3 y6 y4 y5) s) (hP : va_P D vwCl (GW h0 h1 h2 h3 b0 g0 g1 g2 y1 y2 y3 y6 y4 y5 n w th T P M O) H) (hD : va_D (fun q : Nat => s.heap.size ≤ q) (GW h0 h1 h2 h3 b0 g0 g1 g2 y1 y2 y3 y6 y4 y5 n w th T P M O)) (hS : va_S (fun q : Nat => s.heap.size ≤ q) s.heap H locs) (hl : lv_has ls 7 [(0, .ref b), (1, .ref h0), (2, .ref g0), (3, .ref b0), (4, .int x4)]) (K : LK p l e s m below meth c D b h0 h1 h2 h3 b0 g0 g1 g2 y1 y2 y3 y6 y4 y5 c9 x4) : W p l e room_1 s m #[Value.ref b] below meth c H locs (8 + 2 * c9) (252 + 12 * c9) (lw_Z below #[Value.ref b] s) (F0 m 604 ls []) := by
  obtain ⟨hx, hb, hr, hml, hown, hts0, hX, hbl, hlocks, hgv⟩ := C0
  have hts : ∀ w ∈ wsL_law, w.before #[Value.ref b] s = true := fun w h => hts0 w (wsL_law_in w h)
  have hA : ∀ q : Nat, s.heap.size ≤ q → (fun q : Nat => s.heap.size ≤ q) q := fun _ h => h
  have hbA : ¬ (fun q : Nat => s.heap.size ≤ q) b := Nat.not_le.mpr hbl
  have hR1 : room_1.cells = 1051 := rfl
  have hR2 : room_1.slots = 8558 := rfl
  have hKx := hK.sub (tys' := (XT y1 y2 y3)) [0, 1, 2] rfl
  have hKl := hK.sub (tys' := (LT y1 y2 y3 y6)) [0, 1, 2, 3] rfl
  have hKm := hK.sub (tys' := (MT y4 y5)) [4, 5] rfl
  refine lv_aload_n hx hb dL_law_604 rfl (lv_at hl 1 rfl) ?_
  have hPc := hP.sub (ws' := (XW h0 h1 h2 h3 y1 y2 y3 (n) (w) T P M)) [0, 1, 2, 3] rfl
  refine va_calli (va_runV (As := []) (rest := []) ⟨hx, hb, hml, hown, hts⟩ (c_X1_places l D E h0 h1 h2 h3 y1 y2 y3 H.size (n) (w) T P M hn hw hT hPt) (cwV 0 hts gL_law_X1_places rfl rfl rfl (by decide +kernel) ⟨Nat.le_of_ble_eq_true rfl, Nat.le_of_ble_eq_true rfl⟩) ⟨cp.blind, va_recv hK hP (ci := 0) (q0 := 0) rfl rfl, fun U hU hW => ⟨rfl, cp.call hPc hKx hE hS (fr0 hS hA) hU hW⟩⟩ rfl rfl hl.1 rfl (lv_room (Nat.le_of_ble_eq_true rfl)) dL_law_605 ⟨by rw [hR1]; omega, by rw [hR2]; omega⟩) hS (fun q _ h => (fr0 hS hA) q h) (fr0 hS hA) (fun v605 u605 t H1 locs1 ht hvm e605 hB hz1 hk1 hS => ?_)
  have hP := kp hP hk1
  generalize H1 = H at hP hS ⊢
  generalize locs1 = locs at hS ⊢
  refine lv_aload_n hx hb dL_law_608 rfl (lv_at hl 2 rfl) ?_
  have hPc := hP.sub (ws' := (MW g0 g1 g2 y4 y5 th (n) (w) T P)) [5, 6, 7] rfl
  have hFc := va_free (wc := (MW g0 g1 g2 y4 y5 th (n) (w) T P)) hD hS hA [5, 6, 7] rfl
  have hDc := hD.sub (ws' := (MW g0 g1 g2 y4 y5 th (n) (w) T P)) [5, 6, 7] (by decide) rfl
  refine va_calli (va_runV (As := []) (rest := [.int v605]) ⟨hx, hb, hml, hown, hts⟩ (c_X2_places l D E g0 g1 g2 y4 y5 H.size (n) (w) th T P hn hw hT hPt (hDc.weaken (fun _ _ _ _ => trivial))) (cwV 0 hts gL_law_X2_places rfl rfl rfl (by decide +kernel) ⟨Nat.le_of_ble_eq_true rfl, Nat.le_of_ble_eq_true rfl⟩) ⟨cp.blind, va_recv hK hP (ci := 1) (q0 := 5) rfl rfl, fun U hU hW => ⟨rfl, cp.call hPc hKm hE hS hFc hU hW⟩⟩ rfl rfl hl.1 rfl (lv_room (Nat.le_of_ble_eq_true rfl)) dL_law_609 ⟨by rw [hR1]; omega, by rw [hR2]; omega⟩) hS (fun q _ h => hFc q h) hFc (fun v609 u609 t H1 locs1 ht hvm e609 hB hz1 hk1 hS => ?_)
  obtain ⟨hP1, hD1⟩ := hB
  rw [ht] at hP1
  obtain ⟨hP, hD⟩ := va_join (wr := (LW h0 h1 h2 h3 b0 y1 y2 y3 y6 (n) (w) T P M O)) (w1 := (MW g0 g1 g2 y4 y5 0 (n) (w) T P)) hP hD [5, 6, 7] [0, 1, 2, 3, 4] rfl rfl (by decide) (by decide) hk1 hFc hP1 hD1
  have hP : va_P D vwCl (GW h0 h1 h2 h3 b0 g0 g1 g2 y1 y2 y3 y6 y4 y5 (n) (w) 0 T P M O) H1 := hP
  have hD : va_D (fun q : Nat => s.heap.size ≤ q) (GW h0 h1 h2 h3 b0 g0 g1 g2 y1 y2 y3 y6 y4 y5 (n) (w) 0 T P M O) := hD
  generalize H1 = H at hP hS ⊢
  generalize locs1 = locs at hS ⊢
  refine z_icmp_eq (tgt := 1453) hx hb dL_law_612 (by decide) e605 e609 (fun c612 => ?_) (fun c612 => ?_)
  · have _u := True.intro
    refine W.widen (k := 8 + 2 * c9 + 2) (n := 252 + 12 * c9 + 12) (by omega) (by omega) ?_
    exact K (n) (w) 0 T P M O hn hw hT hPt _ _ hP hD hS _ (lv_sub hl [0, 1, 2, 3, 4] rfl)
  · exfalso; omega
set_option maxHeartbeats 4000000 in
set_option maxRecDepth 100000 in
theorem law_c11 {p : Program} {l : Launch} {e : Env} {s : State} {m : MethodId} {below : List Frame} {meth : Method} {c : Code} {D : va_G} {E : Nat × Nat × Nat} {b L : Nat} {xs : Nat → Int32} {h0 h1 h2 h3 b0 g0 g1 g2 : Nat} {y1 y2 y3 y6 y4 y5 : ClassId} {c9 : Nat} {x4 : Int32} {n w : Nat} {th : Int32} {T P M : Nat → Int32} {O : Nat → Int64} {H : Heap} {locs : List Loc} {ls : Array Slot} (hlt : l.stackTraces = false) (hEd : E.1 ≠ E.2.1 ∧ E.1 ≠ E.2.2 ∧ E.2.1 ≠ E.2.2) (hE : XEnv E (fun q : Nat => s.heap.size ≤ q) s s.heap) (hL : L ≤ 1536) (C0 : lw_At p s m meth c b L xs) (h4 : x4.toInt = ((3 * c9 : Nat) : Int)) (hc : 3 * c9 + 3 ≤ L) (hn : n ≤ 64) (hw : w ≤ 24) (hT : SymF T) (hPt : SymF P) (hK : va_K D vwCl (GT y1 y2 y3 y6 y4 y5) s) (hP : va_P D vwCl (GW h0 h1 h2 h3 b0 g0 g1 g2 y1 y2 y3 y6 y4 y5 n w th T P M O) H) (hD : va_D (fun q : Nat => s.heap.size ≤ q) (GW h0 h1 h2 h3 b0 g0 g1 g2 y1 y2 y3 y6 y4 y5 n w th T P M O)) (hS : va_S (fun q : Nat => s.heap.size ≤ q) s.heap H locs) (hl : lv_has ls 7 [(0, .ref b), (1, .ref h0), (2, .ref g0), (3, .ref b0), (4, .int x4)]) (K : LK p l e s m below meth c D b h0 h1 h2 h3 b0 g0 g1 g2 y1 y2 y3 y6 y4 y5 c9 x4) : W p l e room_1 s m #[Value.ref b] below meth c H locs (8 + 2 * c9) (252 + 12 * c9) (lw_Z below #[Value.ref b] s) (F0 m 617 ls []) := by
  obtain ⟨hx, hb, hr, hml, hown, hts0, hX, hbl, hlocks, hgv⟩ := C0
  have hts : ∀ w ∈ wsL_law, w.before #[Value.ref b] s = true := fun w h => hts0 w (wsL_law_in w h)
  have hA : ∀ q : Nat, s.heap.size ≤ q → (fun q : Nat => s.heap.size ≤ q) q := fun _ h => h
  have hbA : ¬ (fun q : Nat => s.heap.size ≤ q) b := Nat.not_le.mpr hbl
  have hR1 : room_1.cells = 1051 := rfl
  have hR2 : room_1.slots = 8558 := rfl
  have hKx := hK.sub (tys' := (XT y1 y2 y3)) [0, 1, 2] rfl
  have hKl := hK.sub (tys' := (LT y1 y2 y3 y6)) [0, 1, 2, 3] rfl
  have hKm := hK.sub (tys' := (MT y4 y5)) [4, 5] rfl
  refine lv_aload_n hx hb dL_law_617 rfl (lv_at hl 1 rfl) ?_
  refine lv_aload_n hx hb dL_law_618 rfl (lv_at hl 0 rfl) ?_
  refine lv_iload hx hb dL_law_619 (lv_at hl 4 rfl) ?_
  refine lv_iconst (v := 1) hx hb dL_law_621 (by decide) ?_
  refine z_iadd hx hb dL_law_622 h4 (show (1 : Int32).toInt = 1 by decide) (by omega) (by omega) (fun v622 e622 => ?_)
  have i623 : vp_in v622 L := vp_in_iff.mpr ⟨by omega, by omega⟩
  refine va_sld hx hb hX hbl hbA hS i623 dL_law_623 ?_
  refine lv_as (y := xs (3 * c9 + 1)) (congrArg xs (clN (Eq.trans e622 (by omega)))) ?_
  obtain ⟨a1, ha1⟩ : ∃ z, z = xs (3 * c9 + 1) := ⟨_, rfl⟩
  refine lv_as ha1.symm ?_
  refine lv_aload_n hx hb dL_law_624 rfl (lv_at hl 3 rfl) ?_
  have hPl := hP.sub (ws' := (LW h0 h1 h2 h3 b0 y1 y2 y3 y6 (n) (w) T P M O)) [0, 1, 2, 3, 4] rfl
  have hFc := va_free (wc := (LW h0 h1 h2 h3 b0 y1 y2 y3 y6 (n) (w) T P M O)) hD hS hA [0, 1, 2, 3, 4] rfl
  have hDl := hD.sub (ws' := (LW h0 h1 h2 h3 b0 y1 y2 y3 y6 (n) (w) T P M O)) [0, 1, 2, 3, 4] (by decide) rfl
  refine va_calli (vx_runSW (As := [.ref h0, .int a1, .ref b0]) (rest := []) ⟨hx, hb, hml, hown, hts⟩ (c_L_product l hlt D E h0 h1 h2 h3 b0 y1 y2 y3 y6 H.size n w T P M O hn hw hT hPt (hDl.weaken (fun _ _ _ _ => trivial)) a1) (vx_cwSW 3 hts gL_law_L_product rfl rfl rfl (by decide +kernel) ⟨Nat.le_of_ble_eq_true rfl, Nat.le_of_ble_eq_true rfl⟩) ⟨cp.blind, fun U hU hW => ⟨rfl, cp.call hPl hKl hE hS hFc hU hW⟩⟩ rfl rfl hl.1 rfl (lv_room (Nat.le_of_ble_eq_true rfl)) dL_law_625 ⟨by rw [hR1]; omega, by rw [hR2]; omega⟩) hS (fun q _ h => hFc q h) hFc (fun v625 u t H1 locs1 ht hvm ev hB hz1 hk1 hS => ?_)
  obtain ⟨e625, ev1⟩ := ev
  by_cases hk0 : kNeg a1.toInt = 0
  · have _u := True.intro
    obtain ⟨hP1, hD1⟩ := hB.1 hk0
    have hu1 := ev1 hk0
    rw [ht] at hP1
    obtain ⟨hP, hD⟩ := va_join (wr := (MW g0 g1 g2 y4 y5 th (n) (w) T P)) (w1 := (LW h0 h1 h2 h3 b0 y1 y2 y3 y6 (n) (w) T P u.2 (vp_updL O 0 u.1.toInt64))) hP hD [0, 1, 2, 3, 4] [5, 6, 7] rfl rfl (by decide) (by decide) hk1 hFc hP1 hD1
    have hP := hP.sub (ws' := (GW h0 h1 h2 h3 b0 g0 g1 g2 y1 y2 y3 y6 y4 y5 (n) (w) th T P u.2 (vp_updL O 0 u.1.toInt64))) [3, 4, 5, 6, 7, 0, 1, 2] rfl
    have hD := hD.sub (ws' := (GW h0 h1 h2 h3 b0 g0 g1 g2 y1 y2 y3 y6 y4 y5 (n) (w) th T P u.2 (vp_updL O 0 u.1.toInt64))) [3, 4, 5, 6, 7, 0, 1, 2] (by decide) rfl
    generalize H1 = H at hP hS ⊢
    generalize locs1 = locs at hS ⊢
    refine lv_istore (lv' := [(5, .int v625), (0, .ref b), (1, .ref h0), (2, .ref g0), (3, .ref b0), (4, .int x4)]) hx hb dL_law_628 hl (by decide) rfl (fun ls hl => ?_)
    refine lv_aload_n hx hb dL_law_630 rfl (lv_at hl 3 rfl) ?_
    refine lv_aload_n hx hb dL_law_631 rfl (lv_at hl 1 rfl) ?_
    refine lv_iload hx hb dL_law_632 (lv_at hl 5 rfl) ?_
    refine lv_iconst (v := 1) hx hb dL_law_634 (by decide) ?_
    refine z_iadd hx hb dL_law_635 h4 (show (1 : Int32).toInt = 1 by decide) (by omega) (by omega) (fun v635 e635 => ?_)
    have i636 : vp_in v635 L := vp_in_iff.mpr ⟨by omega, by omega⟩
    refine va_sld hx hb hX hbl hbA hS i636 dL_law_636 ?_
    refine lv_as (y := xs (3 * c9 + 1)) (congrArg xs (clN (Eq.trans e635 (by omega)))) ?_
    refine lv_as ha1.symm ?_
    have hPc := hP.sub (ws' := (MW g0 g1 g2 y4 y5 th (n) (w) T P)) [5, 6, 7] rfl
    have hFc := va_free (wc := (MW g0 g1 g2 y4 y5 th (n) (w) T P)) hD hS hA [5, 6, 7] rfl
    have hDc := hD.sub (ws' := (MW g0 g1 g2 y4 y5 th (n) (w) T P)) [5, 6, 7] (by decide) rfl
    refine va_calli (va_runV (As := [.int a1]) (rest := []) ⟨hx, hb, hml, hown, hts⟩ (c_X2_product l D E g0 g1 g2 y4 y5 H.size (n) (w) th T P hn hw hT hPt (hDc.weaken (fun _ _ _ _ => trivial)) a1) (cwV 1 hts gL_law_X2_product rfl rfl rfl (by decide +kernel) ⟨Nat.le_of_ble_eq_true rfl, Nat.le_of_ble_eq_true rfl⟩) ⟨cp.blind, va_recv hK hP (ci := 1) (q0 := 5) rfl rfl, fun U hU hW => ⟨rfl, cp.call hPc hKm hE hS hFc hU hW⟩⟩ rfl rfl hl.1 rfl (lv_room (Nat.le_of_ble_eq_true rfl)) dL_law_637 ⟨by rw [hR1]; omega, by rw [hR2]; omega⟩) hS (fun q _ h => hFc q h) hFc (fun v637 u637 t H1 locs1 ht hvm e637 hB hz1 hk1 hS => ?_)
    obtain ⟨et637, ev637⟩ := e637
    obtain ⟨hP1, hD1⟩ := hB
    have e637 := ev637 hk0
    rw [ht] at hP1
    obtain ⟨hP, hD⟩ := va_join (wr := (LW h0 h1 h2 h3 b0 y1 y2 y3 y6 (n) (w) T P u.2 (vp_updL O 0 u.1.toInt64))) (w1 := (MW g0 g1 g2 y4 y5 u637 (n) (w) T P)) hP hD [5, 6, 7] [0, 1, 2, 3, 4] rfl rfl (by decide) (by decide) hk1 hFc hP1 hD1
    have hP : va_P D vwCl (GW h0 h1 h2 h3 b0 g0 g1 g2 y1 y2 y3 y6 y4 y5 (n) (w) u637 T P u.2 (vp_updL O 0 u.1.toInt64)) H1 := hP
    have hD : va_D (fun q : Nat => s.heap.size ≤ q) (GW h0 h1 h2 h3 b0 g0 g1 g2 y1 y2 y3 y6 y4 y5 (n) (w) u637 T P u.2 (vp_updL O 0 u.1.toInt64)) := hD
    generalize H1 = H at hP hS ⊢
    generalize locs1 = locs at hS ⊢
    refine lv_istore (lv' := [(6, .int v637), (5, .int v625), (0, .ref b), (1, .ref h0), (2, .ref g0), (3, .ref b0), (4, .int x4)]) hx hb dL_law_640 hl (by decide) rfl (fun ls hl => ?_)
    refine lv_aload_n hx hb dL_law_642 rfl (lv_at hl 4 rfl) ?_
    have hPc := hP.sub (ws' := (MW g0 g1 g2 y4 y5 u637 (n) (w) T P)) [5, 6, 7] rfl
    refine va_calli (va_runV (As := []) (rest := []) ⟨hx, hb, hml, hown, hts⟩ (c_X2_thrown l D E g0 g1 g2 y4 y5 H.size (n) (w) u637 T P hn hw hT hPt) (cwV 0 hts gL_law_X2_thrown rfl rfl rfl (by decide +kernel) ⟨Nat.le_of_ble_eq_true rfl, Nat.le_of_ble_eq_true rfl⟩) ⟨cp.blind, va_recv hK hP (ci := 1) (q0 := 5) rfl rfl, fun U hU hW => ⟨rfl, cp.call hPc hKm hE hS (fr0 hS hA) hU hW⟩⟩ rfl rfl hl.1 rfl (lv_room (Nat.le_of_ble_eq_true rfl)) dL_law_643 ⟨by rw [hR1]; omega, by rw [hR2]; omega⟩) hS (fun q _ h => (fr0 hS hA) q h) (fr0 hS hA) (fun v643 u643 t H1 locs1 ht hvm e643 hB hz1 hk1 hS => ?_)
    have hP := kp hP hk1
    generalize H1 = H at hP hS ⊢
    generalize locs1 = locs at hS ⊢
    refine lv_iload hx hb dL_law_646 (lv_at hl 1 rfl) ?_
    refine z_icmp_eq (tgt := 653) hx hb dL_law_648 (by decide) (Eq.trans e643 et637) e625 (fun c648 => ?_) (fun c648 => ?_)
    · have _u := True.intro
      refine lv_iload hx hb dL_law_653 (lv_at hl 1 rfl) ?_
      refine z_if_ne (tgt := 670) hx hb dL_law_655 (by decide) e625 (fun c655 => ?_) (fun c655 => ?_)
      · have _u := True.intro
        exfalso; omega
      · have _u := True.intro
        refine lv_aload_n hx hb dL_law_658 rfl (lv_at hl 5 rfl) ?_
        refine lv_iconst (v := 0) hx hb dL_law_659 (by decide) ?_
        refine z_lald hx hb hK hP 4 3 rfl rfl 0 (show (0 : Int32).toInt = 0 by decide) rfl (by decide) dL_law_660 ?_
        refine lv_iload hx hb dL_law_661 (lv_at hl 0 rfl) ?_
        refine z_i2l hx hb dL_law_663 e637 (fun v663 e663 => ?_)
        refine z_lcmp hx hb dL_law_664 (show ((vp_updL O 0 u.1.toInt64) 0).toInt = u.1.toInt by rw [pk_uLs, Int32.toInt_toInt64]) e663 (fun v664 z664 e664 f664 k664 => ?_)
        refine z_if_eq (tgt := 670) hx hb dL_law_665 (by decide) e664 (fun c665 => ?_) (fun c665 => ?_)
        · have _u := True.intro
          refine lv_goto (tgt := 1453) hx hb dL_law_670 (by decide) ?_
          refine W.widen (k := 8 + 2 * c9 + 2) (n := 252 + 12 * c9 + 12) (by omega) (by omega) ?_
          exact K (n) (w) u637 T P u.2 (vp_updL O 0 u.1.toInt64) hn hw hT hPt _ _ hP hD hS _ (lv_sub hl [2, 3, 4, 5, 6] rfl)
        · exfalso; omega
    · exfalso; omega
  · have _u := True.intro
    obtain ⟨hP1, hD1⟩ := hB.2 hk0
    rw [ht] at hP1
    obtain ⟨hP, hD⟩ := va_join (wr := (MW g0 g1 g2 y4 y5 th (n) (w) T P)) (w1 := (LW h0 h1 h2 h3 b0 y1 y2 y3 y6 (n) (w) T P u.2 O)) hP hD [0, 1, 2, 3, 4] [5, 6, 7] rfl rfl (by decide) (by decide) hk1 hFc hP1 hD1
    have hP := hP.sub (ws' := (GW h0 h1 h2 h3 b0 g0 g1 g2 y1 y2 y3 y6 y4 y5 (n) (w) th T P u.2 O)) [3, 4, 5, 6, 7, 0, 1, 2] rfl
    have hD := hD.sub (ws' := (GW h0 h1 h2 h3 b0 g0 g1 g2 y1 y2 y3 y6 y4 y5 (n) (w) th T P u.2 O)) [3, 4, 5, 6, 7, 0, 1, 2] (by decide) rfl
    generalize H1 = H at hP hS ⊢
    generalize locs1 = locs at hS ⊢
    refine lv_istore (lv' := [(5, .int v625), (0, .ref b), (1, .ref h0), (2, .ref g0), (3, .ref b0), (4, .int x4)]) hx hb dL_law_628 hl (by decide) rfl (fun ls hl => ?_)
    refine lv_aload_n hx hb dL_law_630 rfl (lv_at hl 3 rfl) ?_
    refine lv_aload_n hx hb dL_law_631 rfl (lv_at hl 1 rfl) ?_
    refine lv_iload hx hb dL_law_632 (lv_at hl 5 rfl) ?_
    refine lv_iconst (v := 1) hx hb dL_law_634 (by decide) ?_
    refine z_iadd hx hb dL_law_635 h4 (show (1 : Int32).toInt = 1 by decide) (by omega) (by omega) (fun v635 e635 => ?_)
    have i636 : vp_in v635 L := vp_in_iff.mpr ⟨by omega, by omega⟩
    refine va_sld hx hb hX hbl hbA hS i636 dL_law_636 ?_
    refine lv_as (y := xs (3 * c9 + 1)) (congrArg xs (clN (Eq.trans e635 (by omega)))) ?_
    refine lv_as ha1.symm ?_
    have hPc := hP.sub (ws' := (MW g0 g1 g2 y4 y5 th (n) (w) T P)) [5, 6, 7] rfl
    have hFc := va_free (wc := (MW g0 g1 g2 y4 y5 th (n) (w) T P)) hD hS hA [5, 6, 7] rfl
    have hDc := hD.sub (ws' := (MW g0 g1 g2 y4 y5 th (n) (w) T P)) [5, 6, 7] (by decide) rfl
    refine va_calli (va_runV (As := [.int a1]) (rest := []) ⟨hx, hb, hml, hown, hts⟩ (c_X2_product l D E g0 g1 g2 y4 y5 H.size (n) (w) th T P hn hw hT hPt (hDc.weaken (fun _ _ _ _ => trivial)) a1) (cwV 1 hts gL_law_X2_product rfl rfl rfl (by decide +kernel) ⟨Nat.le_of_ble_eq_true rfl, Nat.le_of_ble_eq_true rfl⟩) ⟨cp.blind, va_recv hK hP (ci := 1) (q0 := 5) rfl rfl, fun U hU hW => ⟨rfl, cp.call hPc hKm hE hS hFc hU hW⟩⟩ rfl rfl hl.1 rfl (lv_room (Nat.le_of_ble_eq_true rfl)) dL_law_637 ⟨by rw [hR1]; omega, by rw [hR2]; omega⟩) hS (fun q _ h => hFc q h) hFc (fun v637 u637 t H1 locs1 ht hvm e637 hB hz1 hk1 hS => ?_)
    obtain ⟨et637, ev637⟩ := e637
    obtain ⟨hP1, hD1⟩ := hB
    rw [ht] at hP1
    obtain ⟨hP, hD⟩ := va_join (wr := (LW h0 h1 h2 h3 b0 y1 y2 y3 y6 (n) (w) T P u.2 O)) (w1 := (MW g0 g1 g2 y4 y5 u637 (n) (w) T P)) hP hD [5, 6, 7] [0, 1, 2, 3, 4] rfl rfl (by decide) (by decide) hk1 hFc hP1 hD1
    have hP : va_P D vwCl (GW h0 h1 h2 h3 b0 g0 g1 g2 y1 y2 y3 y6 y4 y5 (n) (w) u637 T P u.2 O) H1 := hP
    have hD : va_D (fun q : Nat => s.heap.size ≤ q) (GW h0 h1 h2 h3 b0 g0 g1 g2 y1 y2 y3 y6 y4 y5 (n) (w) u637 T P u.2 O) := hD
    generalize H1 = H at hP hS ⊢
    generalize locs1 = locs at hS ⊢
    refine lv_istore (lv' := [(6, .int v637), (5, .int v625), (0, .ref b), (1, .ref h0), (2, .ref g0), (3, .ref b0), (4, .int x4)]) hx hb dL_law_640 hl (by decide) rfl (fun ls hl => ?_)
    refine lv_aload_n hx hb dL_law_642 rfl (lv_at hl 4 rfl) ?_
    have hPc := hP.sub (ws' := (MW g0 g1 g2 y4 y5 u637 (n) (w) T P)) [5, 6, 7] rfl
    refine va_calli (va_runV (As := []) (rest := []) ⟨hx, hb, hml, hown, hts⟩ (c_X2_thrown l D E g0 g1 g2 y4 y5 H.size (n) (w) u637 T P hn hw hT hPt) (cwV 0 hts gL_law_X2_thrown rfl rfl rfl (by decide +kernel) ⟨Nat.le_of_ble_eq_true rfl, Nat.le_of_ble_eq_true rfl⟩) ⟨cp.blind, va_recv hK hP (ci := 1) (q0 := 5) rfl rfl, fun U hU hW => ⟨rfl, cp.call hPc hKm hE hS (fr0 hS hA) hU hW⟩⟩ rfl rfl hl.1 rfl (lv_room (Nat.le_of_ble_eq_true rfl)) dL_law_643 ⟨by rw [hR1]; omega, by rw [hR2]; omega⟩) hS (fun q _ h => (fr0 hS hA) q h) (fr0 hS hA) (fun v643 u643 t H1 locs1 ht hvm e643 hB hz1 hk1 hS => ?_)
    have hP := kp hP hk1
    generalize H1 = H at hP hS ⊢
    generalize locs1 = locs at hS ⊢
    refine lv_iload hx hb dL_law_646 (lv_at hl 1 rfl) ?_
    refine z_icmp_eq (tgt := 653) hx hb dL_law_648 (by decide) (Eq.trans e643 et637) e625 (fun c648 => ?_) (fun c648 => ?_)
    · have _u := True.intro
      refine lv_iload hx hb dL_law_653 (lv_at hl 1 rfl) ?_
      refine z_if_ne (tgt := 670) hx hb dL_law_655 (by decide) e625 (fun c655 => ?_) (fun c655 => ?_)
      · have _u := True.intro
        refine lv_goto (tgt := 1453) hx hb dL_law_670 (by decide) ?_
        refine W.widen (k := 8 + 2 * c9 + 2) (n := 252 + 12 * c9 + 12) (by omega) (by omega) ?_
        exact K (n) (w) u637 T P u.2 O hn hw hT hPt _ _ hP hD hS _ (lv_sub hl [2, 3, 4, 5, 6] rfl)
      · have _u := True.intro
        exfalso; omega
    · exfalso; omega
set_option maxHeartbeats 4000000 in
set_option maxRecDepth 100000 in
theorem law_c12 {p : Program} {l : Launch} {e : Env} {s : State} {m : MethodId} {below : List Frame} {meth : Method} {c : Code} {D : va_G} {E : Nat × Nat × Nat} {b L : Nat} {xs : Nat → Int32} {h0 h1 h2 h3 b0 g0 g1 g2 : Nat} {y1 y2 y3 y6 y4 y5 : ClassId} {c9 : Nat} {x4 : Int32} {n w : Nat} {th : Int32} {T P M : Nat → Int32} {O : Nat → Int64} {H : Heap} {locs : List Loc} {ls : Array Slot} (hlt : l.stackTraces = false) (hEd : E.1 ≠ E.2.1 ∧ E.1 ≠ E.2.2 ∧ E.2.1 ≠ E.2.2) (hE : XEnv E (fun q : Nat => s.heap.size ≤ q) s s.heap) (hL : L ≤ 1536) (C0 : lw_At p s m meth c b L xs) (h4 : x4.toInt = ((3 * c9 : Nat) : Int)) (hc : 3 * c9 + 3 ≤ L) (hn : n ≤ 64) (hw : w ≤ 24) (hT : SymF T) (hPt : SymF P) (hK : va_K D vwCl (GT y1 y2 y3 y6 y4 y5) s) (hP : va_P D vwCl (GW h0 h1 h2 h3 b0 g0 g1 g2 y1 y2 y3 y6 y4 y5 n w th T P M O) H) (hD : va_D (fun q : Nat => s.heap.size ≤ q) (GW h0 h1 h2 h3 b0 g0 g1 g2 y1 y2 y3 y6 y4 y5 n w th T P M O)) (hS : va_S (fun q : Nat => s.heap.size ≤ q) s.heap H locs) (hl : lv_has ls 7 [(0, .ref b), (1, .ref h0), (2, .ref g0), (3, .ref b0), (4, .int x4)]) (K : LK p l e s m below meth c D b h0 h1 h2 h3 b0 g0 g1 g2 y1 y2 y3 y6 y4 y5 c9 x4) : W p l e room_1 s m #[Value.ref b] below meth c H locs (8 + 2 * c9) (252 + 12 * c9) (lw_Z below #[Value.ref b] s) (F0 m 673 ls []) := by
  obtain ⟨hx, hb, hr, hml, hown, hts0, hX, hbl, hlocks, hgv⟩ := C0
  have hts : ∀ w ∈ wsL_law, w.before #[Value.ref b] s = true := fun w h => hts0 w (wsL_law_in w h)
  have hA : ∀ q : Nat, s.heap.size ≤ q → (fun q : Nat => s.heap.size ≤ q) q := fun _ h => h
  have hbA : ¬ (fun q : Nat => s.heap.size ≤ q) b := Nat.not_le.mpr hbl
  have hR1 : room_1.cells = 1051 := rfl
  have hR2 : room_1.slots = 8558 := rfl
  have hKx := hK.sub (tys' := (XT y1 y2 y3)) [0, 1, 2] rfl
  have hKl := hK.sub (tys' := (LT y1 y2 y3 y6)) [0, 1, 2, 3] rfl
  have hKm := hK.sub (tys' := (MT y4 y5)) [4, 5] rfl
  refine lv_aload_n hx hb dL_law_673 rfl (lv_at hl 1 rfl) ?_
  refine lv_aload_n hx hb dL_law_674 rfl (lv_at hl 0 rfl) ?_
  refine lv_iload hx hb dL_law_675 (lv_at hl 4 rfl) ?_
  refine lv_iconst (v := 1) hx hb dL_law_677 (by decide) ?_
  refine z_iadd hx hb dL_law_678 h4 (show (1 : Int32).toInt = 1 by decide) (by omega) (by omega) (fun v678 e678 => ?_)
  have i679 : vp_in v678 L := vp_in_iff.mpr ⟨by omega, by omega⟩
  refine va_sld hx hb hX hbl hbA hS i679 dL_law_679 ?_
  refine lv_as (y := xs (3 * c9 + 1)) (congrArg xs (clN (Eq.trans e678 (by omega)))) ?_
  obtain ⟨a1, ha1⟩ : ∃ z, z = xs (3 * c9 + 1) := ⟨_, rfl⟩
  refine lv_as ha1.symm ?_
  refine lv_aload_n hx hb dL_law_680 rfl (lv_at hl 3 rfl) ?_
  have hPl := hP.sub (ws' := (LW h0 h1 h2 h3 b0 y1 y2 y3 y6 (n) (w) T P M O)) [0, 1, 2, 3, 4] rfl
  have hFc := va_free (wc := (LW h0 h1 h2 h3 b0 y1 y2 y3 y6 (n) (w) T P M O)) hD hS hA [0, 1, 2, 3, 4] rfl
  have hDl := hD.sub (ws' := (LW h0 h1 h2 h3 b0 y1 y2 y3 y6 (n) (w) T P M O)) [0, 1, 2, 3, 4] (by decide) rfl
  refine va_calli (vx_runSW (As := [.ref h0, .int a1, .ref b0]) (rest := []) ⟨hx, hb, hml, hown, hts⟩ (c_L_difference l hlt D E h0 h1 h2 h3 b0 y1 y2 y3 y6 H.size n w T P M O hn hw hT hPt (hDl.weaken (fun _ _ _ _ => trivial)) a1) (vx_cwSW 3 hts gL_law_L_difference rfl rfl rfl (by decide +kernel) ⟨Nat.le_of_ble_eq_true rfl, Nat.le_of_ble_eq_true rfl⟩) ⟨cp.blind, fun U hU hW => ⟨rfl, cp.call hPl hKl hE hS hFc hU hW⟩⟩ rfl rfl hl.1 rfl (lv_room (Nat.le_of_ble_eq_true rfl)) dL_law_681 ⟨by rw [hR1]; omega, by rw [hR2]; omega⟩) hS (fun q _ h => hFc q h) hFc (fun v681 u t H1 locs1 ht hvm ev hB hz1 hk1 hS => ?_)
  obtain ⟨e681, ev1⟩ := ev
  by_cases hk0 : kPl (pl n w) a1.toInt = 0
  · have _u := True.intro
    obtain ⟨hP1, hD1⟩ := hB.1 hk0
    have hu1 := ev1 hk0
    rw [ht] at hP1
    obtain ⟨hP, hD⟩ := va_join (wr := (MW g0 g1 g2 y4 y5 th (n) (w) T P)) (w1 := (LW h0 h1 h2 h3 b0 y1 y2 y3 y6 (n) (w) T P u.2 (vp_updL O 0 u.1.toInt64))) hP hD [0, 1, 2, 3, 4] [5, 6, 7] rfl rfl (by decide) (by decide) hk1 hFc hP1 hD1
    have hP := hP.sub (ws' := (GW h0 h1 h2 h3 b0 g0 g1 g2 y1 y2 y3 y6 y4 y5 (n) (w) th T P u.2 (vp_updL O 0 u.1.toInt64))) [3, 4, 5, 6, 7, 0, 1, 2] rfl
    have hD := hD.sub (ws' := (GW h0 h1 h2 h3 b0 g0 g1 g2 y1 y2 y3 y6 y4 y5 (n) (w) th T P u.2 (vp_updL O 0 u.1.toInt64))) [3, 4, 5, 6, 7, 0, 1, 2] (by decide) rfl
    generalize H1 = H at hP hS ⊢
    generalize locs1 = locs at hS ⊢
    refine lv_istore (lv' := [(5, .int v681), (0, .ref b), (1, .ref h0), (2, .ref g0), (3, .ref b0), (4, .int x4)]) hx hb dL_law_684 hl (by decide) rfl (fun ls hl => ?_)
    refine lv_aload_n hx hb dL_law_686 rfl (lv_at hl 3 rfl) ?_
    refine lv_aload_n hx hb dL_law_687 rfl (lv_at hl 1 rfl) ?_
    refine lv_iload hx hb dL_law_688 (lv_at hl 5 rfl) ?_
    refine lv_iconst (v := 1) hx hb dL_law_690 (by decide) ?_
    refine z_iadd hx hb dL_law_691 h4 (show (1 : Int32).toInt = 1 by decide) (by omega) (by omega) (fun v691 e691 => ?_)
    have i692 : vp_in v691 L := vp_in_iff.mpr ⟨by omega, by omega⟩
    refine va_sld hx hb hX hbl hbA hS i692 dL_law_692 ?_
    refine lv_as (y := xs (3 * c9 + 1)) (congrArg xs (clN (Eq.trans e691 (by omega)))) ?_
    refine lv_as ha1.symm ?_
    have hPc := hP.sub (ws' := (MW g0 g1 g2 y4 y5 th (n) (w) T P)) [5, 6, 7] rfl
    have hFc := va_free (wc := (MW g0 g1 g2 y4 y5 th (n) (w) T P)) hD hS hA [5, 6, 7] rfl
    have hDc := hD.sub (ws' := (MW g0 g1 g2 y4 y5 th (n) (w) T P)) [5, 6, 7] (by decide) rfl
    refine va_calli (va_runV (As := [.int a1]) (rest := []) ⟨hx, hb, hml, hown, hts⟩ (c_X2_difference l D E g0 g1 g2 y4 y5 H.size (n) (w) th T P hn hw hT hPt (hDc.weaken (fun _ _ _ _ => trivial)) a1) (cwV 1 hts gL_law_X2_difference rfl rfl rfl (by decide +kernel) ⟨Nat.le_of_ble_eq_true rfl, Nat.le_of_ble_eq_true rfl⟩) ⟨cp.blind, va_recv hK hP (ci := 1) (q0 := 5) rfl rfl, fun U hU hW => ⟨rfl, cp.call hPc hKm hE hS hFc hU hW⟩⟩ rfl rfl hl.1 rfl (lv_room (Nat.le_of_ble_eq_true rfl)) dL_law_693 ⟨by rw [hR1]; omega, by rw [hR2]; omega⟩) hS (fun q _ h => hFc q h) hFc (fun v693 u693 t H1 locs1 ht hvm e693 hB hz1 hk1 hS => ?_)
    obtain ⟨et693, ev693⟩ := e693
    obtain ⟨hP1, hD1⟩ := hB
    have e693 := ev693 hk0
    rw [ht] at hP1
    obtain ⟨hP, hD⟩ := va_join (wr := (LW h0 h1 h2 h3 b0 y1 y2 y3 y6 (n) (w) T P u.2 (vp_updL O 0 u.1.toInt64))) (w1 := (MW g0 g1 g2 y4 y5 u693 (n) (w) T P)) hP hD [5, 6, 7] [0, 1, 2, 3, 4] rfl rfl (by decide) (by decide) hk1 hFc hP1 hD1
    have hP : va_P D vwCl (GW h0 h1 h2 h3 b0 g0 g1 g2 y1 y2 y3 y6 y4 y5 (n) (w) u693 T P u.2 (vp_updL O 0 u.1.toInt64)) H1 := hP
    have hD : va_D (fun q : Nat => s.heap.size ≤ q) (GW h0 h1 h2 h3 b0 g0 g1 g2 y1 y2 y3 y6 y4 y5 (n) (w) u693 T P u.2 (vp_updL O 0 u.1.toInt64)) := hD
    generalize H1 = H at hP hS ⊢
    generalize locs1 = locs at hS ⊢
    refine lv_istore (lv' := [(6, .int v693), (5, .int v681), (0, .ref b), (1, .ref h0), (2, .ref g0), (3, .ref b0), (4, .int x4)]) hx hb dL_law_696 hl (by decide) rfl (fun ls hl => ?_)
    refine lv_aload_n hx hb dL_law_698 rfl (lv_at hl 4 rfl) ?_
    have hPc := hP.sub (ws' := (MW g0 g1 g2 y4 y5 u693 (n) (w) T P)) [5, 6, 7] rfl
    refine va_calli (va_runV (As := []) (rest := []) ⟨hx, hb, hml, hown, hts⟩ (c_X2_thrown l D E g0 g1 g2 y4 y5 H.size (n) (w) u693 T P hn hw hT hPt) (cwV 0 hts gL_law_X2_thrown rfl rfl rfl (by decide +kernel) ⟨Nat.le_of_ble_eq_true rfl, Nat.le_of_ble_eq_true rfl⟩) ⟨cp.blind, va_recv hK hP (ci := 1) (q0 := 5) rfl rfl, fun U hU hW => ⟨rfl, cp.call hPc hKm hE hS (fr0 hS hA) hU hW⟩⟩ rfl rfl hl.1 rfl (lv_room (Nat.le_of_ble_eq_true rfl)) dL_law_699 ⟨by rw [hR1]; omega, by rw [hR2]; omega⟩) hS (fun q _ h => (fr0 hS hA) q h) (fr0 hS hA) (fun v699 u699 t H1 locs1 ht hvm e699 hB hz1 hk1 hS => ?_)
    have hP := kp hP hk1
    generalize H1 = H at hP hS ⊢
    generalize locs1 = locs at hS ⊢
    refine lv_iload hx hb dL_law_702 (lv_at hl 1 rfl) ?_
    refine z_icmp_eq (tgt := 709) hx hb dL_law_704 (by decide) (Eq.trans e699 et693) e681 (fun c704 => ?_) (fun c704 => ?_)
    · have _u := True.intro
      refine lv_iload hx hb dL_law_709 (lv_at hl 1 rfl) ?_
      refine z_if_ne (tgt := 726) hx hb dL_law_711 (by decide) e681 (fun c711 => ?_) (fun c711 => ?_)
      · have _u := True.intro
        exfalso; omega
      · have _u := True.intro
        refine lv_aload_n hx hb dL_law_714 rfl (lv_at hl 5 rfl) ?_
        refine lv_iconst (v := 0) hx hb dL_law_715 (by decide) ?_
        refine z_lald hx hb hK hP 4 3 rfl rfl 0 (show (0 : Int32).toInt = 0 by decide) rfl (by decide) dL_law_716 ?_
        refine lv_iload hx hb dL_law_717 (lv_at hl 0 rfl) ?_
        refine z_i2l hx hb dL_law_719 e693 (fun v719 e719 => ?_)
        refine z_lcmp hx hb dL_law_720 (show ((vp_updL O 0 u.1.toInt64) 0).toInt = u.1.toInt by rw [pk_uLs, Int32.toInt_toInt64]) e719 (fun v720 z720 e720 f720 k720 => ?_)
        refine z_if_eq (tgt := 726) hx hb dL_law_721 (by decide) e720 (fun c721 => ?_) (fun c721 => ?_)
        · have _u := True.intro
          refine lv_goto (tgt := 1453) hx hb dL_law_726 (by decide) ?_
          refine W.widen (k := 8 + 2 * c9 + 2) (n := 252 + 12 * c9 + 12) (by omega) (by omega) ?_
          exact K (n) (w) u693 T P u.2 (vp_updL O 0 u.1.toInt64) hn hw hT hPt _ _ hP hD hS _ (lv_sub hl [2, 3, 4, 5, 6] rfl)
        · exfalso; omega
    · exfalso; omega
  · have _u := True.intro
    obtain ⟨hP1, hD1⟩ := hB.2 hk0
    rw [ht] at hP1
    obtain ⟨hP, hD⟩ := va_join (wr := (MW g0 g1 g2 y4 y5 th (n) (w) T P)) (w1 := (LW h0 h1 h2 h3 b0 y1 y2 y3 y6 (n) (w) T P u.2 O)) hP hD [0, 1, 2, 3, 4] [5, 6, 7] rfl rfl (by decide) (by decide) hk1 hFc hP1 hD1
    have hP := hP.sub (ws' := (GW h0 h1 h2 h3 b0 g0 g1 g2 y1 y2 y3 y6 y4 y5 (n) (w) th T P u.2 O)) [3, 4, 5, 6, 7, 0, 1, 2] rfl
    have hD := hD.sub (ws' := (GW h0 h1 h2 h3 b0 g0 g1 g2 y1 y2 y3 y6 y4 y5 (n) (w) th T P u.2 O)) [3, 4, 5, 6, 7, 0, 1, 2] (by decide) rfl
    generalize H1 = H at hP hS ⊢
    generalize locs1 = locs at hS ⊢
    refine lv_istore (lv' := [(5, .int v681), (0, .ref b), (1, .ref h0), (2, .ref g0), (3, .ref b0), (4, .int x4)]) hx hb dL_law_684 hl (by decide) rfl (fun ls hl => ?_)
    refine lv_aload_n hx hb dL_law_686 rfl (lv_at hl 3 rfl) ?_
    refine lv_aload_n hx hb dL_law_687 rfl (lv_at hl 1 rfl) ?_
    refine lv_iload hx hb dL_law_688 (lv_at hl 5 rfl) ?_
    refine lv_iconst (v := 1) hx hb dL_law_690 (by decide) ?_
    refine z_iadd hx hb dL_law_691 h4 (show (1 : Int32).toInt = 1 by decide) (by omega) (by omega) (fun v691 e691 => ?_)
    have i692 : vp_in v691 L := vp_in_iff.mpr ⟨by omega, by omega⟩
    refine va_sld hx hb hX hbl hbA hS i692 dL_law_692 ?_
    refine lv_as (y := xs (3 * c9 + 1)) (congrArg xs (clN (Eq.trans e691 (by omega)))) ?_
    refine lv_as ha1.symm ?_
    have hPc := hP.sub (ws' := (MW g0 g1 g2 y4 y5 th (n) (w) T P)) [5, 6, 7] rfl
    have hFc := va_free (wc := (MW g0 g1 g2 y4 y5 th (n) (w) T P)) hD hS hA [5, 6, 7] rfl
    have hDc := hD.sub (ws' := (MW g0 g1 g2 y4 y5 th (n) (w) T P)) [5, 6, 7] (by decide) rfl
    refine va_calli (va_runV (As := [.int a1]) (rest := []) ⟨hx, hb, hml, hown, hts⟩ (c_X2_difference l D E g0 g1 g2 y4 y5 H.size (n) (w) th T P hn hw hT hPt (hDc.weaken (fun _ _ _ _ => trivial)) a1) (cwV 1 hts gL_law_X2_difference rfl rfl rfl (by decide +kernel) ⟨Nat.le_of_ble_eq_true rfl, Nat.le_of_ble_eq_true rfl⟩) ⟨cp.blind, va_recv hK hP (ci := 1) (q0 := 5) rfl rfl, fun U hU hW => ⟨rfl, cp.call hPc hKm hE hS hFc hU hW⟩⟩ rfl rfl hl.1 rfl (lv_room (Nat.le_of_ble_eq_true rfl)) dL_law_693 ⟨by rw [hR1]; omega, by rw [hR2]; omega⟩) hS (fun q _ h => hFc q h) hFc (fun v693 u693 t H1 locs1 ht hvm e693 hB hz1 hk1 hS => ?_)
    obtain ⟨et693, ev693⟩ := e693
    obtain ⟨hP1, hD1⟩ := hB
    rw [ht] at hP1
    obtain ⟨hP, hD⟩ := va_join (wr := (LW h0 h1 h2 h3 b0 y1 y2 y3 y6 (n) (w) T P u.2 O)) (w1 := (MW g0 g1 g2 y4 y5 u693 (n) (w) T P)) hP hD [5, 6, 7] [0, 1, 2, 3, 4] rfl rfl (by decide) (by decide) hk1 hFc hP1 hD1
    have hP : va_P D vwCl (GW h0 h1 h2 h3 b0 g0 g1 g2 y1 y2 y3 y6 y4 y5 (n) (w) u693 T P u.2 O) H1 := hP
    have hD : va_D (fun q : Nat => s.heap.size ≤ q) (GW h0 h1 h2 h3 b0 g0 g1 g2 y1 y2 y3 y6 y4 y5 (n) (w) u693 T P u.2 O) := hD
    generalize H1 = H at hP hS ⊢
    generalize locs1 = locs at hS ⊢
    refine lv_istore (lv' := [(6, .int v693), (5, .int v681), (0, .ref b), (1, .ref h0), (2, .ref g0), (3, .ref b0), (4, .int x4)]) hx hb dL_law_696 hl (by decide) rfl (fun ls hl => ?_)
    refine lv_aload_n hx hb dL_law_698 rfl (lv_at hl 4 rfl) ?_
    have hPc := hP.sub (ws' := (MW g0 g1 g2 y4 y5 u693 (n) (w) T P)) [5, 6, 7] rfl
    refine va_calli (va_runV (As := []) (rest := []) ⟨hx, hb, hml, hown, hts⟩ (c_X2_thrown l D E g0 g1 g2 y4 y5 H.size (n) (w) u693 T P hn hw hT hPt) (cwV 0 hts gL_law_X2_thrown rfl rfl rfl (by decide +kernel) ⟨Nat.le_of_ble_eq_true rfl, Nat.le_of_ble_eq_true rfl⟩) ⟨cp.blind, va_recv hK hP (ci := 1) (q0 := 5) rfl rfl, fun U hU hW => ⟨rfl, cp.call hPc hKm hE hS (fr0 hS hA) hU hW⟩⟩ rfl rfl hl.1 rfl (lv_room (Nat.le_of_ble_eq_true rfl)) dL_law_699 ⟨by rw [hR1]; omega, by rw [hR2]; omega⟩) hS (fun q _ h => (fr0 hS hA) q h) (fr0 hS hA) (fun v699 u699 t H1 locs1 ht hvm e699 hB hz1 hk1 hS => ?_)
    have hP := kp hP hk1
    generalize H1 = H at hP hS ⊢
    generalize locs1 = locs at hS ⊢
    refine lv_iload hx hb dL_law_702 (lv_at hl 1 rfl) ?_
    refine z_icmp_eq (tgt := 709) hx hb dL_law_704 (by decide) (Eq.trans e699 et693) e681 (fun c704 => ?_) (fun c704 => ?_)
    · have _u := True.intro
      refine lv_iload hx hb dL_law_709 (lv_at hl 1 rfl) ?_
      refine z_if_ne (tgt := 726) hx hb dL_law_711 (by decide) e681 (fun c711 => ?_) (fun c711 => ?_)
      · have _u := True.intro
        refine lv_goto (tgt := 1453) hx hb dL_law_726 (by decide) ?_
        refine W.widen (k := 8 + 2 * c9 + 2) (n := 252 + 12 * c9 + 12) (by omega) (by omega) ?_
        exact K (n) (w) u693 T P u.2 O hn hw hT hPt _ _ hP hD hS _ (lv_sub hl [2, 3, 4, 5, 6] rfl)
      · have _u := True.intro
        exfalso; omega
    · exfalso; omega
set_option maxHeartbeats 4000000 in
set_option maxRecDepth 100000 in
theorem law_c13 {p : Program} {l : Launch} {e : Env} {s : State} {m : MethodId} {below : List Frame} {meth : Method} {c : Code} {D : va_G} {E : Nat × Nat × Nat} {b L : Nat} {xs : Nat → Int32} {h0 h1 h2 h3 b0 g0 g1 g2 : Nat} {y1 y2 y3 y6 y4 y5 : ClassId} {c9 : Nat} {x4 : Int32} {n w : Nat} {th : Int32} {T P M : Nat → Int32} {O : Nat → Int64} {H : Heap} {locs : List Loc} {ls : Array Slot} (hlt : l.stackTraces = false) (hEd : E.1 ≠ E.2.1 ∧ E.1 ≠ E.2.2 ∧ E.2.1 ≠ E.2.2) (hE : XEnv E (fun q : Nat => s.heap.size ≤ q) s s.heap) (hL : L ≤ 1536) (C0 : lw_At p s m meth c b L xs) (h4 : x4.toInt = ((3 * c9 : Nat) : Int)) (hc : 3 * c9 + 3 ≤ L) (hn : n ≤ 64) (hw : w ≤ 24) (hT : SymF T) (hPt : SymF P) (hK : va_K D vwCl (GT y1 y2 y3 y6 y4 y5) s) (hP : va_P D vwCl (GW h0 h1 h2 h3 b0 g0 g1 g2 y1 y2 y3 y6 y4 y5 n w th T P M O) H) (hD : va_D (fun q : Nat => s.heap.size ≤ q) (GW h0 h1 h2 h3 b0 g0 g1 g2 y1 y2 y3 y6 y4 y5 n w th T P M O)) (hS : va_S (fun q : Nat => s.heap.size ≤ q) s.heap H locs) (hl : lv_has ls 7 [(0, .ref b), (1, .ref h0), (2, .ref g0), (3, .ref b0), (4, .int x4)]) (K : LK p l e s m below meth c D b h0 h1 h2 h3 b0 g0 g1 g2 y1 y2 y3 y6 y4 y5 c9 x4) : W p l e room_1 s m #[Value.ref b] below meth c H locs (8 + 2 * c9) (252 + 12 * c9) (lw_Z below #[Value.ref b] s) (F0 m 729 ls []) := by
  obtain ⟨hx, hb, hr, hml, hown, hts0, hX, hbl, hlocks, hgv⟩ := C0
  have hts : ∀ w ∈ wsL_law, w.before #[Value.ref b] s = true := fun w h => hts0 w (wsL_law_in w h)
  have hA : ∀ q : Nat, s.heap.size ≤ q → (fun q : Nat => s.heap.size ≤ q) q := fun _ h => h
  have hbA : ¬ (fun q : Nat => s.heap.size ≤ q) b := Nat.not_le.mpr hbl
  have hR1 : room_1.cells = 1051 := rfl
  have hR2 : room_1.slots = 8558 := rfl
  have hKx := hK.sub (tys' := (XT y1 y2 y3)) [0, 1, 2] rfl
  have hKl := hK.sub (tys' := (LT y1 y2 y3 y6)) [0, 1, 2, 3] rfl
  have hKm := hK.sub (tys' := (MT y4 y5)) [4, 5] rfl
  refine lv_aload_n hx hb dL_law_729 rfl (lv_at hl 1 rfl) ?_
  have hPc := hP.sub (ws' := (XW h0 h1 h2 h3 y1 y2 y3 (n) (w) T P M)) [0, 1, 2, 3] rfl
  refine va_calli (va_runV (As := []) (rest := []) ⟨hx, hb, hml, hown, hts⟩ (c_X1_matches l D E h0 h1 h2 h3 y1 y2 y3 H.size (n) (w) T P M hn hw hT hPt hEd) (cwV 0 hts gL_law_X1_matches rfl rfl rfl (by decide +kernel) ⟨Nat.le_of_ble_eq_true rfl, Nat.le_of_ble_eq_true rfl⟩) ⟨cp.blind, va_recv hK hP (ci := 0) (q0 := 0) rfl rfl, fun U hU hW => ⟨rfl, cp.call hPc hKx hE hS (fr0 hS hA) hU hW⟩⟩ rfl rfl hl.1 rfl (lv_room (Nat.le_of_ble_eq_true rfl)) dL_law_730 ⟨by rw [hR1]; omega, by rw [hR2]; omega⟩) hS (fun q _ h => (fr0 hS hA) q h) (fr0 hS hA) (fun v730 u730 t H1 locs1 ht hvm e730 hB hz1 hk1 hS => ?_)
  have hP := kp hP hk1
  generalize H1 = H at hP hS ⊢
  generalize locs1 = locs at hS ⊢
  refine lv_aload_n hx hb dL_law_733 rfl (lv_at hl 2 rfl) ?_
  have hPc := hP.sub (ws' := (MW g0 g1 g2 y4 y5 th (n) (w) T P)) [5, 6, 7] rfl
  have hFc := va_free (wc := (MW g0 g1 g2 y4 y5 th (n) (w) T P)) hD hS hA [5, 6, 7] rfl
  have hDc := hD.sub (ws' := (MW g0 g1 g2 y4 y5 th (n) (w) T P)) [5, 6, 7] (by decide) rfl
  refine va_calli (va_runV (As := []) (rest := [.int v730]) ⟨hx, hb, hml, hown, hts⟩ (c_X2_matches l D E g0 g1 g2 y4 y5 H.size (n) (w) th T P hn hw hT hPt (hDc.weaken (fun _ _ _ _ => trivial))) (cwV 0 hts gL_law_X2_matches rfl rfl rfl (by decide +kernel) ⟨Nat.le_of_ble_eq_true rfl, Nat.le_of_ble_eq_true rfl⟩) ⟨cp.blind, va_recv hK hP (ci := 1) (q0 := 5) rfl rfl, fun U hU hW => ⟨rfl, cp.call hPc hKm hE hS hFc hU hW⟩⟩ rfl rfl hl.1 rfl (lv_room (Nat.le_of_ble_eq_true rfl)) dL_law_734 ⟨by rw [hR1]; omega, by rw [hR2]; omega⟩) hS (fun q _ h => hFc q h) hFc (fun v734 u734 t H1 locs1 ht hvm e734 hB hz1 hk1 hS => ?_)
  obtain ⟨hP1, hD1⟩ := hB
  rw [ht] at hP1
  obtain ⟨hP, hD⟩ := va_join (wr := (LW h0 h1 h2 h3 b0 y1 y2 y3 y6 (n) (w) T P M O)) (w1 := (MW g0 g1 g2 y4 y5 0 (n) (w) T P)) hP hD [5, 6, 7] [0, 1, 2, 3, 4] rfl rfl (by decide) (by decide) hk1 hFc hP1 hD1
  have hP : va_P D vwCl (GW h0 h1 h2 h3 b0 g0 g1 g2 y1 y2 y3 y6 y4 y5 (n) (w) 0 T P M O) H1 := hP
  have hD : va_D (fun q : Nat => s.heap.size ≤ q) (GW h0 h1 h2 h3 b0 g0 g1 g2 y1 y2 y3 y6 y4 y5 (n) (w) 0 T P M O) := hD
  generalize H1 = H at hP hS ⊢
  generalize locs1 = locs at hS ⊢
  refine z_icmp_eq (tgt := 1453) hx hb dL_law_737 (by decide) e730 e734 (fun c737 => ?_) (fun c737 => ?_)
  · have _u := True.intro
    refine W.widen (k := 8 + 2 * c9 + 2) (n := 252 + 12 * c9 + 12) (by omega) (by omega) ?_
    exact K (n) (w) 0 T P M O hn hw hT hPt _ _ hP hD hS _ (lv_sub hl [0, 1, 2, 3, 4] rfl)
  · exfalso; omega
set_option maxHeartbeats 4000000 in
set_option maxRecDepth 100000 in
theorem law_c14 {p : Program} {l : Launch} {e : Env} {s : State} {m : MethodId} {below : List Frame} {meth : Method} {c : Code} {D : va_G} {E : Nat × Nat × Nat} {b L : Nat} {xs : Nat → Int32} {h0 h1 h2 h3 b0 g0 g1 g2 : Nat} {y1 y2 y3 y6 y4 y5 : ClassId} {c9 : Nat} {x4 : Int32} {n w : Nat} {th : Int32} {T P M : Nat → Int32} {O : Nat → Int64} {H : Heap} {locs : List Loc} {ls : Array Slot} (hlt : l.stackTraces = false) (hEd : E.1 ≠ E.2.1 ∧ E.1 ≠ E.2.2 ∧ E.2.1 ≠ E.2.2) (hE : XEnv E (fun q : Nat => s.heap.size ≤ q) s s.heap) (hL : L ≤ 1536) (C0 : lw_At p s m meth c b L xs) (h4 : x4.toInt = ((3 * c9 : Nat) : Int)) (hc : 3 * c9 + 3 ≤ L) (hn : n ≤ 64) (hw : w ≤ 24) (hT : SymF T) (hPt : SymF P) (hK : va_K D vwCl (GT y1 y2 y3 y6 y4 y5) s) (hP : va_P D vwCl (GW h0 h1 h2 h3 b0 g0 g1 g2 y1 y2 y3 y6 y4 y5 n w th T P M O) H) (hD : va_D (fun q : Nat => s.heap.size ≤ q) (GW h0 h1 h2 h3 b0 g0 g1 g2 y1 y2 y3 y6 y4 y5 n w th T P M O)) (hS : va_S (fun q : Nat => s.heap.size ≤ q) s.heap H locs) (hl : lv_has ls 7 [(0, .ref b), (1, .ref h0), (2, .ref g0), (3, .ref b0), (4, .int x4)]) (K : LK p l e s m below meth c D b h0 h1 h2 h3 b0 g0 g1 g2 y1 y2 y3 y6 y4 y5 c9 x4) : W p l e room_1 s m #[Value.ref b] below meth c H locs (8 + 2 * c9) (252 + 12 * c9) (lw_Z below #[Value.ref b] s) (F0 m 742 ls []) := by
  obtain ⟨hx, hb, hr, hml, hown, hts0, hX, hbl, hlocks, hgv⟩ := C0
  have hts : ∀ w ∈ wsL_law, w.before #[Value.ref b] s = true := fun w h => hts0 w (wsL_law_in w h)
  have hA : ∀ q : Nat, s.heap.size ≤ q → (fun q : Nat => s.heap.size ≤ q) q := fun _ h => h
  have hbA : ¬ (fun q : Nat => s.heap.size ≤ q) b := Nat.not_le.mpr hbl
  have hR1 : room_1.cells = 1051 := rfl
  have hR2 : room_1.slots = 8558 := rfl
  have hKx := hK.sub (tys' := (XT y1 y2 y3)) [0, 1, 2] rfl
  have hKl := hK.sub (tys' := (LT y1 y2 y3 y6)) [0, 1, 2, 3] rfl
  have hKm := hK.sub (tys' := (MT y4 y5)) [4, 5] rfl
  refine lv_aload_n hx hb dL_law_742 rfl (lv_at hl 1 rfl) ?_
  refine lv_aload_n hx hb dL_law_743 rfl (lv_at hl 0 rfl) ?_
  refine lv_iload hx hb dL_law_744 (lv_at hl 4 rfl) ?_
  refine lv_iconst (v := 1) hx hb dL_law_746 (by decide) ?_
  refine z_iadd hx hb dL_law_747 h4 (show (1 : Int32).toInt = 1 by decide) (by omega) (by omega) (fun v747 e747 => ?_)
  have i748 : vp_in v747 L := vp_in_iff.mpr ⟨by omega, by omega⟩
  refine va_sld hx hb hX hbl hbA hS i748 dL_law_748 ?_
  refine lv_as (y := xs (3 * c9 + 1)) (congrArg xs (clN (Eq.trans e747 (by omega)))) ?_
  obtain ⟨a1, ha1⟩ : ∃ z, z = xs (3 * c9 + 1) := ⟨_, rfl⟩
  refine lv_as ha1.symm ?_
  refine lv_aload_n hx hb dL_law_749 rfl (lv_at hl 3 rfl) ?_
  have hPl := hP.sub (ws' := (LW h0 h1 h2 h3 b0 y1 y2 y3 y6 (n) (w) T P M O)) [0, 1, 2, 3, 4] rfl
  have hFc := va_free (wc := (LW h0 h1 h2 h3 b0 y1 y2 y3 y6 (n) (w) T P M O)) hD hS hA [0, 1, 2, 3, 4] rfl
  have hDl := hD.sub (ws' := (LW h0 h1 h2 h3 b0 y1 y2 y3 y6 (n) (w) T P M O)) [0, 1, 2, 3, 4] (by decide) rfl
  refine va_calli (vx_runSW (As := [.ref h0, .int a1, .ref b0]) (rest := []) ⟨hx, hb, hml, hown, hts⟩ (c_L_match l hlt D E h0 h1 h2 h3 b0 y1 y2 y3 y6 H.size n w T P M O hn hw hT hPt (hDl.weaken (fun _ _ _ _ => trivial)) a1 hEd) (vx_cwSW 3 hts gL_law_L_match rfl rfl rfl (by decide +kernel) ⟨Nat.le_of_ble_eq_true rfl, Nat.le_of_ble_eq_true rfl⟩) ⟨cp.blind, fun U hU hW => ⟨rfl, cp.call hPl hKl hE hS hFc hU hW⟩⟩ rfl rfl hl.1 rfl (lv_room (Nat.le_of_ble_eq_true rfl)) dL_law_750 ⟨by rw [hR1]; omega, by rw [hR2]; omega⟩) hS (fun q _ h => hFc q h) hFc (fun v750 u t H1 locs1 ht hvm ev hB hz1 hk1 hS => ?_)
  obtain ⟨e750, ev1⟩ := ev
  by_cases hk0 : kMt 0 T P w n a1.toInt = 0
  · have _u := True.intro
    obtain ⟨hP1, hD1⟩ := hB.1 hk0
    have hu1 := ev1 hk0
    rw [ht] at hP1
    obtain ⟨hP, hD⟩ := va_join (wr := (MW g0 g1 g2 y4 y5 th (n) (w) T P)) (w1 := (LW h0 h1 h2 h3 b0 y1 y2 y3 y6 (n) (w) T P u.2 (vp_updL O 0 u.1.toInt64))) hP hD [0, 1, 2, 3, 4] [5, 6, 7] rfl rfl (by decide) (by decide) hk1 hFc hP1 hD1
    have hP := hP.sub (ws' := (GW h0 h1 h2 h3 b0 g0 g1 g2 y1 y2 y3 y6 y4 y5 (n) (w) th T P u.2 (vp_updL O 0 u.1.toInt64))) [3, 4, 5, 6, 7, 0, 1, 2] rfl
    have hD := hD.sub (ws' := (GW h0 h1 h2 h3 b0 g0 g1 g2 y1 y2 y3 y6 y4 y5 (n) (w) th T P u.2 (vp_updL O 0 u.1.toInt64))) [3, 4, 5, 6, 7, 0, 1, 2] (by decide) rfl
    generalize H1 = H at hP hS ⊢
    generalize locs1 = locs at hS ⊢
    refine lv_istore (lv' := [(5, .int v750), (0, .ref b), (1, .ref h0), (2, .ref g0), (3, .ref b0), (4, .int x4)]) hx hb dL_law_753 hl (by decide) rfl (fun ls hl => ?_)
    refine lv_aload_n hx hb dL_law_755 rfl (lv_at hl 3 rfl) ?_
    refine lv_aload_n hx hb dL_law_756 rfl (lv_at hl 1 rfl) ?_
    refine lv_iload hx hb dL_law_757 (lv_at hl 5 rfl) ?_
    refine lv_iconst (v := 1) hx hb dL_law_759 (by decide) ?_
    refine z_iadd hx hb dL_law_760 h4 (show (1 : Int32).toInt = 1 by decide) (by omega) (by omega) (fun v760 e760 => ?_)
    have i761 : vp_in v760 L := vp_in_iff.mpr ⟨by omega, by omega⟩
    refine va_sld hx hb hX hbl hbA hS i761 dL_law_761 ?_
    refine lv_as (y := xs (3 * c9 + 1)) (congrArg xs (clN (Eq.trans e760 (by omega)))) ?_
    refine lv_as ha1.symm ?_
    have hPc := hP.sub (ws' := (MW g0 g1 g2 y4 y5 th (n) (w) T P)) [5, 6, 7] rfl
    have hFc := va_free (wc := (MW g0 g1 g2 y4 y5 th (n) (w) T P)) hD hS hA [5, 6, 7] rfl
    have hDc := hD.sub (ws' := (MW g0 g1 g2 y4 y5 th (n) (w) T P)) [5, 6, 7] (by decide) rfl
    refine va_calli (va_runV (As := [.int a1]) (rest := []) ⟨hx, hb, hml, hown, hts⟩ (c_X2_match l D E g0 g1 g2 y4 y5 H.size (n) (w) th T P hn hw hT hPt (hDc.weaken (fun _ _ _ _ => trivial)) a1) (cwV 1 hts gL_law_X2_match rfl rfl rfl (by decide +kernel) ⟨Nat.le_of_ble_eq_true rfl, Nat.le_of_ble_eq_true rfl⟩) ⟨cp.blind, va_recv hK hP (ci := 1) (q0 := 5) rfl rfl, fun U hU hW => ⟨rfl, cp.call hPc hKm hE hS hFc hU hW⟩⟩ rfl rfl hl.1 rfl (lv_room (Nat.le_of_ble_eq_true rfl)) dL_law_762 ⟨by rw [hR1]; omega, by rw [hR2]; omega⟩) hS (fun q _ h => hFc q h) hFc (fun v762 u762 t H1 locs1 ht hvm e762 hB hz1 hk1 hS => ?_)
    obtain ⟨et762, ev762⟩ := e762
    obtain ⟨hP1, hD1⟩ := hB
    have e762 := ev762 hk0
    rw [ht] at hP1
    obtain ⟨hP, hD⟩ := va_join (wr := (LW h0 h1 h2 h3 b0 y1 y2 y3 y6 (n) (w) T P u.2 (vp_updL O 0 u.1.toInt64))) (w1 := (MW g0 g1 g2 y4 y5 u762 (n) (w) T P)) hP hD [5, 6, 7] [0, 1, 2, 3, 4] rfl rfl (by decide) (by decide) hk1 hFc hP1 hD1
    have hP : va_P D vwCl (GW h0 h1 h2 h3 b0 g0 g1 g2 y1 y2 y3 y6 y4 y5 (n) (w) u762 T P u.2 (vp_updL O 0 u.1.toInt64)) H1 := hP
    have hD : va_D (fun q : Nat => s.heap.size ≤ q) (GW h0 h1 h2 h3 b0 g0 g1 g2 y1 y2 y3 y6 y4 y5 (n) (w) u762 T P u.2 (vp_updL O 0 u.1.toInt64)) := hD
    generalize H1 = H at hP hS ⊢
    generalize locs1 = locs at hS ⊢
    refine lv_istore (lv' := [(6, .int v762), (5, .int v750), (0, .ref b), (1, .ref h0), (2, .ref g0), (3, .ref b0), (4, .int x4)]) hx hb dL_law_765 hl (by decide) rfl (fun ls hl => ?_)
    refine lv_aload_n hx hb dL_law_767 rfl (lv_at hl 4 rfl) ?_
    have hPc := hP.sub (ws' := (MW g0 g1 g2 y4 y5 u762 (n) (w) T P)) [5, 6, 7] rfl
    refine va_calli (va_runV (As := []) (rest := []) ⟨hx, hb, hml, hown, hts⟩ (c_X2_thrown l D E g0 g1 g2 y4 y5 H.size (n) (w) u762 T P hn hw hT hPt) (cwV 0 hts gL_law_X2_thrown rfl rfl rfl (by decide +kernel) ⟨Nat.le_of_ble_eq_true rfl, Nat.le_of_ble_eq_true rfl⟩) ⟨cp.blind, va_recv hK hP (ci := 1) (q0 := 5) rfl rfl, fun U hU hW => ⟨rfl, cp.call hPc hKm hE hS (fr0 hS hA) hU hW⟩⟩ rfl rfl hl.1 rfl (lv_room (Nat.le_of_ble_eq_true rfl)) dL_law_768 ⟨by rw [hR1]; omega, by rw [hR2]; omega⟩) hS (fun q _ h => (fr0 hS hA) q h) (fr0 hS hA) (fun v768 u768 t H1 locs1 ht hvm e768 hB hz1 hk1 hS => ?_)
    have hP := kp hP hk1
    generalize H1 = H at hP hS ⊢
    generalize locs1 = locs at hS ⊢
    refine lv_iload hx hb dL_law_771 (lv_at hl 1 rfl) ?_
    refine z_icmp_eq (tgt := 778) hx hb dL_law_773 (by decide) (Eq.trans e768 et762) e750 (fun c773 => ?_) (fun c773 => ?_)
    · have _u := True.intro
      refine lv_iload hx hb dL_law_778 (lv_at hl 1 rfl) ?_
      refine z_if_ne (tgt := 795) hx hb dL_law_780 (by decide) e750 (fun c780 => ?_) (fun c780 => ?_)
      · have _u := True.intro
        exfalso; omega
      · have _u := True.intro
        refine lv_aload_n hx hb dL_law_783 rfl (lv_at hl 5 rfl) ?_
        refine lv_iconst (v := 0) hx hb dL_law_784 (by decide) ?_
        refine z_lald hx hb hK hP 4 3 rfl rfl 0 (show (0 : Int32).toInt = 0 by decide) rfl (by decide) dL_law_785 ?_
        refine lv_iload hx hb dL_law_786 (lv_at hl 0 rfl) ?_
        refine z_i2l hx hb dL_law_788 e762 (fun v788 e788 => ?_)
        refine z_lcmp hx hb dL_law_789 (show ((vp_updL O 0 u.1.toInt64) 0).toInt = u.1.toInt by rw [pk_uLs, Int32.toInt_toInt64]) e788 (fun v789 z789 e789 f789 k789 => ?_)
        refine z_if_eq (tgt := 795) hx hb dL_law_790 (by decide) e789 (fun c790 => ?_) (fun c790 => ?_)
        · have _u := True.intro
          refine lv_goto (tgt := 1453) hx hb dL_law_795 (by decide) ?_
          refine W.widen (k := 8 + 2 * c9 + 2) (n := 252 + 12 * c9 + 12) (by omega) (by omega) ?_
          exact K (n) (w) u762 T P u.2 (vp_updL O 0 u.1.toInt64) hn hw hT hPt _ _ hP hD hS _ (lv_sub hl [2, 3, 4, 5, 6] rfl)
        · exfalso; omega
    · exfalso; omega
  · have _u := True.intro
    obtain ⟨hP1, hD1⟩ := hB.2 hk0
    rw [ht] at hP1
    obtain ⟨hP, hD⟩ := va_join (wr := (MW g0 g1 g2 y4 y5 th (n) (w) T P)) (w1 := (LW h0 h1 h2 h3 b0 y1 y2 y3 y6 (n) (w) T P u.2 O)) hP hD [0, 1, 2, 3, 4] [5, 6, 7] rfl rfl (by decide) (by decide) hk1 hFc hP1 hD1
    have hP := hP.sub (ws' := (GW h0 h1 h2 h3 b0 g0 g1 g2 y1 y2 y3 y6 y4 y5 (n) (w) th T P u.2 O)) [3, 4, 5, 6, 7, 0, 1, 2] rfl
    have hD := hD.sub (ws' := (GW h0 h1 h2 h3 b0 g0 g1 g2 y1 y2 y3 y6 y4 y5 (n) (w) th T P u.2 O)) [3, 4, 5, 6, 7, 0, 1, 2] (by decide) rfl
    generalize H1 = H at hP hS ⊢
    generalize locs1 = locs at hS ⊢
    refine lv_istore (lv' := [(5, .int v750), (0, .ref b), (1, .ref h0), (2, .ref g0), (3, .ref b0), (4, .int x4)]) hx hb dL_law_753 hl (by decide) rfl (fun ls hl => ?_)
    refine lv_aload_n hx hb dL_law_755 rfl (lv_at hl 3 rfl) ?_
    refine lv_aload_n hx hb dL_law_756 rfl (lv_at hl 1 rfl) ?_
    refine lv_iload hx hb dL_law_757 (lv_at hl 5 rfl) ?_
    refine lv_iconst (v := 1) hx hb dL_law_759 (by decide) ?_
    refine z_iadd hx hb dL_law_760 h4 (show (1 : Int32).toInt = 1 by decide) (by omega) (by omega) (fun v760 e760 => ?_)
    have i761 : vp_in v760 L := vp_in_iff.mpr ⟨by omega, by omega⟩
    refine va_sld hx hb hX hbl hbA hS i761 dL_law_761 ?_
    refine lv_as (y := xs (3 * c9 + 1)) (congrArg xs (clN (Eq.trans e760 (by omega)))) ?_
    refine lv_as ha1.symm ?_
    have hPc := hP.sub (ws' := (MW g0 g1 g2 y4 y5 th (n) (w) T P)) [5, 6, 7] rfl
    have hFc := va_free (wc := (MW g0 g1 g2 y4 y5 th (n) (w) T P)) hD hS hA [5, 6, 7] rfl
    have hDc := hD.sub (ws' := (MW g0 g1 g2 y4 y5 th (n) (w) T P)) [5, 6, 7] (by decide) rfl
    refine va_calli (va_runV (As := [.int a1]) (rest := []) ⟨hx, hb, hml, hown, hts⟩ (c_X2_match l D E g0 g1 g2 y4 y5 H.size (n) (w) th T P hn hw hT hPt (hDc.weaken (fun _ _ _ _ => trivial)) a1) (cwV 1 hts gL_law_X2_match rfl rfl rfl (by decide +kernel) ⟨Nat.le_of_ble_eq_true rfl, Nat.le_of_ble_eq_true rfl⟩) ⟨cp.blind, va_recv hK hP (ci := 1) (q0 := 5) rfl rfl, fun U hU hW => ⟨rfl, cp.call hPc hKm hE hS hFc hU hW⟩⟩ rfl rfl hl.1 rfl (lv_room (Nat.le_of_ble_eq_true rfl)) dL_law_762 ⟨by rw [hR1]; omega, by rw [hR2]; omega⟩) hS (fun q _ h => hFc q h) hFc (fun v762 u762 t H1 locs1 ht hvm e762 hB hz1 hk1 hS => ?_)
    obtain ⟨et762, ev762⟩ := e762
    obtain ⟨hP1, hD1⟩ := hB
    rw [ht] at hP1
    obtain ⟨hP, hD⟩ := va_join (wr := (LW h0 h1 h2 h3 b0 y1 y2 y3 y6 (n) (w) T P u.2 O)) (w1 := (MW g0 g1 g2 y4 y5 u762 (n) (w) T P)) hP hD [5, 6, 7] [0, 1, 2, 3, 4] rfl rfl (by decide) (by decide) hk1 hFc hP1 hD1
    have hP : va_P D vwCl (GW h0 h1 h2 h3 b0 g0 g1 g2 y1 y2 y3 y6 y4 y5 (n) (w) u762 T P u.2 O) H1 := hP
    have hD : va_D (fun q : Nat => s.heap.size ≤ q) (GW h0 h1 h2 h3 b0 g0 g1 g2 y1 y2 y3 y6 y4 y5 (n) (w) u762 T P u.2 O) := hD
    generalize H1 = H at hP hS ⊢
    generalize locs1 = locs at hS ⊢
    refine lv_istore (lv' := [(6, .int v762), (5, .int v750), (0, .ref b), (1, .ref h0), (2, .ref g0), (3, .ref b0), (4, .int x4)]) hx hb dL_law_765 hl (by decide) rfl (fun ls hl => ?_)
    refine lv_aload_n hx hb dL_law_767 rfl (lv_at hl 4 rfl) ?_
    have hPc := hP.sub (ws' := (MW g0 g1 g2 y4 y5 u762 (n) (w) T P)) [5, 6, 7] rfl
    refine va_calli (va_runV (As := []) (rest := []) ⟨hx, hb, hml, hown, hts⟩ (c_X2_thrown l D E g0 g1 g2 y4 y5 H.size (n) (w) u762 T P hn hw hT hPt) (cwV 0 hts gL_law_X2_thrown rfl rfl rfl (by decide +kernel) ⟨Nat.le_of_ble_eq_true rfl, Nat.le_of_ble_eq_true rfl⟩) ⟨cp.blind, va_recv hK hP (ci := 1) (q0 := 5) rfl rfl, fun U hU hW => ⟨rfl, cp.call hPc hKm hE hS (fr0 hS hA) hU hW⟩⟩ rfl rfl hl.1 rfl (lv_room (Nat.le_of_ble_eq_true rfl)) dL_law_768 ⟨by rw [hR1]; omega, by rw [hR2]; omega⟩) hS (fun q _ h => (fr0 hS hA) q h) (fr0 hS hA) (fun v768 u768 t H1 locs1 ht hvm e768 hB hz1 hk1 hS => ?_)
    have hP := kp hP hk1
    generalize H1 = H at hP hS ⊢
    generalize locs1 = locs at hS ⊢
    refine lv_iload hx hb dL_law_771 (lv_at hl 1 rfl) ?_
    refine z_icmp_eq (tgt := 778) hx hb dL_law_773 (by decide) (Eq.trans e768 et762) e750 (fun c773 => ?_) (fun c773 => ?_)
    · have _u := True.intro
      refine lv_iload hx hb dL_law_778 (lv_at hl 1 rfl) ?_
      refine z_if_ne (tgt := 795) hx hb dL_law_780 (by decide) e750 (fun c780 => ?_) (fun c780 => ?_)
      · have _u := True.intro
        refine lv_goto (tgt := 1453) hx hb dL_law_795 (by decide) ?_
        refine W.widen (k := 8 + 2 * c9 + 2) (n := 252 + 12 * c9 + 12) (by omega) (by omega) ?_
        exact K (n) (w) u762 T P u.2 O hn hw hT hPt _ _ hP hD hS _ (lv_sub hl [2, 3, 4, 5, 6] rfl)
      · have _u := True.intro
        exfalso; omega
    · exfalso; omega
set_option maxHeartbeats 4000000 in
set_option maxRecDepth 100000 in
theorem law_c15 {p : Program} {l : Launch} {e : Env} {s : State} {m : MethodId} {below : List Frame} {meth : Method} {c : Code} {D : va_G} {E : Nat × Nat × Nat} {b L : Nat} {xs : Nat → Int32} {h0 h1 h2 h3 b0 g0 g1 g2 : Nat} {y1 y2 y3 y6 y4 y5 : ClassId} {c9 : Nat} {x4 : Int32} {n w : Nat} {th : Int32} {T P M : Nat → Int32} {O : Nat → Int64} {H : Heap} {locs : List Loc} {ls : Array Slot} (hlt : l.stackTraces = false) (hEd : E.1 ≠ E.2.1 ∧ E.1 ≠ E.2.2 ∧ E.2.1 ≠ E.2.2) (hE : XEnv E (fun q : Nat => s.heap.size ≤ q) s s.heap) (hL : L ≤ 1536) (C0 : lw_At p s m meth c b L xs) (h4 : x4.toInt = ((3 * c9 : Nat) : Int)) (hc : 3 * c9 + 3 ≤ L) (hn : n ≤ 64) (hw : w ≤ 24) (hT : SymF T) (hPt : SymF P) (hK : va_K D vwCl (GT y1 y2 y3 y6 y4 y5) s) (hP : va_P D vwCl (GW h0 h1 h2 h3 b0 g0 g1 g2 y1 y2 y3 y6 y4 y5 n w th T P M O) H) (hD : va_D (fun q : Nat => s.heap.size ≤ q) (GW h0 h1 h2 h3 b0 g0 g1 g2 y1 y2 y3 y6 y4 y5 n w th T P M O)) (hS : va_S (fun q : Nat => s.heap.size ≤ q) s.heap H locs) (hl : lv_has ls 7 [(0, .ref b), (1, .ref h0), (2, .ref g0), (3, .ref b0), (4, .int x4)]) (K : LK p l e s m below meth c D b h0 h1 h2 h3 b0 g0 g1 g2 y1 y2 y3 y6 y4 y5 c9 x4) : W p l e room_1 s m #[Value.ref b] below meth c H locs (8 + 2 * c9) (252 + 12 * c9) (lw_Z below #[Value.ref b] s) (F0 m 798 ls []) := by
  obtain ⟨hx, hb, hr, hml, hown, hts0, hX, hbl, hlocks, hgv⟩ := C0
  have hts : ∀ w ∈ wsL_law, w.before #[Value.ref b] s = true := fun w h => hts0 w (wsL_law_in w h)
  have hA : ∀ q : Nat, s.heap.size ≤ q → (fun q : Nat => s.heap.size ≤ q) q := fun _ h => h
  have hbA : ¬ (fun q : Nat => s.heap.size ≤ q) b := Nat.not_le.mpr hbl
  have hR1 : room_1.cells = 1051 := rfl
  have hR2 : room_1.slots = 8558 := rfl
  have hKx := hK.sub (tys' := (XT y1 y2 y3)) [0, 1, 2] rfl
  have hKl := hK.sub (tys' := (LT y1 y2 y3 y6)) [0, 1, 2, 3] rfl
  have hKm := hK.sub (tys' := (MT y4 y5)) [4, 5] rfl
  refine lv_aload_n hx hb dL_law_798 rfl (lv_at hl 1 rfl) ?_
  have hPc := hP.sub (ws' := (XW h0 h1 h2 h3 y1 y2 y3 (n) (w) T P M)) [0, 1, 2, 3] rfl
  refine va_calli (va_runV (As := []) (rest := []) ⟨hx, hb, hml, hown, hts⟩ (c_X1_apart l D E h0 h1 h2 h3 y1 y2 y3 H.size (n) (w) T P M hn hw hT hPt) (cwV 0 hts gL_law_X1_apart rfl rfl rfl (by decide +kernel) ⟨Nat.le_of_ble_eq_true rfl, Nat.le_of_ble_eq_true rfl⟩) ⟨cp.blind, va_recv hK hP (ci := 0) (q0 := 0) rfl rfl, fun U hU hW => ⟨rfl, cp.call hPc hKx hE hS (fr0 hS hA) hU hW⟩⟩ rfl rfl hl.1 rfl (lv_room (Nat.le_of_ble_eq_true rfl)) dL_law_799 ⟨by rw [hR1]; omega, by rw [hR2]; omega⟩) hS (fun q _ h => (fr0 hS hA) q h) (fr0 hS hA) (fun v799 u799 t H1 locs1 ht hvm e799 hB hz1 hk1 hS => ?_)
  have hP := kp hP hk1
  generalize H1 = H at hP hS ⊢
  generalize locs1 = locs at hS ⊢
  refine lv_aload_n hx hb dL_law_802 rfl (lv_at hl 2 rfl) ?_
  have hPc := hP.sub (ws' := (MW g0 g1 g2 y4 y5 th (n) (w) T P)) [5, 6, 7] rfl
  have hFc := va_free (wc := (MW g0 g1 g2 y4 y5 th (n) (w) T P)) hD hS hA [5, 6, 7] rfl
  have hDc := hD.sub (ws' := (MW g0 g1 g2 y4 y5 th (n) (w) T P)) [5, 6, 7] (by decide) rfl
  refine va_calli (va_runV (As := []) (rest := [.int v799]) ⟨hx, hb, hml, hown, hts⟩ (c_X2_apart l D E g0 g1 g2 y4 y5 H.size (n) (w) th T P hn hw hT hPt (hDc.weaken (fun _ _ _ _ => trivial))) (cwV 0 hts gL_law_X2_apart rfl rfl rfl (by decide +kernel) ⟨Nat.le_of_ble_eq_true rfl, Nat.le_of_ble_eq_true rfl⟩) ⟨cp.blind, va_recv hK hP (ci := 1) (q0 := 5) rfl rfl, fun U hU hW => ⟨rfl, cp.call hPc hKm hE hS hFc hU hW⟩⟩ rfl rfl hl.1 rfl (lv_room (Nat.le_of_ble_eq_true rfl)) dL_law_803 ⟨by rw [hR1]; omega, by rw [hR2]; omega⟩) hS (fun q _ h => hFc q h) hFc (fun v803 u803 t H1 locs1 ht hvm e803 hB hz1 hk1 hS => ?_)
  obtain ⟨hP1, hD1⟩ := hB
  rw [ht] at hP1
  obtain ⟨hP, hD⟩ := va_join (wr := (LW h0 h1 h2 h3 b0 y1 y2 y3 y6 (n) (w) T P M O)) (w1 := (MW g0 g1 g2 y4 y5 0 (n) (w) T P)) hP hD [5, 6, 7] [0, 1, 2, 3, 4] rfl rfl (by decide) (by decide) hk1 hFc hP1 hD1
  have hP : va_P D vwCl (GW h0 h1 h2 h3 b0 g0 g1 g2 y1 y2 y3 y6 y4 y5 (n) (w) 0 T P M O) H1 := hP
  have hD : va_D (fun q : Nat => s.heap.size ≤ q) (GW h0 h1 h2 h3 b0 g0 g1 g2 y1 y2 y3 y6 y4 y5 (n) (w) 0 T P M O) := hD
  generalize H1 = H at hP hS ⊢
  generalize locs1 = locs at hS ⊢
  refine z_icmp_eq (tgt := 1453) hx hb dL_law_806 (by decide) e799 e803 (fun c806 => ?_) (fun c806 => ?_)
  · have _u := True.intro
    refine W.widen (k := 8 + 2 * c9 + 2) (n := 252 + 12 * c9 + 12) (by omega) (by omega) ?_
    exact K (n) (w) 0 T P M O hn hw hT hPt _ _ hP hD hS _ (lv_sub hl [0, 1, 2, 3, 4] rfl)
  · exfalso; omega
set_option maxHeartbeats 4000000 in
set_option maxRecDepth 100000 in
theorem law_c16 {p : Program} {l : Launch} {e : Env} {s : State} {m : MethodId} {below : List Frame} {meth : Method} {c : Code} {D : va_G} {E : Nat × Nat × Nat} {b L : Nat} {xs : Nat → Int32} {h0 h1 h2 h3 b0 g0 g1 g2 : Nat} {y1 y2 y3 y6 y4 y5 : ClassId} {c9 : Nat} {x4 : Int32} {n w : Nat} {th : Int32} {T P M : Nat → Int32} {O : Nat → Int64} {H : Heap} {locs : List Loc} {ls : Array Slot} (hlt : l.stackTraces = false) (hEd : E.1 ≠ E.2.1 ∧ E.1 ≠ E.2.2 ∧ E.2.1 ≠ E.2.2) (hE : XEnv E (fun q : Nat => s.heap.size ≤ q) s s.heap) (hL : L ≤ 1536) (C0 : lw_At p s m meth c b L xs) (h4 : x4.toInt = ((3 * c9 : Nat) : Int)) (hc : 3 * c9 + 3 ≤ L) (hn : n ≤ 64) (hw : w ≤ 24) (hT : SymF T) (hPt : SymF P) (hK : va_K D vwCl (GT y1 y2 y3 y6 y4 y5) s) (hP : va_P D vwCl (GW h0 h1 h2 h3 b0 g0 g1 g2 y1 y2 y3 y6 y4 y5 n w th T P M O) H) (hD : va_D (fun q : Nat => s.heap.size ≤ q) (GW h0 h1 h2 h3 b0 g0 g1 g2 y1 y2 y3 y6 y4 y5 n w th T P M O)) (hS : va_S (fun q : Nat => s.heap.size ≤ q) s.heap H locs) (hl : lv_has ls 7 [(0, .ref b), (1, .ref h0), (2, .ref g0), (3, .ref b0), (4, .int x4)]) (K : LK p l e s m below meth c D b h0 h1 h2 h3 b0 g0 g1 g2 y1 y2 y3 y6 y4 y5 c9 x4) : W p l e room_1 s m #[Value.ref b] below meth c H locs (8 + 2 * c9) (252 + 12 * c9) (lw_Z below #[Value.ref b] s) (F0 m 811 ls []) := by
  obtain ⟨hx, hb, hr, hml, hown, hts0, hX, hbl, hlocks, hgv⟩ := C0
  have hts : ∀ w ∈ wsL_law, w.before #[Value.ref b] s = true := fun w h => hts0 w (wsL_law_in w h)
  have hA : ∀ q : Nat, s.heap.size ≤ q → (fun q : Nat => s.heap.size ≤ q) q := fun _ h => h
  have hbA : ¬ (fun q : Nat => s.heap.size ≤ q) b := Nat.not_le.mpr hbl
  have hR1 : room_1.cells = 1051 := rfl
  have hR2 : room_1.slots = 8558 := rfl
  have hKx := hK.sub (tys' := (XT y1 y2 y3)) [0, 1, 2] rfl
  have hKl := hK.sub (tys' := (LT y1 y2 y3 y6)) [0, 1, 2, 3] rfl
  have hKm := hK.sub (tys' := (MT y4 y5)) [4, 5] rfl
  refine lv_aload_n hx hb dL_law_811 rfl (lv_at hl 1 rfl) ?_
  refine lv_aload_n hx hb dL_law_812 rfl (lv_at hl 0 rfl) ?_
  refine lv_iload hx hb dL_law_813 (lv_at hl 4 rfl) ?_
  refine lv_iconst (v := 1) hx hb dL_law_815 (by decide) ?_
  refine z_iadd hx hb dL_law_816 h4 (show (1 : Int32).toInt = 1 by decide) (by omega) (by omega) (fun v816 e816 => ?_)
  have i817 : vp_in v816 L := vp_in_iff.mpr ⟨by omega, by omega⟩
  refine va_sld hx hb hX hbl hbA hS i817 dL_law_817 ?_
  refine lv_as (y := xs (3 * c9 + 1)) (congrArg xs (clN (Eq.trans e816 (by omega)))) ?_
  obtain ⟨a1, ha1⟩ : ∃ z, z = xs (3 * c9 + 1) := ⟨_, rfl⟩
  refine lv_as ha1.symm ?_
  refine lv_aload_n hx hb dL_law_818 rfl (lv_at hl 3 rfl) ?_
  have hPl := hP.sub (ws' := (LW h0 h1 h2 h3 b0 y1 y2 y3 y6 (n) (w) T P M O)) [0, 1, 2, 3, 4] rfl
  have hFc := va_free (wc := (LW h0 h1 h2 h3 b0 y1 y2 y3 y6 (n) (w) T P M O)) hD hS hA [0, 1, 2, 3, 4] rfl
  have hDl := hD.sub (ws' := (LW h0 h1 h2 h3 b0 y1 y2 y3 y6 (n) (w) T P M O)) [0, 1, 2, 3, 4] (by decide) rfl
  refine va_calli (vx_runSW (As := [.ref h0, .int a1, .ref b0]) (rest := []) ⟨hx, hb, hml, hown, hts⟩ (c_L_mismatches l hlt D E h0 h1 h2 h3 b0 y1 y2 y3 y6 H.size n w T P M O hn hw hT hPt (hDl.weaken (fun _ _ _ _ => trivial)) a1) (vx_cwSW 3 hts gL_law_L_mismatches rfl rfl rfl (by decide +kernel) ⟨Nat.le_of_ble_eq_true rfl, Nat.le_of_ble_eq_true rfl⟩) ⟨cp.blind, fun U hU hW => ⟨rfl, cp.call hPl hKl hE hS hFc hU hW⟩⟩ rfl rfl hl.1 rfl (lv_room (Nat.le_of_ble_eq_true rfl)) dL_law_819 ⟨by rw [hR1]; omega, by rw [hR2]; omega⟩) hS (fun q _ h => hFc q h) hFc (fun v819 u t H1 locs1 ht hvm ev hB hz1 hk1 hS => ?_)
  obtain ⟨e819, ev1⟩ := ev
  by_cases hk0 : kPl (pl n w) a1.toInt = 0
  · have _u := True.intro
    obtain ⟨hP1, hD1⟩ := hB.1 hk0
    have hu1 := ev1 hk0
    rw [ht] at hP1
    obtain ⟨hP, hD⟩ := va_join (wr := (MW g0 g1 g2 y4 y5 th (n) (w) T P)) (w1 := (LW h0 h1 h2 h3 b0 y1 y2 y3 y6 (n) (w) T P u.2 (vp_updL O 0 u.1.toInt64))) hP hD [0, 1, 2, 3, 4] [5, 6, 7] rfl rfl (by decide) (by decide) hk1 hFc hP1 hD1
    have hP := hP.sub (ws' := (GW h0 h1 h2 h3 b0 g0 g1 g2 y1 y2 y3 y6 y4 y5 (n) (w) th T P u.2 (vp_updL O 0 u.1.toInt64))) [3, 4, 5, 6, 7, 0, 1, 2] rfl
    have hD := hD.sub (ws' := (GW h0 h1 h2 h3 b0 g0 g1 g2 y1 y2 y3 y6 y4 y5 (n) (w) th T P u.2 (vp_updL O 0 u.1.toInt64))) [3, 4, 5, 6, 7, 0, 1, 2] (by decide) rfl
    generalize H1 = H at hP hS ⊢
    generalize locs1 = locs at hS ⊢
    refine lv_istore (lv' := [(5, .int v819), (0, .ref b), (1, .ref h0), (2, .ref g0), (3, .ref b0), (4, .int x4)]) hx hb dL_law_822 hl (by decide) rfl (fun ls hl => ?_)
    refine lv_aload_n hx hb dL_law_824 rfl (lv_at hl 3 rfl) ?_
    refine lv_aload_n hx hb dL_law_825 rfl (lv_at hl 1 rfl) ?_
    refine lv_iload hx hb dL_law_826 (lv_at hl 5 rfl) ?_
    refine lv_iconst (v := 1) hx hb dL_law_828 (by decide) ?_
    refine z_iadd hx hb dL_law_829 h4 (show (1 : Int32).toInt = 1 by decide) (by omega) (by omega) (fun v829 e829 => ?_)
    have i830 : vp_in v829 L := vp_in_iff.mpr ⟨by omega, by omega⟩
    refine va_sld hx hb hX hbl hbA hS i830 dL_law_830 ?_
    refine lv_as (y := xs (3 * c9 + 1)) (congrArg xs (clN (Eq.trans e829 (by omega)))) ?_
    refine lv_as ha1.symm ?_
    have hPc := hP.sub (ws' := (MW g0 g1 g2 y4 y5 th (n) (w) T P)) [5, 6, 7] rfl
    have hFc := va_free (wc := (MW g0 g1 g2 y4 y5 th (n) (w) T P)) hD hS hA [5, 6, 7] rfl
    have hDc := hD.sub (ws' := (MW g0 g1 g2 y4 y5 th (n) (w) T P)) [5, 6, 7] (by decide) rfl
    refine va_calli (va_runV (As := [.int a1]) (rest := []) ⟨hx, hb, hml, hown, hts⟩ (c_X2_mismatches l D E g0 g1 g2 y4 y5 H.size (n) (w) th T P hn hw hT hPt (hDc.weaken (fun _ _ _ _ => trivial)) a1) (cwV 1 hts gL_law_X2_mismatches rfl rfl rfl (by decide +kernel) ⟨Nat.le_of_ble_eq_true rfl, Nat.le_of_ble_eq_true rfl⟩) ⟨cp.blind, va_recv hK hP (ci := 1) (q0 := 5) rfl rfl, fun U hU hW => ⟨rfl, cp.call hPc hKm hE hS hFc hU hW⟩⟩ rfl rfl hl.1 rfl (lv_room (Nat.le_of_ble_eq_true rfl)) dL_law_831 ⟨by rw [hR1]; omega, by rw [hR2]; omega⟩) hS (fun q _ h => hFc q h) hFc (fun v831 u831 t H1 locs1 ht hvm e831 hB hz1 hk1 hS => ?_)
    obtain ⟨et831, ev831⟩ := e831
    obtain ⟨hP1, hD1⟩ := hB
    have e831 := ev831 hk0
    rw [ht] at hP1
    obtain ⟨hP, hD⟩ := va_join (wr := (LW h0 h1 h2 h3 b0 y1 y2 y3 y6 (n) (w) T P u.2 (vp_updL O 0 u.1.toInt64))) (w1 := (MW g0 g1 g2 y4 y5 u831 (n) (w) T P)) hP hD [5, 6, 7] [0, 1, 2, 3, 4] rfl rfl (by decide) (by decide) hk1 hFc hP1 hD1
    have hP : va_P D vwCl (GW h0 h1 h2 h3 b0 g0 g1 g2 y1 y2 y3 y6 y4 y5 (n) (w) u831 T P u.2 (vp_updL O 0 u.1.toInt64)) H1 := hP
    have hD : va_D (fun q : Nat => s.heap.size ≤ q) (GW h0 h1 h2 h3 b0 g0 g1 g2 y1 y2 y3 y6 y4 y5 (n) (w) u831 T P u.2 (vp_updL O 0 u.1.toInt64)) := hD
    generalize H1 = H at hP hS ⊢
    generalize locs1 = locs at hS ⊢
    refine lv_istore (lv' := [(6, .int v831), (5, .int v819), (0, .ref b), (1, .ref h0), (2, .ref g0), (3, .ref b0), (4, .int x4)]) hx hb dL_law_834 hl (by decide) rfl (fun ls hl => ?_)
    refine lv_aload_n hx hb dL_law_836 rfl (lv_at hl 4 rfl) ?_
    have hPc := hP.sub (ws' := (MW g0 g1 g2 y4 y5 u831 (n) (w) T P)) [5, 6, 7] rfl
    refine va_calli (va_runV (As := []) (rest := []) ⟨hx, hb, hml, hown, hts⟩ (c_X2_thrown l D E g0 g1 g2 y4 y5 H.size (n) (w) u831 T P hn hw hT hPt) (cwV 0 hts gL_law_X2_thrown rfl rfl rfl (by decide +kernel) ⟨Nat.le_of_ble_eq_true rfl, Nat.le_of_ble_eq_true rfl⟩) ⟨cp.blind, va_recv hK hP (ci := 1) (q0 := 5) rfl rfl, fun U hU hW => ⟨rfl, cp.call hPc hKm hE hS (fr0 hS hA) hU hW⟩⟩ rfl rfl hl.1 rfl (lv_room (Nat.le_of_ble_eq_true rfl)) dL_law_837 ⟨by rw [hR1]; omega, by rw [hR2]; omega⟩) hS (fun q _ h => (fr0 hS hA) q h) (fr0 hS hA) (fun v837 u837 t H1 locs1 ht hvm e837 hB hz1 hk1 hS => ?_)
    have hP := kp hP hk1
    generalize H1 = H at hP hS ⊢
    generalize locs1 = locs at hS ⊢
    refine lv_iload hx hb dL_law_840 (lv_at hl 1 rfl) ?_
    refine z_icmp_eq (tgt := 847) hx hb dL_law_842 (by decide) (Eq.trans e837 et831) e819 (fun c842 => ?_) (fun c842 => ?_)
    · have _u := True.intro
      refine lv_iload hx hb dL_law_847 (lv_at hl 1 rfl) ?_
      refine z_if_ne (tgt := 864) hx hb dL_law_849 (by decide) e819 (fun c849 => ?_) (fun c849 => ?_)
      · have _u := True.intro
        exfalso; omega
      · have _u := True.intro
        refine lv_aload_n hx hb dL_law_852 rfl (lv_at hl 5 rfl) ?_
        refine lv_iconst (v := 0) hx hb dL_law_853 (by decide) ?_
        refine z_lald hx hb hK hP 4 3 rfl rfl 0 (show (0 : Int32).toInt = 0 by decide) rfl (by decide) dL_law_854 ?_
        refine lv_iload hx hb dL_law_855 (lv_at hl 0 rfl) ?_
        refine z_i2l hx hb dL_law_857 e831 (fun v857 e857 => ?_)
        refine z_lcmp hx hb dL_law_858 (show ((vp_updL O 0 u.1.toInt64) 0).toInt = u.1.toInt by rw [pk_uLs, Int32.toInt_toInt64]) e857 (fun v858 z858 e858 f858 k858 => ?_)
        refine z_if_eq (tgt := 864) hx hb dL_law_859 (by decide) e858 (fun c859 => ?_) (fun c859 => ?_)
        · have _u := True.intro
          refine lv_goto (tgt := 1453) hx hb dL_law_864 (by decide) ?_
          refine W.widen (k := 8 + 2 * c9 + 2) (n := 252 + 12 * c9 + 12) (by omega) (by omega) ?_
          exact K (n) (w) u831 T P u.2 (vp_updL O 0 u.1.toInt64) hn hw hT hPt _ _ hP hD hS _ (lv_sub hl [2, 3, 4, 5, 6] rfl)
        · exfalso; omega
    · exfalso; omega
  · have _u := True.intro
    obtain ⟨hP1, hD1⟩ := hB.2 hk0
    rw [ht] at hP1
    obtain ⟨hP, hD⟩ := va_join (wr := (MW g0 g1 g2 y4 y5 th (n) (w) T P)) (w1 := (LW h0 h1 h2 h3 b0 y1 y2 y3 y6 (n) (w) T P u.2 O)) hP hD [0, 1, 2, 3, 4] [5, 6, 7] rfl rfl (by decide) (by decide) hk1 hFc hP1 hD1
    have hP := hP.sub (ws' := (GW h0 h1 h2 h3 b0 g0 g1 g2 y1 y2 y3 y6 y4 y5 (n) (w) th T P u.2 O)) [3, 4, 5, 6, 7, 0, 1, 2] rfl
    have hD := hD.sub (ws' := (GW h0 h1 h2 h3 b0 g0 g1 g2 y1 y2 y3 y6 y4 y5 (n) (w) th T P u.2 O)) [3, 4, 5, 6, 7, 0, 1, 2] (by decide) rfl
    generalize H1 = H at hP hS ⊢
    generalize locs1 = locs at hS ⊢
    refine lv_istore (lv' := [(5, .int v819), (0, .ref b), (1, .ref h0), (2, .ref g0), (3, .ref b0), (4, .int x4)]) hx hb dL_law_822 hl (by decide) rfl (fun ls hl => ?_)
    refine lv_aload_n hx hb dL_law_824 rfl (lv_at hl 3 rfl) ?_
    refine lv_aload_n hx hb dL_law_825 rfl (lv_at hl 1 rfl) ?_
    refine lv_iload hx hb dL_law_826 (lv_at hl 5 rfl) ?_
    refine lv_iconst (v := 1) hx hb dL_law_828 (by decide) ?_
    refine z_iadd hx hb dL_law_829 h4 (show (1 : Int32).toInt = 1 by decide) (by omega) (by omega) (fun v829 e829 => ?_)
    have i830 : vp_in v829 L := vp_in_iff.mpr ⟨by omega, by omega⟩
    refine va_sld hx hb hX hbl hbA hS i830 dL_law_830 ?_
    refine lv_as (y := xs (3 * c9 + 1)) (congrArg xs (clN (Eq.trans e829 (by omega)))) ?_
    refine lv_as ha1.symm ?_
    have hPc := hP.sub (ws' := (MW g0 g1 g2 y4 y5 th (n) (w) T P)) [5, 6, 7] rfl
    have hFc := va_free (wc := (MW g0 g1 g2 y4 y5 th (n) (w) T P)) hD hS hA [5, 6, 7] rfl
    have hDc := hD.sub (ws' := (MW g0 g1 g2 y4 y5 th (n) (w) T P)) [5, 6, 7] (by decide) rfl
    refine va_calli (va_runV (As := [.int a1]) (rest := []) ⟨hx, hb, hml, hown, hts⟩ (c_X2_mismatches l D E g0 g1 g2 y4 y5 H.size (n) (w) th T P hn hw hT hPt (hDc.weaken (fun _ _ _ _ => trivial)) a1) (cwV 1 hts gL_law_X2_mismatches rfl rfl rfl (by decide +kernel) ⟨Nat.le_of_ble_eq_true rfl, Nat.le_of_ble_eq_true rfl⟩) ⟨cp.blind, va_recv hK hP (ci := 1) (q0 := 5) rfl rfl, fun U hU hW => ⟨rfl, cp.call hPc hKm hE hS hFc hU hW⟩⟩ rfl rfl hl.1 rfl (lv_room (Nat.le_of_ble_eq_true rfl)) dL_law_831 ⟨by rw [hR1]; omega, by rw [hR2]; omega⟩) hS (fun q _ h => hFc q h) hFc (fun v831 u831 t H1 locs1 ht hvm e831 hB hz1 hk1 hS => ?_)
    obtain ⟨et831, ev831⟩ := e831
    obtain ⟨hP1, hD1⟩ := hB
    rw [ht] at hP1
    obtain ⟨hP, hD⟩ := va_join (wr := (LW h0 h1 h2 h3 b0 y1 y2 y3 y6 (n) (w) T P u.2 O)) (w1 := (MW g0 g1 g2 y4 y5 u831 (n) (w) T P)) hP hD [5, 6, 7] [0, 1, 2, 3, 4] rfl rfl (by decide) (by decide) hk1 hFc hP1 hD1
    have hP : va_P D vwCl (GW h0 h1 h2 h3 b0 g0 g1 g2 y1 y2 y3 y6 y4 y5 (n) (w) u831 T P u.2 O) H1 := hP
    have hD : va_D (fun q : Nat => s.heap.size ≤ q) (GW h0 h1 h2 h3 b0 g0 g1 g2 y1 y2 y3 y6 y4 y5 (n) (w) u831 T P u.2 O) := hD
    generalize H1 = H at hP hS ⊢
    generalize locs1 = locs at hS ⊢
    refine lv_istore (lv' := [(6, .int v831), (5, .int v819), (0, .ref b), (1, .ref h0), (2, .ref g0), (3, .ref b0), (4, .int x4)]) hx hb dL_law_834 hl (by decide) rfl (fun ls hl => ?_)
    refine lv_aload_n hx hb dL_law_836 rfl (lv_at hl 4 rfl) ?_
    have hPc := hP.sub (ws' := (MW g0 g1 g2 y4 y5 u831 (n) (w) T P)) [5, 6, 7] rfl
    refine va_calli (va_runV (As := []) (rest := []) ⟨hx, hb, hml, hown, hts⟩ (c_X2_thrown l D E g0 g1 g2 y4 y5 H.size (n) (w) u831 T P hn hw hT hPt) (cwV 0 hts gL_law_X2_thrown rfl rfl rfl (by decide +kernel) ⟨Nat.le_of_ble_eq_true rfl, Nat.le_of_ble_eq_true rfl⟩) ⟨cp.blind, va_recv hK hP (ci := 1) (q0 := 5) rfl rfl, fun U hU hW => ⟨rfl, cp.call hPc hKm hE hS (fr0 hS hA) hU hW⟩⟩ rfl rfl hl.1 rfl (lv_room (Nat.le_of_ble_eq_true rfl)) dL_law_837 ⟨by rw [hR1]; omega, by rw [hR2]; omega⟩) hS (fun q _ h => (fr0 hS hA) q h) (fr0 hS hA) (fun v837 u837 t H1 locs1 ht hvm e837 hB hz1 hk1 hS => ?_)
    have hP := kp hP hk1
    generalize H1 = H at hP hS ⊢
    generalize locs1 = locs at hS ⊢
    refine lv_iload hx hb dL_law_840 (lv_at hl 1 rfl) ?_
    refine z_icmp_eq (tgt := 847) hx hb dL_law_842 (by decide) (Eq.trans e837 et831) e819 (fun c842 => ?_) (fun c842 => ?_)
    · have _u := True.intro
      refine lv_iload hx hb dL_law_847 (lv_at hl 1 rfl) ?_
      refine z_if_ne (tgt := 864) hx hb dL_law_849 (by decide) e819 (fun c849 => ?_) (fun c849 => ?_)
      · have _u := True.intro
        refine lv_goto (tgt := 1453) hx hb dL_law_864 (by decide) ?_
        refine W.widen (k := 8 + 2 * c9 + 2) (n := 252 + 12 * c9 + 12) (by omega) (by omega) ?_
        exact K (n) (w) u831 T P u.2 O hn hw hT hPt _ _ hP hD hS _ (lv_sub hl [2, 3, 4, 5, 6] rfl)
      · have _u := True.intro
        exfalso; omega
    · exfalso; omega
set_option maxHeartbeats 4000000 in
set_option maxRecDepth 100000 in
theorem law_c17 {p : Program} {l : Launch} {e : Env} {s : State} {m : MethodId} {below : List Frame} {meth : Method} {c : Code} {D : va_G} {E : Nat × Nat × Nat} {b L : Nat} {xs : Nat → Int32} {h0 h1 h2 h3 b0 g0 g1 g2 : Nat} {y1 y2 y3 y6 y4 y5 : ClassId} {c9 : Nat} {x4 : Int32} {n w : Nat} {th : Int32} {T P M : Nat → Int32} {O : Nat → Int64} {H : Heap} {locs : List Loc} {ls : Array Slot} (hlt : l.stackTraces = false) (hEd : E.1 ≠ E.2.1 ∧ E.1 ≠ E.2.2 ∧ E.2.1 ≠ E.2.2) (hE : XEnv E (fun q : Nat => s.heap.size ≤ q) s s.heap) (hL : L ≤ 1536) (C0 : lw_At p s m meth c b L xs) (h4 : x4.toInt = ((3 * c9 : Nat) : Int)) (hc : 3 * c9 + 3 ≤ L) (hn : n ≤ 64) (hw : w ≤ 24) (hT : SymF T) (hPt : SymF P) (hK : va_K D vwCl (GT y1 y2 y3 y6 y4 y5) s) (hP : va_P D vwCl (GW h0 h1 h2 h3 b0 g0 g1 g2 y1 y2 y3 y6 y4 y5 n w th T P M O) H) (hD : va_D (fun q : Nat => s.heap.size ≤ q) (GW h0 h1 h2 h3 b0 g0 g1 g2 y1 y2 y3 y6 y4 y5 n w th T P M O)) (hS : va_S (fun q : Nat => s.heap.size ≤ q) s.heap H locs) (hl : lv_has ls 7 [(0, .ref b), (1, .ref h0), (2, .ref g0), (3, .ref b0), (4, .int x4)]) (K : LK p l e s m below meth c D b h0 h1 h2 h3 b0 g0 g1 g2 y1 y2 y3 y6 y4 y5 c9 x4) : W p l e room_1 s m #[Value.ref b] below meth c H locs (8 + 2 * c9) (252 + 12 * c9) (lw_Z below #[Value.ref b] s) (F0 m 867 ls []) := by
  obtain ⟨hx, hb, hr, hml, hown, hts0, hX, hbl, hlocks, hgv⟩ := C0
  have hts : ∀ w ∈ wsL_law, w.before #[Value.ref b] s = true := fun w h => hts0 w (wsL_law_in w h)
  have hA : ∀ q : Nat, s.heap.size ≤ q → (fun q : Nat => s.heap.size ≤ q) q := fun _ h => h
  have hbA : ¬ (fun q : Nat => s.heap.size ≤ q) b := Nat.not_le.mpr hbl
  have hR1 : room_1.cells = 1051 := rfl
  have hR2 : room_1.slots = 8558 := rfl
  have hKx := hK.sub (tys' := (XT y1 y2 y3)) [0, 1, 2] rfl
  have hKl := hK.sub (tys' := (LT y1 y2 y3 y6)) [0, 1, 2, 3] rfl
  have hKm := hK.sub (tys' := (MT y4 y5)) [4, 5] rfl
  refine lv_aload_n hx hb dL_law_867 rfl (lv_at hl 1 rfl) ?_
  refine lv_aload_n hx hb dL_law_868 rfl (lv_at hl 0 rfl) ?_
  refine lv_iload hx hb dL_law_869 (lv_at hl 4 rfl) ?_
  refine lv_iconst (v := 1) hx hb dL_law_871 (by decide) ?_
  refine z_iadd hx hb dL_law_872 h4 (show (1 : Int32).toInt = 1 by decide) (by omega) (by omega) (fun v872 e872 => ?_)
  have i873 : vp_in v872 L := vp_in_iff.mpr ⟨by omega, by omega⟩
  refine va_sld hx hb hX hbl hbA hS i873 dL_law_873 ?_
  refine lv_as (y := xs (3 * c9 + 1)) (congrArg xs (clN (Eq.trans e872 (by omega)))) ?_
  obtain ⟨a1, ha1⟩ : ∃ z, z = xs (3 * c9 + 1) := ⟨_, rfl⟩
  refine lv_as ha1.symm ?_
  refine lv_aload_n hx hb dL_law_874 rfl (lv_at hl 0 rfl) ?_
  refine lv_iload hx hb dL_law_875 (lv_at hl 4 rfl) ?_
  refine lv_iconst (v := 2) hx hb dL_law_877 (by decide) ?_
  refine z_iadd hx hb dL_law_878 h4 (show (2 : Int32).toInt = 2 by decide) (by omega) (by omega) (fun v878 e878 => ?_)
  have i879 : vp_in v878 L := vp_in_iff.mpr ⟨by omega, by omega⟩
  refine va_sld hx hb hX hbl hbA hS i879 dL_law_879 ?_
  refine lv_as (y := xs (3 * c9 + 2)) (congrArg xs (clN (Eq.trans e878 (by omega)))) ?_
  obtain ⟨a2, ha2⟩ : ∃ z, z = xs (3 * c9 + 2) := ⟨_, rfl⟩
  refine lv_as ha2.symm ?_
  refine lv_aload_n hx hb dL_law_880 rfl (lv_at hl 3 rfl) ?_
  have hPl := hP.sub (ws' := (LW h0 h1 h2 h3 b0 y1 y2 y3 y6 (n) (w) T P M O)) [0, 1, 2, 3, 4] rfl
  have hFc := va_free (wc := (LW h0 h1 h2 h3 b0 y1 y2 y3 y6 (n) (w) T P M O)) hD hS hA [0, 1, 2, 3, 4] rfl
  have hDl := hD.sub (ws' := (LW h0 h1 h2 h3 b0 y1 y2 y3 y6 (n) (w) T P M O)) [0, 1, 2, 3, 4] (by decide) rfl
  refine va_calli (vx_runSW (As := [.ref h0, .int a1, .int a2, .ref b0]) (rest := []) ⟨hx, hb, hml, hown, hts⟩ (c_L_mismatchesOf l hlt D E h0 h1 h2 h3 b0 y1 y2 y3 y6 H.size n w T P M O hn hw hT hPt (hDl.weaken (fun _ _ _ _ => trivial)) a1 a2) (vx_cwSW 4 hts gL_law_L_mismatchesOf rfl rfl rfl (by decide +kernel) ⟨Nat.le_of_ble_eq_true rfl, Nat.le_of_ble_eq_true rfl⟩) ⟨cp.blind, fun U hU hW => ⟨rfl, cp.call hPl hKl hE hS hFc hU hW⟩⟩ rfl rfl hl.1 rfl (lv_room (Nat.le_of_ble_eq_true rfl)) dL_law_881 ⟨by rw [hR1]; omega, by rw [hR2]; omega⟩) hS (fun q _ h => hFc q h) hFc (fun v881 u t H1 locs1 ht hvm ev hB hz1 hk1 hS => ?_)
  obtain ⟨e881, ev1⟩ := ev
  by_cases hk0 : kMO (pl n w) a1.toInt a2.toInt = 0
  · have _u := True.intro
    obtain ⟨hP1, hD1⟩ := hB.1 hk0
    have hu1 := ev1 hk0
    rw [ht] at hP1
    obtain ⟨hP, hD⟩ := va_join (wr := (MW g0 g1 g2 y4 y5 th (n) (w) T P)) (w1 := (LW h0 h1 h2 h3 b0 y1 y2 y3 y6 (n) (w) T P u.2 (vp_updL O 0 u.1.toInt64))) hP hD [0, 1, 2, 3, 4] [5, 6, 7] rfl rfl (by decide) (by decide) hk1 hFc hP1 hD1
    have hP := hP.sub (ws' := (GW h0 h1 h2 h3 b0 g0 g1 g2 y1 y2 y3 y6 y4 y5 (n) (w) th T P u.2 (vp_updL O 0 u.1.toInt64))) [3, 4, 5, 6, 7, 0, 1, 2] rfl
    have hD := hD.sub (ws' := (GW h0 h1 h2 h3 b0 g0 g1 g2 y1 y2 y3 y6 y4 y5 (n) (w) th T P u.2 (vp_updL O 0 u.1.toInt64))) [3, 4, 5, 6, 7, 0, 1, 2] (by decide) rfl
    generalize H1 = H at hP hS ⊢
    generalize locs1 = locs at hS ⊢
    refine lv_istore (lv' := [(5, .int v881), (0, .ref b), (1, .ref h0), (2, .ref g0), (3, .ref b0), (4, .int x4)]) hx hb dL_law_884 hl (by decide) rfl (fun ls hl => ?_)
    refine lv_aload_n hx hb dL_law_886 rfl (lv_at hl 3 rfl) ?_
    refine lv_aload_n hx hb dL_law_887 rfl (lv_at hl 1 rfl) ?_
    refine lv_iload hx hb dL_law_888 (lv_at hl 5 rfl) ?_
    refine lv_iconst (v := 1) hx hb dL_law_890 (by decide) ?_
    refine z_iadd hx hb dL_law_891 h4 (show (1 : Int32).toInt = 1 by decide) (by omega) (by omega) (fun v891 e891 => ?_)
    have i892 : vp_in v891 L := vp_in_iff.mpr ⟨by omega, by omega⟩
    refine va_sld hx hb hX hbl hbA hS i892 dL_law_892 ?_
    refine lv_as (y := xs (3 * c9 + 1)) (congrArg xs (clN (Eq.trans e891 (by omega)))) ?_
    refine lv_as ha1.symm ?_
    refine lv_aload_n hx hb dL_law_893 rfl (lv_at hl 1 rfl) ?_
    refine lv_iload hx hb dL_law_894 (lv_at hl 5 rfl) ?_
    refine lv_iconst (v := 2) hx hb dL_law_896 (by decide) ?_
    refine z_iadd hx hb dL_law_897 h4 (show (2 : Int32).toInt = 2 by decide) (by omega) (by omega) (fun v897 e897 => ?_)
    have i898 : vp_in v897 L := vp_in_iff.mpr ⟨by omega, by omega⟩
    refine va_sld hx hb hX hbl hbA hS i898 dL_law_898 ?_
    refine lv_as (y := xs (3 * c9 + 2)) (congrArg xs (clN (Eq.trans e897 (by omega)))) ?_
    refine lv_as ha2.symm ?_
    have hPc := hP.sub (ws' := (MW g0 g1 g2 y4 y5 th (n) (w) T P)) [5, 6, 7] rfl
    have hFc := va_free (wc := (MW g0 g1 g2 y4 y5 th (n) (w) T P)) hD hS hA [5, 6, 7] rfl
    have hDc := hD.sub (ws' := (MW g0 g1 g2 y4 y5 th (n) (w) T P)) [5, 6, 7] (by decide) rfl
    refine va_calli (va_runV (As := [.int a1, .int a2]) (rest := []) ⟨hx, hb, hml, hown, hts⟩ (c_X2_mismatchesOf l D E g0 g1 g2 y4 y5 H.size (n) (w) th T P hn hw hT hPt (hDc.weaken (fun _ _ _ _ => trivial)) a1 a2) (cwV 2 hts gL_law_X2_mismatchesOf rfl rfl rfl (by decide +kernel) ⟨Nat.le_of_ble_eq_true rfl, Nat.le_of_ble_eq_true rfl⟩) ⟨cp.blind, va_recv hK hP (ci := 1) (q0 := 5) rfl rfl, fun U hU hW => ⟨rfl, cp.call hPc hKm hE hS hFc hU hW⟩⟩ rfl rfl hl.1 rfl (lv_room (Nat.le_of_ble_eq_true rfl)) dL_law_899 ⟨by rw [hR1]; omega, by rw [hR2]; omega⟩) hS (fun q _ h => hFc q h) hFc (fun v899 u899 t H1 locs1 ht hvm e899 hB hz1 hk1 hS => ?_)
    obtain ⟨et899, ev899⟩ := e899
    obtain ⟨hP1, hD1⟩ := hB
    have e899 := ev899 hk0
    rw [ht] at hP1
    obtain ⟨hP, hD⟩ := va_join (wr := (LW h0 h1 h2 h3 b0 y1 y2 y3 y6 (n) (w) T P u.2 (vp_updL O 0 u.1.toInt64))) (w1 := (MW g0 g1 g2 y4 y5 u899 (n) (w) T P)) hP hD [5, 6, 7] [0, 1, 2, 3, 4] rfl rfl (by decide) (by decide) hk1 hFc hP1 hD1
    have hP : va_P D vwCl (GW h0 h1 h2 h3 b0 g0 g1 g2 y1 y2 y3 y6 y4 y5 (n) (w) u899 T P u.2 (vp_updL O 0 u.1.toInt64)) H1 := hP
    have hD : va_D (fun q : Nat => s.heap.size ≤ q) (GW h0 h1 h2 h3 b0 g0 g1 g2 y1 y2 y3 y6 y4 y5 (n) (w) u899 T P u.2 (vp_updL O 0 u.1.toInt64)) := hD
    generalize H1 = H at hP hS ⊢
    generalize locs1 = locs at hS ⊢
    refine lv_istore (lv' := [(6, .int v899), (5, .int v881), (0, .ref b), (1, .ref h0), (2, .ref g0), (3, .ref b0), (4, .int x4)]) hx hb dL_law_902 hl (by decide) rfl (fun ls hl => ?_)
    refine lv_aload_n hx hb dL_law_904 rfl (lv_at hl 4 rfl) ?_
    have hPc := hP.sub (ws' := (MW g0 g1 g2 y4 y5 u899 (n) (w) T P)) [5, 6, 7] rfl
    refine va_calli (va_runV (As := []) (rest := []) ⟨hx, hb, hml, hown, hts⟩ (c_X2_thrown l D E g0 g1 g2 y4 y5 H.size (n) (w) u899 T P hn hw hT hPt) (cwV 0 hts gL_law_X2_thrown rfl rfl rfl (by decide +kernel) ⟨Nat.le_of_ble_eq_true rfl, Nat.le_of_ble_eq_true rfl⟩) ⟨cp.blind, va_recv hK hP (ci := 1) (q0 := 5) rfl rfl, fun U hU hW => ⟨rfl, cp.call hPc hKm hE hS (fr0 hS hA) hU hW⟩⟩ rfl rfl hl.1 rfl (lv_room (Nat.le_of_ble_eq_true rfl)) dL_law_905 ⟨by rw [hR1]; omega, by rw [hR2]; omega⟩) hS (fun q _ h => (fr0 hS hA) q h) (fr0 hS hA) (fun v905 u905 t H1 locs1 ht hvm e905 hB hz1 hk1 hS => ?_)
    have hP := kp hP hk1
    generalize H1 = H at hP hS ⊢
    generalize locs1 = locs at hS ⊢
    refine lv_iload hx hb dL_law_908 (lv_at hl 1 rfl) ?_
    refine z_icmp_eq (tgt := 915) hx hb dL_law_910 (by decide) (Eq.trans e905 et899) e881 (fun c910 => ?_) (fun c910 => ?_)
    · have _u := True.intro
      refine lv_iload hx hb dL_law_915 (lv_at hl 1 rfl) ?_
      refine z_if_ne (tgt := 932) hx hb dL_law_917 (by decide) e881 (fun c917 => ?_) (fun c917 => ?_)
      · have _u := True.intro
        exfalso; omega
      · have _u := True.intro
        refine lv_aload_n hx hb dL_law_920 rfl (lv_at hl 5 rfl) ?_
        refine lv_iconst (v := 0) hx hb dL_law_921 (by decide) ?_
        refine z_lald hx hb hK hP 4 3 rfl rfl 0 (show (0 : Int32).toInt = 0 by decide) rfl (by decide) dL_law_922 ?_
        refine lv_iload hx hb dL_law_923 (lv_at hl 0 rfl) ?_
        refine z_i2l hx hb dL_law_925 e899 (fun v925 e925 => ?_)
        refine z_lcmp hx hb dL_law_926 (show ((vp_updL O 0 u.1.toInt64) 0).toInt = u.1.toInt by rw [pk_uLs, Int32.toInt_toInt64]) e925 (fun v926 z926 e926 f926 k926 => ?_)
        refine z_if_eq (tgt := 932) hx hb dL_law_927 (by decide) e926 (fun c927 => ?_) (fun c927 => ?_)
        · have _u := True.intro
          refine lv_goto (tgt := 1453) hx hb dL_law_932 (by decide) ?_
          refine W.widen (k := 8 + 2 * c9 + 2) (n := 252 + 12 * c9 + 12) (by omega) (by omega) ?_
          exact K (n) (w) u899 T P u.2 (vp_updL O 0 u.1.toInt64) hn hw hT hPt _ _ hP hD hS _ (lv_sub hl [2, 3, 4, 5, 6] rfl)
        · exfalso; omega
    · exfalso; omega
  · have _u := True.intro
    obtain ⟨hP1, hD1⟩ := hB.2 hk0
    rw [ht] at hP1
    obtain ⟨hP, hD⟩ := va_join (wr := (MW g0 g1 g2 y4 y5 th (n) (w) T P)) (w1 := (LW h0 h1 h2 h3 b0 y1 y2 y3 y6 (n) (w) T P u.2 O)) hP hD [0, 1, 2, 3, 4] [5, 6, 7] rfl rfl (by decide) (by decide) hk1 hFc hP1 hD1
    have hP := hP.sub (ws' := (GW h0 h1 h2 h3 b0 g0 g1 g2 y1 y2 y3 y6 y4 y5 (n) (w) th T P u.2 O)) [3, 4, 5, 6, 7, 0, 1, 2] rfl
    have hD := hD.sub (ws' := (GW h0 h1 h2 h3 b0 g0 g1 g2 y1 y2 y3 y6 y4 y5 (n) (w) th T P u.2 O)) [3, 4, 5, 6, 7, 0, 1, 2] (by decide) rfl
    generalize H1 = H at hP hS ⊢
    generalize locs1 = locs at hS ⊢
    refine lv_istore (lv' := [(5, .int v881), (0, .ref b), (1, .ref h0), (2, .ref g0), (3, .ref b0), (4, .int x4)]) hx hb dL_law_884 hl (by decide) rfl (fun ls hl => ?_)
    refine lv_aload_n hx hb dL_law_886 rfl (lv_at hl 3 rfl) ?_
    refine lv_aload_n hx hb dL_law_887 rfl (lv_at hl 1 rfl) ?_
    refine lv_iload hx hb dL_law_888 (lv_at hl 5 rfl) ?_
    refine lv_iconst (v := 1) hx hb dL_law_890 (by decide) ?_
    refine z_iadd hx hb dL_law_891 h4 (show (1 : Int32).toInt = 1 by decide) (by omega) (by omega) (fun v891 e891 => ?_)
    have i892 : vp_in v891 L := vp_in_iff.mpr ⟨by omega, by omega⟩
    refine va_sld hx hb hX hbl hbA hS i892 dL_law_892 ?_
    refine lv_as (y := xs (3 * c9 + 1)) (congrArg xs (clN (Eq.trans e891 (by omega)))) ?_
    refine lv_as ha1.symm ?_
    refine lv_aload_n hx hb dL_law_893 rfl (lv_at hl 1 rfl) ?_
    refine lv_iload hx hb dL_law_894 (lv_at hl 5 rfl) ?_
    refine lv_iconst (v := 2) hx hb dL_law_896 (by decide) ?_
    refine z_iadd hx hb dL_law_897 h4 (show (2 : Int32).toInt = 2 by decide) (by omega) (by omega) (fun v897 e897 => ?_)
    have i898 : vp_in v897 L := vp_in_iff.mpr ⟨by omega, by omega⟩
    refine va_sld hx hb hX hbl hbA hS i898 dL_law_898 ?_
    refine lv_as (y := xs (3 * c9 + 2)) (congrArg xs (clN (Eq.trans e897 (by omega)))) ?_
    refine lv_as ha2.symm ?_
    have hPc := hP.sub (ws' := (MW g0 g1 g2 y4 y5 th (n) (w) T P)) [5, 6, 7] rfl
    have hFc := va_free (wc := (MW g0 g1 g2 y4 y5 th (n) (w) T P)) hD hS hA [5, 6, 7] rfl
    have hDc := hD.sub (ws' := (MW g0 g1 g2 y4 y5 th (n) (w) T P)) [5, 6, 7] (by decide) rfl
    refine va_calli (va_runV (As := [.int a1, .int a2]) (rest := []) ⟨hx, hb, hml, hown, hts⟩ (c_X2_mismatchesOf l D E g0 g1 g2 y4 y5 H.size (n) (w) th T P hn hw hT hPt (hDc.weaken (fun _ _ _ _ => trivial)) a1 a2) (cwV 2 hts gL_law_X2_mismatchesOf rfl rfl rfl (by decide +kernel) ⟨Nat.le_of_ble_eq_true rfl, Nat.le_of_ble_eq_true rfl⟩) ⟨cp.blind, va_recv hK hP (ci := 1) (q0 := 5) rfl rfl, fun U hU hW => ⟨rfl, cp.call hPc hKm hE hS hFc hU hW⟩⟩ rfl rfl hl.1 rfl (lv_room (Nat.le_of_ble_eq_true rfl)) dL_law_899 ⟨by rw [hR1]; omega, by rw [hR2]; omega⟩) hS (fun q _ h => hFc q h) hFc (fun v899 u899 t H1 locs1 ht hvm e899 hB hz1 hk1 hS => ?_)
    obtain ⟨et899, ev899⟩ := e899
    obtain ⟨hP1, hD1⟩ := hB
    rw [ht] at hP1
    obtain ⟨hP, hD⟩ := va_join (wr := (LW h0 h1 h2 h3 b0 y1 y2 y3 y6 (n) (w) T P u.2 O)) (w1 := (MW g0 g1 g2 y4 y5 u899 (n) (w) T P)) hP hD [5, 6, 7] [0, 1, 2, 3, 4] rfl rfl (by decide) (by decide) hk1 hFc hP1 hD1
    have hP : va_P D vwCl (GW h0 h1 h2 h3 b0 g0 g1 g2 y1 y2 y3 y6 y4 y5 (n) (w) u899 T P u.2 O) H1 := hP
    have hD : va_D (fun q : Nat => s.heap.size ≤ q) (GW h0 h1 h2 h3 b0 g0 g1 g2 y1 y2 y3 y6 y4 y5 (n) (w) u899 T P u.2 O) := hD
    generalize H1 = H at hP hS ⊢
    generalize locs1 = locs at hS ⊢
    refine lv_istore (lv' := [(6, .int v899), (5, .int v881), (0, .ref b), (1, .ref h0), (2, .ref g0), (3, .ref b0), (4, .int x4)]) hx hb dL_law_902 hl (by decide) rfl (fun ls hl => ?_)
    refine lv_aload_n hx hb dL_law_904 rfl (lv_at hl 4 rfl) ?_
    have hPc := hP.sub (ws' := (MW g0 g1 g2 y4 y5 u899 (n) (w) T P)) [5, 6, 7] rfl
    refine va_calli (va_runV (As := []) (rest := []) ⟨hx, hb, hml, hown, hts⟩ (c_X2_thrown l D E g0 g1 g2 y4 y5 H.size (n) (w) u899 T P hn hw hT hPt) (cwV 0 hts gL_law_X2_thrown rfl rfl rfl (by decide +kernel) ⟨Nat.le_of_ble_eq_true rfl, Nat.le_of_ble_eq_true rfl⟩) ⟨cp.blind, va_recv hK hP (ci := 1) (q0 := 5) rfl rfl, fun U hU hW => ⟨rfl, cp.call hPc hKm hE hS (fr0 hS hA) hU hW⟩⟩ rfl rfl hl.1 rfl (lv_room (Nat.le_of_ble_eq_true rfl)) dL_law_905 ⟨by rw [hR1]; omega, by rw [hR2]; omega⟩) hS (fun q _ h => (fr0 hS hA) q h) (fr0 hS hA) (fun v905 u905 t H1 locs1 ht hvm e905 hB hz1 hk1 hS => ?_)
    have hP := kp hP hk1
    generalize H1 = H at hP hS ⊢
    generalize locs1 = locs at hS ⊢
    refine lv_iload hx hb dL_law_908 (lv_at hl 1 rfl) ?_
    refine z_icmp_eq (tgt := 915) hx hb dL_law_910 (by decide) (Eq.trans e905 et899) e881 (fun c910 => ?_) (fun c910 => ?_)
    · have _u := True.intro
      refine lv_iload hx hb dL_law_915 (lv_at hl 1 rfl) ?_
      refine z_if_ne (tgt := 932) hx hb dL_law_917 (by decide) e881 (fun c917 => ?_) (fun c917 => ?_)
      · have _u := True.intro
        refine lv_goto (tgt := 1453) hx hb dL_law_932 (by decide) ?_
        refine W.widen (k := 8 + 2 * c9 + 2) (n := 252 + 12 * c9 + 12) (by omega) (by omega) ?_
        exact K (n) (w) u899 T P u.2 O hn hw hT hPt _ _ hP hD hS _ (lv_sub hl [2, 3, 4, 5, 6] rfl)
      · have _u := True.intro
        exfalso; omega
    · exfalso; omega
