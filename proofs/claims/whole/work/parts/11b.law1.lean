set_option maxHeartbeats 4000000 in
set_option maxRecDepth 100000 in
theorem law_c0 {p : Program} {l : Launch} {e : Env} {s : State} {m : MethodId} {below : List Frame} {meth : Method} {c : Code} {D : va_G} {E : Nat × Nat × Nat} {b L : Nat} {xs : Nat → Int32} {h0 h1 h2 h3 b0 g0 g1 g2 : Nat} {y1 y2 y3 y6 y4 y5 : ClassId} {c9 : Nat} {x4 : Int32} {n w : Nat} {th : Int32} {T P M : Nat → Int32} {O : Nat → Int64} {H : Heap} {locs : List Loc} {ls : Array Slot} (hlt : l.stackTraces = false) (hEd : E.1 ≠ E.2.1 ∧ E.1 ≠ E.2.2 ∧ E.2.1 ≠ E.2.2) (hE : XEnv E (fun q : Nat => s.heap.size ≤ q) s s.heap) (hL : L ≤ 1536) (C0 : lw_At p s m meth c b L xs) (h4 : x4.toInt = ((3 * c9 : Nat) : Int)) (hc : 3 * c9 + 3 ≤ L) (hn : n ≤ 64) (hw : w ≤ 24) (hT : SymF T) (hPt : SymF P) (hK : va_K D vwCl (GT y1 y2 y3 y6 y4 y5) s) (hP : va_P D vwCl (GW h0 h1 h2 h3 b0 g0 g1 g2 y1 y2 y3 y6 y4 y5 n w th T P M O) H) (hD : va_D (fun q : Nat => s.heap.size ≤ q) (GW h0 h1 h2 h3 b0 g0 g1 g2 y1 y2 y3 y6 y4 y5 n w th T P M O)) (hS : va_S (fun q : Nat => s.heap.size ≤ q) s.heap H locs) (hl : lv_has ls 7 [(0, .ref b), (1, .ref h0), (2, .ref g0), (3, .ref b0), (4, .int x4)]) (K : LK p l e s m below meth c D b h0 h1 h2 h3 b0 g0 g1 g2 y1 y2 y3 y6 y4 y5 c9 x4) : W p l e room_1 s m #[Value.ref b] below meth c H locs (8 + 2 * c9) (252 + 12 * c9) (lw_Z below #[Value.ref b] s) (F0 m 168 ls []) := by
  obtain ⟨hx, hb, hr, hml, hown, hts0, hX, hbl, hlocks, hgv⟩ := C0
  have hts : ∀ w ∈ wsL_law, w.before #[Value.ref b] s = true := fun w h => hts0 w (wsL_law_in w h)
  have hA : ∀ q : Nat, s.heap.size ≤ q → (fun q : Nat => s.heap.size ≤ q) q := fun _ h => h
  have hbA : ¬ (fun q : Nat => s.heap.size ≤ q) b := Nat.not_le.mpr hbl
  have hR1 : room_1.cells = 1051 := rfl
  have hR2 : room_1.slots = 8558 := rfl
  have hKx := hK.sub (tys' := (XT y1 y2 y3)) [0, 1, 2] rfl
  have hKl := hK.sub (tys' := (LT y1 y2 y3 y6)) [0, 1, 2, 3] rfl
  have hKm := hK.sub (tys' := (MT y4 y5)) [4, 5] rfl
  refine lv_aload_n hx hb dL_law_168 rfl (lv_at hl 1 rfl) ?_
  refine lv_aload_n hx hb dL_law_169 rfl (lv_at hl 0 rfl) ?_
  refine lv_iload hx hb dL_law_170 (lv_at hl 4 rfl) ?_
  refine lv_iconst (v := 1) hx hb dL_law_172 (by decide) ?_
  refine z_iadd hx hb dL_law_173 h4 (show (1 : Int32).toInt = 1 by decide) (by omega) (by omega) (fun v173 e173 => ?_)
  have i174 : vp_in v173 L := vp_in_iff.mpr ⟨by omega, by omega⟩
  refine va_sld hx hb hX hbl hbA hS i174 dL_law_174 ?_
  refine lv_as (y := xs (3 * c9 + 1)) (congrArg xs (clN (Eq.trans e173 (by omega)))) ?_
  obtain ⟨a1, ha1⟩ : ∃ z, z = xs (3 * c9 + 1) := ⟨_, rfl⟩
  refine lv_as ha1.symm ?_
  refine lv_aload_n hx hb dL_law_175 rfl (lv_at hl 3 rfl) ?_
  have hPl := hP.sub (ws' := (LW h0 h1 h2 h3 b0 y1 y2 y3 y6 (n) (w) T P M O)) [0, 1, 2, 3, 4] rfl
  have hFc := va_free (wc := (LW h0 h1 h2 h3 b0 y1 y2 y3 y6 (n) (w) T P M O)) hD hS hA [0, 1, 2, 3, 4] rfl
  have hDl := hD.sub (ws' := (LW h0 h1 h2 h3 b0 y1 y2 y3 y6 (n) (w) T P M O)) [0, 1, 2, 3, 4] (by decide) rfl
  refine va_calli (vx_runSW (As := [.ref h0, .int a1, .ref b0]) (rest := []) ⟨hx, hb, hml, hown, hts⟩ (c_L_appendText l hlt D E h0 h1 h2 h3 b0 y1 y2 y3 y6 H.size n w T P M O hn hw hT hPt (hDl.weaken (fun _ _ _ _ => trivial)) a1) (vx_cwSW 3 hts gL_law_L_appendText rfl rfl rfl (by decide +kernel) ⟨Nat.le_of_ble_eq_true rfl, Nat.le_of_ble_eq_true rfl⟩) ⟨cp.blind, fun U hU hW => ⟨rfl, cp.call hPl hKl hE hS hFc hU hW⟩⟩ rfl rfl hl.1 rfl (lv_room (Nat.le_of_ble_eq_true rfl)) dL_law_176 ⟨by rw [hR1]; omega, by rw [hR2]; omega⟩) hS (fun q _ h => hFc q h) hFc (fun v176 u t H1 locs1 ht hvm ev hB hz1 hk1 hS => ?_)
  obtain ⟨e176, ev1⟩ := ev
  by_cases hk0 : kAT n a1.toInt = 0
  · have _u := True.intro
    obtain ⟨hP1, hD1⟩ := hB.1 hk0
    have hu1 := ev1 hk0
    rw [ht] at hP1
    obtain ⟨hP, hD⟩ := va_join (wr := (MW g0 g1 g2 y4 y5 th (n) (w) T P)) (w1 := (LW h0 h1 h2 h3 b0 y1 y2 y3 y6 (n + 1) (w) (upd T (n) a1) P u.2 (vp_updL O 0 u.1.toInt64))) hP hD [0, 1, 2, 3, 4] [5, 6, 7] rfl rfl (by decide) (by decide) hk1 hFc hP1 hD1
    have hP := hP.sub (ws' := [(h0, .inr (0, [.ref h1, .ref h2, .ref h3, .int (nI (n + 1)), .int (nI (w))])), (h1, .inl (y1, 64, .inl (upd T (n) a1))), (h2, .inl (y2, 24, .inl P)), (h3, .inl (y3, 65, .inl u.2)), (b0, .inl (y6, 1, .inr (.inl (vp_updL O 0 u.1.toInt64)))), (g0, .inr (1, [.int th, .ref g1, .ref g2, .int (nI (n)), .int (nI (w))])), (g1, .inl (y4, 64, .inl T)), (g2, .inl (y5, 24, .inl P))]) [3, 4, 5, 6, 7, 0, 1, 2] rfl
    have hD := hD.sub (ws' := [(h0, .inr (0, [.ref h1, .ref h2, .ref h3, .int (nI (n + 1)), .int (nI (w))])), (h1, .inl (y1, 64, .inl (upd T (n) a1))), (h2, .inl (y2, 24, .inl P)), (h3, .inl (y3, 65, .inl u.2)), (b0, .inl (y6, 1, .inr (.inl (vp_updL O 0 u.1.toInt64)))), (g0, .inr (1, [.int th, .ref g1, .ref g2, .int (nI (n)), .int (nI (w))])), (g1, .inl (y4, 64, .inl T)), (g2, .inl (y5, 24, .inl P))]) [3, 4, 5, 6, 7, 0, 1, 2] (by decide) rfl
    generalize H1 = H at hP hS ⊢
    generalize locs1 = locs at hS ⊢
    refine lv_istore (lv' := [(5, .int v176), (0, .ref b), (1, .ref h0), (2, .ref g0), (3, .ref b0), (4, .int x4)]) hx hb dL_law_179 hl (by decide) rfl (fun ls hl => ?_)
    refine lv_aload_n hx hb dL_law_181 rfl (lv_at hl 3 rfl) ?_
    refine lv_aload_n hx hb dL_law_182 rfl (lv_at hl 1 rfl) ?_
    refine lv_iload hx hb dL_law_183 (lv_at hl 5 rfl) ?_
    refine lv_iconst (v := 1) hx hb dL_law_185 (by decide) ?_
    refine z_iadd hx hb dL_law_186 h4 (show (1 : Int32).toInt = 1 by decide) (by omega) (by omega) (fun v186 e186 => ?_)
    have i187 : vp_in v186 L := vp_in_iff.mpr ⟨by omega, by omega⟩
    refine va_sld hx hb hX hbl hbA hS i187 dL_law_187 ?_
    refine lv_as (y := xs (3 * c9 + 1)) (congrArg xs (clN (Eq.trans e186 (by omega)))) ?_
    refine lv_as ha1.symm ?_
    have hPc := hP.sub (ws' := (MW g0 g1 g2 y4 y5 th (n) (w) T P)) [5, 6, 7] rfl
    have hFc := va_free (wc := (MW g0 g1 g2 y4 y5 th (n) (w) T P)) hD hS hA [5, 6, 7] rfl
    have hDc := hD.sub (ws' := (MW g0 g1 g2 y4 y5 th (n) (w) T P)) [5, 6, 7] (by decide) rfl
    refine va_calli (va_runV (As := [.int a1]) (rest := []) ⟨hx, hb, hml, hown, hts⟩ (c_X2_appendText l D E g0 g1 g2 y4 y5 H.size (n) (w) th T P hn hw hT hPt (hDc.weaken (fun _ _ _ _ => trivial)) a1) (cwV 1 hts gL_law_X2_appendText rfl rfl rfl (by decide +kernel) ⟨Nat.le_of_ble_eq_true rfl, Nat.le_of_ble_eq_true rfl⟩) ⟨cp.blind, va_recv hK hP (ci := 1) (q0 := 5) rfl rfl, fun U hU hW => ⟨rfl, cp.call hPc hKm hE hS hFc hU hW⟩⟩ rfl rfl hl.1 rfl (lv_room (Nat.le_of_ble_eq_true rfl)) dL_law_188 ⟨by rw [hR1]; omega, by rw [hR2]; omega⟩) hS (fun q _ h => hFc q h) hFc (fun v188 u188 t H1 locs1 ht hvm e188 hB hz1 hk1 hS => ?_)
    obtain ⟨et188, ev188⟩ := e188
    obtain ⟨hP1, hD1⟩ := hB.1 hk0
    have e188 := ev188 hk0
    rw [ht] at hP1
    obtain ⟨hP, hD⟩ := va_join (wr := (LW h0 h1 h2 h3 b0 y1 y2 y3 y6 (n + 1) (w) (upd T (n) a1) P u.2 (vp_updL O 0 u.1.toInt64))) (w1 := (MW g0 g1 g2 y4 y5 u188 (n + 1) (w) (upd T (n) a1) P)) hP hD [5, 6, 7] [0, 1, 2, 3, 4] rfl rfl (by decide) (by decide) hk1 hFc hP1 hD1
    have hP : va_P D vwCl (GW h0 h1 h2 h3 b0 g0 g1 g2 y1 y2 y3 y6 y4 y5 (n + 1) (w) u188 (upd T (n) a1) P u.2 (vp_updL O 0 u.1.toInt64)) H1 := hP
    have hD : va_D (fun q : Nat => s.heap.size ≤ q) (GW h0 h1 h2 h3 b0 g0 g1 g2 y1 y2 y3 y6 y4 y5 (n + 1) (w) u188 (upd T (n) a1) P u.2 (vp_updL O 0 u.1.toInt64)) := hD
    generalize H1 = H at hP hS ⊢
    generalize locs1 = locs at hS ⊢
    refine lv_istore (lv' := [(6, .int v188), (5, .int v176), (0, .ref b), (1, .ref h0), (2, .ref g0), (3, .ref b0), (4, .int x4)]) hx hb dL_law_191 hl (by decide) rfl (fun ls hl => ?_)
    refine lv_aload_n hx hb dL_law_193 rfl (lv_at hl 4 rfl) ?_
    have hPc := hP.sub (ws' := (MW g0 g1 g2 y4 y5 u188 (n + 1) (w) (upd T (n) a1) P)) [5, 6, 7] rfl
    refine va_calli (va_runV (As := []) (rest := []) ⟨hx, hb, hml, hown, hts⟩ (c_X2_thrown l D E g0 g1 g2 y4 y5 H.size (n + 1) (w) u188 (upd T (n) a1) P (by have q := kAT_0 hk0; omega) hw (SymF.upd hT _ ⟨(kAT_0 hk0).1, (kAT_0 hk0).2.1⟩) hPt) (cwV 0 hts gL_law_X2_thrown rfl rfl rfl (by decide +kernel) ⟨Nat.le_of_ble_eq_true rfl, Nat.le_of_ble_eq_true rfl⟩) ⟨cp.blind, va_recv hK hP (ci := 1) (q0 := 5) rfl rfl, fun U hU hW => ⟨rfl, cp.call hPc hKm hE hS (fr0 hS hA) hU hW⟩⟩ rfl rfl hl.1 rfl (lv_room (Nat.le_of_ble_eq_true rfl)) dL_law_194 ⟨by rw [hR1]; omega, by rw [hR2]; omega⟩) hS (fun q _ h => (fr0 hS hA) q h) (fr0 hS hA) (fun v194 u194 t H1 locs1 ht hvm e194 hB hz1 hk1 hS => ?_)
    have hP := kp hP hk1
    generalize H1 = H at hP hS ⊢
    generalize locs1 = locs at hS ⊢
    refine lv_iload hx hb dL_law_197 (lv_at hl 1 rfl) ?_
    refine z_icmp_eq (tgt := 204) hx hb dL_law_199 (by decide) (Eq.trans e194 et188) e176 (fun c199 => ?_) (fun c199 => ?_)
    · have _u := True.intro
      refine lv_iload hx hb dL_law_204 (lv_at hl 1 rfl) ?_
      refine z_if_ne (tgt := 221) hx hb dL_law_206 (by decide) e176 (fun c206 => ?_) (fun c206 => ?_)
      · have _u := True.intro
        exfalso; omega
      · have _u := True.intro
        refine lv_aload_n hx hb dL_law_209 rfl (lv_at hl 5 rfl) ?_
        refine lv_iconst (v := 0) hx hb dL_law_210 (by decide) ?_
        refine z_lald hx hb hK hP 4 3 rfl rfl 0 (show (0 : Int32).toInt = 0 by decide) rfl (by decide) dL_law_211 ?_
        refine lv_iload hx hb dL_law_212 (lv_at hl 0 rfl) ?_
        refine z_i2l hx hb dL_law_214 e188 (fun v214 e214 => ?_)
        refine z_lcmp hx hb dL_law_215 (show ((vp_updL O 0 u.1.toInt64) 0).toInt = u.1.toInt by rw [pk_uLs, Int32.toInt_toInt64]) e214 (fun v215 z215 e215 f215 k215 => ?_)
        refine z_if_eq (tgt := 221) hx hb dL_law_216 (by decide) e215 (fun c216 => ?_) (fun c216 => ?_)
        · have _u := True.intro
          refine lv_goto (tgt := 1453) hx hb dL_law_221 (by decide) ?_
          refine W.widen (k := 8 + 2 * c9 + 2) (n := 252 + 12 * c9 + 12) (by omega) (by omega) ?_
          exact K (n + 1) (w) u188 (upd T (n) a1) P u.2 (vp_updL O 0 u.1.toInt64) (by have q := kAT_0 hk0; omega) hw (SymF.upd hT _ ⟨(kAT_0 hk0).1, (kAT_0 hk0).2.1⟩) hPt _ _ hP hD hS _ (lv_sub hl [2, 3, 4, 5, 6] rfl)
        · exfalso; omega
    · exfalso; omega
  · have _u := True.intro
    obtain ⟨hP1, hD1⟩ := hB.2 hk0
    rw [ht] at hP1
    obtain ⟨hP, hD⟩ := va_join (wr := (MW g0 g1 g2 y4 y5 th (n) (w) T P)) (w1 := (LW h0 h1 h2 h3 b0 y1 y2 y3 y6 (n) (w) T P u.2 O)) hP hD [0, 1, 2, 3, 4] [5, 6, 7] rfl rfl (by decide) (by decide) hk1 hFc hP1 hD1
    have hP := hP.sub (ws' := (GW h0 h1 h2 h3 b0 g0 g1 g2 y1 y2 y3 y6 y4 y5 (n) (w) th T P u.2 O)) [3, 4, 5, 6, 7, 0, 1, 2] rfl
    have hD := hD.sub (ws' := (GW h0 h1 h2 h3 b0 g0 g1 g2 y1 y2 y3 y6 y4 y5 (n) (w) th T P u.2 O)) [3, 4, 5, 6, 7, 0, 1, 2] (by decide) rfl
    generalize H1 = H at hP hS ⊢
    generalize locs1 = locs at hS ⊢
    refine lv_istore (lv' := [(5, .int v176), (0, .ref b), (1, .ref h0), (2, .ref g0), (3, .ref b0), (4, .int x4)]) hx hb dL_law_179 hl (by decide) rfl (fun ls hl => ?_)
    refine lv_aload_n hx hb dL_law_181 rfl (lv_at hl 3 rfl) ?_
    refine lv_aload_n hx hb dL_law_182 rfl (lv_at hl 1 rfl) ?_
    refine lv_iload hx hb dL_law_183 (lv_at hl 5 rfl) ?_
    refine lv_iconst (v := 1) hx hb dL_law_185 (by decide) ?_
    refine z_iadd hx hb dL_law_186 h4 (show (1 : Int32).toInt = 1 by decide) (by omega) (by omega) (fun v186 e186 => ?_)
    have i187 : vp_in v186 L := vp_in_iff.mpr ⟨by omega, by omega⟩
    refine va_sld hx hb hX hbl hbA hS i187 dL_law_187 ?_
    refine lv_as (y := xs (3 * c9 + 1)) (congrArg xs (clN (Eq.trans e186 (by omega)))) ?_
    refine lv_as ha1.symm ?_
    have hPc := hP.sub (ws' := (MW g0 g1 g2 y4 y5 th (n) (w) T P)) [5, 6, 7] rfl
    have hFc := va_free (wc := (MW g0 g1 g2 y4 y5 th (n) (w) T P)) hD hS hA [5, 6, 7] rfl
    have hDc := hD.sub (ws' := (MW g0 g1 g2 y4 y5 th (n) (w) T P)) [5, 6, 7] (by decide) rfl
    refine va_calli (va_runV (As := [.int a1]) (rest := []) ⟨hx, hb, hml, hown, hts⟩ (c_X2_appendText l D E g0 g1 g2 y4 y5 H.size (n) (w) th T P hn hw hT hPt (hDc.weaken (fun _ _ _ _ => trivial)) a1) (cwV 1 hts gL_law_X2_appendText rfl rfl rfl (by decide +kernel) ⟨Nat.le_of_ble_eq_true rfl, Nat.le_of_ble_eq_true rfl⟩) ⟨cp.blind, va_recv hK hP (ci := 1) (q0 := 5) rfl rfl, fun U hU hW => ⟨rfl, cp.call hPc hKm hE hS hFc hU hW⟩⟩ rfl rfl hl.1 rfl (lv_room (Nat.le_of_ble_eq_true rfl)) dL_law_188 ⟨by rw [hR1]; omega, by rw [hR2]; omega⟩) hS (fun q _ h => hFc q h) hFc (fun v188 u188 t H1 locs1 ht hvm e188 hB hz1 hk1 hS => ?_)
    obtain ⟨et188, ev188⟩ := e188
    obtain ⟨hP1, hD1⟩ := hB.2 hk0
    rw [ht] at hP1
    obtain ⟨hP, hD⟩ := va_join (wr := (LW h0 h1 h2 h3 b0 y1 y2 y3 y6 (n) (w) T P u.2 O)) (w1 := (MW g0 g1 g2 y4 y5 u188 (n) (w) T P)) hP hD [5, 6, 7] [0, 1, 2, 3, 4] rfl rfl (by decide) (by decide) hk1 hFc hP1 hD1
    have hP : va_P D vwCl (GW h0 h1 h2 h3 b0 g0 g1 g2 y1 y2 y3 y6 y4 y5 (n) (w) u188 T P u.2 O) H1 := hP
    have hD : va_D (fun q : Nat => s.heap.size ≤ q) (GW h0 h1 h2 h3 b0 g0 g1 g2 y1 y2 y3 y6 y4 y5 (n) (w) u188 T P u.2 O) := hD
    generalize H1 = H at hP hS ⊢
    generalize locs1 = locs at hS ⊢
    refine lv_istore (lv' := [(6, .int v188), (5, .int v176), (0, .ref b), (1, .ref h0), (2, .ref g0), (3, .ref b0), (4, .int x4)]) hx hb dL_law_191 hl (by decide) rfl (fun ls hl => ?_)
    refine lv_aload_n hx hb dL_law_193 rfl (lv_at hl 4 rfl) ?_
    have hPc := hP.sub (ws' := (MW g0 g1 g2 y4 y5 u188 (n) (w) T P)) [5, 6, 7] rfl
    refine va_calli (va_runV (As := []) (rest := []) ⟨hx, hb, hml, hown, hts⟩ (c_X2_thrown l D E g0 g1 g2 y4 y5 H.size (n) (w) u188 T P hn hw hT hPt) (cwV 0 hts gL_law_X2_thrown rfl rfl rfl (by decide +kernel) ⟨Nat.le_of_ble_eq_true rfl, Nat.le_of_ble_eq_true rfl⟩) ⟨cp.blind, va_recv hK hP (ci := 1) (q0 := 5) rfl rfl, fun U hU hW => ⟨rfl, cp.call hPc hKm hE hS (fr0 hS hA) hU hW⟩⟩ rfl rfl hl.1 rfl (lv_room (Nat.le_of_ble_eq_true rfl)) dL_law_194 ⟨by rw [hR1]; omega, by rw [hR2]; omega⟩) hS (fun q _ h => (fr0 hS hA) q h) (fr0 hS hA) (fun v194 u194 t H1 locs1 ht hvm e194 hB hz1 hk1 hS => ?_)
    have hP := kp hP hk1
    generalize H1 = H at hP hS ⊢
    generalize locs1 = locs at hS ⊢
    refine lv_iload hx hb dL_law_197 (lv_at hl 1 rfl) ?_
    refine z_icmp_eq (tgt := 204) hx hb dL_law_199 (by decide) (Eq.trans e194 et188) e176 (fun c199 => ?_) (fun c199 => ?_)
    · have _u := True.intro
      refine lv_iload hx hb dL_law_204 (lv_at hl 1 rfl) ?_
      refine z_if_ne (tgt := 221) hx hb dL_law_206 (by decide) e176 (fun c206 => ?_) (fun c206 => ?_)
      · have _u := True.intro
        refine lv_goto (tgt := 1453) hx hb dL_law_221 (by decide) ?_
        refine W.widen (k := 8 + 2 * c9 + 2) (n := 252 + 12 * c9 + 12) (by omega) (by omega) ?_
        exact K (n) (w) u188 T P u.2 O hn hw hT hPt _ _ hP hD hS _ (lv_sub hl [2, 3, 4, 5, 6] rfl)
      · have _u := True.intro
        exfalso; omega
    · exfalso; omega
set_option maxHeartbeats 4000000 in
set_option maxRecDepth 100000 in
theorem law_c1 {p : Program} {l : Launch} {e : Env} {s : State} {m : MethodId} {below : List Frame} {meth : Method} {c : Code} {D : va_G} {E : Nat × Nat × Nat} {b L : Nat} {xs : Nat → Int32} {h0 h1 h2 h3 b0 g0 g1 g2 : Nat} {y1 y2 y3 y6 y4 y5 : ClassId} {c9 : Nat} {x4 : Int32} {n w : Nat} {th : Int32} {T P M : Nat → Int32} {O : Nat → Int64} {H : Heap} {locs : List Loc} {ls : Array Slot} (hlt : l.stackTraces = false) (hEd : E.1 ≠ E.2.1 ∧ E.1 ≠ E.2.2 ∧ E.2.1 ≠ E.2.2) (hE : XEnv E (fun q : Nat => s.heap.size ≤ q) s s.heap) (hL : L ≤ 1536) (C0 : lw_At p s m meth c b L xs) (h4 : x4.toInt = ((3 * c9 : Nat) : Int)) (hc : 3 * c9 + 3 ≤ L) (hn : n ≤ 64) (hw : w ≤ 24) (hT : SymF T) (hPt : SymF P) (hK : va_K D vwCl (GT y1 y2 y3 y6 y4 y5) s) (hP : va_P D vwCl (GW h0 h1 h2 h3 b0 g0 g1 g2 y1 y2 y3 y6 y4 y5 n w th T P M O) H) (hD : va_D (fun q : Nat => s.heap.size ≤ q) (GW h0 h1 h2 h3 b0 g0 g1 g2 y1 y2 y3 y6 y4 y5 n w th T P M O)) (hS : va_S (fun q : Nat => s.heap.size ≤ q) s.heap H locs) (hl : lv_has ls 7 [(0, .ref b), (1, .ref h0), (2, .ref g0), (3, .ref b0), (4, .int x4)]) (K : LK p l e s m below meth c D b h0 h1 h2 h3 b0 g0 g1 g2 y1 y2 y3 y6 y4 y5 c9 x4) : W p l e room_1 s m #[Value.ref b] below meth c H locs (8 + 2 * c9) (252 + 12 * c9) (lw_Z below #[Value.ref b] s) (F0 m 224 ls []) := by
  obtain ⟨hx, hb, hr, hml, hown, hts0, hX, hbl, hlocks, hgv⟩ := C0
  have hts : ∀ w ∈ wsL_law, w.before #[Value.ref b] s = true := fun w h => hts0 w (wsL_law_in w h)
  have hA : ∀ q : Nat, s.heap.size ≤ q → (fun q : Nat => s.heap.size ≤ q) q := fun _ h => h
  have hbA : ¬ (fun q : Nat => s.heap.size ≤ q) b := Nat.not_le.mpr hbl
  have hR1 : room_1.cells = 1051 := rfl
  have hR2 : room_1.slots = 8558 := rfl
  have hKx := hK.sub (tys' := (XT y1 y2 y3)) [0, 1, 2] rfl
  have hKl := hK.sub (tys' := (LT y1 y2 y3 y6)) [0, 1, 2, 3] rfl
  have hKm := hK.sub (tys' := (MT y4 y5)) [4, 5] rfl
  refine lv_aload_n hx hb dL_law_224 rfl (lv_at hl 1 rfl) ?_
  refine lv_aload_n hx hb dL_law_225 rfl (lv_at hl 0 rfl) ?_
  refine lv_iload hx hb dL_law_226 (lv_at hl 4 rfl) ?_
  refine lv_iconst (v := 1) hx hb dL_law_228 (by decide) ?_
  refine z_iadd hx hb dL_law_229 h4 (show (1 : Int32).toInt = 1 by decide) (by omega) (by omega) (fun v229 e229 => ?_)
  have i230 : vp_in v229 L := vp_in_iff.mpr ⟨by omega, by omega⟩
  refine va_sld hx hb hX hbl hbA hS i230 dL_law_230 ?_
  refine lv_as (y := xs (3 * c9 + 1)) (congrArg xs (clN (Eq.trans e229 (by omega)))) ?_
  obtain ⟨a1, ha1⟩ : ∃ z, z = xs (3 * c9 + 1) := ⟨_, rfl⟩
  refine lv_as ha1.symm ?_
  refine lv_aload_n hx hb dL_law_231 rfl (lv_at hl 0 rfl) ?_
  refine lv_iload hx hb dL_law_232 (lv_at hl 4 rfl) ?_
  refine lv_iconst (v := 2) hx hb dL_law_234 (by decide) ?_
  refine z_iadd hx hb dL_law_235 h4 (show (2 : Int32).toInt = 2 by decide) (by omega) (by omega) (fun v235 e235 => ?_)
  have i236 : vp_in v235 L := vp_in_iff.mpr ⟨by omega, by omega⟩
  refine va_sld hx hb hX hbl hbA hS i236 dL_law_236 ?_
  refine lv_as (y := xs (3 * c9 + 2)) (congrArg xs (clN (Eq.trans e235 (by omega)))) ?_
  obtain ⟨a2, ha2⟩ : ∃ z, z = xs (3 * c9 + 2) := ⟨_, rfl⟩
  refine lv_as ha2.symm ?_
  refine lv_aload_n hx hb dL_law_237 rfl (lv_at hl 3 rfl) ?_
  have hPl := hP.sub (ws' := (LW h0 h1 h2 h3 b0 y1 y2 y3 y6 (n) (w) T P M O)) [0, 1, 2, 3, 4] rfl
  have hFc := va_free (wc := (LW h0 h1 h2 h3 b0 y1 y2 y3 y6 (n) (w) T P M O)) hD hS hA [0, 1, 2, 3, 4] rfl
  have hDl := hD.sub (ws' := (LW h0 h1 h2 h3 b0 y1 y2 y3 y6 (n) (w) T P M O)) [0, 1, 2, 3, 4] (by decide) rfl
  refine va_calli (vx_runSW (As := [.ref h0, .int a1, .int a2, .ref b0]) (rest := []) ⟨hx, hb, hml, hown, hts⟩ (c_L_repeatText l hlt D E h0 h1 h2 h3 b0 y1 y2 y3 y6 H.size n w T P M O hn hw hT hPt (hDl.weaken (fun _ _ _ _ => trivial)) a1 a2) (vx_cwSW 4 hts gL_law_L_repeatText rfl rfl rfl (by decide +kernel) ⟨Nat.le_of_ble_eq_true rfl, Nat.le_of_ble_eq_true rfl⟩) ⟨cp.blind, fun U hU hW => ⟨rfl, cp.call hPl hKl hE hS hFc hU hW⟩⟩ rfl rfl hl.1 rfl (lv_room (Nat.le_of_ble_eq_true rfl)) dL_law_238 ⟨by rw [hR1]; omega, by rw [hR2]; omega⟩) hS (fun q _ h => hFc q h) hFc (fun v238 u t H1 locs1 ht hvm ev hB hz1 hk1 hS => ?_)
  obtain ⟨e238, ev1⟩ := ev
  by_cases hk0 : kRT n a1.toInt a2.toInt = 0
  · have _u := True.intro
    obtain ⟨hP1, hD1⟩ := hB.1 hk0
    have hu1 := ev1 hk0
    rw [ht] at hP1
    obtain ⟨hP, hD⟩ := va_join (wr := (MW g0 g1 g2 y4 y5 th (n) (w) T P)) (w1 := (LW h0 h1 h2 h3 b0 y1 y2 y3 y6 (n + a2.toInt.toNat) (w) (va_cpy T T a1.toInt.toNat n a2.toInt.toNat) P u.2 (vp_updL O 0 u.1.toInt64))) hP hD [0, 1, 2, 3, 4] [5, 6, 7] rfl rfl (by decide) (by decide) hk1 hFc hP1 hD1
    have hP := hP.sub (ws' := [(h0, .inr (0, [.ref h1, .ref h2, .ref h3, .int (nI (n + a2.toInt.toNat)), .int (nI (w))])), (h1, .inl (y1, 64, .inl (va_cpy T T a1.toInt.toNat n a2.toInt.toNat))), (h2, .inl (y2, 24, .inl P)), (h3, .inl (y3, 65, .inl u.2)), (b0, .inl (y6, 1, .inr (.inl (vp_updL O 0 u.1.toInt64)))), (g0, .inr (1, [.int th, .ref g1, .ref g2, .int (nI (n)), .int (nI (w))])), (g1, .inl (y4, 64, .inl T)), (g2, .inl (y5, 24, .inl P))]) [3, 4, 5, 6, 7, 0, 1, 2] rfl
    have hD := hD.sub (ws' := [(h0, .inr (0, [.ref h1, .ref h2, .ref h3, .int (nI (n + a2.toInt.toNat)), .int (nI (w))])), (h1, .inl (y1, 64, .inl (va_cpy T T a1.toInt.toNat n a2.toInt.toNat))), (h2, .inl (y2, 24, .inl P)), (h3, .inl (y3, 65, .inl u.2)), (b0, .inl (y6, 1, .inr (.inl (vp_updL O 0 u.1.toInt64)))), (g0, .inr (1, [.int th, .ref g1, .ref g2, .int (nI (n)), .int (nI (w))])), (g1, .inl (y4, 64, .inl T)), (g2, .inl (y5, 24, .inl P))]) [3, 4, 5, 6, 7, 0, 1, 2] (by decide) rfl
    generalize H1 = H at hP hS ⊢
    generalize locs1 = locs at hS ⊢
    refine lv_istore (lv' := [(5, .int v238), (0, .ref b), (1, .ref h0), (2, .ref g0), (3, .ref b0), (4, .int x4)]) hx hb dL_law_241 hl (by decide) rfl (fun ls hl => ?_)
    refine lv_aload_n hx hb dL_law_243 rfl (lv_at hl 3 rfl) ?_
    refine lv_aload_n hx hb dL_law_244 rfl (lv_at hl 1 rfl) ?_
    refine lv_iload hx hb dL_law_245 (lv_at hl 5 rfl) ?_
    refine lv_iconst (v := 1) hx hb dL_law_247 (by decide) ?_
    refine z_iadd hx hb dL_law_248 h4 (show (1 : Int32).toInt = 1 by decide) (by omega) (by omega) (fun v248 e248 => ?_)
    have i249 : vp_in v248 L := vp_in_iff.mpr ⟨by omega, by omega⟩
    refine va_sld hx hb hX hbl hbA hS i249 dL_law_249 ?_
    refine lv_as (y := xs (3 * c9 + 1)) (congrArg xs (clN (Eq.trans e248 (by omega)))) ?_
    refine lv_as ha1.symm ?_
    refine lv_aload_n hx hb dL_law_250 rfl (lv_at hl 1 rfl) ?_
    refine lv_iload hx hb dL_law_251 (lv_at hl 5 rfl) ?_
    refine lv_iconst (v := 2) hx hb dL_law_253 (by decide) ?_
    refine z_iadd hx hb dL_law_254 h4 (show (2 : Int32).toInt = 2 by decide) (by omega) (by omega) (fun v254 e254 => ?_)
    have i255 : vp_in v254 L := vp_in_iff.mpr ⟨by omega, by omega⟩
    refine va_sld hx hb hX hbl hbA hS i255 dL_law_255 ?_
    refine lv_as (y := xs (3 * c9 + 2)) (congrArg xs (clN (Eq.trans e254 (by omega)))) ?_
    refine lv_as ha2.symm ?_
    have hPc := hP.sub (ws' := (MW g0 g1 g2 y4 y5 th (n) (w) T P)) [5, 6, 7] rfl
    have hFc := va_free (wc := (MW g0 g1 g2 y4 y5 th (n) (w) T P)) hD hS hA [5, 6, 7] rfl
    have hDc := hD.sub (ws' := (MW g0 g1 g2 y4 y5 th (n) (w) T P)) [5, 6, 7] (by decide) rfl
    refine va_calli (va_runV (As := [.int a1, .int a2]) (rest := []) ⟨hx, hb, hml, hown, hts⟩ (c_X2_repeatText l D E g0 g1 g2 y4 y5 H.size (n) (w) th T P hn hw hT hPt (hDc.weaken (fun _ _ _ _ => trivial)) a1 a2) (cwV 2 hts gL_law_X2_repeatText rfl rfl rfl (by decide +kernel) ⟨Nat.le_of_ble_eq_true rfl, Nat.le_of_ble_eq_true rfl⟩) ⟨cp.blind, va_recv hK hP (ci := 1) (q0 := 5) rfl rfl, fun U hU hW => ⟨rfl, cp.call hPc hKm hE hS hFc hU hW⟩⟩ rfl rfl hl.1 rfl (lv_room (Nat.le_of_ble_eq_true rfl)) dL_law_256 ⟨by rw [hR1]; omega, by rw [hR2]; omega⟩) hS (fun q _ h => hFc q h) hFc (fun v256 u256 t H1 locs1 ht hvm e256 hB hz1 hk1 hS => ?_)
    obtain ⟨et256, ev256⟩ := e256
    obtain ⟨hP1, hD1⟩ := hB.1 hk0
    have e256 := ev256 hk0
    rw [ht] at hP1
    obtain ⟨hP, hD⟩ := va_join (wr := (LW h0 h1 h2 h3 b0 y1 y2 y3 y6 (n + a2.toInt.toNat) (w) (va_cpy T T a1.toInt.toNat n a2.toInt.toNat) P u.2 (vp_updL O 0 u.1.toInt64))) (w1 := (MW g0 g1 g2 y4 y5 u256 (n + a2.toInt.toNat) (w) (va_cpy T T a1.toInt.toNat n a2.toInt.toNat) P)) hP hD [5, 6, 7] [0, 1, 2, 3, 4] rfl rfl (by decide) (by decide) hk1 hFc hP1 hD1
    have hP : va_P D vwCl (GW h0 h1 h2 h3 b0 g0 g1 g2 y1 y2 y3 y6 y4 y5 (n + a2.toInt.toNat) (w) u256 (va_cpy T T a1.toInt.toNat n a2.toInt.toNat) P u.2 (vp_updL O 0 u.1.toInt64)) H1 := hP
    have hD : va_D (fun q : Nat => s.heap.size ≤ q) (GW h0 h1 h2 h3 b0 g0 g1 g2 y1 y2 y3 y6 y4 y5 (n + a2.toInt.toNat) (w) u256 (va_cpy T T a1.toInt.toNat n a2.toInt.toNat) P u.2 (vp_updL O 0 u.1.toInt64)) := hD
    generalize H1 = H at hP hS ⊢
    generalize locs1 = locs at hS ⊢
    refine lv_istore (lv' := [(6, .int v256), (5, .int v238), (0, .ref b), (1, .ref h0), (2, .ref g0), (3, .ref b0), (4, .int x4)]) hx hb dL_law_259 hl (by decide) rfl (fun ls hl => ?_)
    refine lv_aload_n hx hb dL_law_261 rfl (lv_at hl 4 rfl) ?_
    have hPc := hP.sub (ws' := (MW g0 g1 g2 y4 y5 u256 (n + a2.toInt.toNat) (w) (va_cpy T T a1.toInt.toNat n a2.toInt.toNat) P)) [5, 6, 7] rfl
    refine va_calli (va_runV (As := []) (rest := []) ⟨hx, hb, hml, hown, hts⟩ (c_X2_thrown l D E g0 g1 g2 y4 y5 H.size (n + a2.toInt.toNat) (w) u256 (va_cpy T T a1.toInt.toNat n a2.toInt.toNat) P (by have q := kRT_0 hk0; omega) hw (SymF.cpy hT hT _ _ _) hPt) (cwV 0 hts gL_law_X2_thrown rfl rfl rfl (by decide +kernel) ⟨Nat.le_of_ble_eq_true rfl, Nat.le_of_ble_eq_true rfl⟩) ⟨cp.blind, va_recv hK hP (ci := 1) (q0 := 5) rfl rfl, fun U hU hW => ⟨rfl, cp.call hPc hKm hE hS (fr0 hS hA) hU hW⟩⟩ rfl rfl hl.1 rfl (lv_room (Nat.le_of_ble_eq_true rfl)) dL_law_262 ⟨by rw [hR1]; omega, by rw [hR2]; omega⟩) hS (fun q _ h => (fr0 hS hA) q h) (fr0 hS hA) (fun v262 u262 t H1 locs1 ht hvm e262 hB hz1 hk1 hS => ?_)
    have hP := kp hP hk1
    generalize H1 = H at hP hS ⊢
    generalize locs1 = locs at hS ⊢
    refine lv_iload hx hb dL_law_265 (lv_at hl 1 rfl) ?_
    refine z_icmp_eq (tgt := 272) hx hb dL_law_267 (by decide) (Eq.trans e262 et256) e238 (fun c267 => ?_) (fun c267 => ?_)
    · have _u := True.intro
      refine lv_iload hx hb dL_law_272 (lv_at hl 1 rfl) ?_
      refine z_if_ne (tgt := 289) hx hb dL_law_274 (by decide) e238 (fun c274 => ?_) (fun c274 => ?_)
      · have _u := True.intro
        exfalso; omega
      · have _u := True.intro
        refine lv_aload_n hx hb dL_law_277 rfl (lv_at hl 5 rfl) ?_
        refine lv_iconst (v := 0) hx hb dL_law_278 (by decide) ?_
        refine z_lald hx hb hK hP 4 3 rfl rfl 0 (show (0 : Int32).toInt = 0 by decide) rfl (by decide) dL_law_279 ?_
        refine lv_iload hx hb dL_law_280 (lv_at hl 0 rfl) ?_
        refine z_i2l hx hb dL_law_282 e256 (fun v282 e282 => ?_)
        refine z_lcmp hx hb dL_law_283 (show ((vp_updL O 0 u.1.toInt64) 0).toInt = u.1.toInt by rw [pk_uLs, Int32.toInt_toInt64]) e282 (fun v283 z283 e283 f283 k283 => ?_)
        refine z_if_eq (tgt := 289) hx hb dL_law_284 (by decide) e283 (fun c284 => ?_) (fun c284 => ?_)
        · have _u := True.intro
          refine lv_goto (tgt := 1453) hx hb dL_law_289 (by decide) ?_
          refine W.widen (k := 8 + 2 * c9 + 2) (n := 252 + 12 * c9 + 12) (by omega) (by omega) ?_
          exact K (n + a2.toInt.toNat) (w) u256 (va_cpy T T a1.toInt.toNat n a2.toInt.toNat) P u.2 (vp_updL O 0 u.1.toInt64) (by have q := kRT_0 hk0; omega) hw (SymF.cpy hT hT _ _ _) hPt _ _ hP hD hS _ (lv_sub hl [2, 3, 4, 5, 6] rfl)
        · exfalso; omega
    · exfalso; omega
  · have _u := True.intro
    obtain ⟨hP1, hD1⟩ := hB.2 hk0
    rw [ht] at hP1
    obtain ⟨hP, hD⟩ := va_join (wr := (MW g0 g1 g2 y4 y5 th (n) (w) T P)) (w1 := (LW h0 h1 h2 h3 b0 y1 y2 y3 y6 (n) (w) T P u.2 O)) hP hD [0, 1, 2, 3, 4] [5, 6, 7] rfl rfl (by decide) (by decide) hk1 hFc hP1 hD1
    have hP := hP.sub (ws' := (GW h0 h1 h2 h3 b0 g0 g1 g2 y1 y2 y3 y6 y4 y5 (n) (w) th T P u.2 O)) [3, 4, 5, 6, 7, 0, 1, 2] rfl
    have hD := hD.sub (ws' := (GW h0 h1 h2 h3 b0 g0 g1 g2 y1 y2 y3 y6 y4 y5 (n) (w) th T P u.2 O)) [3, 4, 5, 6, 7, 0, 1, 2] (by decide) rfl
    generalize H1 = H at hP hS ⊢
    generalize locs1 = locs at hS ⊢
    refine lv_istore (lv' := [(5, .int v238), (0, .ref b), (1, .ref h0), (2, .ref g0), (3, .ref b0), (4, .int x4)]) hx hb dL_law_241 hl (by decide) rfl (fun ls hl => ?_)
    refine lv_aload_n hx hb dL_law_243 rfl (lv_at hl 3 rfl) ?_
    refine lv_aload_n hx hb dL_law_244 rfl (lv_at hl 1 rfl) ?_
    refine lv_iload hx hb dL_law_245 (lv_at hl 5 rfl) ?_
    refine lv_iconst (v := 1) hx hb dL_law_247 (by decide) ?_
    refine z_iadd hx hb dL_law_248 h4 (show (1 : Int32).toInt = 1 by decide) (by omega) (by omega) (fun v248 e248 => ?_)
    have i249 : vp_in v248 L := vp_in_iff.mpr ⟨by omega, by omega⟩
    refine va_sld hx hb hX hbl hbA hS i249 dL_law_249 ?_
    refine lv_as (y := xs (3 * c9 + 1)) (congrArg xs (clN (Eq.trans e248 (by omega)))) ?_
    refine lv_as ha1.symm ?_
    refine lv_aload_n hx hb dL_law_250 rfl (lv_at hl 1 rfl) ?_
    refine lv_iload hx hb dL_law_251 (lv_at hl 5 rfl) ?_
    refine lv_iconst (v := 2) hx hb dL_law_253 (by decide) ?_
    refine z_iadd hx hb dL_law_254 h4 (show (2 : Int32).toInt = 2 by decide) (by omega) (by omega) (fun v254 e254 => ?_)
    have i255 : vp_in v254 L := vp_in_iff.mpr ⟨by omega, by omega⟩
    refine va_sld hx hb hX hbl hbA hS i255 dL_law_255 ?_
    refine lv_as (y := xs (3 * c9 + 2)) (congrArg xs (clN (Eq.trans e254 (by omega)))) ?_
    refine lv_as ha2.symm ?_
    have hPc := hP.sub (ws' := (MW g0 g1 g2 y4 y5 th (n) (w) T P)) [5, 6, 7] rfl
    have hFc := va_free (wc := (MW g0 g1 g2 y4 y5 th (n) (w) T P)) hD hS hA [5, 6, 7] rfl
    have hDc := hD.sub (ws' := (MW g0 g1 g2 y4 y5 th (n) (w) T P)) [5, 6, 7] (by decide) rfl
    refine va_calli (va_runV (As := [.int a1, .int a2]) (rest := []) ⟨hx, hb, hml, hown, hts⟩ (c_X2_repeatText l D E g0 g1 g2 y4 y5 H.size (n) (w) th T P hn hw hT hPt (hDc.weaken (fun _ _ _ _ => trivial)) a1 a2) (cwV 2 hts gL_law_X2_repeatText rfl rfl rfl (by decide +kernel) ⟨Nat.le_of_ble_eq_true rfl, Nat.le_of_ble_eq_true rfl⟩) ⟨cp.blind, va_recv hK hP (ci := 1) (q0 := 5) rfl rfl, fun U hU hW => ⟨rfl, cp.call hPc hKm hE hS hFc hU hW⟩⟩ rfl rfl hl.1 rfl (lv_room (Nat.le_of_ble_eq_true rfl)) dL_law_256 ⟨by rw [hR1]; omega, by rw [hR2]; omega⟩) hS (fun q _ h => hFc q h) hFc (fun v256 u256 t H1 locs1 ht hvm e256 hB hz1 hk1 hS => ?_)
    obtain ⟨et256, ev256⟩ := e256
    obtain ⟨hP1, hD1⟩ := hB.2 hk0
    rw [ht] at hP1
    obtain ⟨hP, hD⟩ := va_join (wr := (LW h0 h1 h2 h3 b0 y1 y2 y3 y6 (n) (w) T P u.2 O)) (w1 := (MW g0 g1 g2 y4 y5 u256 (n) (w) T P)) hP hD [5, 6, 7] [0, 1, 2, 3, 4] rfl rfl (by decide) (by decide) hk1 hFc hP1 hD1
    have hP : va_P D vwCl (GW h0 h1 h2 h3 b0 g0 g1 g2 y1 y2 y3 y6 y4 y5 (n) (w) u256 T P u.2 O) H1 := hP
    have hD : va_D (fun q : Nat => s.heap.size ≤ q) (GW h0 h1 h2 h3 b0 g0 g1 g2 y1 y2 y3 y6 y4 y5 (n) (w) u256 T P u.2 O) := hD
    generalize H1 = H at hP hS ⊢
    generalize locs1 = locs at hS ⊢
    refine lv_istore (lv' := [(6, .int v256), (5, .int v238), (0, .ref b), (1, .ref h0), (2, .ref g0), (3, .ref b0), (4, .int x4)]) hx hb dL_law_259 hl (by decide) rfl (fun ls hl => ?_)
    refine lv_aload_n hx hb dL_law_261 rfl (lv_at hl 4 rfl) ?_
    have hPc := hP.sub (ws' := (MW g0 g1 g2 y4 y5 u256 (n) (w) T P)) [5, 6, 7] rfl
    refine va_calli (va_runV (As := []) (rest := []) ⟨hx, hb, hml, hown, hts⟩ (c_X2_thrown l D E g0 g1 g2 y4 y5 H.size (n) (w) u256 T P hn hw hT hPt) (cwV 0 hts gL_law_X2_thrown rfl rfl rfl (by decide +kernel) ⟨Nat.le_of_ble_eq_true rfl, Nat.le_of_ble_eq_true rfl⟩) ⟨cp.blind, va_recv hK hP (ci := 1) (q0 := 5) rfl rfl, fun U hU hW => ⟨rfl, cp.call hPc hKm hE hS (fr0 hS hA) hU hW⟩⟩ rfl rfl hl.1 rfl (lv_room (Nat.le_of_ble_eq_true rfl)) dL_law_262 ⟨by rw [hR1]; omega, by rw [hR2]; omega⟩) hS (fun q _ h => (fr0 hS hA) q h) (fr0 hS hA) (fun v262 u262 t H1 locs1 ht hvm e262 hB hz1 hk1 hS => ?_)
    have hP := kp hP hk1
    generalize H1 = H at hP hS ⊢
    generalize locs1 = locs at hS ⊢
    refine lv_iload hx hb dL_law_265 (lv_at hl 1 rfl) ?_
    refine z_icmp_eq (tgt := 272) hx hb dL_law_267 (by decide) (Eq.trans e262 et256) e238 (fun c267 => ?_) (fun c267 => ?_)
    · have _u := True.intro
      refine lv_iload hx hb dL_law_272 (lv_at hl 1 rfl) ?_
      refine z_if_ne (tgt := 289) hx hb dL_law_274 (by decide) e238 (fun c274 => ?_) (fun c274 => ?_)
      · have _u := True.intro
        refine lv_goto (tgt := 1453) hx hb dL_law_289 (by decide) ?_
        refine W.widen (k := 8 + 2 * c9 + 2) (n := 252 + 12 * c9 + 12) (by omega) (by omega) ?_
        exact K (n) (w) u256 T P u.2 O hn hw hT hPt _ _ hP hD hS _ (lv_sub hl [2, 3, 4, 5, 6] rfl)
      · have _u := True.intro
        exfalso; omega
    · exfalso; omega
set_option maxHeartbeats 4000000 in
set_option maxRecDepth 100000 in
theorem law_c2 {p : Program} {l : Launch} {e : Env} {s : State} {m : MethodId} {below : List Frame} {meth : Method} {c : Code} {D : va_G} {E : Nat × Nat × Nat} {b L : Nat} {xs : Nat → Int32} {h0 h1 h2 h3 b0 g0 g1 g2 : Nat} {y1 y2 y3 y6 y4 y5 : ClassId} {c9 : Nat} {x4 : Int32} {n w : Nat} {th : Int32} {T P M : Nat → Int32} {O : Nat → Int64} {H : Heap} {locs : List Loc} {ls : Array Slot} (hlt : l.stackTraces = false) (hEd : E.1 ≠ E.2.1 ∧ E.1 ≠ E.2.2 ∧ E.2.1 ≠ E.2.2) (hE : XEnv E (fun q : Nat => s.heap.size ≤ q) s s.heap) (hL : L ≤ 1536) (C0 : lw_At p s m meth c b L xs) (h4 : x4.toInt = ((3 * c9 : Nat) : Int)) (hc : 3 * c9 + 3 ≤ L) (hn : n ≤ 64) (hw : w ≤ 24) (hT : SymF T) (hPt : SymF P) (hK : va_K D vwCl (GT y1 y2 y3 y6 y4 y5) s) (hP : va_P D vwCl (GW h0 h1 h2 h3 b0 g0 g1 g2 y1 y2 y3 y6 y4 y5 n w th T P M O) H) (hD : va_D (fun q : Nat => s.heap.size ≤ q) (GW h0 h1 h2 h3 b0 g0 g1 g2 y1 y2 y3 y6 y4 y5 n w th T P M O)) (hS : va_S (fun q : Nat => s.heap.size ≤ q) s.heap H locs) (hl : lv_has ls 7 [(0, .ref b), (1, .ref h0), (2, .ref g0), (3, .ref b0), (4, .int x4)]) (K : LK p l e s m below meth c D b h0 h1 h2 h3 b0 g0 g1 g2 y1 y2 y3 y6 y4 y5 c9 x4) : W p l e room_1 s m #[Value.ref b] below meth c H locs (8 + 2 * c9) (252 + 12 * c9) (lw_Z below #[Value.ref b] s) (F0 m 292 ls []) := by
  obtain ⟨hx, hb, hr, hml, hown, hts0, hX, hbl, hlocks, hgv⟩ := C0
  have hts : ∀ w ∈ wsL_law, w.before #[Value.ref b] s = true := fun w h => hts0 w (wsL_law_in w h)
  have hA : ∀ q : Nat, s.heap.size ≤ q → (fun q : Nat => s.heap.size ≤ q) q := fun _ h => h
  have hbA : ¬ (fun q : Nat => s.heap.size ≤ q) b := Nat.not_le.mpr hbl
  have hR1 : room_1.cells = 1051 := rfl
  have hR2 : room_1.slots = 8558 := rfl
  have hKx := hK.sub (tys' := (XT y1 y2 y3)) [0, 1, 2] rfl
  have hKl := hK.sub (tys' := (LT y1 y2 y3 y6)) [0, 1, 2, 3] rfl
  have hKm := hK.sub (tys' := (MT y4 y5)) [4, 5] rfl
  refine lv_aload_n hx hb dL_law_292 rfl (lv_at hl 1 rfl) ?_
  refine lv_aload_n hx hb dL_law_293 rfl (lv_at hl 0 rfl) ?_
  refine lv_iload hx hb dL_law_294 (lv_at hl 4 rfl) ?_
  refine lv_iconst (v := 1) hx hb dL_law_296 (by decide) ?_
  refine z_iadd hx hb dL_law_297 h4 (show (1 : Int32).toInt = 1 by decide) (by omega) (by omega) (fun v297 e297 => ?_)
  have i298 : vp_in v297 L := vp_in_iff.mpr ⟨by omega, by omega⟩
  refine va_sld hx hb hX hbl hbA hS i298 dL_law_298 ?_
  refine lv_as (y := xs (3 * c9 + 1)) (congrArg xs (clN (Eq.trans e297 (by omega)))) ?_
  obtain ⟨a1, ha1⟩ : ∃ z, z = xs (3 * c9 + 1) := ⟨_, rfl⟩
  refine lv_as ha1.symm ?_
  refine lv_aload_n hx hb dL_law_299 rfl (lv_at hl 0 rfl) ?_
  refine lv_iload hx hb dL_law_300 (lv_at hl 4 rfl) ?_
  refine lv_iconst (v := 2) hx hb dL_law_302 (by decide) ?_
  refine z_iadd hx hb dL_law_303 h4 (show (2 : Int32).toInt = 2 by decide) (by omega) (by omega) (fun v303 e303 => ?_)
  have i304 : vp_in v303 L := vp_in_iff.mpr ⟨by omega, by omega⟩
  refine va_sld hx hb hX hbl hbA hS i304 dL_law_304 ?_
  refine lv_as (y := xs (3 * c9 + 2)) (congrArg xs (clN (Eq.trans e303 (by omega)))) ?_
  obtain ⟨a2, ha2⟩ : ∃ z, z = xs (3 * c9 + 2) := ⟨_, rfl⟩
  refine lv_as ha2.symm ?_
  refine lv_aload_n hx hb dL_law_305 rfl (lv_at hl 3 rfl) ?_
  have hPl := hP.sub (ws' := (LW h0 h1 h2 h3 b0 y1 y2 y3 y6 (n) (w) T P M O)) [0, 1, 2, 3, 4] rfl
  have hFc := va_free (wc := (LW h0 h1 h2 h3 b0 y1 y2 y3 y6 (n) (w) T P M O)) hD hS hA [0, 1, 2, 3, 4] rfl
  have hDl := hD.sub (ws' := (LW h0 h1 h2 h3 b0 y1 y2 y3 y6 (n) (w) T P M O)) [0, 1, 2, 3, 4] (by decide) rfl
  refine va_calli (vx_runSW (As := [.ref h0, .int a1, .int a2, .ref b0]) (rest := []) ⟨hx, hb, hml, hown, hts⟩ (c_L_setText l hlt D E h0 h1 h2 h3 b0 y1 y2 y3 y6 H.size n w T P M O hn hw hT hPt (hDl.weaken (fun _ _ _ _ => trivial)) a1 a2) (vx_cwSW 4 hts gL_law_L_setText rfl rfl rfl (by decide +kernel) ⟨Nat.le_of_ble_eq_true rfl, Nat.le_of_ble_eq_true rfl⟩) ⟨cp.blind, fun U hU hW => ⟨rfl, cp.call hPl hKl hE hS hFc hU hW⟩⟩ rfl rfl hl.1 rfl (lv_room (Nat.le_of_ble_eq_true rfl)) dL_law_306 ⟨by rw [hR1]; omega, by rw [hR2]; omega⟩) hS (fun q _ h => hFc q h) hFc (fun v306 u t H1 locs1 ht hvm ev hB hz1 hk1 hS => ?_)
  obtain ⟨e306, ev1⟩ := ev
  by_cases hk0 : kST n a1.toInt a2.toInt = 0
  · have _u := True.intro
    obtain ⟨hP1, hD1⟩ := hB.1 hk0
    have hu1 := ev1 hk0
    rw [ht] at hP1
    obtain ⟨hP, hD⟩ := va_join (wr := (MW g0 g1 g2 y4 y5 th (n) (w) T P)) (w1 := (LW h0 h1 h2 h3 b0 y1 y2 y3 y6 (n) (w) (upd T (a1.toInt.toNat) a2) P u.2 (vp_updL O 0 u.1.toInt64))) hP hD [0, 1, 2, 3, 4] [5, 6, 7] rfl rfl (by decide) (by decide) hk1 hFc hP1 hD1
    have hP := hP.sub (ws' := [(h0, .inr (0, [.ref h1, .ref h2, .ref h3, .int (nI (n)), .int (nI (w))])), (h1, .inl (y1, 64, .inl (upd T (a1.toInt.toNat) a2))), (h2, .inl (y2, 24, .inl P)), (h3, .inl (y3, 65, .inl u.2)), (b0, .inl (y6, 1, .inr (.inl (vp_updL O 0 u.1.toInt64)))), (g0, .inr (1, [.int th, .ref g1, .ref g2, .int (nI (n)), .int (nI (w))])), (g1, .inl (y4, 64, .inl T)), (g2, .inl (y5, 24, .inl P))]) [3, 4, 5, 6, 7, 0, 1, 2] rfl
    have hD := hD.sub (ws' := [(h0, .inr (0, [.ref h1, .ref h2, .ref h3, .int (nI (n)), .int (nI (w))])), (h1, .inl (y1, 64, .inl (upd T (a1.toInt.toNat) a2))), (h2, .inl (y2, 24, .inl P)), (h3, .inl (y3, 65, .inl u.2)), (b0, .inl (y6, 1, .inr (.inl (vp_updL O 0 u.1.toInt64)))), (g0, .inr (1, [.int th, .ref g1, .ref g2, .int (nI (n)), .int (nI (w))])), (g1, .inl (y4, 64, .inl T)), (g2, .inl (y5, 24, .inl P))]) [3, 4, 5, 6, 7, 0, 1, 2] (by decide) rfl
    generalize H1 = H at hP hS ⊢
    generalize locs1 = locs at hS ⊢
    refine lv_istore (lv' := [(5, .int v306), (0, .ref b), (1, .ref h0), (2, .ref g0), (3, .ref b0), (4, .int x4)]) hx hb dL_law_309 hl (by decide) rfl (fun ls hl => ?_)
    refine lv_aload_n hx hb dL_law_311 rfl (lv_at hl 3 rfl) ?_
    refine lv_aload_n hx hb dL_law_312 rfl (lv_at hl 1 rfl) ?_
    refine lv_iload hx hb dL_law_313 (lv_at hl 5 rfl) ?_
    refine lv_iconst (v := 1) hx hb dL_law_315 (by decide) ?_
    refine z_iadd hx hb dL_law_316 h4 (show (1 : Int32).toInt = 1 by decide) (by omega) (by omega) (fun v316 e316 => ?_)
    have i317 : vp_in v316 L := vp_in_iff.mpr ⟨by omega, by omega⟩
    refine va_sld hx hb hX hbl hbA hS i317 dL_law_317 ?_
    refine lv_as (y := xs (3 * c9 + 1)) (congrArg xs (clN (Eq.trans e316 (by omega)))) ?_
    refine lv_as ha1.symm ?_
    refine lv_aload_n hx hb dL_law_318 rfl (lv_at hl 1 rfl) ?_
    refine lv_iload hx hb dL_law_319 (lv_at hl 5 rfl) ?_
    refine lv_iconst (v := 2) hx hb dL_law_321 (by decide) ?_
    refine z_iadd hx hb dL_law_322 h4 (show (2 : Int32).toInt = 2 by decide) (by omega) (by omega) (fun v322 e322 => ?_)
    have i323 : vp_in v322 L := vp_in_iff.mpr ⟨by omega, by omega⟩
    refine va_sld hx hb hX hbl hbA hS i323 dL_law_323 ?_
    refine lv_as (y := xs (3 * c9 + 2)) (congrArg xs (clN (Eq.trans e322 (by omega)))) ?_
    refine lv_as ha2.symm ?_
    have hPc := hP.sub (ws' := (MW g0 g1 g2 y4 y5 th (n) (w) T P)) [5, 6, 7] rfl
    have hFc := va_free (wc := (MW g0 g1 g2 y4 y5 th (n) (w) T P)) hD hS hA [5, 6, 7] rfl
    have hDc := hD.sub (ws' := (MW g0 g1 g2 y4 y5 th (n) (w) T P)) [5, 6, 7] (by decide) rfl
    refine va_calli (va_runV (As := [.int a1, .int a2]) (rest := []) ⟨hx, hb, hml, hown, hts⟩ (c_X2_setText l D E g0 g1 g2 y4 y5 H.size (n) (w) th T P hn hw hT hPt (hDc.weaken (fun _ _ _ _ => trivial)) a1 a2) (cwV 2 hts gL_law_X2_setText rfl rfl rfl (by decide +kernel) ⟨Nat.le_of_ble_eq_true rfl, Nat.le_of_ble_eq_true rfl⟩) ⟨cp.blind, va_recv hK hP (ci := 1) (q0 := 5) rfl rfl, fun U hU hW => ⟨rfl, cp.call hPc hKm hE hS hFc hU hW⟩⟩ rfl rfl hl.1 rfl (lv_room (Nat.le_of_ble_eq_true rfl)) dL_law_324 ⟨by rw [hR1]; omega, by rw [hR2]; omega⟩) hS (fun q _ h => hFc q h) hFc (fun v324 u324 t H1 locs1 ht hvm e324 hB hz1 hk1 hS => ?_)
    obtain ⟨et324, ev324⟩ := e324
    obtain ⟨hP1, hD1⟩ := hB.1 hk0
    have e324 := ev324 hk0
    rw [ht] at hP1
    obtain ⟨hP, hD⟩ := va_join (wr := (LW h0 h1 h2 h3 b0 y1 y2 y3 y6 (n) (w) (upd T (a1.toInt.toNat) a2) P u.2 (vp_updL O 0 u.1.toInt64))) (w1 := (MW g0 g1 g2 y4 y5 u324 (n) (w) (upd T (a1.toInt.toNat) a2) P)) hP hD [5, 6, 7] [0, 1, 2, 3, 4] rfl rfl (by decide) (by decide) hk1 hFc hP1 hD1
    have hP : va_P D vwCl (GW h0 h1 h2 h3 b0 g0 g1 g2 y1 y2 y3 y6 y4 y5 (n) (w) u324 (upd T (a1.toInt.toNat) a2) P u.2 (vp_updL O 0 u.1.toInt64)) H1 := hP
    have hD : va_D (fun q : Nat => s.heap.size ≤ q) (GW h0 h1 h2 h3 b0 g0 g1 g2 y1 y2 y3 y6 y4 y5 (n) (w) u324 (upd T (a1.toInt.toNat) a2) P u.2 (vp_updL O 0 u.1.toInt64)) := hD
    generalize H1 = H at hP hS ⊢
    generalize locs1 = locs at hS ⊢
    refine lv_istore (lv' := [(6, .int v324), (5, .int v306), (0, .ref b), (1, .ref h0), (2, .ref g0), (3, .ref b0), (4, .int x4)]) hx hb dL_law_327 hl (by decide) rfl (fun ls hl => ?_)
    refine lv_aload_n hx hb dL_law_329 rfl (lv_at hl 4 rfl) ?_
    have hPc := hP.sub (ws' := (MW g0 g1 g2 y4 y5 u324 (n) (w) (upd T (a1.toInt.toNat) a2) P)) [5, 6, 7] rfl
    refine va_calli (va_runV (As := []) (rest := []) ⟨hx, hb, hml, hown, hts⟩ (c_X2_thrown l D E g0 g1 g2 y4 y5 H.size (n) (w) u324 (upd T (a1.toInt.toNat) a2) P hn hw (SymF.upd hT _ ⟨(kST_0 hk0).2.2.1, (kST_0 hk0).2.2.2⟩) hPt) (cwV 0 hts gL_law_X2_thrown rfl rfl rfl (by decide +kernel) ⟨Nat.le_of_ble_eq_true rfl, Nat.le_of_ble_eq_true rfl⟩) ⟨cp.blind, va_recv hK hP (ci := 1) (q0 := 5) rfl rfl, fun U hU hW => ⟨rfl, cp.call hPc hKm hE hS (fr0 hS hA) hU hW⟩⟩ rfl rfl hl.1 rfl (lv_room (Nat.le_of_ble_eq_true rfl)) dL_law_330 ⟨by rw [hR1]; omega, by rw [hR2]; omega⟩) hS (fun q _ h => (fr0 hS hA) q h) (fr0 hS hA) (fun v330 u330 t H1 locs1 ht hvm e330 hB hz1 hk1 hS => ?_)
    have hP := kp hP hk1
    generalize H1 = H at hP hS ⊢
    generalize locs1 = locs at hS ⊢
    refine lv_iload hx hb dL_law_333 (lv_at hl 1 rfl) ?_
    refine z_icmp_eq (tgt := 340) hx hb dL_law_335 (by decide) (Eq.trans e330 et324) e306 (fun c335 => ?_) (fun c335 => ?_)
    · have _u := True.intro
      refine lv_iload hx hb dL_law_340 (lv_at hl 1 rfl) ?_
      refine z_if_ne (tgt := 357) hx hb dL_law_342 (by decide) e306 (fun c342 => ?_) (fun c342 => ?_)
      · have _u := True.intro
        exfalso; omega
      · have _u := True.intro
        refine lv_aload_n hx hb dL_law_345 rfl (lv_at hl 5 rfl) ?_
        refine lv_iconst (v := 0) hx hb dL_law_346 (by decide) ?_
        refine z_lald hx hb hK hP 4 3 rfl rfl 0 (show (0 : Int32).toInt = 0 by decide) rfl (by decide) dL_law_347 ?_
        refine lv_iload hx hb dL_law_348 (lv_at hl 0 rfl) ?_
        refine z_i2l hx hb dL_law_350 e324 (fun v350 e350 => ?_)
        refine z_lcmp hx hb dL_law_351 (show ((vp_updL O 0 u.1.toInt64) 0).toInt = u.1.toInt by rw [pk_uLs, Int32.toInt_toInt64]) e350 (fun v351 z351 e351 f351 k351 => ?_)
        refine z_if_eq (tgt := 357) hx hb dL_law_352 (by decide) e351 (fun c352 => ?_) (fun c352 => ?_)
        · have _u := True.intro
          refine lv_goto (tgt := 1453) hx hb dL_law_357 (by decide) ?_
          refine W.widen (k := 8 + 2 * c9 + 2) (n := 252 + 12 * c9 + 12) (by omega) (by omega) ?_
          exact K (n) (w) u324 (upd T (a1.toInt.toNat) a2) P u.2 (vp_updL O 0 u.1.toInt64) hn hw (SymF.upd hT _ ⟨(kST_0 hk0).2.2.1, (kST_0 hk0).2.2.2⟩) hPt _ _ hP hD hS _ (lv_sub hl [2, 3, 4, 5, 6] rfl)
        · exfalso; omega
    · exfalso; omega
  · have _u := True.intro
    obtain ⟨hP1, hD1⟩ := hB.2 hk0
    rw [ht] at hP1
    obtain ⟨hP, hD⟩ := va_join (wr := (MW g0 g1 g2 y4 y5 th (n) (w) T P)) (w1 := (LW h0 h1 h2 h3 b0 y1 y2 y3 y6 (n) (w) T P u.2 O)) hP hD [0, 1, 2, 3, 4] [5, 6, 7] rfl rfl (by decide) (by decide) hk1 hFc hP1 hD1
    have hP := hP.sub (ws' := (GW h0 h1 h2 h3 b0 g0 g1 g2 y1 y2 y3 y6 y4 y5 (n) (w) th T P u.2 O)) [3, 4, 5, 6, 7, 0, 1, 2] rfl
    have hD := hD.sub (ws' := (GW h0 h1 h2 h3 b0 g0 g1 g2 y1 y2 y3 y6 y4 y5 (n) (w) th T P u.2 O)) [3, 4, 5, 6, 7, 0, 1, 2] (by decide) rfl
    generalize H1 = H at hP hS ⊢
    generalize locs1 = locs at hS ⊢
    refine lv_istore (lv' := [(5, .int v306), (0, .ref b), (1, .ref h0), (2, .ref g0), (3, .ref b0), (4, .int x4)]) hx hb dL_law_309 hl (by decide) rfl (fun ls hl => ?_)
    refine lv_aload_n hx hb dL_law_311 rfl (lv_at hl 3 rfl) ?_
    refine lv_aload_n hx hb dL_law_312 rfl (lv_at hl 1 rfl) ?_
    refine lv_iload hx hb dL_law_313 (lv_at hl 5 rfl) ?_
    refine lv_iconst (v := 1) hx hb dL_law_315 (by decide) ?_
    refine z_iadd hx hb dL_law_316 h4 (show (1 : Int32).toInt = 1 by decide) (by omega) (by omega) (fun v316 e316 => ?_)
    have i317 : vp_in v316 L := vp_in_iff.mpr ⟨by omega, by omega⟩
    refine va_sld hx hb hX hbl hbA hS i317 dL_law_317 ?_
    refine lv_as (y := xs (3 * c9 + 1)) (congrArg xs (clN (Eq.trans e316 (by omega)))) ?_
    refine lv_as ha1.symm ?_
    refine lv_aload_n hx hb dL_law_318 rfl (lv_at hl 1 rfl) ?_
    refine lv_iload hx hb dL_law_319 (lv_at hl 5 rfl) ?_
    refine lv_iconst (v := 2) hx hb dL_law_321 (by decide) ?_
    refine z_iadd hx hb dL_law_322 h4 (show (2 : Int32).toInt = 2 by decide) (by omega) (by omega) (fun v322 e322 => ?_)
    have i323 : vp_in v322 L := vp_in_iff.mpr ⟨by omega, by omega⟩
    refine va_sld hx hb hX hbl hbA hS i323 dL_law_323 ?_
    refine lv_as (y := xs (3 * c9 + 2)) (congrArg xs (clN (Eq.trans e322 (by omega)))) ?_
    refine lv_as ha2.symm ?_
    have hPc := hP.sub (ws' := (MW g0 g1 g2 y4 y5 th (n) (w) T P)) [5, 6, 7] rfl
    have hFc := va_free (wc := (MW g0 g1 g2 y4 y5 th (n) (w) T P)) hD hS hA [5, 6, 7] rfl
    have hDc := hD.sub (ws' := (MW g0 g1 g2 y4 y5 th (n) (w) T P)) [5, 6, 7] (by decide) rfl
    refine va_calli (va_runV (As := [.int a1, .int a2]) (rest := []) ⟨hx, hb, hml, hown, hts⟩ (c_X2_setText l D E g0 g1 g2 y4 y5 H.size (n) (w) th T P hn hw hT hPt (hDc.weaken (fun _ _ _ _ => trivial)) a1 a2) (cwV 2 hts gL_law_X2_setText rfl rfl rfl (by decide +kernel) ⟨Nat.le_of_ble_eq_true rfl, Nat.le_of_ble_eq_true rfl⟩) ⟨cp.blind, va_recv hK hP (ci := 1) (q0 := 5) rfl rfl, fun U hU hW => ⟨rfl, cp.call hPc hKm hE hS hFc hU hW⟩⟩ rfl rfl hl.1 rfl (lv_room (Nat.le_of_ble_eq_true rfl)) dL_law_324 ⟨by rw [hR1]; omega, by rw [hR2]; omega⟩) hS (fun q _ h => hFc q h) hFc (fun v324 u324 t H1 locs1 ht hvm e324 hB hz1 hk1 hS => ?_)
    obtain ⟨et324, ev324⟩ := e324
    obtain ⟨hP1, hD1⟩ := hB.2 hk0
    rw [ht] at hP1
    obtain ⟨hP, hD⟩ := va_join (wr := (LW h0 h1 h2 h3 b0 y1 y2 y3 y6 (n) (w) T P u.2 O)) (w1 := (MW g0 g1 g2 y4 y5 u324 (n) (w) T P)) hP hD [5, 6, 7] [0, 1, 2, 3, 4] rfl rfl (by decide) (by decide) hk1 hFc hP1 hD1
    have hP : va_P D vwCl (GW h0 h1 h2 h3 b0 g0 g1 g2 y1 y2 y3 y6 y4 y5 (n) (w) u324 T P u.2 O) H1 := hP
    have hD : va_D (fun q : Nat => s.heap.size ≤ q) (GW h0 h1 h2 h3 b0 g0 g1 g2 y1 y2 y3 y6 y4 y5 (n) (w) u324 T P u.2 O) := hD
    generalize H1 = H at hP hS ⊢
    generalize locs1 = locs at hS ⊢
    refine lv_istore (lv' := [(6, .int v324), (5, .int v306), (0, .ref b), (1, .ref h0), (2, .ref g0), (3, .ref b0), (4, .int x4)]) hx hb dL_law_327 hl (by decide) rfl (fun ls hl => ?_)
    refine lv_aload_n hx hb dL_law_329 rfl (lv_at hl 4 rfl) ?_
    have hPc := hP.sub (ws' := (MW g0 g1 g2 y4 y5 u324 (n) (w) T P)) [5, 6, 7] rfl
    refine va_calli (va_runV (As := []) (rest := []) ⟨hx, hb, hml, hown, hts⟩ (c_X2_thrown l D E g0 g1 g2 y4 y5 H.size (n) (w) u324 T P hn hw hT hPt) (cwV 0 hts gL_law_X2_thrown rfl rfl rfl (by decide +kernel) ⟨Nat.le_of_ble_eq_true rfl, Nat.le_of_ble_eq_true rfl⟩) ⟨cp.blind, va_recv hK hP (ci := 1) (q0 := 5) rfl rfl, fun U hU hW => ⟨rfl, cp.call hPc hKm hE hS (fr0 hS hA) hU hW⟩⟩ rfl rfl hl.1 rfl (lv_room (Nat.le_of_ble_eq_true rfl)) dL_law_330 ⟨by rw [hR1]; omega, by rw [hR2]; omega⟩) hS (fun q _ h => (fr0 hS hA) q h) (fr0 hS hA) (fun v330 u330 t H1 locs1 ht hvm e330 hB hz1 hk1 hS => ?_)
    have hP := kp hP hk1
    generalize H1 = H at hP hS ⊢
    generalize locs1 = locs at hS ⊢
    refine lv_iload hx hb dL_law_333 (lv_at hl 1 rfl) ?_
    refine z_icmp_eq (tgt := 340) hx hb dL_law_335 (by decide) (Eq.trans e330 et324) e306 (fun c335 => ?_) (fun c335 => ?_)
    · have _u := True.intro
      refine lv_iload hx hb dL_law_340 (lv_at hl 1 rfl) ?_
      refine z_if_ne (tgt := 357) hx hb dL_law_342 (by decide) e306 (fun c342 => ?_) (fun c342 => ?_)
      · have _u := True.intro
        refine lv_goto (tgt := 1453) hx hb dL_law_357 (by decide) ?_
        refine W.widen (k := 8 + 2 * c9 + 2) (n := 252 + 12 * c9 + 12) (by omega) (by omega) ?_
        exact K (n) (w) u324 T P u.2 O hn hw hT hPt _ _ hP hD hS _ (lv_sub hl [2, 3, 4, 5, 6] rfl)
      · have _u := True.intro
        exfalso; omega
    · exfalso; omega
set_option maxHeartbeats 4000000 in
set_option maxRecDepth 100000 in
theorem law_c3 {p : Program} {l : Launch} {e : Env} {s : State} {m : MethodId} {below : List Frame} {meth : Method} {c : Code} {D : va_G} {E : Nat × Nat × Nat} {b L : Nat} {xs : Nat → Int32} {h0 h1 h2 h3 b0 g0 g1 g2 : Nat} {y1 y2 y3 y6 y4 y5 : ClassId} {c9 : Nat} {x4 : Int32} {n w : Nat} {th : Int32} {T P M : Nat → Int32} {O : Nat → Int64} {H : Heap} {locs : List Loc} {ls : Array Slot} (hlt : l.stackTraces = false) (hEd : E.1 ≠ E.2.1 ∧ E.1 ≠ E.2.2 ∧ E.2.1 ≠ E.2.2) (hE : XEnv E (fun q : Nat => s.heap.size ≤ q) s s.heap) (hL : L ≤ 1536) (C0 : lw_At p s m meth c b L xs) (h4 : x4.toInt = ((3 * c9 : Nat) : Int)) (hc : 3 * c9 + 3 ≤ L) (hn : n ≤ 64) (hw : w ≤ 24) (hT : SymF T) (hPt : SymF P) (hK : va_K D vwCl (GT y1 y2 y3 y6 y4 y5) s) (hP : va_P D vwCl (GW h0 h1 h2 h3 b0 g0 g1 g2 y1 y2 y3 y6 y4 y5 n w th T P M O) H) (hD : va_D (fun q : Nat => s.heap.size ≤ q) (GW h0 h1 h2 h3 b0 g0 g1 g2 y1 y2 y3 y6 y4 y5 n w th T P M O)) (hS : va_S (fun q : Nat => s.heap.size ≤ q) s.heap H locs) (hl : lv_has ls 7 [(0, .ref b), (1, .ref h0), (2, .ref g0), (3, .ref b0), (4, .int x4)]) (K : LK p l e s m below meth c D b h0 h1 h2 h3 b0 g0 g1 g2 y1 y2 y3 y6 y4 y5 c9 x4) : W p l e room_1 s m #[Value.ref b] below meth c H locs (8 + 2 * c9) (252 + 12 * c9) (lw_Z below #[Value.ref b] s) (F0 m 360 ls []) := by
  obtain ⟨hx, hb, hr, hml, hown, hts0, hX, hbl, hlocks, hgv⟩ := C0
  have hts : ∀ w ∈ wsL_law, w.before #[Value.ref b] s = true := fun w h => hts0 w (wsL_law_in w h)
  have hA : ∀ q : Nat, s.heap.size ≤ q → (fun q : Nat => s.heap.size ≤ q) q := fun _ h => h
  have hbA : ¬ (fun q : Nat => s.heap.size ≤ q) b := Nat.not_le.mpr hbl
  have hR1 : room_1.cells = 1051 := rfl
  have hR2 : room_1.slots = 8558 := rfl
  have hKx := hK.sub (tys' := (XT y1 y2 y3)) [0, 1, 2] rfl
  have hKl := hK.sub (tys' := (LT y1 y2 y3 y6)) [0, 1, 2, 3] rfl
  have hKm := hK.sub (tys' := (MT y4 y5)) [4, 5] rfl
  refine lv_aload_n hx hb dL_law_360 rfl (lv_at hl 1 rfl) ?_
  refine lv_aload_n hx hb dL_law_361 rfl (lv_at hl 0 rfl) ?_
  refine lv_iload hx hb dL_law_362 (lv_at hl 4 rfl) ?_
  refine lv_iconst (v := 1) hx hb dL_law_364 (by decide) ?_
  refine z_iadd hx hb dL_law_365 h4 (show (1 : Int32).toInt = 1 by decide) (by omega) (by omega) (fun v365 e365 => ?_)
  have i366 : vp_in v365 L := vp_in_iff.mpr ⟨by omega, by omega⟩
  refine va_sld hx hb hX hbl hbA hS i366 dL_law_366 ?_
  refine lv_as (y := xs (3 * c9 + 1)) (congrArg xs (clN (Eq.trans e365 (by omega)))) ?_
  obtain ⟨a1, ha1⟩ : ∃ z, z = xs (3 * c9 + 1) := ⟨_, rfl⟩
  refine lv_as ha1.symm ?_
  refine lv_aload_n hx hb dL_law_367 rfl (lv_at hl 3 rfl) ?_
  have hPl := hP.sub (ws' := (LW h0 h1 h2 h3 b0 y1 y2 y3 y6 (n) (w) T P M O)) [0, 1, 2, 3, 4] rfl
  have hFc := va_free (wc := (LW h0 h1 h2 h3 b0 y1 y2 y3 y6 (n) (w) T P M O)) hD hS hA [0, 1, 2, 3, 4] rfl
  have hDl := hD.sub (ws' := (LW h0 h1 h2 h3 b0 y1 y2 y3 y6 (n) (w) T P M O)) [0, 1, 2, 3, 4] (by decide) rfl
  refine va_calli (vx_runSW (As := [.ref h0, .int a1, .ref b0]) (rest := []) ⟨hx, hb, hml, hown, hts⟩ (c_L_appendPattern l hlt D E h0 h1 h2 h3 b0 y1 y2 y3 y6 H.size n w T P M O hn hw hT hPt (hDl.weaken (fun _ _ _ _ => trivial)) a1) (vx_cwSW 3 hts gL_law_L_appendPattern rfl rfl rfl (by decide +kernel) ⟨Nat.le_of_ble_eq_true rfl, Nat.le_of_ble_eq_true rfl⟩) ⟨cp.blind, fun U hU hW => ⟨rfl, cp.call hPl hKl hE hS hFc hU hW⟩⟩ rfl rfl hl.1 rfl (lv_room (Nat.le_of_ble_eq_true rfl)) dL_law_368 ⟨by rw [hR1]; omega, by rw [hR2]; omega⟩) hS (fun q _ h => hFc q h) hFc (fun v368 u t H1 locs1 ht hvm ev hB hz1 hk1 hS => ?_)
  obtain ⟨e368, ev1⟩ := ev
  by_cases hk0 : kAP w a1.toInt = 0
  · have _u := True.intro
    obtain ⟨hP1, hD1⟩ := hB.1 hk0
    have hu1 := ev1 hk0
    rw [ht] at hP1
    obtain ⟨hP, hD⟩ := va_join (wr := (MW g0 g1 g2 y4 y5 th (n) (w) T P)) (w1 := (LW h0 h1 h2 h3 b0 y1 y2 y3 y6 (n) (w + 1) T (upd P (w) a1) u.2 (vp_updL O 0 u.1.toInt64))) hP hD [0, 1, 2, 3, 4] [5, 6, 7] rfl rfl (by decide) (by decide) hk1 hFc hP1 hD1
    have hP := hP.sub (ws' := [(h0, .inr (0, [.ref h1, .ref h2, .ref h3, .int (nI (n)), .int (nI (w + 1))])), (h1, .inl (y1, 64, .inl T)), (h2, .inl (y2, 24, .inl (upd P (w) a1))), (h3, .inl (y3, 65, .inl u.2)), (b0, .inl (y6, 1, .inr (.inl (vp_updL O 0 u.1.toInt64)))), (g0, .inr (1, [.int th, .ref g1, .ref g2, .int (nI (n)), .int (nI (w))])), (g1, .inl (y4, 64, .inl T)), (g2, .inl (y5, 24, .inl P))]) [3, 4, 5, 6, 7, 0, 1, 2] rfl
    have hD := hD.sub (ws' := [(h0, .inr (0, [.ref h1, .ref h2, .ref h3, .int (nI (n)), .int (nI (w + 1))])), (h1, .inl (y1, 64, .inl T)), (h2, .inl (y2, 24, .inl (upd P (w) a1))), (h3, .inl (y3, 65, .inl u.2)), (b0, .inl (y6, 1, .inr (.inl (vp_updL O 0 u.1.toInt64)))), (g0, .inr (1, [.int th, .ref g1, .ref g2, .int (nI (n)), .int (nI (w))])), (g1, .inl (y4, 64, .inl T)), (g2, .inl (y5, 24, .inl P))]) [3, 4, 5, 6, 7, 0, 1, 2] (by decide) rfl
    generalize H1 = H at hP hS ⊢
    generalize locs1 = locs at hS ⊢
    refine lv_istore (lv' := [(5, .int v368), (0, .ref b), (1, .ref h0), (2, .ref g0), (3, .ref b0), (4, .int x4)]) hx hb dL_law_371 hl (by decide) rfl (fun ls hl => ?_)
    refine lv_aload_n hx hb dL_law_373 rfl (lv_at hl 3 rfl) ?_
    refine lv_aload_n hx hb dL_law_374 rfl (lv_at hl 1 rfl) ?_
    refine lv_iload hx hb dL_law_375 (lv_at hl 5 rfl) ?_
    refine lv_iconst (v := 1) hx hb dL_law_377 (by decide) ?_
    refine z_iadd hx hb dL_law_378 h4 (show (1 : Int32).toInt = 1 by decide) (by omega) (by omega) (fun v378 e378 => ?_)
    have i379 : vp_in v378 L := vp_in_iff.mpr ⟨by omega, by omega⟩
    refine va_sld hx hb hX hbl hbA hS i379 dL_law_379 ?_
    refine lv_as (y := xs (3 * c9 + 1)) (congrArg xs (clN (Eq.trans e378 (by omega)))) ?_
    refine lv_as ha1.symm ?_
    have hPc := hP.sub (ws' := (MW g0 g1 g2 y4 y5 th (n) (w) T P)) [5, 6, 7] rfl
    have hFc := va_free (wc := (MW g0 g1 g2 y4 y5 th (n) (w) T P)) hD hS hA [5, 6, 7] rfl
    have hDc := hD.sub (ws' := (MW g0 g1 g2 y4 y5 th (n) (w) T P)) [5, 6, 7] (by decide) rfl
    refine va_calli (va_runV (As := [.int a1]) (rest := []) ⟨hx, hb, hml, hown, hts⟩ (c_X2_appendPattern l D E g0 g1 g2 y4 y5 H.size (n) (w) th T P hn hw hT hPt (hDc.weaken (fun _ _ _ _ => trivial)) a1) (cwV 1 hts gL_law_X2_appendPattern rfl rfl rfl (by decide +kernel) ⟨Nat.le_of_ble_eq_true rfl, Nat.le_of_ble_eq_true rfl⟩) ⟨cp.blind, va_recv hK hP (ci := 1) (q0 := 5) rfl rfl, fun U hU hW => ⟨rfl, cp.call hPc hKm hE hS hFc hU hW⟩⟩ rfl rfl hl.1 rfl (lv_room (Nat.le_of_ble_eq_true rfl)) dL_law_380 ⟨by rw [hR1]; omega, by rw [hR2]; omega⟩) hS (fun q _ h => hFc q h) hFc (fun v380 u380 t H1 locs1 ht hvm e380 hB hz1 hk1 hS => ?_)
    obtain ⟨et380, ev380⟩ := e380
    obtain ⟨hP1, hD1⟩ := hB.1 hk0
    have e380 := ev380 hk0
    rw [ht] at hP1
    obtain ⟨hP, hD⟩ := va_join (wr := (LW h0 h1 h2 h3 b0 y1 y2 y3 y6 (n) (w + 1) T (upd P (w) a1) u.2 (vp_updL O 0 u.1.toInt64))) (w1 := (MW g0 g1 g2 y4 y5 u380 (n) (w + 1) T (upd P (w) a1))) hP hD [5, 6, 7] [0, 1, 2, 3, 4] rfl rfl (by decide) (by decide) hk1 hFc hP1 hD1
    have hP : va_P D vwCl (GW h0 h1 h2 h3 b0 g0 g1 g2 y1 y2 y3 y6 y4 y5 (n) (w + 1) u380 T (upd P (w) a1) u.2 (vp_updL O 0 u.1.toInt64)) H1 := hP
    have hD : va_D (fun q : Nat => s.heap.size ≤ q) (GW h0 h1 h2 h3 b0 g0 g1 g2 y1 y2 y3 y6 y4 y5 (n) (w + 1) u380 T (upd P (w) a1) u.2 (vp_updL O 0 u.1.toInt64)) := hD
    generalize H1 = H at hP hS ⊢
    generalize locs1 = locs at hS ⊢
    refine lv_istore (lv' := [(6, .int v380), (5, .int v368), (0, .ref b), (1, .ref h0), (2, .ref g0), (3, .ref b0), (4, .int x4)]) hx hb dL_law_383 hl (by decide) rfl (fun ls hl => ?_)
    refine lv_aload_n hx hb dL_law_385 rfl (lv_at hl 4 rfl) ?_
    have hPc := hP.sub (ws' := (MW g0 g1 g2 y4 y5 u380 (n) (w + 1) T (upd P (w) a1))) [5, 6, 7] rfl
    refine va_calli (va_runV (As := []) (rest := []) ⟨hx, hb, hml, hown, hts⟩ (c_X2_thrown l D E g0 g1 g2 y4 y5 H.size (n) (w + 1) u380 T (upd P (w) a1) hn (by have q := kAP_0 hk0; omega) hT (SymF.upd hPt _ ⟨(kAP_0 hk0).1, (kAP_0 hk0).2.1⟩)) (cwV 0 hts gL_law_X2_thrown rfl rfl rfl (by decide +kernel) ⟨Nat.le_of_ble_eq_true rfl, Nat.le_of_ble_eq_true rfl⟩) ⟨cp.blind, va_recv hK hP (ci := 1) (q0 := 5) rfl rfl, fun U hU hW => ⟨rfl, cp.call hPc hKm hE hS (fr0 hS hA) hU hW⟩⟩ rfl rfl hl.1 rfl (lv_room (Nat.le_of_ble_eq_true rfl)) dL_law_386 ⟨by rw [hR1]; omega, by rw [hR2]; omega⟩) hS (fun q _ h => (fr0 hS hA) q h) (fr0 hS hA) (fun v386 u386 t H1 locs1 ht hvm e386 hB hz1 hk1 hS => ?_)
    have hP := kp hP hk1
    generalize H1 = H at hP hS ⊢
    generalize locs1 = locs at hS ⊢
    refine lv_iload hx hb dL_law_389 (lv_at hl 1 rfl) ?_
    refine z_icmp_eq (tgt := 396) hx hb dL_law_391 (by decide) (Eq.trans e386 et380) e368 (fun c391 => ?_) (fun c391 => ?_)
    · have _u := True.intro
      refine lv_iload hx hb dL_law_396 (lv_at hl 1 rfl) ?_
      refine z_if_ne (tgt := 413) hx hb dL_law_398 (by decide) e368 (fun c398 => ?_) (fun c398 => ?_)
      · have _u := True.intro
        exfalso; omega
      · have _u := True.intro
        refine lv_aload_n hx hb dL_law_401 rfl (lv_at hl 5 rfl) ?_
        refine lv_iconst (v := 0) hx hb dL_law_402 (by decide) ?_
        refine z_lald hx hb hK hP 4 3 rfl rfl 0 (show (0 : Int32).toInt = 0 by decide) rfl (by decide) dL_law_403 ?_
        refine lv_iload hx hb dL_law_404 (lv_at hl 0 rfl) ?_
        refine z_i2l hx hb dL_law_406 e380 (fun v406 e406 => ?_)
        refine z_lcmp hx hb dL_law_407 (show ((vp_updL O 0 u.1.toInt64) 0).toInt = u.1.toInt by rw [pk_uLs, Int32.toInt_toInt64]) e406 (fun v407 z407 e407 f407 k407 => ?_)
        refine z_if_eq (tgt := 413) hx hb dL_law_408 (by decide) e407 (fun c408 => ?_) (fun c408 => ?_)
        · have _u := True.intro
          refine lv_goto (tgt := 1453) hx hb dL_law_413 (by decide) ?_
          refine W.widen (k := 8 + 2 * c9 + 2) (n := 252 + 12 * c9 + 12) (by omega) (by omega) ?_
          exact K (n) (w + 1) u380 T (upd P (w) a1) u.2 (vp_updL O 0 u.1.toInt64) hn (by have q := kAP_0 hk0; omega) hT (SymF.upd hPt _ ⟨(kAP_0 hk0).1, (kAP_0 hk0).2.1⟩) _ _ hP hD hS _ (lv_sub hl [2, 3, 4, 5, 6] rfl)
        · exfalso; omega
    · exfalso; omega
  · have _u := True.intro
    obtain ⟨hP1, hD1⟩ := hB.2 hk0
    rw [ht] at hP1
    obtain ⟨hP, hD⟩ := va_join (wr := (MW g0 g1 g2 y4 y5 th (n) (w) T P)) (w1 := (LW h0 h1 h2 h3 b0 y1 y2 y3 y6 (n) (w) T P u.2 O)) hP hD [0, 1, 2, 3, 4] [5, 6, 7] rfl rfl (by decide) (by decide) hk1 hFc hP1 hD1
    have hP := hP.sub (ws' := (GW h0 h1 h2 h3 b0 g0 g1 g2 y1 y2 y3 y6 y4 y5 (n) (w) th T P u.2 O)) [3, 4, 5, 6, 7, 0, 1, 2] rfl
    have hD := hD.sub (ws' := (GW h0 h1 h2 h3 b0 g0 g1 g2 y1 y2 y3 y6 y4 y5 (n) (w) th T P u.2 O)) [3, 4, 5, 6, 7, 0, 1, 2] (by decide) rfl
    generalize H1 = H at hP hS ⊢
    generalize locs1 = locs at hS ⊢
    refine lv_istore (lv' := [(5, .int v368), (0, .ref b), (1, .ref h0), (2, .ref g0), (3, .ref b0), (4, .int x4)]) hx hb dL_law_371 hl (by decide) rfl (fun ls hl => ?_)
    refine lv_aload_n hx hb dL_law_373 rfl (lv_at hl 3 rfl) ?_
    refine lv_aload_n hx hb dL_law_374 rfl (lv_at hl 1 rfl) ?_
    refine lv_iload hx hb dL_law_375 (lv_at hl 5 rfl) ?_
    refine lv_iconst (v := 1) hx hb dL_law_377 (by decide) ?_
    refine z_iadd hx hb dL_law_378 h4 (show (1 : Int32).toInt = 1 by decide) (by omega) (by omega) (fun v378 e378 => ?_)
    have i379 : vp_in v378 L := vp_in_iff.mpr ⟨by omega, by omega⟩
    refine va_sld hx hb hX hbl hbA hS i379 dL_law_379 ?_
    refine lv_as (y := xs (3 * c9 + 1)) (congrArg xs (clN (Eq.trans e378 (by omega)))) ?_
    refine lv_as ha1.symm ?_
    have hPc := hP.sub (ws' := (MW g0 g1 g2 y4 y5 th (n) (w) T P)) [5, 6, 7] rfl
    have hFc := va_free (wc := (MW g0 g1 g2 y4 y5 th (n) (w) T P)) hD hS hA [5, 6, 7] rfl
    have hDc := hD.sub (ws' := (MW g0 g1 g2 y4 y5 th (n) (w) T P)) [5, 6, 7] (by decide) rfl
    refine va_calli (va_runV (As := [.int a1]) (rest := []) ⟨hx, hb, hml, hown, hts⟩ (c_X2_appendPattern l D E g0 g1 g2 y4 y5 H.size (n) (w) th T P hn hw hT hPt (hDc.weaken (fun _ _ _ _ => trivial)) a1) (cwV 1 hts gL_law_X2_appendPattern rfl rfl rfl (by decide +kernel) ⟨Nat.le_of_ble_eq_true rfl, Nat.le_of_ble_eq_true rfl⟩) ⟨cp.blind, va_recv hK hP (ci := 1) (q0 := 5) rfl rfl, fun U hU hW => ⟨rfl, cp.call hPc hKm hE hS hFc hU hW⟩⟩ rfl rfl hl.1 rfl (lv_room (Nat.le_of_ble_eq_true rfl)) dL_law_380 ⟨by rw [hR1]; omega, by rw [hR2]; omega⟩) hS (fun q _ h => hFc q h) hFc (fun v380 u380 t H1 locs1 ht hvm e380 hB hz1 hk1 hS => ?_)
    obtain ⟨et380, ev380⟩ := e380
    obtain ⟨hP1, hD1⟩ := hB.2 hk0
    rw [ht] at hP1
    obtain ⟨hP, hD⟩ := va_join (wr := (LW h0 h1 h2 h3 b0 y1 y2 y3 y6 (n) (w) T P u.2 O)) (w1 := (MW g0 g1 g2 y4 y5 u380 (n) (w) T P)) hP hD [5, 6, 7] [0, 1, 2, 3, 4] rfl rfl (by decide) (by decide) hk1 hFc hP1 hD1
    have hP : va_P D vwCl (GW h0 h1 h2 h3 b0 g0 g1 g2 y1 y2 y3 y6 y4 y5 (n) (w) u380 T P u.2 O) H1 := hP
    have hD : va_D (fun q : Nat => s.heap.size ≤ q) (GW h0 h1 h2 h3 b0 g0 g1 g2 y1 y2 y3 y6 y4 y5 (n) (w) u380 T P u.2 O) := hD
    generalize H1 = H at hP hS ⊢
    generalize locs1 = locs at hS ⊢
    refine lv_istore (lv' := [(6, .int v380), (5, .int v368), (0, .ref b), (1, .ref h0), (2, .ref g0), (3, .ref b0), (4, .int x4)]) hx hb dL_law_383 hl (by decide) rfl (fun ls hl => ?_)
    refine lv_aload_n hx hb dL_law_385 rfl (lv_at hl 4 rfl) ?_
    have hPc := hP.sub (ws' := (MW g0 g1 g2 y4 y5 u380 (n) (w) T P)) [5, 6, 7] rfl
    refine va_calli (va_runV (As := []) (rest := []) ⟨hx, hb, hml, hown, hts⟩ (c_X2_thrown l D E g0 g1 g2 y4 y5 H.size (n) (w) u380 T P hn hw hT hPt) (cwV 0 hts gL_law_X2_thrown rfl rfl rfl (by decide +kernel) ⟨Nat.le_of_ble_eq_true rfl, Nat.le_of_ble_eq_true rfl⟩) ⟨cp.blind, va_recv hK hP (ci := 1) (q0 := 5) rfl rfl, fun U hU hW => ⟨rfl, cp.call hPc hKm hE hS (fr0 hS hA) hU hW⟩⟩ rfl rfl hl.1 rfl (lv_room (Nat.le_of_ble_eq_true rfl)) dL_law_386 ⟨by rw [hR1]; omega, by rw [hR2]; omega⟩) hS (fun q _ h => (fr0 hS hA) q h) (fr0 hS hA) (fun v386 u386 t H1 locs1 ht hvm e386 hB hz1 hk1 hS => ?_)
    have hP := kp hP hk1
    generalize H1 = H at hP hS ⊢
    generalize locs1 = locs at hS ⊢
    refine lv_iload hx hb dL_law_389 (lv_at hl 1 rfl) ?_
    refine z_icmp_eq (tgt := 396) hx hb dL_law_391 (by decide) (Eq.trans e386 et380) e368 (fun c391 => ?_) (fun c391 => ?_)
    · have _u := True.intro
      refine lv_iload hx hb dL_law_396 (lv_at hl 1 rfl) ?_
      refine z_if_ne (tgt := 413) hx hb dL_law_398 (by decide) e368 (fun c398 => ?_) (fun c398 => ?_)
      · have _u := True.intro
        refine lv_goto (tgt := 1453) hx hb dL_law_413 (by decide) ?_
        refine W.widen (k := 8 + 2 * c9 + 2) (n := 252 + 12 * c9 + 12) (by omega) (by omega) ?_
        exact K (n) (w) u380 T P u.2 O hn hw hT hPt _ _ hP hD hS _ (lv_sub hl [2, 3, 4, 5, 6] rfl)
      · have _u := True.intro
        exfalso; omega
    · exfalso; omega
set_option maxHeartbeats 4000000 in
set_option maxRecDepth 100000 in
theorem law_c4 {p : Program} {l : Launch} {e : Env} {s : State} {m : MethodId} {below : List Frame} {meth : Method} {c : Code} {D : va_G} {E : Nat × Nat × Nat} {b L : Nat} {xs : Nat → Int32} {h0 h1 h2 h3 b0 g0 g1 g2 : Nat} {y1 y2 y3 y6 y4 y5 : ClassId} {c9 : Nat} {x4 : Int32} {n w : Nat} {th : Int32} {T P M : Nat → Int32} {O : Nat → Int64} {H : Heap} {locs : List Loc} {ls : Array Slot} (hlt : l.stackTraces = false) (hEd : E.1 ≠ E.2.1 ∧ E.1 ≠ E.2.2 ∧ E.2.1 ≠ E.2.2) (hE : XEnv E (fun q : Nat => s.heap.size ≤ q) s s.heap) (hL : L ≤ 1536) (C0 : lw_At p s m meth c b L xs) (h4 : x4.toInt = ((3 * c9 : Nat) : Int)) (hc : 3 * c9 + 3 ≤ L) (hn : n ≤ 64) (hw : w ≤ 24) (hT : SymF T) (hPt : SymF P) (hK : va_K D vwCl (GT y1 y2 y3 y6 y4 y5) s) (hP : va_P D vwCl (GW h0 h1 h2 h3 b0 g0 g1 g2 y1 y2 y3 y6 y4 y5 n w th T P M O) H) (hD : va_D (fun q : Nat => s.heap.size ≤ q) (GW h0 h1 h2 h3 b0 g0 g1 g2 y1 y2 y3 y6 y4 y5 n w th T P M O)) (hS : va_S (fun q : Nat => s.heap.size ≤ q) s.heap H locs) (hl : lv_has ls 7 [(0, .ref b), (1, .ref h0), (2, .ref g0), (3, .ref b0), (4, .int x4)]) (K : LK p l e s m below meth c D b h0 h1 h2 h3 b0 g0 g1 g2 y1 y2 y3 y6 y4 y5 c9 x4) : W p l e room_1 s m #[Value.ref b] below meth c H locs (8 + 2 * c9) (252 + 12 * c9) (lw_Z below #[Value.ref b] s) (F0 m 416 ls []) := by
  obtain ⟨hx, hb, hr, hml, hown, hts0, hX, hbl, hlocks, hgv⟩ := C0
  have hts : ∀ w ∈ wsL_law, w.before #[Value.ref b] s = true := fun w h => hts0 w (wsL_law_in w h)
  have hA : ∀ q : Nat, s.heap.size ≤ q → (fun q : Nat => s.heap.size ≤ q) q := fun _ h => h
  have hbA : ¬ (fun q : Nat => s.heap.size ≤ q) b := Nat.not_le.mpr hbl
  have hR1 : room_1.cells = 1051 := rfl
  have hR2 : room_1.slots = 8558 := rfl
  have hKx := hK.sub (tys' := (XT y1 y2 y3)) [0, 1, 2] rfl
  have hKl := hK.sub (tys' := (LT y1 y2 y3 y6)) [0, 1, 2, 3] rfl
  have hKm := hK.sub (tys' := (MT y4 y5)) [4, 5] rfl
  refine lv_aload_n hx hb dL_law_416 rfl (lv_at hl 1 rfl) ?_
  refine lv_aload_n hx hb dL_law_417 rfl (lv_at hl 0 rfl) ?_
  refine lv_iload hx hb dL_law_418 (lv_at hl 4 rfl) ?_
  refine lv_iconst (v := 1) hx hb dL_law_420 (by decide) ?_
  refine z_iadd hx hb dL_law_421 h4 (show (1 : Int32).toInt = 1 by decide) (by omega) (by omega) (fun v421 e421 => ?_)
  have i422 : vp_in v421 L := vp_in_iff.mpr ⟨by omega, by omega⟩
  refine va_sld hx hb hX hbl hbA hS i422 dL_law_422 ?_
  refine lv_as (y := xs (3 * c9 + 1)) (congrArg xs (clN (Eq.trans e421 (by omega)))) ?_
  obtain ⟨a1, ha1⟩ : ∃ z, z = xs (3 * c9 + 1) := ⟨_, rfl⟩
  refine lv_as ha1.symm ?_
  refine lv_aload_n hx hb dL_law_423 rfl (lv_at hl 0 rfl) ?_
  refine lv_iload hx hb dL_law_424 (lv_at hl 4 rfl) ?_
  refine lv_iconst (v := 2) hx hb dL_law_426 (by decide) ?_
  refine z_iadd hx hb dL_law_427 h4 (show (2 : Int32).toInt = 2 by decide) (by omega) (by omega) (fun v427 e427 => ?_)
  have i428 : vp_in v427 L := vp_in_iff.mpr ⟨by omega, by omega⟩
  refine va_sld hx hb hX hbl hbA hS i428 dL_law_428 ?_
  refine lv_as (y := xs (3 * c9 + 2)) (congrArg xs (clN (Eq.trans e427 (by omega)))) ?_
  obtain ⟨a2, ha2⟩ : ∃ z, z = xs (3 * c9 + 2) := ⟨_, rfl⟩
  refine lv_as ha2.symm ?_
  refine lv_aload_n hx hb dL_law_429 rfl (lv_at hl 3 rfl) ?_
  have hPl := hP.sub (ws' := (LW h0 h1 h2 h3 b0 y1 y2 y3 y6 (n) (w) T P M O)) [0, 1, 2, 3, 4] rfl
  have hFc := va_free (wc := (LW h0 h1 h2 h3 b0 y1 y2 y3 y6 (n) (w) T P M O)) hD hS hA [0, 1, 2, 3, 4] rfl
  have hDl := hD.sub (ws' := (LW h0 h1 h2 h3 b0 y1 y2 y3 y6 (n) (w) T P M O)) [0, 1, 2, 3, 4] (by decide) rfl
  refine va_calli (vx_runSW (As := [.ref h0, .int a1, .int a2, .ref b0]) (rest := []) ⟨hx, hb, hml, hown, hts⟩ (c_L_setPattern l hlt D E h0 h1 h2 h3 b0 y1 y2 y3 y6 H.size n w T P M O hn hw hT hPt (hDl.weaken (fun _ _ _ _ => trivial)) a1 a2) (vx_cwSW 4 hts gL_law_L_setPattern rfl rfl rfl (by decide +kernel) ⟨Nat.le_of_ble_eq_true rfl, Nat.le_of_ble_eq_true rfl⟩) ⟨cp.blind, fun U hU hW => ⟨rfl, cp.call hPl hKl hE hS hFc hU hW⟩⟩ rfl rfl hl.1 rfl (lv_room (Nat.le_of_ble_eq_true rfl)) dL_law_430 ⟨by rw [hR1]; omega, by rw [hR2]; omega⟩) hS (fun q _ h => hFc q h) hFc (fun v430 u t H1 locs1 ht hvm ev hB hz1 hk1 hS => ?_)
  obtain ⟨e430, ev1⟩ := ev
  by_cases hk0 : kST w a1.toInt a2.toInt = 0
  · have _u := True.intro
    obtain ⟨hP1, hD1⟩ := hB.1 hk0
    have hu1 := ev1 hk0
    rw [ht] at hP1
    obtain ⟨hP, hD⟩ := va_join (wr := (MW g0 g1 g2 y4 y5 th (n) (w) T P)) (w1 := (LW h0 h1 h2 h3 b0 y1 y2 y3 y6 (n) (w) T (upd P (a1.toInt.toNat) a2) u.2 (vp_updL O 0 u.1.toInt64))) hP hD [0, 1, 2, 3, 4] [5, 6, 7] rfl rfl (by decide) (by decide) hk1 hFc hP1 hD1
    have hP := hP.sub (ws' := [(h0, .inr (0, [.ref h1, .ref h2, .ref h3, .int (nI (n)), .int (nI (w))])), (h1, .inl (y1, 64, .inl T)), (h2, .inl (y2, 24, .inl (upd P (a1.toInt.toNat) a2))), (h3, .inl (y3, 65, .inl u.2)), (b0, .inl (y6, 1, .inr (.inl (vp_updL O 0 u.1.toInt64)))), (g0, .inr (1, [.int th, .ref g1, .ref g2, .int (nI (n)), .int (nI (w))])), (g1, .inl (y4, 64, .inl T)), (g2, .inl (y5, 24, .inl P))]) [3, 4, 5, 6, 7, 0, 1, 2] rfl
    have hD := hD.sub (ws' := [(h0, .inr (0, [.ref h1, .ref h2, .ref h3, .int (nI (n)), .int (nI (w))])), (h1, .inl (y1, 64, .inl T)), (h2, .inl (y2, 24, .inl (upd P (a1.toInt.toNat) a2))), (h3, .inl (y3, 65, .inl u.2)), (b0, .inl (y6, 1, .inr (.inl (vp_updL O 0 u.1.toInt64)))), (g0, .inr (1, [.int th, .ref g1, .ref g2, .int (nI (n)), .int (nI (w))])), (g1, .inl (y4, 64, .inl T)), (g2, .inl (y5, 24, .inl P))]) [3, 4, 5, 6, 7, 0, 1, 2] (by decide) rfl
    generalize H1 = H at hP hS ⊢
    generalize locs1 = locs at hS ⊢
    refine lv_istore (lv' := [(5, .int v430), (0, .ref b), (1, .ref h0), (2, .ref g0), (3, .ref b0), (4, .int x4)]) hx hb dL_law_433 hl (by decide) rfl (fun ls hl => ?_)
    refine lv_aload_n hx hb dL_law_435 rfl (lv_at hl 3 rfl) ?_
    refine lv_aload_n hx hb dL_law_436 rfl (lv_at hl 1 rfl) ?_
    refine lv_iload hx hb dL_law_437 (lv_at hl 5 rfl) ?_
    refine lv_iconst (v := 1) hx hb dL_law_439 (by decide) ?_
    refine z_iadd hx hb dL_law_440 h4 (show (1 : Int32).toInt = 1 by decide) (by omega) (by omega) (fun v440 e440 => ?_)
    have i441 : vp_in v440 L := vp_in_iff.mpr ⟨by omega, by omega⟩
    refine va_sld hx hb hX hbl hbA hS i441 dL_law_441 ?_
    refine lv_as (y := xs (3 * c9 + 1)) (congrArg xs (clN (Eq.trans e440 (by omega)))) ?_
    refine lv_as ha1.symm ?_
    refine lv_aload_n hx hb dL_law_442 rfl (lv_at hl 1 rfl) ?_
    refine lv_iload hx hb dL_law_443 (lv_at hl 5 rfl) ?_
    refine lv_iconst (v := 2) hx hb dL_law_445 (by decide) ?_
    refine z_iadd hx hb dL_law_446 h4 (show (2 : Int32).toInt = 2 by decide) (by omega) (by omega) (fun v446 e446 => ?_)
    have i447 : vp_in v446 L := vp_in_iff.mpr ⟨by omega, by omega⟩
    refine va_sld hx hb hX hbl hbA hS i447 dL_law_447 ?_
    refine lv_as (y := xs (3 * c9 + 2)) (congrArg xs (clN (Eq.trans e446 (by omega)))) ?_
    refine lv_as ha2.symm ?_
    have hPc := hP.sub (ws' := (MW g0 g1 g2 y4 y5 th (n) (w) T P)) [5, 6, 7] rfl
    have hFc := va_free (wc := (MW g0 g1 g2 y4 y5 th (n) (w) T P)) hD hS hA [5, 6, 7] rfl
    have hDc := hD.sub (ws' := (MW g0 g1 g2 y4 y5 th (n) (w) T P)) [5, 6, 7] (by decide) rfl
    refine va_calli (va_runV (As := [.int a1, .int a2]) (rest := []) ⟨hx, hb, hml, hown, hts⟩ (c_X2_setPattern l D E g0 g1 g2 y4 y5 H.size (n) (w) th T P hn hw hT hPt (hDc.weaken (fun _ _ _ _ => trivial)) a1 a2) (cwV 2 hts gL_law_X2_setPattern rfl rfl rfl (by decide +kernel) ⟨Nat.le_of_ble_eq_true rfl, Nat.le_of_ble_eq_true rfl⟩) ⟨cp.blind, va_recv hK hP (ci := 1) (q0 := 5) rfl rfl, fun U hU hW => ⟨rfl, cp.call hPc hKm hE hS hFc hU hW⟩⟩ rfl rfl hl.1 rfl (lv_room (Nat.le_of_ble_eq_true rfl)) dL_law_448 ⟨by rw [hR1]; omega, by rw [hR2]; omega⟩) hS (fun q _ h => hFc q h) hFc (fun v448 u448 t H1 locs1 ht hvm e448 hB hz1 hk1 hS => ?_)
    obtain ⟨et448, ev448⟩ := e448
    obtain ⟨hP1, hD1⟩ := hB.1 hk0
    have e448 := ev448 hk0
    rw [ht] at hP1
    obtain ⟨hP, hD⟩ := va_join (wr := (LW h0 h1 h2 h3 b0 y1 y2 y3 y6 (n) (w) T (upd P (a1.toInt.toNat) a2) u.2 (vp_updL O 0 u.1.toInt64))) (w1 := (MW g0 g1 g2 y4 y5 u448 (n) (w) T (upd P (a1.toInt.toNat) a2))) hP hD [5, 6, 7] [0, 1, 2, 3, 4] rfl rfl (by decide) (by decide) hk1 hFc hP1 hD1
    have hP : va_P D vwCl (GW h0 h1 h2 h3 b0 g0 g1 g2 y1 y2 y3 y6 y4 y5 (n) (w) u448 T (upd P (a1.toInt.toNat) a2) u.2 (vp_updL O 0 u.1.toInt64)) H1 := hP
    have hD : va_D (fun q : Nat => s.heap.size ≤ q) (GW h0 h1 h2 h3 b0 g0 g1 g2 y1 y2 y3 y6 y4 y5 (n) (w) u448 T (upd P (a1.toInt.toNat) a2) u.2 (vp_updL O 0 u.1.toInt64)) := hD
    generalize H1 = H at hP hS ⊢
    generalize locs1 = locs at hS ⊢
    refine lv_istore (lv' := [(6, .int v448), (5, .int v430), (0, .ref b), (1, .ref h0), (2, .ref g0), (3, .ref b0), (4, .int x4)]) hx hb dL_law_451 hl (by decide) rfl (fun ls hl => ?_)
    refine lv_aload_n hx hb dL_law_453 rfl (lv_at hl 4 rfl) ?_
    have hPc := hP.sub (ws' := (MW g0 g1 g2 y4 y5 u448 (n) (w) T (upd P (a1.toInt.toNat) a2))) [5, 6, 7] rfl
    refine va_calli (va_runV (As := []) (rest := []) ⟨hx, hb, hml, hown, hts⟩ (c_X2_thrown l D E g0 g1 g2 y4 y5 H.size (n) (w) u448 T (upd P (a1.toInt.toNat) a2) hn hw hT (SymF.upd hPt _ ⟨(kST_0 hk0).2.2.1, (kST_0 hk0).2.2.2⟩)) (cwV 0 hts gL_law_X2_thrown rfl rfl rfl (by decide +kernel) ⟨Nat.le_of_ble_eq_true rfl, Nat.le_of_ble_eq_true rfl⟩) ⟨cp.blind, va_recv hK hP (ci := 1) (q0 := 5) rfl rfl, fun U hU hW => ⟨rfl, cp.call hPc hKm hE hS (fr0 hS hA) hU hW⟩⟩ rfl rfl hl.1 rfl (lv_room (Nat.le_of_ble_eq_true rfl)) dL_law_454 ⟨by rw [hR1]; omega, by rw [hR2]; omega⟩) hS (fun q _ h => (fr0 hS hA) q h) (fr0 hS hA) (fun v454 u454 t H1 locs1 ht hvm e454 hB hz1 hk1 hS => ?_)
    have hP := kp hP hk1
    generalize H1 = H at hP hS ⊢
    generalize locs1 = locs at hS ⊢
    refine lv_iload hx hb dL_law_457 (lv_at hl 1 rfl) ?_
    refine z_icmp_eq (tgt := 464) hx hb dL_law_459 (by decide) (Eq.trans e454 et448) e430 (fun c459 => ?_) (fun c459 => ?_)
    · have _u := True.intro
      refine lv_iload hx hb dL_law_464 (lv_at hl 1 rfl) ?_
      refine z_if_ne (tgt := 481) hx hb dL_law_466 (by decide) e430 (fun c466 => ?_) (fun c466 => ?_)
      · have _u := True.intro
        exfalso; omega
      · have _u := True.intro
        refine lv_aload_n hx hb dL_law_469 rfl (lv_at hl 5 rfl) ?_
        refine lv_iconst (v := 0) hx hb dL_law_470 (by decide) ?_
        refine z_lald hx hb hK hP 4 3 rfl rfl 0 (show (0 : Int32).toInt = 0 by decide) rfl (by decide) dL_law_471 ?_
        refine lv_iload hx hb dL_law_472 (lv_at hl 0 rfl) ?_
        refine z_i2l hx hb dL_law_474 e448 (fun v474 e474 => ?_)
        refine z_lcmp hx hb dL_law_475 (show ((vp_updL O 0 u.1.toInt64) 0).toInt = u.1.toInt by rw [pk_uLs, Int32.toInt_toInt64]) e474 (fun v475 z475 e475 f475 k475 => ?_)
        refine z_if_eq (tgt := 481) hx hb dL_law_476 (by decide) e475 (fun c476 => ?_) (fun c476 => ?_)
        · have _u := True.intro
          refine lv_goto (tgt := 1453) hx hb dL_law_481 (by decide) ?_
          refine W.widen (k := 8 + 2 * c9 + 2) (n := 252 + 12 * c9 + 12) (by omega) (by omega) ?_
          exact K (n) (w) u448 T (upd P (a1.toInt.toNat) a2) u.2 (vp_updL O 0 u.1.toInt64) hn hw hT (SymF.upd hPt _ ⟨(kST_0 hk0).2.2.1, (kST_0 hk0).2.2.2⟩) _ _ hP hD hS _ (lv_sub hl [2, 3, 4, 5, 6] rfl)
        · exfalso; omega
    · exfalso; omega
  · have _u := True.intro
    obtain ⟨hP1, hD1⟩ := hB.2 hk0
    rw [ht] at hP1
    obtain ⟨hP, hD⟩ := va_join (wr := (MW g0 g1 g2 y4 y5 th (n) (w) T P)) (w1 := (LW h0 h1 h2 h3 b0 y1 y2 y3 y6 (n) (w) T P u.2 O)) hP hD [0, 1, 2, 3, 4] [5, 6, 7] rfl rfl (by decide) (by decide) hk1 hFc hP1 hD1
    have hP := hP.sub (ws' := (GW h0 h1 h2 h3 b0 g0 g1 g2 y1 y2 y3 y6 y4 y5 (n) (w) th T P u.2 O)) [3, 4, 5, 6, 7, 0, 1, 2] rfl
    have hD := hD.sub (ws' := (GW h0 h1 h2 h3 b0 g0 g1 g2 y1 y2 y3 y6 y4 y5 (n) (w) th T P u.2 O)) [3, 4, 5, 6, 7, 0, 1, 2] (by decide) rfl
    generalize H1 = H at hP hS ⊢
    generalize locs1 = locs at hS ⊢
    refine lv_istore (lv' := [(5, .int v430), (0, .ref b), (1, .ref h0), (2, .ref g0), (3, .ref b0), (4, .int x4)]) hx hb dL_law_433 hl (by decide) rfl (fun ls hl => ?_)
    refine lv_aload_n hx hb dL_law_435 rfl (lv_at hl 3 rfl) ?_
    refine lv_aload_n hx hb dL_law_436 rfl (lv_at hl 1 rfl) ?_
    refine lv_iload hx hb dL_law_437 (lv_at hl 5 rfl) ?_
    refine lv_iconst (v := 1) hx hb dL_law_439 (by decide) ?_
    refine z_iadd hx hb dL_law_440 h4 (show (1 : Int32).toInt = 1 by decide) (by omega) (by omega) (fun v440 e440 => ?_)
    have i441 : vp_in v440 L := vp_in_iff.mpr ⟨by omega, by omega⟩
    refine va_sld hx hb hX hbl hbA hS i441 dL_law_441 ?_
    refine lv_as (y := xs (3 * c9 + 1)) (congrArg xs (clN (Eq.trans e440 (by omega)))) ?_
    refine lv_as ha1.symm ?_
    refine lv_aload_n hx hb dL_law_442 rfl (lv_at hl 1 rfl) ?_
    refine lv_iload hx hb dL_law_443 (lv_at hl 5 rfl) ?_
    refine lv_iconst (v := 2) hx hb dL_law_445 (by decide) ?_
    refine z_iadd hx hb dL_law_446 h4 (show (2 : Int32).toInt = 2 by decide) (by omega) (by omega) (fun v446 e446 => ?_)
    have i447 : vp_in v446 L := vp_in_iff.mpr ⟨by omega, by omega⟩
    refine va_sld hx hb hX hbl hbA hS i447 dL_law_447 ?_
    refine lv_as (y := xs (3 * c9 + 2)) (congrArg xs (clN (Eq.trans e446 (by omega)))) ?_
    refine lv_as ha2.symm ?_
    have hPc := hP.sub (ws' := (MW g0 g1 g2 y4 y5 th (n) (w) T P)) [5, 6, 7] rfl
    have hFc := va_free (wc := (MW g0 g1 g2 y4 y5 th (n) (w) T P)) hD hS hA [5, 6, 7] rfl
    have hDc := hD.sub (ws' := (MW g0 g1 g2 y4 y5 th (n) (w) T P)) [5, 6, 7] (by decide) rfl
    refine va_calli (va_runV (As := [.int a1, .int a2]) (rest := []) ⟨hx, hb, hml, hown, hts⟩ (c_X2_setPattern l D E g0 g1 g2 y4 y5 H.size (n) (w) th T P hn hw hT hPt (hDc.weaken (fun _ _ _ _ => trivial)) a1 a2) (cwV 2 hts gL_law_X2_setPattern rfl rfl rfl (by decide +kernel) ⟨Nat.le_of_ble_eq_true rfl, Nat.le_of_ble_eq_true rfl⟩) ⟨cp.blind, va_recv hK hP (ci := 1) (q0 := 5) rfl rfl, fun U hU hW => ⟨rfl, cp.call hPc hKm hE hS hFc hU hW⟩⟩ rfl rfl hl.1 rfl (lv_room (Nat.le_of_ble_eq_true rfl)) dL_law_448 ⟨by rw [hR1]; omega, by rw [hR2]; omega⟩) hS (fun q _ h => hFc q h) hFc (fun v448 u448 t H1 locs1 ht hvm e448 hB hz1 hk1 hS => ?_)
    obtain ⟨et448, ev448⟩ := e448
    obtain ⟨hP1, hD1⟩ := hB.2 hk0
    rw [ht] at hP1
    obtain ⟨hP, hD⟩ := va_join (wr := (LW h0 h1 h2 h3 b0 y1 y2 y3 y6 (n) (w) T P u.2 O)) (w1 := (MW g0 g1 g2 y4 y5 u448 (n) (w) T P)) hP hD [5, 6, 7] [0, 1, 2, 3, 4] rfl rfl (by decide) (by decide) hk1 hFc hP1 hD1
    have hP : va_P D vwCl (GW h0 h1 h2 h3 b0 g0 g1 g2 y1 y2 y3 y6 y4 y5 (n) (w) u448 T P u.2 O) H1 := hP
    have hD : va_D (fun q : Nat => s.heap.size ≤ q) (GW h0 h1 h2 h3 b0 g0 g1 g2 y1 y2 y3 y6 y4 y5 (n) (w) u448 T P u.2 O) := hD
    generalize H1 = H at hP hS ⊢
    generalize locs1 = locs at hS ⊢
    refine lv_istore (lv' := [(6, .int v448), (5, .int v430), (0, .ref b), (1, .ref h0), (2, .ref g0), (3, .ref b0), (4, .int x4)]) hx hb dL_law_451 hl (by decide) rfl (fun ls hl => ?_)
    refine lv_aload_n hx hb dL_law_453 rfl (lv_at hl 4 rfl) ?_
    have hPc := hP.sub (ws' := (MW g0 g1 g2 y4 y5 u448 (n) (w) T P)) [5, 6, 7] rfl
    refine va_calli (va_runV (As := []) (rest := []) ⟨hx, hb, hml, hown, hts⟩ (c_X2_thrown l D E g0 g1 g2 y4 y5 H.size (n) (w) u448 T P hn hw hT hPt) (cwV 0 hts gL_law_X2_thrown rfl rfl rfl (by decide +kernel) ⟨Nat.le_of_ble_eq_true rfl, Nat.le_of_ble_eq_true rfl⟩) ⟨cp.blind, va_recv hK hP (ci := 1) (q0 := 5) rfl rfl, fun U hU hW => ⟨rfl, cp.call hPc hKm hE hS (fr0 hS hA) hU hW⟩⟩ rfl rfl hl.1 rfl (lv_room (Nat.le_of_ble_eq_true rfl)) dL_law_454 ⟨by rw [hR1]; omega, by rw [hR2]; omega⟩) hS (fun q _ h => (fr0 hS hA) q h) (fr0 hS hA) (fun v454 u454 t H1 locs1 ht hvm e454 hB hz1 hk1 hS => ?_)
    have hP := kp hP hk1
    generalize H1 = H at hP hS ⊢
    generalize locs1 = locs at hS ⊢
    refine lv_iload hx hb dL_law_457 (lv_at hl 1 rfl) ?_
    refine z_icmp_eq (tgt := 464) hx hb dL_law_459 (by decide) (Eq.trans e454 et448) e430 (fun c459 => ?_) (fun c459 => ?_)
    · have _u := True.intro
      refine lv_iload hx hb dL_law_464 (lv_at hl 1 rfl) ?_
      refine z_if_ne (tgt := 481) hx hb dL_law_466 (by decide) e430 (fun c466 => ?_) (fun c466 => ?_)
      · have _u := True.intro
        refine lv_goto (tgt := 1453) hx hb dL_law_481 (by decide) ?_
        refine W.widen (k := 8 + 2 * c9 + 2) (n := 252 + 12 * c9 + 12) (by omega) (by omega) ?_
        exact K (n) (w) u448 T P u.2 O hn hw hT hPt _ _ hP hD hS _ (lv_sub hl [2, 3, 4, 5, 6] rfl)
      · have _u := True.intro
        exfalso; omega
    · exfalso; omega
set_option maxHeartbeats 4000000 in
set_option maxRecDepth 100000 in
theorem law_c5 {p : Program} {l : Launch} {e : Env} {s : State} {m : MethodId} {below : List Frame} {meth : Method} {c : Code} {D : va_G} {E : Nat × Nat × Nat} {b L : Nat} {xs : Nat → Int32} {h0 h1 h2 h3 b0 g0 g1 g2 : Nat} {y1 y2 y3 y6 y4 y5 : ClassId} {c9 : Nat} {x4 : Int32} {n w : Nat} {th : Int32} {T P M : Nat → Int32} {O : Nat → Int64} {H : Heap} {locs : List Loc} {ls : Array Slot} (hlt : l.stackTraces = false) (hEd : E.1 ≠ E.2.1 ∧ E.1 ≠ E.2.2 ∧ E.2.1 ≠ E.2.2) (hE : XEnv E (fun q : Nat => s.heap.size ≤ q) s s.heap) (hL : L ≤ 1536) (C0 : lw_At p s m meth c b L xs) (h4 : x4.toInt = ((3 * c9 : Nat) : Int)) (hc : 3 * c9 + 3 ≤ L) (hn : n ≤ 64) (hw : w ≤ 24) (hT : SymF T) (hPt : SymF P) (hK : va_K D vwCl (GT y1 y2 y3 y6 y4 y5) s) (hP : va_P D vwCl (GW h0 h1 h2 h3 b0 g0 g1 g2 y1 y2 y3 y6 y4 y5 n w th T P M O) H) (hD : va_D (fun q : Nat => s.heap.size ≤ q) (GW h0 h1 h2 h3 b0 g0 g1 g2 y1 y2 y3 y6 y4 y5 n w th T P M O)) (hS : va_S (fun q : Nat => s.heap.size ≤ q) s.heap H locs) (hl : lv_has ls 7 [(0, .ref b), (1, .ref h0), (2, .ref g0), (3, .ref b0), (4, .int x4)]) (K : LK p l e s m below meth c D b h0 h1 h2 h3 b0 g0 g1 g2 y1 y2 y3 y6 y4 y5 c9 x4) : W p l e room_1 s m #[Value.ref b] below meth c H locs (8 + 2 * c9) (252 + 12 * c9) (lw_Z below #[Value.ref b] s) (F0 m 484 ls []) := by
  obtain ⟨hx, hb, hr, hml, hown, hts0, hX, hbl, hlocks, hgv⟩ := C0
  have hts : ∀ w ∈ wsL_law, w.before #[Value.ref b] s = true := fun w h => hts0 w (wsL_law_in w h)
  have hA : ∀ q : Nat, s.heap.size ≤ q → (fun q : Nat => s.heap.size ≤ q) q := fun _ h => h
  have hbA : ¬ (fun q : Nat => s.heap.size ≤ q) b := Nat.not_le.mpr hbl
  have hR1 : room_1.cells = 1051 := rfl
  have hR2 : room_1.slots = 8558 := rfl
  have hKx := hK.sub (tys' := (XT y1 y2 y3)) [0, 1, 2] rfl
  have hKl := hK.sub (tys' := (LT y1 y2 y3 y6)) [0, 1, 2, 3] rfl
  have hKm := hK.sub (tys' := (MT y4 y5)) [4, 5] rfl
  refine lv_aload_n hx hb dL_law_484 rfl (lv_at hl 1 rfl) ?_
  refine lv_aload_n hx hb dL_law_485 rfl (lv_at hl 0 rfl) ?_
  refine lv_iload hx hb dL_law_486 (lv_at hl 4 rfl) ?_
  refine lv_iconst (v := 1) hx hb dL_law_488 (by decide) ?_
  refine z_iadd hx hb dL_law_489 h4 (show (1 : Int32).toInt = 1 by decide) (by omega) (by omega) (fun v489 e489 => ?_)
  have i490 : vp_in v489 L := vp_in_iff.mpr ⟨by omega, by omega⟩
  refine va_sld hx hb hX hbl hbA hS i490 dL_law_490 ?_
  refine lv_as (y := xs (3 * c9 + 1)) (congrArg xs (clN (Eq.trans e489 (by omega)))) ?_
  obtain ⟨a1, ha1⟩ : ∃ z, z = xs (3 * c9 + 1) := ⟨_, rfl⟩
  refine lv_as ha1.symm ?_
  refine lv_aload_n hx hb dL_law_491 rfl (lv_at hl 0 rfl) ?_
  refine lv_iload hx hb dL_law_492 (lv_at hl 4 rfl) ?_
  refine lv_iconst (v := 2) hx hb dL_law_494 (by decide) ?_
  refine z_iadd hx hb dL_law_495 h4 (show (2 : Int32).toInt = 2 by decide) (by omega) (by omega) (fun v495 e495 => ?_)
  have i496 : vp_in v495 L := vp_in_iff.mpr ⟨by omega, by omega⟩
  refine va_sld hx hb hX hbl hbA hS i496 dL_law_496 ?_
  refine lv_as (y := xs (3 * c9 + 2)) (congrArg xs (clN (Eq.trans e495 (by omega)))) ?_
  obtain ⟨a2, ha2⟩ : ∃ z, z = xs (3 * c9 + 2) := ⟨_, rfl⟩
  refine lv_as ha2.symm ?_
  refine lv_aload_n hx hb dL_law_497 rfl (lv_at hl 3 rfl) ?_
  have hPl := hP.sub (ws' := (LW h0 h1 h2 h3 b0 y1 y2 y3 y6 (n) (w) T P M O)) [0, 1, 2, 3, 4] rfl
  have hFc := va_free (wc := (LW h0 h1 h2 h3 b0 y1 y2 y3 y6 (n) (w) T P M O)) hD hS hA [0, 1, 2, 3, 4] rfl
  have hDl := hD.sub (ws' := (LW h0 h1 h2 h3 b0 y1 y2 y3 y6 (n) (w) T P M O)) [0, 1, 2, 3, 4] (by decide) rfl
  refine va_calli (vx_runSW (As := [.ref h0, .int a1, .int a2, .ref b0]) (rest := []) ⟨hx, hb, hml, hown, hts⟩ (c_L_takePattern l hlt D E h0 h1 h2 h3 b0 y1 y2 y3 y6 H.size n w T P M O hn hw hT hPt (hDl.weaken (fun _ _ _ _ => trivial)) a1 a2) (vx_cwSW 4 hts gL_law_L_takePattern rfl rfl rfl (by decide +kernel) ⟨Nat.le_of_ble_eq_true rfl, Nat.le_of_ble_eq_true rfl⟩) ⟨cp.blind, fun U hU hW => ⟨rfl, cp.call hPl hKl hE hS hFc hU hW⟩⟩ rfl rfl hl.1 rfl (lv_room (Nat.le_of_ble_eq_true rfl)) dL_law_498 ⟨by rw [hR1]; omega, by rw [hR2]; omega⟩) hS (fun q _ h => hFc q h) hFc (fun v498 u t H1 locs1 ht hvm ev hB hz1 hk1 hS => ?_)
  obtain ⟨e498, ev1⟩ := ev
  by_cases hk0 : kTP n a1.toInt a2.toInt = 0
  · have _u := True.intro
    obtain ⟨hP1, hD1⟩ := hB.1 hk0
    have hu1 := ev1 hk0
    rw [ht] at hP1
    obtain ⟨hP, hD⟩ := va_join (wr := (MW g0 g1 g2 y4 y5 th (n) (w) T P)) (w1 := (LW h0 h1 h2 h3 b0 y1 y2 y3 y6 (n) (a2.toInt.toNat) T (va_cpy T P a1.toInt.toNat 0 a2.toInt.toNat) u.2 (vp_updL O 0 u.1.toInt64))) hP hD [0, 1, 2, 3, 4] [5, 6, 7] rfl rfl (by decide) (by decide) hk1 hFc hP1 hD1
    have hP := hP.sub (ws' := [(h0, .inr (0, [.ref h1, .ref h2, .ref h3, .int (nI (n)), .int (nI (a2.toInt.toNat))])), (h1, .inl (y1, 64, .inl T)), (h2, .inl (y2, 24, .inl (va_cpy T P a1.toInt.toNat 0 a2.toInt.toNat))), (h3, .inl (y3, 65, .inl u.2)), (b0, .inl (y6, 1, .inr (.inl (vp_updL O 0 u.1.toInt64)))), (g0, .inr (1, [.int th, .ref g1, .ref g2, .int (nI (n)), .int (nI (w))])), (g1, .inl (y4, 64, .inl T)), (g2, .inl (y5, 24, .inl P))]) [3, 4, 5, 6, 7, 0, 1, 2] rfl
    have hD := hD.sub (ws' := [(h0, .inr (0, [.ref h1, .ref h2, .ref h3, .int (nI (n)), .int (nI (a2.toInt.toNat))])), (h1, .inl (y1, 64, .inl T)), (h2, .inl (y2, 24, .inl (va_cpy T P a1.toInt.toNat 0 a2.toInt.toNat))), (h3, .inl (y3, 65, .inl u.2)), (b0, .inl (y6, 1, .inr (.inl (vp_updL O 0 u.1.toInt64)))), (g0, .inr (1, [.int th, .ref g1, .ref g2, .int (nI (n)), .int (nI (w))])), (g1, .inl (y4, 64, .inl T)), (g2, .inl (y5, 24, .inl P))]) [3, 4, 5, 6, 7, 0, 1, 2] (by decide) rfl
    generalize H1 = H at hP hS ⊢
    generalize locs1 = locs at hS ⊢
    refine lv_istore (lv' := [(5, .int v498), (0, .ref b), (1, .ref h0), (2, .ref g0), (3, .ref b0), (4, .int x4)]) hx hb dL_law_501 hl (by decide) rfl (fun ls hl => ?_)
    refine lv_aload_n hx hb dL_law_503 rfl (lv_at hl 3 rfl) ?_
    refine lv_aload_n hx hb dL_law_504 rfl (lv_at hl 1 rfl) ?_
    refine lv_iload hx hb dL_law_505 (lv_at hl 5 rfl) ?_
    refine lv_iconst (v := 1) hx hb dL_law_507 (by decide) ?_
    refine z_iadd hx hb dL_law_508 h4 (show (1 : Int32).toInt = 1 by decide) (by omega) (by omega) (fun v508 e508 => ?_)
    have i509 : vp_in v508 L := vp_in_iff.mpr ⟨by omega, by omega⟩
    refine va_sld hx hb hX hbl hbA hS i509 dL_law_509 ?_
    refine lv_as (y := xs (3 * c9 + 1)) (congrArg xs (clN (Eq.trans e508 (by omega)))) ?_
    refine lv_as ha1.symm ?_
    refine lv_aload_n hx hb dL_law_510 rfl (lv_at hl 1 rfl) ?_
    refine lv_iload hx hb dL_law_511 (lv_at hl 5 rfl) ?_
    refine lv_iconst (v := 2) hx hb dL_law_513 (by decide) ?_
    refine z_iadd hx hb dL_law_514 h4 (show (2 : Int32).toInt = 2 by decide) (by omega) (by omega) (fun v514 e514 => ?_)
    have i515 : vp_in v514 L := vp_in_iff.mpr ⟨by omega, by omega⟩
    refine va_sld hx hb hX hbl hbA hS i515 dL_law_515 ?_
    refine lv_as (y := xs (3 * c9 + 2)) (congrArg xs (clN (Eq.trans e514 (by omega)))) ?_
    refine lv_as ha2.symm ?_
    have hPc := hP.sub (ws' := (MW g0 g1 g2 y4 y5 th (n) (w) T P)) [5, 6, 7] rfl
    have hFc := va_free (wc := (MW g0 g1 g2 y4 y5 th (n) (w) T P)) hD hS hA [5, 6, 7] rfl
    have hDc := hD.sub (ws' := (MW g0 g1 g2 y4 y5 th (n) (w) T P)) [5, 6, 7] (by decide) rfl
    refine va_calli (va_runV (As := [.int a1, .int a2]) (rest := []) ⟨hx, hb, hml, hown, hts⟩ (c_X2_takePattern l D E g0 g1 g2 y4 y5 H.size (n) (w) th T P hn hw hT hPt (hDc.weaken (fun _ _ _ _ => trivial)) a1 a2) (cwV 2 hts gL_law_X2_takePattern rfl rfl rfl (by decide +kernel) ⟨Nat.le_of_ble_eq_true rfl, Nat.le_of_ble_eq_true rfl⟩) ⟨cp.blind, va_recv hK hP (ci := 1) (q0 := 5) rfl rfl, fun U hU hW => ⟨rfl, cp.call hPc hKm hE hS hFc hU hW⟩⟩ rfl rfl hl.1 rfl (lv_room (Nat.le_of_ble_eq_true rfl)) dL_law_516 ⟨by rw [hR1]; omega, by rw [hR2]; omega⟩) hS (fun q _ h => hFc q h) hFc (fun v516 u516 t H1 locs1 ht hvm e516 hB hz1 hk1 hS => ?_)
    obtain ⟨et516, ev516⟩ := e516
    obtain ⟨hP1, hD1⟩ := hB.1 hk0
    have e516 := ev516 hk0
    rw [ht] at hP1
    obtain ⟨hP, hD⟩ := va_join (wr := (LW h0 h1 h2 h3 b0 y1 y2 y3 y6 (n) (a2.toInt.toNat) T (va_cpy T P a1.toInt.toNat 0 a2.toInt.toNat) u.2 (vp_updL O 0 u.1.toInt64))) (w1 := (MW g0 g1 g2 y4 y5 u516 (n) (a2.toInt.toNat) T (va_cpy T P a1.toInt.toNat 0 a2.toInt.toNat))) hP hD [5, 6, 7] [0, 1, 2, 3, 4] rfl rfl (by decide) (by decide) hk1 hFc hP1 hD1
    have hP : va_P D vwCl (GW h0 h1 h2 h3 b0 g0 g1 g2 y1 y2 y3 y6 y4 y5 (n) (a2.toInt.toNat) u516 T (va_cpy T P a1.toInt.toNat 0 a2.toInt.toNat) u.2 (vp_updL O 0 u.1.toInt64)) H1 := hP
    have hD : va_D (fun q : Nat => s.heap.size ≤ q) (GW h0 h1 h2 h3 b0 g0 g1 g2 y1 y2 y3 y6 y4 y5 (n) (a2.toInt.toNat) u516 T (va_cpy T P a1.toInt.toNat 0 a2.toInt.toNat) u.2 (vp_updL O 0 u.1.toInt64)) := hD
    generalize H1 = H at hP hS ⊢
    generalize locs1 = locs at hS ⊢
    refine lv_istore (lv' := [(6, .int v516), (5, .int v498), (0, .ref b), (1, .ref h0), (2, .ref g0), (3, .ref b0), (4, .int x4)]) hx hb dL_law_519 hl (by decide) rfl (fun ls hl => ?_)
    refine lv_aload_n hx hb dL_law_521 rfl (lv_at hl 4 rfl) ?_
    have hPc := hP.sub (ws' := (MW g0 g1 g2 y4 y5 u516 (n) (a2.toInt.toNat) T (va_cpy T P a1.toInt.toNat 0 a2.toInt.toNat))) [5, 6, 7] rfl
    refine va_calli (va_runV (As := []) (rest := []) ⟨hx, hb, hml, hown, hts⟩ (c_X2_thrown l D E g0 g1 g2 y4 y5 H.size (n) (a2.toInt.toNat) u516 T (va_cpy T P a1.toInt.toNat 0 a2.toInt.toNat) hn (by have q := kTP_0 hk0; omega) hT (SymF.cpy hT hPt _ _ _)) (cwV 0 hts gL_law_X2_thrown rfl rfl rfl (by decide +kernel) ⟨Nat.le_of_ble_eq_true rfl, Nat.le_of_ble_eq_true rfl⟩) ⟨cp.blind, va_recv hK hP (ci := 1) (q0 := 5) rfl rfl, fun U hU hW => ⟨rfl, cp.call hPc hKm hE hS (fr0 hS hA) hU hW⟩⟩ rfl rfl hl.1 rfl (lv_room (Nat.le_of_ble_eq_true rfl)) dL_law_522 ⟨by rw [hR1]; omega, by rw [hR2]; omega⟩) hS (fun q _ h => (fr0 hS hA) q h) (fr0 hS hA) (fun v522 u522 t H1 locs1 ht hvm e522 hB hz1 hk1 hS => ?_)
    have hP := kp hP hk1
    generalize H1 = H at hP hS ⊢
    generalize locs1 = locs at hS ⊢
    refine lv_iload hx hb dL_law_525 (lv_at hl 1 rfl) ?_
    refine z_icmp_eq (tgt := 532) hx hb dL_law_527 (by decide) (Eq.trans e522 et516) e498 (fun c527 => ?_) (fun c527 => ?_)
    · have _u := True.intro
      refine lv_iload hx hb dL_law_532 (lv_at hl 1 rfl) ?_
      refine z_if_ne (tgt := 549) hx hb dL_law_534 (by decide) e498 (fun c534 => ?_) (fun c534 => ?_)
      · have _u := True.intro
        exfalso; omega
      · have _u := True.intro
        refine lv_aload_n hx hb dL_law_537 rfl (lv_at hl 5 rfl) ?_
        refine lv_iconst (v := 0) hx hb dL_law_538 (by decide) ?_
        refine z_lald hx hb hK hP 4 3 rfl rfl 0 (show (0 : Int32).toInt = 0 by decide) rfl (by decide) dL_law_539 ?_
        refine lv_iload hx hb dL_law_540 (lv_at hl 0 rfl) ?_
        refine z_i2l hx hb dL_law_542 e516 (fun v542 e542 => ?_)
        refine z_lcmp hx hb dL_law_543 (show ((vp_updL O 0 u.1.toInt64) 0).toInt = u.1.toInt by rw [pk_uLs, Int32.toInt_toInt64]) e542 (fun v543 z543 e543 f543 k543 => ?_)
        refine z_if_eq (tgt := 549) hx hb dL_law_544 (by decide) e543 (fun c544 => ?_) (fun c544 => ?_)
        · have _u := True.intro
          refine lv_goto (tgt := 1453) hx hb dL_law_549 (by decide) ?_
          refine W.widen (k := 8 + 2 * c9 + 2) (n := 252 + 12 * c9 + 12) (by omega) (by omega) ?_
          exact K (n) (a2.toInt.toNat) u516 T (va_cpy T P a1.toInt.toNat 0 a2.toInt.toNat) u.2 (vp_updL O 0 u.1.toInt64) hn (by have q := kTP_0 hk0; omega) hT (SymF.cpy hT hPt _ _ _) _ _ hP hD hS _ (lv_sub hl [2, 3, 4, 5, 6] rfl)
        · exfalso; omega
    · exfalso; omega
  · have _u := True.intro
    obtain ⟨hP1, hD1⟩ := hB.2 hk0
    rw [ht] at hP1
    obtain ⟨hP, hD⟩ := va_join (wr := (MW g0 g1 g2 y4 y5 th (n) (w) T P)) (w1 := (LW h0 h1 h2 h3 b0 y1 y2 y3 y6 (n) (w) T P u.2 O)) hP hD [0, 1, 2, 3, 4] [5, 6, 7] rfl rfl (by decide) (by decide) hk1 hFc hP1 hD1
    have hP := hP.sub (ws' := (GW h0 h1 h2 h3 b0 g0 g1 g2 y1 y2 y3 y6 y4 y5 (n) (w) th T P u.2 O)) [3, 4, 5, 6, 7, 0, 1, 2] rfl
    have hD := hD.sub (ws' := (GW h0 h1 h2 h3 b0 g0 g1 g2 y1 y2 y3 y6 y4 y5 (n) (w) th T P u.2 O)) [3, 4, 5, 6, 7, 0, 1, 2] (by decide) rfl
    generalize H1 = H at hP hS ⊢
    generalize locs1 = locs at hS ⊢
    refine lv_istore (lv' := [(5, .int v498), (0, .ref b), (1, .ref h0), (2, .ref g0), (3, .ref b0), (4, .int x4)]) hx hb dL_law_501 hl (by decide) rfl (fun ls hl => ?_)
    refine lv_aload_n hx hb dL_law_503 rfl (lv_at hl 3 rfl) ?_
    refine lv_aload_n hx hb dL_law_504 rfl (lv_at hl 1 rfl) ?_
    refine lv_iload hx hb dL_law_505 (lv_at hl 5 rfl) ?_
    refine lv_iconst (v := 1) hx hb dL_law_507 (by decide) ?_
    refine z_iadd hx hb dL_law_508 h4 (show (1 : Int32).toInt = 1 by decide) (by omega) (by omega) (fun v508 e508 => ?_)
    have i509 : vp_in v508 L := vp_in_iff.mpr ⟨by omega, by omega⟩
    refine va_sld hx hb hX hbl hbA hS i509 dL_law_509 ?_
    refine lv_as (y := xs (3 * c9 + 1)) (congrArg xs (clN (Eq.trans e508 (by omega)))) ?_
    refine lv_as ha1.symm ?_
    refine lv_aload_n hx hb dL_law_510 rfl (lv_at hl 1 rfl) ?_
    refine lv_iload hx hb dL_law_511 (lv_at hl 5 rfl) ?_
    refine lv_iconst (v := 2) hx hb dL_law_513 (by decide) ?_
    refine z_iadd hx hb dL_law_514 h4 (show (2 : Int32).toInt = 2 by decide) (by omega) (by omega) (fun v514 e514 => ?_)
    have i515 : vp_in v514 L := vp_in_iff.mpr ⟨by omega, by omega⟩
    refine va_sld hx hb hX hbl hbA hS i515 dL_law_515 ?_
    refine lv_as (y := xs (3 * c9 + 2)) (congrArg xs (clN (Eq.trans e514 (by omega)))) ?_
    refine lv_as ha2.symm ?_
    have hPc := hP.sub (ws' := (MW g0 g1 g2 y4 y5 th (n) (w) T P)) [5, 6, 7] rfl
    have hFc := va_free (wc := (MW g0 g1 g2 y4 y5 th (n) (w) T P)) hD hS hA [5, 6, 7] rfl
    have hDc := hD.sub (ws' := (MW g0 g1 g2 y4 y5 th (n) (w) T P)) [5, 6, 7] (by decide) rfl
    refine va_calli (va_runV (As := [.int a1, .int a2]) (rest := []) ⟨hx, hb, hml, hown, hts⟩ (c_X2_takePattern l D E g0 g1 g2 y4 y5 H.size (n) (w) th T P hn hw hT hPt (hDc.weaken (fun _ _ _ _ => trivial)) a1 a2) (cwV 2 hts gL_law_X2_takePattern rfl rfl rfl (by decide +kernel) ⟨Nat.le_of_ble_eq_true rfl, Nat.le_of_ble_eq_true rfl⟩) ⟨cp.blind, va_recv hK hP (ci := 1) (q0 := 5) rfl rfl, fun U hU hW => ⟨rfl, cp.call hPc hKm hE hS hFc hU hW⟩⟩ rfl rfl hl.1 rfl (lv_room (Nat.le_of_ble_eq_true rfl)) dL_law_516 ⟨by rw [hR1]; omega, by rw [hR2]; omega⟩) hS (fun q _ h => hFc q h) hFc (fun v516 u516 t H1 locs1 ht hvm e516 hB hz1 hk1 hS => ?_)
    obtain ⟨et516, ev516⟩ := e516
    obtain ⟨hP1, hD1⟩ := hB.2 hk0
    rw [ht] at hP1
    obtain ⟨hP, hD⟩ := va_join (wr := (LW h0 h1 h2 h3 b0 y1 y2 y3 y6 (n) (w) T P u.2 O)) (w1 := (MW g0 g1 g2 y4 y5 u516 (n) (w) T P)) hP hD [5, 6, 7] [0, 1, 2, 3, 4] rfl rfl (by decide) (by decide) hk1 hFc hP1 hD1
    have hP : va_P D vwCl (GW h0 h1 h2 h3 b0 g0 g1 g2 y1 y2 y3 y6 y4 y5 (n) (w) u516 T P u.2 O) H1 := hP
    have hD : va_D (fun q : Nat => s.heap.size ≤ q) (GW h0 h1 h2 h3 b0 g0 g1 g2 y1 y2 y3 y6 y4 y5 (n) (w) u516 T P u.2 O) := hD
    generalize H1 = H at hP hS ⊢
    generalize locs1 = locs at hS ⊢
    refine lv_istore (lv' := [(6, .int v516), (5, .int v498), (0, .ref b), (1, .ref h0), (2, .ref g0), (3, .ref b0), (4, .int x4)]) hx hb dL_law_519 hl (by decide) rfl (fun ls hl => ?_)
    refine lv_aload_n hx hb dL_law_521 rfl (lv_at hl 4 rfl) ?_
    have hPc := hP.sub (ws' := (MW g0 g1 g2 y4 y5 u516 (n) (w) T P)) [5, 6, 7] rfl
    refine va_calli (va_runV (As := []) (rest := []) ⟨hx, hb, hml, hown, hts⟩ (c_X2_thrown l D E g0 g1 g2 y4 y5 H.size (n) (w) u516 T P hn hw hT hPt) (cwV 0 hts gL_law_X2_thrown rfl rfl rfl (by decide +kernel) ⟨Nat.le_of_ble_eq_true rfl, Nat.le_of_ble_eq_true rfl⟩) ⟨cp.blind, va_recv hK hP (ci := 1) (q0 := 5) rfl rfl, fun U hU hW => ⟨rfl, cp.call hPc hKm hE hS (fr0 hS hA) hU hW⟩⟩ rfl rfl hl.1 rfl (lv_room (Nat.le_of_ble_eq_true rfl)) dL_law_522 ⟨by rw [hR1]; omega, by rw [hR2]; omega⟩) hS (fun q _ h => (fr0 hS hA) q h) (fr0 hS hA) (fun v522 u522 t H1 locs1 ht hvm e522 hB hz1 hk1 hS => ?_)
    have hP := kp hP hk1
    generalize H1 = H at hP hS ⊢
    generalize locs1 = locs at hS ⊢
    refine lv_iload hx hb dL_law_525 (lv_at hl 1 rfl) ?_
    refine z_icmp_eq (tgt := 532) hx hb dL_law_527 (by decide) (Eq.trans e522 et516) e498 (fun c527 => ?_) (fun c527 => ?_)
    · have _u := True.intro
      refine lv_iload hx hb dL_law_532 (lv_at hl 1 rfl) ?_
      refine z_if_ne (tgt := 549) hx hb dL_law_534 (by decide) e498 (fun c534 => ?_) (fun c534 => ?_)
      · have _u := True.intro
        refine lv_goto (tgt := 1453) hx hb dL_law_549 (by decide) ?_
        refine W.widen (k := 8 + 2 * c9 + 2) (n := 252 + 12 * c9 + 12) (by omega) (by omega) ?_
        exact K (n) (w) u516 T P u.2 O hn hw hT hPt _ _ hP hD hS _ (lv_sub hl [2, 3, 4, 5, 6] rfl)
      · have _u := True.intro
        exfalso; omega
    · exfalso; omega
set_option maxHeartbeats 4000000 in
set_option maxRecDepth 100000 in
theorem law_c6 {p : Program} {l : Launch} {e : Env} {s : State} {m : MethodId} {below : List Frame} {meth : Method} {c : Code} {D : va_G} {E : Nat × Nat × Nat} {b L : Nat} {xs : Nat → Int32} {h0 h1 h2 h3 b0 g0 g1 g2 : Nat} {y1 y2 y3 y6 y4 y5 : ClassId} {c9 : Nat} {x4 : Int32} {n w : Nat} {th : Int32} {T P M : Nat → Int32} {O : Nat → Int64} {H : Heap} {locs : List Loc} {ls : Array Slot} (hlt : l.stackTraces = false) (hEd : E.1 ≠ E.2.1 ∧ E.1 ≠ E.2.2 ∧ E.2.1 ≠ E.2.2) (hE : XEnv E (fun q : Nat => s.heap.size ≤ q) s s.heap) (hL : L ≤ 1536) (C0 : lw_At p s m meth c b L xs) (h4 : x4.toInt = ((3 * c9 : Nat) : Int)) (hc : 3 * c9 + 3 ≤ L) (hn : n ≤ 64) (hw : w ≤ 24) (hT : SymF T) (hPt : SymF P) (hK : va_K D vwCl (GT y1 y2 y3 y6 y4 y5) s) (hP : va_P D vwCl (GW h0 h1 h2 h3 b0 g0 g1 g2 y1 y2 y3 y6 y4 y5 n w th T P M O) H) (hD : va_D (fun q : Nat => s.heap.size ≤ q) (GW h0 h1 h2 h3 b0 g0 g1 g2 y1 y2 y3 y6 y4 y5 n w th T P M O)) (hS : va_S (fun q : Nat => s.heap.size ≤ q) s.heap H locs) (hl : lv_has ls 7 [(0, .ref b), (1, .ref h0), (2, .ref g0), (3, .ref b0), (4, .int x4)]) (K : LK p l e s m below meth c D b h0 h1 h2 h3 b0 g0 g1 g2 y1 y2 y3 y6 y4 y5 c9 x4) : W p l e room_1 s m #[Value.ref b] below meth c H locs (8 + 2 * c9) (252 + 12 * c9) (lw_Z below #[Value.ref b] s) (F0 m 552 ls []) := by
  obtain ⟨hx, hb, hr, hml, hown, hts0, hX, hbl, hlocks, hgv⟩ := C0
  have hts : ∀ w ∈ wsL_law, w.before #[Value.ref b] s = true := fun w h => hts0 w (wsL_law_in w h)
  have hA : ∀ q : Nat, s.heap.size ≤ q → (fun q : Nat => s.heap.size ≤ q) q := fun _ h => h
  have hbA : ¬ (fun q : Nat => s.heap.size ≤ q) b := Nat.not_le.mpr hbl
  have hR1 : room_1.cells = 1051 := rfl
  have hR2 : room_1.slots = 8558 := rfl
  have hKx := hK.sub (tys' := (XT y1 y2 y3)) [0, 1, 2] rfl
  have hKl := hK.sub (tys' := (LT y1 y2 y3 y6)) [0, 1, 2, 3] rfl
  have hKm := hK.sub (tys' := (MT y4 y5)) [4, 5] rfl
  refine lv_aload_n hx hb dL_law_552 rfl (lv_at hl 1 rfl) ?_
  have hPc := hP.sub (ws' := (XW h0 h1 h2 h3 y1 y2 y3 (n) (w) T P M)) [0, 1, 2, 3] rfl
  have hFc := va_free (wc := (XW h0 h1 h2 h3 y1 y2 y3 (n) (w) T P M)) hD hS hA [0, 1, 2, 3] rfl
  have hDc := hD.sub (ws' := (XW h0 h1 h2 h3 y1 y2 y3 (n) (w) T P M)) [0, 1, 2, 3] (by decide) rfl
  refine va_calli (va_runV (As := []) (rest := []) ⟨hx, hb, hml, hown, hts⟩ (c_X1_clearText l D E h0 h1 h2 h3 y1 y2 y3 H.size (n) (w) T P M hn hw hT hPt (hDc.weaken (fun _ _ _ _ => trivial))) (cwV 0 hts gL_law_X1_clearText rfl rfl rfl (by decide +kernel) ⟨Nat.le_of_ble_eq_true rfl, Nat.le_of_ble_eq_true rfl⟩) ⟨cp.blind, va_recv hK hP (ci := 0) (q0 := 0) rfl rfl, fun U hU hW => ⟨rfl, cp.call hPc hKx hE hS hFc hU hW⟩⟩ rfl rfl hl.1 rfl (lv_room (Nat.le_of_ble_eq_true rfl)) dL_law_553 ⟨by rw [hR1]; omega, by rw [hR2]; omega⟩) hS (fun q _ h => hFc q h) hFc (fun v553 u553 t H1 locs1 ht hvm e553 hB hz1 hk1 hS => ?_)
  obtain ⟨hP1, hD1⟩ := hB
  rw [ht] at hP1
  obtain ⟨hP, hD⟩ := va_join (wr := (b0, .inl (y6, 1, .inr (.inl O))) :: (MW g0 g1 g2 y4 y5 th (n) (w) T P)) (w1 := (XW h0 h1 h2 h3 y1 y2 y3 (0) (w) T P M)) hP hD [0, 1, 2, 3] [4, 5, 6, 7] rfl rfl (by decide) (by decide) hk1 hFc hP1 hD1
  have hP := hP.sub (ws' := [(h0, .inr (0, [.ref h1, .ref h2, .ref h3, .int (nI (0)), .int (nI (w))])), (h1, .inl (y1, 64, .inl T)), (h2, .inl (y2, 24, .inl P)), (h3, .inl (y3, 65, .inl M)), (b0, .inl (y6, 1, .inr (.inl O))), (g0, .inr (1, [.int th, .ref g1, .ref g2, .int (nI (n)), .int (nI (w))])), (g1, .inl (y4, 64, .inl T)), (g2, .inl (y5, 24, .inl P))]) [4, 5, 6, 7, 0, 1, 2, 3] rfl
  have hD := hD.sub (ws' := [(h0, .inr (0, [.ref h1, .ref h2, .ref h3, .int (nI (0)), .int (nI (w))])), (h1, .inl (y1, 64, .inl T)), (h2, .inl (y2, 24, .inl P)), (h3, .inl (y3, 65, .inl M)), (b0, .inl (y6, 1, .inr (.inl O))), (g0, .inr (1, [.int th, .ref g1, .ref g2, .int (nI (n)), .int (nI (w))])), (g1, .inl (y4, 64, .inl T)), (g2, .inl (y5, 24, .inl P))]) [4, 5, 6, 7, 0, 1, 2, 3] (by decide) rfl
  generalize H1 = H at hP hS ⊢
  generalize locs1 = locs at hS ⊢
  refine lv_aload_n hx hb dL_law_556 rfl (lv_at hl 2 rfl) ?_
  have hPc := hP.sub (ws' := (MW g0 g1 g2 y4 y5 th (n) (w) T P)) [5, 6, 7] rfl
  have hFc := va_free (wc := (MW g0 g1 g2 y4 y5 th (n) (w) T P)) hD hS hA [5, 6, 7] rfl
  have hDc := hD.sub (ws' := (MW g0 g1 g2 y4 y5 th (n) (w) T P)) [5, 6, 7] (by decide) rfl
  refine va_calli (va_runV (As := []) (rest := [.int v553]) ⟨hx, hb, hml, hown, hts⟩ (c_X2_clearText l D E g0 g1 g2 y4 y5 H.size (n) (w) th T P hn hw hT hPt (hDc.weaken (fun _ _ _ _ => trivial))) (cwV 0 hts gL_law_X2_clearText rfl rfl rfl (by decide +kernel) ⟨Nat.le_of_ble_eq_true rfl, Nat.le_of_ble_eq_true rfl⟩) ⟨cp.blind, va_recv hK hP (ci := 1) (q0 := 5) rfl rfl, fun U hU hW => ⟨rfl, cp.call hPc hKm hE hS hFc hU hW⟩⟩ rfl rfl hl.1 rfl (lv_room (Nat.le_of_ble_eq_true rfl)) dL_law_557 ⟨by rw [hR1]; omega, by rw [hR2]; omega⟩) hS (fun q _ h => hFc q h) hFc (fun v557 u557 t H1 locs1 ht hvm e557 hB hz1 hk1 hS => ?_)
  obtain ⟨hP1, hD1⟩ := hB
  rw [ht] at hP1
  obtain ⟨hP, hD⟩ := va_join (wr := (LW h0 h1 h2 h3 b0 y1 y2 y3 y6 (0) (w) T P M O)) (w1 := (MW g0 g1 g2 y4 y5 0 (0) (w) T P)) hP hD [5, 6, 7] [0, 1, 2, 3, 4] rfl rfl (by decide) (by decide) hk1 hFc hP1 hD1
  have hP : va_P D vwCl (GW h0 h1 h2 h3 b0 g0 g1 g2 y1 y2 y3 y6 y4 y5 (0) (w) 0 T P M O) H1 := hP
  have hD : va_D (fun q : Nat => s.heap.size ≤ q) (GW h0 h1 h2 h3 b0 g0 g1 g2 y1 y2 y3 y6 y4 y5 (0) (w) 0 T P M O) := hD
  generalize H1 = H at hP hS ⊢
  generalize locs1 = locs at hS ⊢
  refine z_icmp_eq (tgt := 1453) hx hb dL_law_560 (by decide) e553 e557 (fun c560 => ?_) (fun c560 => ?_)
  · have _u := True.intro
    refine W.widen (k := 8 + 2 * c9 + 2) (n := 252 + 12 * c9 + 12) (by omega) (by omega) ?_
    exact K (0) (w) 0 T P M O (by omega) hw hT hPt _ _ hP hD hS _ (lv_sub hl [0, 1, 2, 3, 4] rfl)
  · exfalso; omega
set_option maxHeartbeats 4000000 in
set_option maxRecDepth 100000 in
theorem law_c7 {p : Program} {l : Launch} {e : Env} {s : State} {m : MethodId} {below : List Frame} {meth : Method} {c : Code} {D : va_G} {E : Nat × Nat × Nat} {b L : Nat} {xs : Nat → Int32} {h0 h1 h2 h3 b0 g0 g1 g2 : Nat} {y1 y2 y3 y6 y4 y5 : ClassId} {c9 : Nat} {x4 : Int32} {n w : Nat} {th : Int32} {T P M : Nat → Int32} {O : Nat → Int64} {H : Heap} {locs : List Loc} {ls : Array Slot} (hlt : l.stackTraces = false) (hEd : E.1 ≠ E.2.1 ∧ E.1 ≠ E.2.2 ∧ E.2.1 ≠ E.2.2) (hE : XEnv E (fun q : Nat => s.heap.size ≤ q) s s.heap) (hL : L ≤ 1536) (C0 : lw_At p s m meth c b L xs) (h4 : x4.toInt = ((3 * c9 : Nat) : Int)) (hc : 3 * c9 + 3 ≤ L) (hn : n ≤ 64) (hw : w ≤ 24) (hT : SymF T) (hPt : SymF P) (hK : va_K D vwCl (GT y1 y2 y3 y6 y4 y5) s) (hP : va_P D vwCl (GW h0 h1 h2 h3 b0 g0 g1 g2 y1 y2 y3 y6 y4 y5 n w th T P M O) H) (hD : va_D (fun q : Nat => s.heap.size ≤ q) (GW h0 h1 h2 h3 b0 g0 g1 g2 y1 y2 y3 y6 y4 y5 n w th T P M O)) (hS : va_S (fun q : Nat => s.heap.size ≤ q) s.heap H locs) (hl : lv_has ls 7 [(0, .ref b), (1, .ref h0), (2, .ref g0), (3, .ref b0), (4, .int x4)]) (K : LK p l e s m below meth c D b h0 h1 h2 h3 b0 g0 g1 g2 y1 y2 y3 y6 y4 y5 c9 x4) : W p l e room_1 s m #[Value.ref b] below meth c H locs (8 + 2 * c9) (252 + 12 * c9) (lw_Z below #[Value.ref b] s) (F0 m 565 ls []) := by
  obtain ⟨hx, hb, hr, hml, hown, hts0, hX, hbl, hlocks, hgv⟩ := C0
  have hts : ∀ w ∈ wsL_law, w.before #[Value.ref b] s = true := fun w h => hts0 w (wsL_law_in w h)
  have hA : ∀ q : Nat, s.heap.size ≤ q → (fun q : Nat => s.heap.size ≤ q) q := fun _ h => h
  have hbA : ¬ (fun q : Nat => s.heap.size ≤ q) b := Nat.not_le.mpr hbl
  have hR1 : room_1.cells = 1051 := rfl
  have hR2 : room_1.slots = 8558 := rfl
  have hKx := hK.sub (tys' := (XT y1 y2 y3)) [0, 1, 2] rfl
  have hKl := hK.sub (tys' := (LT y1 y2 y3 y6)) [0, 1, 2, 3] rfl
  have hKm := hK.sub (tys' := (MT y4 y5)) [4, 5] rfl
  refine lv_aload_n hx hb dL_law_565 rfl (lv_at hl 1 rfl) ?_
  have hPc := hP.sub (ws' := (XW h0 h1 h2 h3 y1 y2 y3 (n) (w) T P M)) [0, 1, 2, 3] rfl
  have hFc := va_free (wc := (XW h0 h1 h2 h3 y1 y2 y3 (n) (w) T P M)) hD hS hA [0, 1, 2, 3] rfl
  have hDc := hD.sub (ws' := (XW h0 h1 h2 h3 y1 y2 y3 (n) (w) T P M)) [0, 1, 2, 3] (by decide) rfl
  refine va_calli (va_runV (As := []) (rest := []) ⟨hx, hb, hml, hown, hts⟩ (c_X1_clearPattern l D E h0 h1 h2 h3 y1 y2 y3 H.size (n) (w) T P M hn hw hT hPt (hDc.weaken (fun _ _ _ _ => trivial))) (cwV 0 hts gL_law_X1_clearPattern rfl rfl rfl (by decide +kernel) ⟨Nat.le_of_ble_eq_true rfl, Nat.le_of_ble_eq_true rfl⟩) ⟨cp.blind, va_recv hK hP (ci := 0) (q0 := 0) rfl rfl, fun U hU hW => ⟨rfl, cp.call hPc hKx hE hS hFc hU hW⟩⟩ rfl rfl hl.1 rfl (lv_room (Nat.le_of_ble_eq_true rfl)) dL_law_566 ⟨by rw [hR1]; omega, by rw [hR2]; omega⟩) hS (fun q _ h => hFc q h) hFc (fun v566 u566 t H1 locs1 ht hvm e566 hB hz1 hk1 hS => ?_)
  obtain ⟨hP1, hD1⟩ := hB
  rw [ht] at hP1
  obtain ⟨hP, hD⟩ := va_join (wr := (b0, .inl (y6, 1, .inr (.inl O))) :: (MW g0 g1 g2 y4 y5 th (n) (w) T P)) (w1 := (XW h0 h1 h2 h3 y1 y2 y3 (n) (0) T P M)) hP hD [0, 1, 2, 3] [4, 5, 6, 7] rfl rfl (by decide) (by decide) hk1 hFc hP1 hD1
  have hP := hP.sub (ws' := [(h0, .inr (0, [.ref h1, .ref h2, .ref h3, .int (nI (n)), .int (nI (0))])), (h1, .inl (y1, 64, .inl T)), (h2, .inl (y2, 24, .inl P)), (h3, .inl (y3, 65, .inl M)), (b0, .inl (y6, 1, .inr (.inl O))), (g0, .inr (1, [.int th, .ref g1, .ref g2, .int (nI (n)), .int (nI (w))])), (g1, .inl (y4, 64, .inl T)), (g2, .inl (y5, 24, .inl P))]) [4, 5, 6, 7, 0, 1, 2, 3] rfl
  have hD := hD.sub (ws' := [(h0, .inr (0, [.ref h1, .ref h2, .ref h3, .int (nI (n)), .int (nI (0))])), (h1, .inl (y1, 64, .inl T)), (h2, .inl (y2, 24, .inl P)), (h3, .inl (y3, 65, .inl M)), (b0, .inl (y6, 1, .inr (.inl O))), (g0, .inr (1, [.int th, .ref g1, .ref g2, .int (nI (n)), .int (nI (w))])), (g1, .inl (y4, 64, .inl T)), (g2, .inl (y5, 24, .inl P))]) [4, 5, 6, 7, 0, 1, 2, 3] (by decide) rfl
  generalize H1 = H at hP hS ⊢
  generalize locs1 = locs at hS ⊢
  refine lv_aload_n hx hb dL_law_569 rfl (lv_at hl 2 rfl) ?_
  have hPc := hP.sub (ws' := (MW g0 g1 g2 y4 y5 th (n) (w) T P)) [5, 6, 7] rfl
  have hFc := va_free (wc := (MW g0 g1 g2 y4 y5 th (n) (w) T P)) hD hS hA [5, 6, 7] rfl
  have hDc := hD.sub (ws' := (MW g0 g1 g2 y4 y5 th (n) (w) T P)) [5, 6, 7] (by decide) rfl
  refine va_calli (va_runV (As := []) (rest := [.int v566]) ⟨hx, hb, hml, hown, hts⟩ (c_X2_clearPattern l D E g0 g1 g2 y4 y5 H.size (n) (w) th T P hn hw hT hPt (hDc.weaken (fun _ _ _ _ => trivial))) (cwV 0 hts gL_law_X2_clearPattern rfl rfl rfl (by decide +kernel) ⟨Nat.le_of_ble_eq_true rfl, Nat.le_of_ble_eq_true rfl⟩) ⟨cp.blind, va_recv hK hP (ci := 1) (q0 := 5) rfl rfl, fun U hU hW => ⟨rfl, cp.call hPc hKm hE hS hFc hU hW⟩⟩ rfl rfl hl.1 rfl (lv_room (Nat.le_of_ble_eq_true rfl)) dL_law_570 ⟨by rw [hR1]; omega, by rw [hR2]; omega⟩) hS (fun q _ h => hFc q h) hFc (fun v570 u570 t H1 locs1 ht hvm e570 hB hz1 hk1 hS => ?_)
  obtain ⟨hP1, hD1⟩ := hB
  rw [ht] at hP1
  obtain ⟨hP, hD⟩ := va_join (wr := (LW h0 h1 h2 h3 b0 y1 y2 y3 y6 (n) (0) T P M O)) (w1 := (MW g0 g1 g2 y4 y5 0 (n) (0) T P)) hP hD [5, 6, 7] [0, 1, 2, 3, 4] rfl rfl (by decide) (by decide) hk1 hFc hP1 hD1
  have hP : va_P D vwCl (GW h0 h1 h2 h3 b0 g0 g1 g2 y1 y2 y3 y6 y4 y5 (n) (0) 0 T P M O) H1 := hP
  have hD : va_D (fun q : Nat => s.heap.size ≤ q) (GW h0 h1 h2 h3 b0 g0 g1 g2 y1 y2 y3 y6 y4 y5 (n) (0) 0 T P M O) := hD
  generalize H1 = H at hP hS ⊢
  generalize locs1 = locs at hS ⊢
  refine z_icmp_eq (tgt := 1453) hx hb dL_law_573 (by decide) e566 e570 (fun c573 => ?_) (fun c573 => ?_)
  · have _u := True.intro
    refine W.widen (k := 8 + 2 * c9 + 2) (n := 252 + 12 * c9 + 12) (by omega) (by omega) ?_
    exact K (n) (0) 0 T P M O hn (by omega) hT hPt _ _ hP hD hS _ (lv_sub hl [0, 1, 2, 3, 4] rfl)
  · exfalso; omega
