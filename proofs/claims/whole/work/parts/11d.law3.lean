set_option maxHeartbeats 4000000 in
set_option maxRecDepth 100000 in
theorem law_c18 {p : Program} {l : Launch} {e : Env} {s : State} {m : MethodId} {below : List Frame} {meth : Method} {c : Code} {D : va_G} {E : Nat × Nat × Nat} {b L : Nat} {xs : Nat → Int32} {h0 h1 h2 h3 b0 g0 g1 g2 : Nat} {y1 y2 y3 y6 y4 y5 : ClassId} {c9 : Nat} {x4 : Int32} {n w : Nat} {th : Int32} {T P M : Nat → Int32} {O : Nat → Int64} {H : Heap} {locs : List Loc} {ls : Array Slot} (hlt : l.stackTraces = false) (hEd : E.1 ≠ E.2.1 ∧ E.1 ≠ E.2.2 ∧ E.2.1 ≠ E.2.2) (hE : XEnv E (fun q : Nat => s.heap.size ≤ q) s s.heap) (hL : L ≤ 1536) (C0 : lw_At p s m meth c b L xs) (h4 : x4.toInt = ((3 * c9 : Nat) : Int)) (hc : 3 * c9 + 3 ≤ L) (hn : n ≤ 64) (hw : w ≤ 24) (hT : SymF T) (hPt : SymF P) (hK : va_K D vwCl (GT y1 y2 y3 y6 y4 y5) s) (hP : va_P D vwCl (GW h0 h1 h2 h3 b0 g0 g1 g2 y1 y2 y3 y6 y4 y5 n w th T P M O) H) (hD : va_D (fun q : Nat => s.heap.size ≤ q) (GW h0 h1 h2 h3 b0 g0 g1 g2 y1 y2 y3 y6 y4 y5 n w th T P M O)) (hS : va_S (fun q : Nat => s.heap.size ≤ q) s.heap H locs) (hl : lv_has ls 7 [(0, .ref b), (1, .ref h0), (2, .ref g0), (3, .ref b0), (4, .int x4)]) (K : LK p l e s m below meth c D b h0 h1 h2 h3 b0 g0 g1 g2 y1 y2 y3 y6 y4 y5 c9 x4) : W p l e room_1 s m #[Value.ref b] below meth c H locs (8 + 2 * c9) (252 + 12 * c9) (lw_Z below #[Value.ref b] s) (F0 m 935 ls []) := by
  obtain ⟨hx, hb, hr, hml, hown, hts0, hX, hbl, hlocks, hgv⟩ := C0
  have hts : ∀ w ∈ wsL_law, w.before #[Value.ref b] s = true := fun w h => hts0 w (wsL_law_in w h)
  have hA : ∀ q : Nat, s.heap.size ≤ q → (fun q : Nat => s.heap.size ≤ q) q := fun _ h => h
  have hbA : ¬ (fun q : Nat => s.heap.size ≤ q) b := Nat.not_le.mpr hbl
  have hR1 : room_1.cells = 1051 := rfl
  have hR2 : room_1.slots = 8558 := rfl
  have hKx := hK.sub (tys' := (XT y1 y2 y3)) [0, 1, 2] rfl
  have hKl := hK.sub (tys' := (LT y1 y2 y3 y6)) [0, 1, 2, 3] rfl
  have hKm := hK.sub (tys' := (MT y4 y5)) [4, 5] rfl
  refine lv_aload_n hx hb dL_law_935 rfl (lv_at hl 1 rfl) ?_
  refine lv_aload_n hx hb dL_law_936 rfl (lv_at hl 0 rfl) ?_
  refine lv_iload hx hb dL_law_937 (lv_at hl 4 rfl) ?_
  refine lv_iconst (v := 1) hx hb dL_law_939 (by decide) ?_
  refine z_iadd hx hb dL_law_940 h4 (show (1 : Int32).toInt = 1 by decide) (by omega) (by omega) (fun v940 e940 => ?_)
  have i941 : vp_in v940 L := vp_in_iff.mpr ⟨by omega, by omega⟩
  refine va_sld hx hb hX hbl hbA hS i941 dL_law_941 ?_
  refine lv_as (y := xs (3 * c9 + 1)) (congrArg xs (clN (Eq.trans e940 (by omega)))) ?_
  obtain ⟨a1, ha1⟩ : ∃ z, z = xs (3 * c9 + 1) := ⟨_, rfl⟩
  refine lv_as ha1.symm ?_
  refine lv_aload_n hx hb dL_law_942 rfl (lv_at hl 0 rfl) ?_
  refine lv_iload hx hb dL_law_943 (lv_at hl 4 rfl) ?_
  refine lv_iconst (v := 2) hx hb dL_law_945 (by decide) ?_
  refine z_iadd hx hb dL_law_946 h4 (show (2 : Int32).toInt = 2 by decide) (by omega) (by omega) (fun v946 e946 => ?_)
  have i947 : vp_in v946 L := vp_in_iff.mpr ⟨by omega, by omega⟩
  refine va_sld hx hb hX hbl hbA hS i947 dL_law_947 ?_
  refine lv_as (y := xs (3 * c9 + 2)) (congrArg xs (clN (Eq.trans e946 (by omega)))) ?_
  obtain ⟨a2, ha2⟩ : ∃ z, z = xs (3 * c9 + 2) := ⟨_, rfl⟩
  refine lv_as ha2.symm ?_
  refine lv_aload_n hx hb dL_law_948 rfl (lv_at hl 3 rfl) ?_
  have hPl := hP.sub (ws' := (LW h0 h1 h2 h3 b0 y1 y2 y3 y6 (n) (w) T P M O)) [0, 1, 2, 3, 4] rfl
  have hFc := va_free (wc := (LW h0 h1 h2 h3 b0 y1 y2 y3 y6 (n) (w) T P M O)) hD hS hA [0, 1, 2, 3, 4] rfl
  have hDl := hD.sub (ws' := (LW h0 h1 h2 h3 b0 y1 y2 y3 y6 (n) (w) T P M O)) [0, 1, 2, 3, 4] (by decide) rfl
  refine va_calli (vx_runSW (As := [.ref h0, .int a1, .int a2, .ref b0]) (rest := []) ⟨hx, hb, hml, hown, hts⟩ (c_L_nextMismatch l hlt D E h0 h1 h2 h3 b0 y1 y2 y3 y6 H.size n w T P M O hn hw hT hPt (hDl.weaken (fun _ _ _ _ => trivial)) a1 a2) (vx_cwSW 4 hts gL_law_L_nextMismatch rfl rfl rfl (by decide +kernel) ⟨Nat.le_of_ble_eq_true rfl, Nat.le_of_ble_eq_true rfl⟩) ⟨cp.blind, fun U hU hW => ⟨rfl, cp.call hPl hKl hE hS hFc hU hW⟩⟩ rfl rfl hl.1 rfl (lv_room (Nat.le_of_ble_eq_true rfl)) dL_law_949 ⟨by rw [hR1]; omega, by rw [hR2]; omega⟩) hS (fun q _ h => hFc q h) hFc (fun v949 u t H1 locs1 ht hvm ev hB hz1 hk1 hS => ?_)
  obtain ⟨e949, ev1⟩ := ev
  by_cases hk0 : kNM (pl n w) a1.toInt a2.toInt = 0
  · have _u := True.intro
    obtain ⟨hP1, hD1⟩ := hB.1 hk0
    have hu1 := ev1 hk0
    rw [ht] at hP1
    obtain ⟨hP, hD⟩ := va_join (wr := (MW g0 g1 g2 y4 y5 th (n) (w) T P)) (w1 := (LW h0 h1 h2 h3 b0 y1 y2 y3 y6 (n) (w) T P u.2 (vp_updL O 0 u.1.toInt64))) hP hD [0, 1, 2, 3, 4] [5, 6, 7] rfl rfl (by decide) (by decide) hk1 hFc hP1 hD1
    have hP := hP.sub (ws' := (GW h0 h1 h2 h3 b0 g0 g1 g2 y1 y2 y3 y6 y4 y5 (n) (w) th T P u.2 (vp_updL O 0 u.1.toInt64))) [3, 4, 5, 6, 7, 0, 1, 2] rfl
    have hD := hD.sub (ws' := (GW h0 h1 h2 h3 b0 g0 g1 g2 y1 y2 y3 y6 y4 y5 (n) (w) th T P u.2 (vp_updL O 0 u.1.toInt64))) [3, 4, 5, 6, 7, 0, 1, 2] (by decide) rfl
    generalize H1 = H at hP hS ⊢
    generalize locs1 = locs at hS ⊢
    refine lv_istore (lv' := [(5, .int v949), (0, .ref b), (1, .ref h0), (2, .ref g0), (3, .ref b0), (4, .int x4)]) hx hb dL_law_952 hl (by decide) rfl (fun ls hl => ?_)
    refine lv_aload_n hx hb dL_law_954 rfl (lv_at hl 3 rfl) ?_
    refine lv_aload_n hx hb dL_law_955 rfl (lv_at hl 1 rfl) ?_
    refine lv_iload hx hb dL_law_956 (lv_at hl 5 rfl) ?_
    refine lv_iconst (v := 1) hx hb dL_law_958 (by decide) ?_
    refine z_iadd hx hb dL_law_959 h4 (show (1 : Int32).toInt = 1 by decide) (by omega) (by omega) (fun v959 e959 => ?_)
    have i960 : vp_in v959 L := vp_in_iff.mpr ⟨by omega, by omega⟩
    refine va_sld hx hb hX hbl hbA hS i960 dL_law_960 ?_
    refine lv_as (y := xs (3 * c9 + 1)) (congrArg xs (clN (Eq.trans e959 (by omega)))) ?_
    refine lv_as ha1.symm ?_
    refine lv_aload_n hx hb dL_law_961 rfl (lv_at hl 1 rfl) ?_
    refine lv_iload hx hb dL_law_962 (lv_at hl 5 rfl) ?_
    refine lv_iconst (v := 2) hx hb dL_law_964 (by decide) ?_
    refine z_iadd hx hb dL_law_965 h4 (show (2 : Int32).toInt = 2 by decide) (by omega) (by omega) (fun v965 e965 => ?_)
    have i966 : vp_in v965 L := vp_in_iff.mpr ⟨by omega, by omega⟩
    refine va_sld hx hb hX hbl hbA hS i966 dL_law_966 ?_
    refine lv_as (y := xs (3 * c9 + 2)) (congrArg xs (clN (Eq.trans e965 (by omega)))) ?_
    refine lv_as ha2.symm ?_
    have hPc := hP.sub (ws' := (MW g0 g1 g2 y4 y5 th (n) (w) T P)) [5, 6, 7] rfl
    have hFc := va_free (wc := (MW g0 g1 g2 y4 y5 th (n) (w) T P)) hD hS hA [5, 6, 7] rfl
    have hDc := hD.sub (ws' := (MW g0 g1 g2 y4 y5 th (n) (w) T P)) [5, 6, 7] (by decide) rfl
    refine va_calli (va_runV (As := [.int a1, .int a2]) (rest := []) ⟨hx, hb, hml, hown, hts⟩ (c_X2_nextMismatch l D E g0 g1 g2 y4 y5 H.size (n) (w) th T P hn hw hT hPt (hDc.weaken (fun _ _ _ _ => trivial)) a1 a2) (cwV 2 hts gL_law_X2_nextMismatch rfl rfl rfl (by decide +kernel) ⟨Nat.le_of_ble_eq_true rfl, Nat.le_of_ble_eq_true rfl⟩) ⟨cp.blind, va_recv hK hP (ci := 1) (q0 := 5) rfl rfl, fun U hU hW => ⟨rfl, cp.call hPc hKm hE hS hFc hU hW⟩⟩ rfl rfl hl.1 rfl (lv_room (Nat.le_of_ble_eq_true rfl)) dL_law_967 ⟨by rw [hR1]; omega, by rw [hR2]; omega⟩) hS (fun q _ h => hFc q h) hFc (fun v967 u967 t H1 locs1 ht hvm e967 hB hz1 hk1 hS => ?_)
    obtain ⟨et967, ev967⟩ := e967
    obtain ⟨hP1, hD1⟩ := hB
    have e967 := ev967 hk0
    rw [ht] at hP1
    obtain ⟨hP, hD⟩ := va_join (wr := (LW h0 h1 h2 h3 b0 y1 y2 y3 y6 (n) (w) T P u.2 (vp_updL O 0 u.1.toInt64))) (w1 := (MW g0 g1 g2 y4 y5 u967 (n) (w) T P)) hP hD [5, 6, 7] [0, 1, 2, 3, 4] rfl rfl (by decide) (by decide) hk1 hFc hP1 hD1
    have hP : va_P D vwCl (GW h0 h1 h2 h3 b0 g0 g1 g2 y1 y2 y3 y6 y4 y5 (n) (w) u967 T P u.2 (vp_updL O 0 u.1.toInt64)) H1 := hP
    have hD : va_D (fun q : Nat => s.heap.size ≤ q) (GW h0 h1 h2 h3 b0 g0 g1 g2 y1 y2 y3 y6 y4 y5 (n) (w) u967 T P u.2 (vp_updL O 0 u.1.toInt64)) := hD
    generalize H1 = H at hP hS ⊢
    generalize locs1 = locs at hS ⊢
    refine lv_istore (lv' := [(6, .int v967), (5, .int v949), (0, .ref b), (1, .ref h0), (2, .ref g0), (3, .ref b0), (4, .int x4)]) hx hb dL_law_970 hl (by decide) rfl (fun ls hl => ?_)
    refine lv_aload_n hx hb dL_law_972 rfl (lv_at hl 4 rfl) ?_
    have hPc := hP.sub (ws' := (MW g0 g1 g2 y4 y5 u967 (n) (w) T P)) [5, 6, 7] rfl
    refine va_calli (va_runV (As := []) (rest := []) ⟨hx, hb, hml, hown, hts⟩ (c_X2_thrown l D E g0 g1 g2 y4 y5 H.size (n) (w) u967 T P hn hw hT hPt) (cwV 0 hts gL_law_X2_thrown rfl rfl rfl (by decide +kernel) ⟨Nat.le_of_ble_eq_true rfl, Nat.le_of_ble_eq_true rfl⟩) ⟨cp.blind, va_recv hK hP (ci := 1) (q0 := 5) rfl rfl, fun U hU hW => ⟨rfl, cp.call hPc hKm hE hS (fr0 hS hA) hU hW⟩⟩ rfl rfl hl.1 rfl (lv_room (Nat.le_of_ble_eq_true rfl)) dL_law_973 ⟨by rw [hR1]; omega, by rw [hR2]; omega⟩) hS (fun q _ h => (fr0 hS hA) q h) (fr0 hS hA) (fun v973 u973 t H1 locs1 ht hvm e973 hB hz1 hk1 hS => ?_)
    have hP := kp hP hk1
    generalize H1 = H at hP hS ⊢
    generalize locs1 = locs at hS ⊢
    refine lv_iload hx hb dL_law_976 (lv_at hl 1 rfl) ?_
    refine z_icmp_eq (tgt := 983) hx hb dL_law_978 (by decide) (Eq.trans e973 et967) e949 (fun c978 => ?_) (fun c978 => ?_)
    · have _u := True.intro
      refine lv_iload hx hb dL_law_983 (lv_at hl 1 rfl) ?_
      refine z_if_ne (tgt := 1000) hx hb dL_law_985 (by decide) e949 (fun c985 => ?_) (fun c985 => ?_)
      · have _u := True.intro
        exfalso; omega
      · have _u := True.intro
        refine lv_aload_n hx hb dL_law_988 rfl (lv_at hl 5 rfl) ?_
        refine lv_iconst (v := 0) hx hb dL_law_989 (by decide) ?_
        refine z_lald hx hb hK hP 4 3 rfl rfl 0 (show (0 : Int32).toInt = 0 by decide) rfl (by decide) dL_law_990 ?_
        refine lv_iload hx hb dL_law_991 (lv_at hl 0 rfl) ?_
        refine z_i2l hx hb dL_law_993 e967 (fun v993 e993 => ?_)
        refine z_lcmp hx hb dL_law_994 (show ((vp_updL O 0 u.1.toInt64) 0).toInt = u.1.toInt by rw [pk_uLs, Int32.toInt_toInt64]) e993 (fun v994 z994 e994 f994 k994 => ?_)
        refine z_if_eq (tgt := 1000) hx hb dL_law_995 (by decide) e994 (fun c995 => ?_) (fun c995 => ?_)
        · have _u := True.intro
          refine lv_goto (tgt := 1453) hx hb dL_law_1000 (by decide) ?_
          refine W.widen (k := 8 + 2 * c9 + 2) (n := 252 + 12 * c9 + 12) (by omega) (by omega) ?_
          exact K (n) (w) u967 T P u.2 (vp_updL O 0 u.1.toInt64) hn hw hT hPt _ _ hP hD hS _ (lv_sub hl [2, 3, 4, 5, 6] rfl)
        · exfalso; omega
    · exfalso; omega
  · have _u := True.intro
    obtain ⟨hP1, hD1⟩ := hB.2 hk0
    rw [ht] at hP1
    obtain ⟨hP, hD⟩ := va_join (wr := (MW g0 g1 g2 y4 y5 th (n) (w) T P)) (w1 := (LW h0 h1 h2 h3 b0 y1 y2 y3 y6 (n) (w) T P u.2 O)) hP hD [0, 1, 2, 3, 4] [5, 6, 7] rfl rfl (by decide) (by decide) hk1 hFc hP1 hD1
    have hP := hP.sub (ws' := (GW h0 h1 h2 h3 b0 g0 g1 g2 y1 y2 y3 y6 y4 y5 (n) (w) th T P u.2 O)) [3, 4, 5, 6, 7, 0, 1, 2] rfl
    have hD := hD.sub (ws' := (GW h0 h1 h2 h3 b0 g0 g1 g2 y1 y2 y3 y6 y4 y5 (n) (w) th T P u.2 O)) [3, 4, 5, 6, 7, 0, 1, 2] (by decide) rfl
    generalize H1 = H at hP hS ⊢
    generalize locs1 = locs at hS ⊢
    refine lv_istore (lv' := [(5, .int v949), (0, .ref b), (1, .ref h0), (2, .ref g0), (3, .ref b0), (4, .int x4)]) hx hb dL_law_952 hl (by decide) rfl (fun ls hl => ?_)
    refine lv_aload_n hx hb dL_law_954 rfl (lv_at hl 3 rfl) ?_
    refine lv_aload_n hx hb dL_law_955 rfl (lv_at hl 1 rfl) ?_
    refine lv_iload hx hb dL_law_956 (lv_at hl 5 rfl) ?_
    refine lv_iconst (v := 1) hx hb dL_law_958 (by decide) ?_
    refine z_iadd hx hb dL_law_959 h4 (show (1 : Int32).toInt = 1 by decide) (by omega) (by omega) (fun v959 e959 => ?_)
    have i960 : vp_in v959 L := vp_in_iff.mpr ⟨by omega, by omega⟩
    refine va_sld hx hb hX hbl hbA hS i960 dL_law_960 ?_
    refine lv_as (y := xs (3 * c9 + 1)) (congrArg xs (clN (Eq.trans e959 (by omega)))) ?_
    refine lv_as ha1.symm ?_
    refine lv_aload_n hx hb dL_law_961 rfl (lv_at hl 1 rfl) ?_
    refine lv_iload hx hb dL_law_962 (lv_at hl 5 rfl) ?_
    refine lv_iconst (v := 2) hx hb dL_law_964 (by decide) ?_
    refine z_iadd hx hb dL_law_965 h4 (show (2 : Int32).toInt = 2 by decide) (by omega) (by omega) (fun v965 e965 => ?_)
    have i966 : vp_in v965 L := vp_in_iff.mpr ⟨by omega, by omega⟩
    refine va_sld hx hb hX hbl hbA hS i966 dL_law_966 ?_
    refine lv_as (y := xs (3 * c9 + 2)) (congrArg xs (clN (Eq.trans e965 (by omega)))) ?_
    refine lv_as ha2.symm ?_
    have hPc := hP.sub (ws' := (MW g0 g1 g2 y4 y5 th (n) (w) T P)) [5, 6, 7] rfl
    have hFc := va_free (wc := (MW g0 g1 g2 y4 y5 th (n) (w) T P)) hD hS hA [5, 6, 7] rfl
    have hDc := hD.sub (ws' := (MW g0 g1 g2 y4 y5 th (n) (w) T P)) [5, 6, 7] (by decide) rfl
    refine va_calli (va_runV (As := [.int a1, .int a2]) (rest := []) ⟨hx, hb, hml, hown, hts⟩ (c_X2_nextMismatch l D E g0 g1 g2 y4 y5 H.size (n) (w) th T P hn hw hT hPt (hDc.weaken (fun _ _ _ _ => trivial)) a1 a2) (cwV 2 hts gL_law_X2_nextMismatch rfl rfl rfl (by decide +kernel) ⟨Nat.le_of_ble_eq_true rfl, Nat.le_of_ble_eq_true rfl⟩) ⟨cp.blind, va_recv hK hP (ci := 1) (q0 := 5) rfl rfl, fun U hU hW => ⟨rfl, cp.call hPc hKm hE hS hFc hU hW⟩⟩ rfl rfl hl.1 rfl (lv_room (Nat.le_of_ble_eq_true rfl)) dL_law_967 ⟨by rw [hR1]; omega, by rw [hR2]; omega⟩) hS (fun q _ h => hFc q h) hFc (fun v967 u967 t H1 locs1 ht hvm e967 hB hz1 hk1 hS => ?_)
    obtain ⟨et967, ev967⟩ := e967
    obtain ⟨hP1, hD1⟩ := hB
    rw [ht] at hP1
    obtain ⟨hP, hD⟩ := va_join (wr := (LW h0 h1 h2 h3 b0 y1 y2 y3 y6 (n) (w) T P u.2 O)) (w1 := (MW g0 g1 g2 y4 y5 u967 (n) (w) T P)) hP hD [5, 6, 7] [0, 1, 2, 3, 4] rfl rfl (by decide) (by decide) hk1 hFc hP1 hD1
    have hP : va_P D vwCl (GW h0 h1 h2 h3 b0 g0 g1 g2 y1 y2 y3 y6 y4 y5 (n) (w) u967 T P u.2 O) H1 := hP
    have hD : va_D (fun q : Nat => s.heap.size ≤ q) (GW h0 h1 h2 h3 b0 g0 g1 g2 y1 y2 y3 y6 y4 y5 (n) (w) u967 T P u.2 O) := hD
    generalize H1 = H at hP hS ⊢
    generalize locs1 = locs at hS ⊢
    refine lv_istore (lv' := [(6, .int v967), (5, .int v949), (0, .ref b), (1, .ref h0), (2, .ref g0), (3, .ref b0), (4, .int x4)]) hx hb dL_law_970 hl (by decide) rfl (fun ls hl => ?_)
    refine lv_aload_n hx hb dL_law_972 rfl (lv_at hl 4 rfl) ?_
    have hPc := hP.sub (ws' := (MW g0 g1 g2 y4 y5 u967 (n) (w) T P)) [5, 6, 7] rfl
    refine va_calli (va_runV (As := []) (rest := []) ⟨hx, hb, hml, hown, hts⟩ (c_X2_thrown l D E g0 g1 g2 y4 y5 H.size (n) (w) u967 T P hn hw hT hPt) (cwV 0 hts gL_law_X2_thrown rfl rfl rfl (by decide +kernel) ⟨Nat.le_of_ble_eq_true rfl, Nat.le_of_ble_eq_true rfl⟩) ⟨cp.blind, va_recv hK hP (ci := 1) (q0 := 5) rfl rfl, fun U hU hW => ⟨rfl, cp.call hPc hKm hE hS (fr0 hS hA) hU hW⟩⟩ rfl rfl hl.1 rfl (lv_room (Nat.le_of_ble_eq_true rfl)) dL_law_973 ⟨by rw [hR1]; omega, by rw [hR2]; omega⟩) hS (fun q _ h => (fr0 hS hA) q h) (fr0 hS hA) (fun v973 u973 t H1 locs1 ht hvm e973 hB hz1 hk1 hS => ?_)
    have hP := kp hP hk1
    generalize H1 = H at hP hS ⊢
    generalize locs1 = locs at hS ⊢
    refine lv_iload hx hb dL_law_976 (lv_at hl 1 rfl) ?_
    refine z_icmp_eq (tgt := 983) hx hb dL_law_978 (by decide) (Eq.trans e973 et967) e949 (fun c978 => ?_) (fun c978 => ?_)
    · have _u := True.intro
      refine lv_iload hx hb dL_law_983 (lv_at hl 1 rfl) ?_
      refine z_if_ne (tgt := 1000) hx hb dL_law_985 (by decide) e949 (fun c985 => ?_) (fun c985 => ?_)
      · have _u := True.intro
        refine lv_goto (tgt := 1453) hx hb dL_law_1000 (by decide) ?_
        refine W.widen (k := 8 + 2 * c9 + 2) (n := 252 + 12 * c9 + 12) (by omega) (by omega) ?_
        exact K (n) (w) u967 T P u.2 O hn hw hT hPt _ _ hP hD hS _ (lv_sub hl [2, 3, 4, 5, 6] rfl)
      · have _u := True.intro
        exfalso; omega
    · exfalso; omega
set_option maxHeartbeats 4000000 in
set_option maxRecDepth 100000 in
theorem law_c19 {p : Program} {l : Launch} {e : Env} {s : State} {m : MethodId} {below : List Frame} {meth : Method} {c : Code} {D : va_G} {E : Nat × Nat × Nat} {b L : Nat} {xs : Nat → Int32} {h0 h1 h2 h3 b0 g0 g1 g2 : Nat} {y1 y2 y3 y6 y4 y5 : ClassId} {c9 : Nat} {x4 : Int32} {n w : Nat} {th : Int32} {T P M : Nat → Int32} {O : Nat → Int64} {H : Heap} {locs : List Loc} {ls : Array Slot} (hlt : l.stackTraces = false) (hEd : E.1 ≠ E.2.1 ∧ E.1 ≠ E.2.2 ∧ E.2.1 ≠ E.2.2) (hE : XEnv E (fun q : Nat => s.heap.size ≤ q) s s.heap) (hL : L ≤ 1536) (C0 : lw_At p s m meth c b L xs) (h4 : x4.toInt = ((3 * c9 : Nat) : Int)) (hc : 3 * c9 + 3 ≤ L) (hn : n ≤ 64) (hw : w ≤ 24) (hT : SymF T) (hPt : SymF P) (hK : va_K D vwCl (GT y1 y2 y3 y6 y4 y5) s) (hP : va_P D vwCl (GW h0 h1 h2 h3 b0 g0 g1 g2 y1 y2 y3 y6 y4 y5 n w th T P M O) H) (hD : va_D (fun q : Nat => s.heap.size ≤ q) (GW h0 h1 h2 h3 b0 g0 g1 g2 y1 y2 y3 y6 y4 y5 n w th T P M O)) (hS : va_S (fun q : Nat => s.heap.size ≤ q) s.heap H locs) (hl : lv_has ls 7 [(0, .ref b), (1, .ref h0), (2, .ref g0), (3, .ref b0), (4, .int x4)]) (K : LK p l e s m below meth c D b h0 h1 h2 h3 b0 g0 g1 g2 y1 y2 y3 y6 y4 y5 c9 x4) : W p l e room_1 s m #[Value.ref b] below meth c H locs (8 + 2 * c9) (252 + 12 * c9) (lw_Z below #[Value.ref b] s) (F0 m 1003 ls []) := by
  obtain ⟨hx, hb, hr, hml, hown, hts0, hX, hbl, hlocks, hgv⟩ := C0
  have hts : ∀ w ∈ wsL_law, w.before #[Value.ref b] s = true := fun w h => hts0 w (wsL_law_in w h)
  have hA : ∀ q : Nat, s.heap.size ≤ q → (fun q : Nat => s.heap.size ≤ q) q := fun _ h => h
  have hbA : ¬ (fun q : Nat => s.heap.size ≤ q) b := Nat.not_le.mpr hbl
  have hR1 : room_1.cells = 1051 := rfl
  have hR2 : room_1.slots = 8558 := rfl
  have hKx := hK.sub (tys' := (XT y1 y2 y3)) [0, 1, 2] rfl
  have hKl := hK.sub (tys' := (LT y1 y2 y3 y6)) [0, 1, 2, 3] rfl
  have hKm := hK.sub (tys' := (MT y4 y5)) [4, 5] rfl
  refine lv_aload_n hx hb dL_law_1003 rfl (lv_at hl 1 rfl) ?_
  refine lv_aload_n hx hb dL_law_1004 rfl (lv_at hl 0 rfl) ?_
  refine lv_iload hx hb dL_law_1005 (lv_at hl 4 rfl) ?_
  refine lv_iconst (v := 1) hx hb dL_law_1007 (by decide) ?_
  refine z_iadd hx hb dL_law_1008 h4 (show (1 : Int32).toInt = 1 by decide) (by omega) (by omega) (fun v1008 e1008 => ?_)
  have i1009 : vp_in v1008 L := vp_in_iff.mpr ⟨by omega, by omega⟩
  refine va_sld hx hb hX hbl hbA hS i1009 dL_law_1009 ?_
  refine lv_as (y := xs (3 * c9 + 1)) (congrArg xs (clN (Eq.trans e1008 (by omega)))) ?_
  obtain ⟨a1, ha1⟩ : ∃ z, z = xs (3 * c9 + 1) := ⟨_, rfl⟩
  refine lv_as ha1.symm ?_
  refine lv_aload_n hx hb dL_law_1010 rfl (lv_at hl 0 rfl) ?_
  refine lv_iload hx hb dL_law_1011 (lv_at hl 4 rfl) ?_
  refine lv_iconst (v := 2) hx hb dL_law_1013 (by decide) ?_
  refine z_iadd hx hb dL_law_1014 h4 (show (2 : Int32).toInt = 2 by decide) (by omega) (by omega) (fun v1014 e1014 => ?_)
  have i1015 : vp_in v1014 L := vp_in_iff.mpr ⟨by omega, by omega⟩
  refine va_sld hx hb hX hbl hbA hS i1015 dL_law_1015 ?_
  refine lv_as (y := xs (3 * c9 + 2)) (congrArg xs (clN (Eq.trans e1014 (by omega)))) ?_
  obtain ⟨a2, ha2⟩ : ∃ z, z = xs (3 * c9 + 2) := ⟨_, rfl⟩
  refine lv_as ha2.symm ?_
  refine lv_aload_n hx hb dL_law_1016 rfl (lv_at hl 3 rfl) ?_
  have hPl := hP.sub (ws' := (LW h0 h1 h2 h3 b0 y1 y2 y3 y6 (n) (w) T P M O)) [0, 1, 2, 3, 4] rfl
  have hFc := va_free (wc := (LW h0 h1 h2 h3 b0 y1 y2 y3 y6 (n) (w) T P M O)) hD hS hA [0, 1, 2, 3, 4] rfl
  have hDl := hD.sub (ws' := (LW h0 h1 h2 h3 b0 y1 y2 y3 y6 (n) (w) T P M O)) [0, 1, 2, 3, 4] (by decide) rfl
  refine va_calli (vx_runSW (As := [.ref h0, .int a1, .int a2, .ref b0]) (rest := []) ⟨hx, hb, hml, hown, hts⟩ (c_L_agreement l hlt D E h0 h1 h2 h3 b0 y1 y2 y3 y6 H.size n w T P M O hn hw hT hPt (hDl.weaken (fun _ _ _ _ => trivial)) a1 a2) (vx_cwSW 4 hts gL_law_L_agreement rfl rfl rfl (by decide +kernel) ⟨Nat.le_of_ble_eq_true rfl, Nat.le_of_ble_eq_true rfl⟩) ⟨cp.blind, fun U hU hW => ⟨rfl, cp.call hPl hKl hE hS hFc hU hW⟩⟩ rfl rfl hl.1 rfl (lv_room (Nat.le_of_ble_eq_true rfl)) dL_law_1017 ⟨by rw [hR1]; omega, by rw [hR2]; omega⟩) hS (fun q _ h => hFc q h) hFc (fun v1017 u t H1 locs1 ht hvm ev hB hz1 hk1 hS => ?_)
  obtain ⟨e1017, ev1⟩ := ev
  by_cases hk0 : kAg n w a1.toInt a2.toInt = 0
  · have _u := True.intro
    obtain ⟨hP1, hD1⟩ := hB.1 hk0
    have hu1 := ev1 hk0
    rw [ht] at hP1
    obtain ⟨hP, hD⟩ := va_join (wr := (MW g0 g1 g2 y4 y5 th (n) (w) T P)) (w1 := (LW h0 h1 h2 h3 b0 y1 y2 y3 y6 (n) (w) T P u.2 (vp_updL O 0 u.1.toInt64))) hP hD [0, 1, 2, 3, 4] [5, 6, 7] rfl rfl (by decide) (by decide) hk1 hFc hP1 hD1
    have hP := hP.sub (ws' := (GW h0 h1 h2 h3 b0 g0 g1 g2 y1 y2 y3 y6 y4 y5 (n) (w) th T P u.2 (vp_updL O 0 u.1.toInt64))) [3, 4, 5, 6, 7, 0, 1, 2] rfl
    have hD := hD.sub (ws' := (GW h0 h1 h2 h3 b0 g0 g1 g2 y1 y2 y3 y6 y4 y5 (n) (w) th T P u.2 (vp_updL O 0 u.1.toInt64))) [3, 4, 5, 6, 7, 0, 1, 2] (by decide) rfl
    generalize H1 = H at hP hS ⊢
    generalize locs1 = locs at hS ⊢
    refine lv_istore (lv' := [(5, .int v1017), (0, .ref b), (1, .ref h0), (2, .ref g0), (3, .ref b0), (4, .int x4)]) hx hb dL_law_1020 hl (by decide) rfl (fun ls hl => ?_)
    refine lv_aload_n hx hb dL_law_1022 rfl (lv_at hl 3 rfl) ?_
    refine lv_aload_n hx hb dL_law_1023 rfl (lv_at hl 1 rfl) ?_
    refine lv_iload hx hb dL_law_1024 (lv_at hl 5 rfl) ?_
    refine lv_iconst (v := 1) hx hb dL_law_1026 (by decide) ?_
    refine z_iadd hx hb dL_law_1027 h4 (show (1 : Int32).toInt = 1 by decide) (by omega) (by omega) (fun v1027 e1027 => ?_)
    have i1028 : vp_in v1027 L := vp_in_iff.mpr ⟨by omega, by omega⟩
    refine va_sld hx hb hX hbl hbA hS i1028 dL_law_1028 ?_
    refine lv_as (y := xs (3 * c9 + 1)) (congrArg xs (clN (Eq.trans e1027 (by omega)))) ?_
    refine lv_as ha1.symm ?_
    refine lv_aload_n hx hb dL_law_1029 rfl (lv_at hl 1 rfl) ?_
    refine lv_iload hx hb dL_law_1030 (lv_at hl 5 rfl) ?_
    refine lv_iconst (v := 2) hx hb dL_law_1032 (by decide) ?_
    refine z_iadd hx hb dL_law_1033 h4 (show (2 : Int32).toInt = 2 by decide) (by omega) (by omega) (fun v1033 e1033 => ?_)
    have i1034 : vp_in v1033 L := vp_in_iff.mpr ⟨by omega, by omega⟩
    refine va_sld hx hb hX hbl hbA hS i1034 dL_law_1034 ?_
    refine lv_as (y := xs (3 * c9 + 2)) (congrArg xs (clN (Eq.trans e1033 (by omega)))) ?_
    refine lv_as ha2.symm ?_
    have hPc := hP.sub (ws' := (MW g0 g1 g2 y4 y5 th (n) (w) T P)) [5, 6, 7] rfl
    have hFc := va_free (wc := (MW g0 g1 g2 y4 y5 th (n) (w) T P)) hD hS hA [5, 6, 7] rfl
    have hDc := hD.sub (ws' := (MW g0 g1 g2 y4 y5 th (n) (w) T P)) [5, 6, 7] (by decide) rfl
    refine va_calli (va_runV (As := [.int a1, .int a2]) (rest := []) ⟨hx, hb, hml, hown, hts⟩ (c_X2_agreement l D E g0 g1 g2 y4 y5 H.size (n) (w) th T P hn hw hT hPt (hDc.weaken (fun _ _ _ _ => trivial)) a1 a2) (cwV 2 hts gL_law_X2_agreement rfl rfl rfl (by decide +kernel) ⟨Nat.le_of_ble_eq_true rfl, Nat.le_of_ble_eq_true rfl⟩) ⟨cp.blind, va_recv hK hP (ci := 1) (q0 := 5) rfl rfl, fun U hU hW => ⟨rfl, cp.call hPc hKm hE hS hFc hU hW⟩⟩ rfl rfl hl.1 rfl (lv_room (Nat.le_of_ble_eq_true rfl)) dL_law_1035 ⟨by rw [hR1]; omega, by rw [hR2]; omega⟩) hS (fun q _ h => hFc q h) hFc (fun v1035 u1035 t H1 locs1 ht hvm e1035 hB hz1 hk1 hS => ?_)
    obtain ⟨et1035, ev1035⟩ := e1035
    obtain ⟨hP1, hD1⟩ := hB
    have e1035 := ev1035 hk0
    rw [ht] at hP1
    obtain ⟨hP, hD⟩ := va_join (wr := (LW h0 h1 h2 h3 b0 y1 y2 y3 y6 (n) (w) T P u.2 (vp_updL O 0 u.1.toInt64))) (w1 := (MW g0 g1 g2 y4 y5 u1035 (n) (w) T P)) hP hD [5, 6, 7] [0, 1, 2, 3, 4] rfl rfl (by decide) (by decide) hk1 hFc hP1 hD1
    have hP : va_P D vwCl (GW h0 h1 h2 h3 b0 g0 g1 g2 y1 y2 y3 y6 y4 y5 (n) (w) u1035 T P u.2 (vp_updL O 0 u.1.toInt64)) H1 := hP
    have hD : va_D (fun q : Nat => s.heap.size ≤ q) (GW h0 h1 h2 h3 b0 g0 g1 g2 y1 y2 y3 y6 y4 y5 (n) (w) u1035 T P u.2 (vp_updL O 0 u.1.toInt64)) := hD
    generalize H1 = H at hP hS ⊢
    generalize locs1 = locs at hS ⊢
    refine lv_istore (lv' := [(6, .int v1035), (5, .int v1017), (0, .ref b), (1, .ref h0), (2, .ref g0), (3, .ref b0), (4, .int x4)]) hx hb dL_law_1038 hl (by decide) rfl (fun ls hl => ?_)
    refine lv_aload_n hx hb dL_law_1040 rfl (lv_at hl 4 rfl) ?_
    have hPc := hP.sub (ws' := (MW g0 g1 g2 y4 y5 u1035 (n) (w) T P)) [5, 6, 7] rfl
    refine va_calli (va_runV (As := []) (rest := []) ⟨hx, hb, hml, hown, hts⟩ (c_X2_thrown l D E g0 g1 g2 y4 y5 H.size (n) (w) u1035 T P hn hw hT hPt) (cwV 0 hts gL_law_X2_thrown rfl rfl rfl (by decide +kernel) ⟨Nat.le_of_ble_eq_true rfl, Nat.le_of_ble_eq_true rfl⟩) ⟨cp.blind, va_recv hK hP (ci := 1) (q0 := 5) rfl rfl, fun U hU hW => ⟨rfl, cp.call hPc hKm hE hS (fr0 hS hA) hU hW⟩⟩ rfl rfl hl.1 rfl (lv_room (Nat.le_of_ble_eq_true rfl)) dL_law_1041 ⟨by rw [hR1]; omega, by rw [hR2]; omega⟩) hS (fun q _ h => (fr0 hS hA) q h) (fr0 hS hA) (fun v1041 u1041 t H1 locs1 ht hvm e1041 hB hz1 hk1 hS => ?_)
    have hP := kp hP hk1
    generalize H1 = H at hP hS ⊢
    generalize locs1 = locs at hS ⊢
    refine lv_iload hx hb dL_law_1044 (lv_at hl 1 rfl) ?_
    refine z_icmp_eq (tgt := 1051) hx hb dL_law_1046 (by decide) (Eq.trans e1041 et1035) e1017 (fun c1046 => ?_) (fun c1046 => ?_)
    · have _u := True.intro
      refine lv_iload hx hb dL_law_1051 (lv_at hl 1 rfl) ?_
      refine z_if_ne (tgt := 1068) hx hb dL_law_1053 (by decide) e1017 (fun c1053 => ?_) (fun c1053 => ?_)
      · have _u := True.intro
        exfalso; omega
      · have _u := True.intro
        refine lv_aload_n hx hb dL_law_1056 rfl (lv_at hl 5 rfl) ?_
        refine lv_iconst (v := 0) hx hb dL_law_1057 (by decide) ?_
        refine z_lald hx hb hK hP 4 3 rfl rfl 0 (show (0 : Int32).toInt = 0 by decide) rfl (by decide) dL_law_1058 ?_
        refine lv_iload hx hb dL_law_1059 (lv_at hl 0 rfl) ?_
        refine z_i2l hx hb dL_law_1061 e1035 (fun v1061 e1061 => ?_)
        refine z_lcmp hx hb dL_law_1062 (show ((vp_updL O 0 u.1.toInt64) 0).toInt = u.1.toInt by rw [pk_uLs, Int32.toInt_toInt64]) e1061 (fun v1062 z1062 e1062 f1062 k1062 => ?_)
        refine z_if_eq (tgt := 1068) hx hb dL_law_1063 (by decide) e1062 (fun c1063 => ?_) (fun c1063 => ?_)
        · have _u := True.intro
          refine lv_goto (tgt := 1453) hx hb dL_law_1068 (by decide) ?_
          refine W.widen (k := 8 + 2 * c9 + 2) (n := 252 + 12 * c9 + 12) (by omega) (by omega) ?_
          exact K (n) (w) u1035 T P u.2 (vp_updL O 0 u.1.toInt64) hn hw hT hPt _ _ hP hD hS _ (lv_sub hl [2, 3, 4, 5, 6] rfl)
        · exfalso; omega
    · exfalso; omega
  · have _u := True.intro
    obtain ⟨hP1, hD1⟩ := hB.2 hk0
    rw [ht] at hP1
    obtain ⟨hP, hD⟩ := va_join (wr := (MW g0 g1 g2 y4 y5 th (n) (w) T P)) (w1 := (LW h0 h1 h2 h3 b0 y1 y2 y3 y6 (n) (w) T P u.2 O)) hP hD [0, 1, 2, 3, 4] [5, 6, 7] rfl rfl (by decide) (by decide) hk1 hFc hP1 hD1
    have hP := hP.sub (ws' := (GW h0 h1 h2 h3 b0 g0 g1 g2 y1 y2 y3 y6 y4 y5 (n) (w) th T P u.2 O)) [3, 4, 5, 6, 7, 0, 1, 2] rfl
    have hD := hD.sub (ws' := (GW h0 h1 h2 h3 b0 g0 g1 g2 y1 y2 y3 y6 y4 y5 (n) (w) th T P u.2 O)) [3, 4, 5, 6, 7, 0, 1, 2] (by decide) rfl
    generalize H1 = H at hP hS ⊢
    generalize locs1 = locs at hS ⊢
    refine lv_istore (lv' := [(5, .int v1017), (0, .ref b), (1, .ref h0), (2, .ref g0), (3, .ref b0), (4, .int x4)]) hx hb dL_law_1020 hl (by decide) rfl (fun ls hl => ?_)
    refine lv_aload_n hx hb dL_law_1022 rfl (lv_at hl 3 rfl) ?_
    refine lv_aload_n hx hb dL_law_1023 rfl (lv_at hl 1 rfl) ?_
    refine lv_iload hx hb dL_law_1024 (lv_at hl 5 rfl) ?_
    refine lv_iconst (v := 1) hx hb dL_law_1026 (by decide) ?_
    refine z_iadd hx hb dL_law_1027 h4 (show (1 : Int32).toInt = 1 by decide) (by omega) (by omega) (fun v1027 e1027 => ?_)
    have i1028 : vp_in v1027 L := vp_in_iff.mpr ⟨by omega, by omega⟩
    refine va_sld hx hb hX hbl hbA hS i1028 dL_law_1028 ?_
    refine lv_as (y := xs (3 * c9 + 1)) (congrArg xs (clN (Eq.trans e1027 (by omega)))) ?_
    refine lv_as ha1.symm ?_
    refine lv_aload_n hx hb dL_law_1029 rfl (lv_at hl 1 rfl) ?_
    refine lv_iload hx hb dL_law_1030 (lv_at hl 5 rfl) ?_
    refine lv_iconst (v := 2) hx hb dL_law_1032 (by decide) ?_
    refine z_iadd hx hb dL_law_1033 h4 (show (2 : Int32).toInt = 2 by decide) (by omega) (by omega) (fun v1033 e1033 => ?_)
    have i1034 : vp_in v1033 L := vp_in_iff.mpr ⟨by omega, by omega⟩
    refine va_sld hx hb hX hbl hbA hS i1034 dL_law_1034 ?_
    refine lv_as (y := xs (3 * c9 + 2)) (congrArg xs (clN (Eq.trans e1033 (by omega)))) ?_
    refine lv_as ha2.symm ?_
    have hPc := hP.sub (ws' := (MW g0 g1 g2 y4 y5 th (n) (w) T P)) [5, 6, 7] rfl
    have hFc := va_free (wc := (MW g0 g1 g2 y4 y5 th (n) (w) T P)) hD hS hA [5, 6, 7] rfl
    have hDc := hD.sub (ws' := (MW g0 g1 g2 y4 y5 th (n) (w) T P)) [5, 6, 7] (by decide) rfl
    refine va_calli (va_runV (As := [.int a1, .int a2]) (rest := []) ⟨hx, hb, hml, hown, hts⟩ (c_X2_agreement l D E g0 g1 g2 y4 y5 H.size (n) (w) th T P hn hw hT hPt (hDc.weaken (fun _ _ _ _ => trivial)) a1 a2) (cwV 2 hts gL_law_X2_agreement rfl rfl rfl (by decide +kernel) ⟨Nat.le_of_ble_eq_true rfl, Nat.le_of_ble_eq_true rfl⟩) ⟨cp.blind, va_recv hK hP (ci := 1) (q0 := 5) rfl rfl, fun U hU hW => ⟨rfl, cp.call hPc hKm hE hS hFc hU hW⟩⟩ rfl rfl hl.1 rfl (lv_room (Nat.le_of_ble_eq_true rfl)) dL_law_1035 ⟨by rw [hR1]; omega, by rw [hR2]; omega⟩) hS (fun q _ h => hFc q h) hFc (fun v1035 u1035 t H1 locs1 ht hvm e1035 hB hz1 hk1 hS => ?_)
    obtain ⟨et1035, ev1035⟩ := e1035
    obtain ⟨hP1, hD1⟩ := hB
    rw [ht] at hP1
    obtain ⟨hP, hD⟩ := va_join (wr := (LW h0 h1 h2 h3 b0 y1 y2 y3 y6 (n) (w) T P u.2 O)) (w1 := (MW g0 g1 g2 y4 y5 u1035 (n) (w) T P)) hP hD [5, 6, 7] [0, 1, 2, 3, 4] rfl rfl (by decide) (by decide) hk1 hFc hP1 hD1
    have hP : va_P D vwCl (GW h0 h1 h2 h3 b0 g0 g1 g2 y1 y2 y3 y6 y4 y5 (n) (w) u1035 T P u.2 O) H1 := hP
    have hD : va_D (fun q : Nat => s.heap.size ≤ q) (GW h0 h1 h2 h3 b0 g0 g1 g2 y1 y2 y3 y6 y4 y5 (n) (w) u1035 T P u.2 O) := hD
    generalize H1 = H at hP hS ⊢
    generalize locs1 = locs at hS ⊢
    refine lv_istore (lv' := [(6, .int v1035), (5, .int v1017), (0, .ref b), (1, .ref h0), (2, .ref g0), (3, .ref b0), (4, .int x4)]) hx hb dL_law_1038 hl (by decide) rfl (fun ls hl => ?_)
    refine lv_aload_n hx hb dL_law_1040 rfl (lv_at hl 4 rfl) ?_
    have hPc := hP.sub (ws' := (MW g0 g1 g2 y4 y5 u1035 (n) (w) T P)) [5, 6, 7] rfl
    refine va_calli (va_runV (As := []) (rest := []) ⟨hx, hb, hml, hown, hts⟩ (c_X2_thrown l D E g0 g1 g2 y4 y5 H.size (n) (w) u1035 T P hn hw hT hPt) (cwV 0 hts gL_law_X2_thrown rfl rfl rfl (by decide +kernel) ⟨Nat.le_of_ble_eq_true rfl, Nat.le_of_ble_eq_true rfl⟩) ⟨cp.blind, va_recv hK hP (ci := 1) (q0 := 5) rfl rfl, fun U hU hW => ⟨rfl, cp.call hPc hKm hE hS (fr0 hS hA) hU hW⟩⟩ rfl rfl hl.1 rfl (lv_room (Nat.le_of_ble_eq_true rfl)) dL_law_1041 ⟨by rw [hR1]; omega, by rw [hR2]; omega⟩) hS (fun q _ h => (fr0 hS hA) q h) (fr0 hS hA) (fun v1041 u1041 t H1 locs1 ht hvm e1041 hB hz1 hk1 hS => ?_)
    have hP := kp hP hk1
    generalize H1 = H at hP hS ⊢
    generalize locs1 = locs at hS ⊢
    refine lv_iload hx hb dL_law_1044 (lv_at hl 1 rfl) ?_
    refine z_icmp_eq (tgt := 1051) hx hb dL_law_1046 (by decide) (Eq.trans e1041 et1035) e1017 (fun c1046 => ?_) (fun c1046 => ?_)
    · have _u := True.intro
      refine lv_iload hx hb dL_law_1051 (lv_at hl 1 rfl) ?_
      refine z_if_ne (tgt := 1068) hx hb dL_law_1053 (by decide) e1017 (fun c1053 => ?_) (fun c1053 => ?_)
      · have _u := True.intro
        refine lv_goto (tgt := 1453) hx hb dL_law_1068 (by decide) ?_
        refine W.widen (k := 8 + 2 * c9 + 2) (n := 252 + 12 * c9 + 12) (by omega) (by omega) ?_
        exact K (n) (w) u1035 T P u.2 O hn hw hT hPt _ _ hP hD hS _ (lv_sub hl [2, 3, 4, 5, 6] rfl)
      · have _u := True.intro
        exfalso; omega
    · exfalso; omega
set_option maxHeartbeats 4000000 in
set_option maxRecDepth 100000 in
theorem law_c20 {p : Program} {l : Launch} {e : Env} {s : State} {m : MethodId} {below : List Frame} {meth : Method} {c : Code} {D : va_G} {E : Nat × Nat × Nat} {b L : Nat} {xs : Nat → Int32} {h0 h1 h2 h3 b0 g0 g1 g2 : Nat} {y1 y2 y3 y6 y4 y5 : ClassId} {c9 : Nat} {x4 : Int32} {n w : Nat} {th : Int32} {T P M : Nat → Int32} {O : Nat → Int64} {H : Heap} {locs : List Loc} {ls : Array Slot} (hlt : l.stackTraces = false) (hEd : E.1 ≠ E.2.1 ∧ E.1 ≠ E.2.2 ∧ E.2.1 ≠ E.2.2) (hE : XEnv E (fun q : Nat => s.heap.size ≤ q) s s.heap) (hL : L ≤ 1536) (C0 : lw_At p s m meth c b L xs) (h4 : x4.toInt = ((3 * c9 : Nat) : Int)) (hc : 3 * c9 + 3 ≤ L) (hn : n ≤ 64) (hw : w ≤ 24) (hT : SymF T) (hPt : SymF P) (hK : va_K D vwCl (GT y1 y2 y3 y6 y4 y5) s) (hP : va_P D vwCl (GW h0 h1 h2 h3 b0 g0 g1 g2 y1 y2 y3 y6 y4 y5 n w th T P M O) H) (hD : va_D (fun q : Nat => s.heap.size ≤ q) (GW h0 h1 h2 h3 b0 g0 g1 g2 y1 y2 y3 y6 y4 y5 n w th T P M O)) (hS : va_S (fun q : Nat => s.heap.size ≤ q) s.heap H locs) (hl : lv_has ls 7 [(0, .ref b), (1, .ref h0), (2, .ref g0), (3, .ref b0), (4, .int x4)]) (K : LK p l e s m below meth c D b h0 h1 h2 h3 b0 g0 g1 g2 y1 y2 y3 y6 y4 y5 c9 x4) : W p l e room_1 s m #[Value.ref b] below meth c H locs (8 + 2 * c9) (252 + 12 * c9) (lw_Z below #[Value.ref b] s) (F0 m 1071 ls []) := by
  obtain ⟨hx, hb, hr, hml, hown, hts0, hX, hbl, hlocks, hgv⟩ := C0
  have hts : ∀ w ∈ wsL_law, w.before #[Value.ref b] s = true := fun w h => hts0 w (wsL_law_in w h)
  have hA : ∀ q : Nat, s.heap.size ≤ q → (fun q : Nat => s.heap.size ≤ q) q := fun _ h => h
  have hbA : ¬ (fun q : Nat => s.heap.size ≤ q) b := Nat.not_le.mpr hbl
  have hR1 : room_1.cells = 1051 := rfl
  have hR2 : room_1.slots = 8558 := rfl
  have hKx := hK.sub (tys' := (XT y1 y2 y3)) [0, 1, 2] rfl
  have hKl := hK.sub (tys' := (LT y1 y2 y3 y6)) [0, 1, 2, 3] rfl
  have hKm := hK.sub (tys' := (MT y4 y5)) [4, 5] rfl
  refine lv_aload_n hx hb dL_law_1071 rfl (lv_at hl 1 rfl) ?_
  refine lv_aload_n hx hb dL_law_1072 rfl (lv_at hl 0 rfl) ?_
  refine lv_iload hx hb dL_law_1073 (lv_at hl 4 rfl) ?_
  refine lv_iconst (v := 1) hx hb dL_law_1075 (by decide) ?_
  refine z_iadd hx hb dL_law_1076 h4 (show (1 : Int32).toInt = 1 by decide) (by omega) (by omega) (fun v1076 e1076 => ?_)
  have i1077 : vp_in v1076 L := vp_in_iff.mpr ⟨by omega, by omega⟩
  refine va_sld hx hb hX hbl hbA hS i1077 dL_law_1077 ?_
  refine lv_as (y := xs (3 * c9 + 1)) (congrArg xs (clN (Eq.trans e1076 (by omega)))) ?_
  obtain ⟨a1, ha1⟩ : ∃ z, z = xs (3 * c9 + 1) := ⟨_, rfl⟩
  refine lv_as ha1.symm ?_
  refine lv_aload_n hx hb dL_law_1078 rfl (lv_at hl 3 rfl) ?_
  have hPl := hP.sub (ws' := (LW h0 h1 h2 h3 b0 y1 y2 y3 y6 (n) (w) T P M O)) [0, 1, 2, 3, 4] rfl
  have hFc := va_free (wc := (LW h0 h1 h2 h3 b0 y1 y2 y3 y6 (n) (w) T P M O)) hD hS hA [0, 1, 2, 3, 4] rfl
  have hDl := hD.sub (ws' := (LW h0 h1 h2 h3 b0 y1 y2 y3 y6 (n) (w) T P M O)) [0, 1, 2, 3, 4] (by decide) rfl
  refine va_calli (vx_runSW (As := [.ref h0, .int a1, .ref b0]) (rest := []) ⟨hx, hb, hml, hown, hts⟩ (c_L_within l hlt D E h0 h1 h2 h3 b0 y1 y2 y3 y6 H.size n w T P M O hn hw hT hPt (hDl.weaken (fun _ _ _ _ => trivial)) a1) (vx_cwSW 3 hts gL_law_L_within rfl rfl rfl (by decide +kernel) ⟨Nat.le_of_ble_eq_true rfl, Nat.le_of_ble_eq_true rfl⟩) ⟨cp.blind, fun U hU hW => ⟨rfl, cp.call hPl hKl hE hS hFc hU hW⟩⟩ rfl rfl hl.1 rfl (lv_room (Nat.le_of_ble_eq_true rfl)) dL_law_1079 ⟨by rw [hR1]; omega, by rw [hR2]; omega⟩) hS (fun q _ h => hFc q h) hFc (fun v1079 u t H1 locs1 ht hvm ev hB hz1 hk1 hS => ?_)
  obtain ⟨e1079, ev1⟩ := ev
  by_cases hk0 : kNeg a1.toInt = 0
  · have _u := True.intro
    obtain ⟨hP1, hD1⟩ := hB.1 hk0
    have hu1 := ev1 hk0
    rw [ht] at hP1
    obtain ⟨hP, hD⟩ := va_join (wr := (MW g0 g1 g2 y4 y5 th (n) (w) T P)) (w1 := (LW h0 h1 h2 h3 b0 y1 y2 y3 y6 (n) (w) T P u.2 (vp_updL O 0 u.1.toInt64))) hP hD [0, 1, 2, 3, 4] [5, 6, 7] rfl rfl (by decide) (by decide) hk1 hFc hP1 hD1
    have hP := hP.sub (ws' := (GW h0 h1 h2 h3 b0 g0 g1 g2 y1 y2 y3 y6 y4 y5 (n) (w) th T P u.2 (vp_updL O 0 u.1.toInt64))) [3, 4, 5, 6, 7, 0, 1, 2] rfl
    have hD := hD.sub (ws' := (GW h0 h1 h2 h3 b0 g0 g1 g2 y1 y2 y3 y6 y4 y5 (n) (w) th T P u.2 (vp_updL O 0 u.1.toInt64))) [3, 4, 5, 6, 7, 0, 1, 2] (by decide) rfl
    generalize H1 = H at hP hS ⊢
    generalize locs1 = locs at hS ⊢
    refine lv_istore (lv' := [(5, .int v1079), (0, .ref b), (1, .ref h0), (2, .ref g0), (3, .ref b0), (4, .int x4)]) hx hb dL_law_1082 hl (by decide) rfl (fun ls hl => ?_)
    refine lv_aload_n hx hb dL_law_1084 rfl (lv_at hl 3 rfl) ?_
    refine lv_aload_n hx hb dL_law_1085 rfl (lv_at hl 1 rfl) ?_
    refine lv_iload hx hb dL_law_1086 (lv_at hl 5 rfl) ?_
    refine lv_iconst (v := 1) hx hb dL_law_1088 (by decide) ?_
    refine z_iadd hx hb dL_law_1089 h4 (show (1 : Int32).toInt = 1 by decide) (by omega) (by omega) (fun v1089 e1089 => ?_)
    have i1090 : vp_in v1089 L := vp_in_iff.mpr ⟨by omega, by omega⟩
    refine va_sld hx hb hX hbl hbA hS i1090 dL_law_1090 ?_
    refine lv_as (y := xs (3 * c9 + 1)) (congrArg xs (clN (Eq.trans e1089 (by omega)))) ?_
    refine lv_as ha1.symm ?_
    have hPc := hP.sub (ws' := (MW g0 g1 g2 y4 y5 th (n) (w) T P)) [5, 6, 7] rfl
    have hFc := va_free (wc := (MW g0 g1 g2 y4 y5 th (n) (w) T P)) hD hS hA [5, 6, 7] rfl
    have hDc := hD.sub (ws' := (MW g0 g1 g2 y4 y5 th (n) (w) T P)) [5, 6, 7] (by decide) rfl
    refine va_calli (va_runV (As := [.int a1]) (rest := []) ⟨hx, hb, hml, hown, hts⟩ (c_X2_within l D E g0 g1 g2 y4 y5 H.size (n) (w) th T P hn hw hT hPt (hDc.weaken (fun _ _ _ _ => trivial)) a1) (cwV 1 hts gL_law_X2_within rfl rfl rfl (by decide +kernel) ⟨Nat.le_of_ble_eq_true rfl, Nat.le_of_ble_eq_true rfl⟩) ⟨cp.blind, va_recv hK hP (ci := 1) (q0 := 5) rfl rfl, fun U hU hW => ⟨rfl, cp.call hPc hKm hE hS hFc hU hW⟩⟩ rfl rfl hl.1 rfl (lv_room (Nat.le_of_ble_eq_true rfl)) dL_law_1091 ⟨by rw [hR1]; omega, by rw [hR2]; omega⟩) hS (fun q _ h => hFc q h) hFc (fun v1091 u1091 t H1 locs1 ht hvm e1091 hB hz1 hk1 hS => ?_)
    obtain ⟨et1091, ev1091⟩ := e1091
    obtain ⟨hP1, hD1⟩ := hB
    have e1091 := ev1091 hk0
    rw [ht] at hP1
    obtain ⟨hP, hD⟩ := va_join (wr := (LW h0 h1 h2 h3 b0 y1 y2 y3 y6 (n) (w) T P u.2 (vp_updL O 0 u.1.toInt64))) (w1 := (MW g0 g1 g2 y4 y5 u1091 (n) (w) T P)) hP hD [5, 6, 7] [0, 1, 2, 3, 4] rfl rfl (by decide) (by decide) hk1 hFc hP1 hD1
    have hP : va_P D vwCl (GW h0 h1 h2 h3 b0 g0 g1 g2 y1 y2 y3 y6 y4 y5 (n) (w) u1091 T P u.2 (vp_updL O 0 u.1.toInt64)) H1 := hP
    have hD : va_D (fun q : Nat => s.heap.size ≤ q) (GW h0 h1 h2 h3 b0 g0 g1 g2 y1 y2 y3 y6 y4 y5 (n) (w) u1091 T P u.2 (vp_updL O 0 u.1.toInt64)) := hD
    generalize H1 = H at hP hS ⊢
    generalize locs1 = locs at hS ⊢
    refine lv_istore (lv' := [(6, .int v1091), (5, .int v1079), (0, .ref b), (1, .ref h0), (2, .ref g0), (3, .ref b0), (4, .int x4)]) hx hb dL_law_1094 hl (by decide) rfl (fun ls hl => ?_)
    refine lv_aload_n hx hb dL_law_1096 rfl (lv_at hl 4 rfl) ?_
    have hPc := hP.sub (ws' := (MW g0 g1 g2 y4 y5 u1091 (n) (w) T P)) [5, 6, 7] rfl
    refine va_calli (va_runV (As := []) (rest := []) ⟨hx, hb, hml, hown, hts⟩ (c_X2_thrown l D E g0 g1 g2 y4 y5 H.size (n) (w) u1091 T P hn hw hT hPt) (cwV 0 hts gL_law_X2_thrown rfl rfl rfl (by decide +kernel) ⟨Nat.le_of_ble_eq_true rfl, Nat.le_of_ble_eq_true rfl⟩) ⟨cp.blind, va_recv hK hP (ci := 1) (q0 := 5) rfl rfl, fun U hU hW => ⟨rfl, cp.call hPc hKm hE hS (fr0 hS hA) hU hW⟩⟩ rfl rfl hl.1 rfl (lv_room (Nat.le_of_ble_eq_true rfl)) dL_law_1097 ⟨by rw [hR1]; omega, by rw [hR2]; omega⟩) hS (fun q _ h => (fr0 hS hA) q h) (fr0 hS hA) (fun v1097 u1097 t H1 locs1 ht hvm e1097 hB hz1 hk1 hS => ?_)
    have hP := kp hP hk1
    generalize H1 = H at hP hS ⊢
    generalize locs1 = locs at hS ⊢
    refine lv_iload hx hb dL_law_1100 (lv_at hl 1 rfl) ?_
    refine z_icmp_eq (tgt := 1107) hx hb dL_law_1102 (by decide) (Eq.trans e1097 et1091) e1079 (fun c1102 => ?_) (fun c1102 => ?_)
    · have _u := True.intro
      refine lv_iload hx hb dL_law_1107 (lv_at hl 1 rfl) ?_
      refine z_if_ne (tgt := 1124) hx hb dL_law_1109 (by decide) e1079 (fun c1109 => ?_) (fun c1109 => ?_)
      · have _u := True.intro
        exfalso; omega
      · have _u := True.intro
        refine lv_aload_n hx hb dL_law_1112 rfl (lv_at hl 5 rfl) ?_
        refine lv_iconst (v := 0) hx hb dL_law_1113 (by decide) ?_
        refine z_lald hx hb hK hP 4 3 rfl rfl 0 (show (0 : Int32).toInt = 0 by decide) rfl (by decide) dL_law_1114 ?_
        refine lv_iload hx hb dL_law_1115 (lv_at hl 0 rfl) ?_
        refine z_i2l hx hb dL_law_1117 e1091 (fun v1117 e1117 => ?_)
        refine z_lcmp hx hb dL_law_1118 (show ((vp_updL O 0 u.1.toInt64) 0).toInt = u.1.toInt by rw [pk_uLs, Int32.toInt_toInt64]) e1117 (fun v1118 z1118 e1118 f1118 k1118 => ?_)
        refine z_if_eq (tgt := 1124) hx hb dL_law_1119 (by decide) e1118 (fun c1119 => ?_) (fun c1119 => ?_)
        · have _u := True.intro
          refine lv_goto (tgt := 1453) hx hb dL_law_1124 (by decide) ?_
          refine W.widen (k := 8 + 2 * c9 + 2) (n := 252 + 12 * c9 + 12) (by omega) (by omega) ?_
          exact K (n) (w) u1091 T P u.2 (vp_updL O 0 u.1.toInt64) hn hw hT hPt _ _ hP hD hS _ (lv_sub hl [2, 3, 4, 5, 6] rfl)
        · exfalso; omega
    · exfalso; omega
  · have _u := True.intro
    obtain ⟨hP1, hD1⟩ := hB.2 hk0
    rw [ht] at hP1
    obtain ⟨hP, hD⟩ := va_join (wr := (MW g0 g1 g2 y4 y5 th (n) (w) T P)) (w1 := (LW h0 h1 h2 h3 b0 y1 y2 y3 y6 (n) (w) T P u.2 O)) hP hD [0, 1, 2, 3, 4] [5, 6, 7] rfl rfl (by decide) (by decide) hk1 hFc hP1 hD1
    have hP := hP.sub (ws' := (GW h0 h1 h2 h3 b0 g0 g1 g2 y1 y2 y3 y6 y4 y5 (n) (w) th T P u.2 O)) [3, 4, 5, 6, 7, 0, 1, 2] rfl
    have hD := hD.sub (ws' := (GW h0 h1 h2 h3 b0 g0 g1 g2 y1 y2 y3 y6 y4 y5 (n) (w) th T P u.2 O)) [3, 4, 5, 6, 7, 0, 1, 2] (by decide) rfl
    generalize H1 = H at hP hS ⊢
    generalize locs1 = locs at hS ⊢
    refine lv_istore (lv' := [(5, .int v1079), (0, .ref b), (1, .ref h0), (2, .ref g0), (3, .ref b0), (4, .int x4)]) hx hb dL_law_1082 hl (by decide) rfl (fun ls hl => ?_)
    refine lv_aload_n hx hb dL_law_1084 rfl (lv_at hl 3 rfl) ?_
    refine lv_aload_n hx hb dL_law_1085 rfl (lv_at hl 1 rfl) ?_
    refine lv_iload hx hb dL_law_1086 (lv_at hl 5 rfl) ?_
    refine lv_iconst (v := 1) hx hb dL_law_1088 (by decide) ?_
    refine z_iadd hx hb dL_law_1089 h4 (show (1 : Int32).toInt = 1 by decide) (by omega) (by omega) (fun v1089 e1089 => ?_)
    have i1090 : vp_in v1089 L := vp_in_iff.mpr ⟨by omega, by omega⟩
    refine va_sld hx hb hX hbl hbA hS i1090 dL_law_1090 ?_
    refine lv_as (y := xs (3 * c9 + 1)) (congrArg xs (clN (Eq.trans e1089 (by omega)))) ?_
    refine lv_as ha1.symm ?_
    have hPc := hP.sub (ws' := (MW g0 g1 g2 y4 y5 th (n) (w) T P)) [5, 6, 7] rfl
    have hFc := va_free (wc := (MW g0 g1 g2 y4 y5 th (n) (w) T P)) hD hS hA [5, 6, 7] rfl
    have hDc := hD.sub (ws' := (MW g0 g1 g2 y4 y5 th (n) (w) T P)) [5, 6, 7] (by decide) rfl
    refine va_calli (va_runV (As := [.int a1]) (rest := []) ⟨hx, hb, hml, hown, hts⟩ (c_X2_within l D E g0 g1 g2 y4 y5 H.size (n) (w) th T P hn hw hT hPt (hDc.weaken (fun _ _ _ _ => trivial)) a1) (cwV 1 hts gL_law_X2_within rfl rfl rfl (by decide +kernel) ⟨Nat.le_of_ble_eq_true rfl, Nat.le_of_ble_eq_true rfl⟩) ⟨cp.blind, va_recv hK hP (ci := 1) (q0 := 5) rfl rfl, fun U hU hW => ⟨rfl, cp.call hPc hKm hE hS hFc hU hW⟩⟩ rfl rfl hl.1 rfl (lv_room (Nat.le_of_ble_eq_true rfl)) dL_law_1091 ⟨by rw [hR1]; omega, by rw [hR2]; omega⟩) hS (fun q _ h => hFc q h) hFc (fun v1091 u1091 t H1 locs1 ht hvm e1091 hB hz1 hk1 hS => ?_)
    obtain ⟨et1091, ev1091⟩ := e1091
    obtain ⟨hP1, hD1⟩ := hB
    rw [ht] at hP1
    obtain ⟨hP, hD⟩ := va_join (wr := (LW h0 h1 h2 h3 b0 y1 y2 y3 y6 (n) (w) T P u.2 O)) (w1 := (MW g0 g1 g2 y4 y5 u1091 (n) (w) T P)) hP hD [5, 6, 7] [0, 1, 2, 3, 4] rfl rfl (by decide) (by decide) hk1 hFc hP1 hD1
    have hP : va_P D vwCl (GW h0 h1 h2 h3 b0 g0 g1 g2 y1 y2 y3 y6 y4 y5 (n) (w) u1091 T P u.2 O) H1 := hP
    have hD : va_D (fun q : Nat => s.heap.size ≤ q) (GW h0 h1 h2 h3 b0 g0 g1 g2 y1 y2 y3 y6 y4 y5 (n) (w) u1091 T P u.2 O) := hD
    generalize H1 = H at hP hS ⊢
    generalize locs1 = locs at hS ⊢
    refine lv_istore (lv' := [(6, .int v1091), (5, .int v1079), (0, .ref b), (1, .ref h0), (2, .ref g0), (3, .ref b0), (4, .int x4)]) hx hb dL_law_1094 hl (by decide) rfl (fun ls hl => ?_)
    refine lv_aload_n hx hb dL_law_1096 rfl (lv_at hl 4 rfl) ?_
    have hPc := hP.sub (ws' := (MW g0 g1 g2 y4 y5 u1091 (n) (w) T P)) [5, 6, 7] rfl
    refine va_calli (va_runV (As := []) (rest := []) ⟨hx, hb, hml, hown, hts⟩ (c_X2_thrown l D E g0 g1 g2 y4 y5 H.size (n) (w) u1091 T P hn hw hT hPt) (cwV 0 hts gL_law_X2_thrown rfl rfl rfl (by decide +kernel) ⟨Nat.le_of_ble_eq_true rfl, Nat.le_of_ble_eq_true rfl⟩) ⟨cp.blind, va_recv hK hP (ci := 1) (q0 := 5) rfl rfl, fun U hU hW => ⟨rfl, cp.call hPc hKm hE hS (fr0 hS hA) hU hW⟩⟩ rfl rfl hl.1 rfl (lv_room (Nat.le_of_ble_eq_true rfl)) dL_law_1097 ⟨by rw [hR1]; omega, by rw [hR2]; omega⟩) hS (fun q _ h => (fr0 hS hA) q h) (fr0 hS hA) (fun v1097 u1097 t H1 locs1 ht hvm e1097 hB hz1 hk1 hS => ?_)
    have hP := kp hP hk1
    generalize H1 = H at hP hS ⊢
    generalize locs1 = locs at hS ⊢
    refine lv_iload hx hb dL_law_1100 (lv_at hl 1 rfl) ?_
    refine z_icmp_eq (tgt := 1107) hx hb dL_law_1102 (by decide) (Eq.trans e1097 et1091) e1079 (fun c1102 => ?_) (fun c1102 => ?_)
    · have _u := True.intro
      refine lv_iload hx hb dL_law_1107 (lv_at hl 1 rfl) ?_
      refine z_if_ne (tgt := 1124) hx hb dL_law_1109 (by decide) e1079 (fun c1109 => ?_) (fun c1109 => ?_)
      · have _u := True.intro
        refine lv_goto (tgt := 1453) hx hb dL_law_1124 (by decide) ?_
        refine W.widen (k := 8 + 2 * c9 + 2) (n := 252 + 12 * c9 + 12) (by omega) (by omega) ?_
        exact K (n) (w) u1091 T P u.2 O hn hw hT hPt _ _ hP hD hS _ (lv_sub hl [2, 3, 4, 5, 6] rfl)
      · have _u := True.intro
        exfalso; omega
    · exfalso; omega
set_option maxHeartbeats 4000000 in
set_option maxRecDepth 100000 in
theorem law_c21 {p : Program} {l : Launch} {e : Env} {s : State} {m : MethodId} {below : List Frame} {meth : Method} {c : Code} {D : va_G} {E : Nat × Nat × Nat} {b L : Nat} {xs : Nat → Int32} {h0 h1 h2 h3 b0 g0 g1 g2 : Nat} {y1 y2 y3 y6 y4 y5 : ClassId} {c9 : Nat} {x4 : Int32} {n w : Nat} {th : Int32} {T P M : Nat → Int32} {O : Nat → Int64} {H : Heap} {locs : List Loc} {ls : Array Slot} (hlt : l.stackTraces = false) (hEd : E.1 ≠ E.2.1 ∧ E.1 ≠ E.2.2 ∧ E.2.1 ≠ E.2.2) (hE : XEnv E (fun q : Nat => s.heap.size ≤ q) s s.heap) (hL : L ≤ 1536) (C0 : lw_At p s m meth c b L xs) (h4 : x4.toInt = ((3 * c9 : Nat) : Int)) (hc : 3 * c9 + 3 ≤ L) (hn : n ≤ 64) (hw : w ≤ 24) (hT : SymF T) (hPt : SymF P) (hK : va_K D vwCl (GT y1 y2 y3 y6 y4 y5) s) (hP : va_P D vwCl (GW h0 h1 h2 h3 b0 g0 g1 g2 y1 y2 y3 y6 y4 y5 n w th T P M O) H) (hD : va_D (fun q : Nat => s.heap.size ≤ q) (GW h0 h1 h2 h3 b0 g0 g1 g2 y1 y2 y3 y6 y4 y5 n w th T P M O)) (hS : va_S (fun q : Nat => s.heap.size ≤ q) s.heap H locs) (hl : lv_has ls 7 [(0, .ref b), (1, .ref h0), (2, .ref g0), (3, .ref b0), (4, .int x4)]) (K : LK p l e s m below meth c D b h0 h1 h2 h3 b0 g0 g1 g2 y1 y2 y3 y6 y4 y5 c9 x4) : W p l e room_1 s m #[Value.ref b] below meth c H locs (8 + 2 * c9) (252 + 12 * c9) (lw_Z below #[Value.ref b] s) (F0 m 1127 ls []) := by
  obtain ⟨hx, hb, hr, hml, hown, hts0, hX, hbl, hlocks, hgv⟩ := C0
  have hts : ∀ w ∈ wsL_law, w.before #[Value.ref b] s = true := fun w h => hts0 w (wsL_law_in w h)
  have hA : ∀ q : Nat, s.heap.size ≤ q → (fun q : Nat => s.heap.size ≤ q) q := fun _ h => h
  have hbA : ¬ (fun q : Nat => s.heap.size ≤ q) b := Nat.not_le.mpr hbl
  have hR1 : room_1.cells = 1051 := rfl
  have hR2 : room_1.slots = 8558 := rfl
  have hKx := hK.sub (tys' := (XT y1 y2 y3)) [0, 1, 2] rfl
  have hKl := hK.sub (tys' := (LT y1 y2 y3 y6)) [0, 1, 2, 3] rfl
  have hKm := hK.sub (tys' := (MT y4 y5)) [4, 5] rfl
  refine lv_aload_n hx hb dL_law_1127 rfl (lv_at hl 1 rfl) ?_
  refine lv_aload_n hx hb dL_law_1128 rfl (lv_at hl 0 rfl) ?_
  refine lv_iload hx hb dL_law_1129 (lv_at hl 4 rfl) ?_
  refine lv_iconst (v := 1) hx hb dL_law_1131 (by decide) ?_
  refine z_iadd hx hb dL_law_1132 h4 (show (1 : Int32).toInt = 1 by decide) (by omega) (by omega) (fun v1132 e1132 => ?_)
  have i1133 : vp_in v1132 L := vp_in_iff.mpr ⟨by omega, by omega⟩
  refine va_sld hx hb hX hbl hbA hS i1133 dL_law_1133 ?_
  refine lv_as (y := xs (3 * c9 + 1)) (congrArg xs (clN (Eq.trans e1132 (by omega)))) ?_
  obtain ⟨a1, ha1⟩ : ∃ z, z = xs (3 * c9 + 1) := ⟨_, rfl⟩
  refine lv_as ha1.symm ?_
  refine lv_aload_n hx hb dL_law_1134 rfl (lv_at hl 3 rfl) ?_
  have hPl := hP.sub (ws' := (LW h0 h1 h2 h3 b0 y1 y2 y3 y6 (n) (w) T P M O)) [0, 1, 2, 3, 4] rfl
  have hFc := va_free (wc := (LW h0 h1 h2 h3 b0 y1 y2 y3 y6 (n) (w) T P M O)) hD hS hA [0, 1, 2, 3, 4] rfl
  have hDl := hD.sub (ws' := (LW h0 h1 h2 h3 b0 y1 y2 y3 y6 (n) (w) T P M O)) [0, 1, 2, 3, 4] (by decide) rfl
  refine va_calli (vx_runSW (As := [.ref h0, .int a1, .ref b0]) (rest := []) ⟨hx, hb, hml, hown, hts⟩ (c_L_ranked l hlt D E h0 h1 h2 h3 b0 y1 y2 y3 y6 H.size n w T P M O hn hw hT hPt (hDl.weaken (fun _ _ _ _ => trivial)) a1) (vx_cwSW 3 hts gL_law_L_ranked rfl rfl rfl (by decide +kernel) ⟨Nat.le_of_ble_eq_true rfl, Nat.le_of_ble_eq_true rfl⟩) ⟨cp.blind, fun U hU hW => ⟨rfl, cp.call hPl hKl hE hS hFc hU hW⟩⟩ rfl rfl hl.1 rfl (lv_room (Nat.le_of_ble_eq_true rfl)) dL_law_1135 ⟨by rw [hR1]; omega, by rw [hR2]; omega⟩) hS (fun q _ h => hFc q h) hFc (fun v1135 u t H1 locs1 ht hvm ev hB hz1 hk1 hS => ?_)
  obtain ⟨e1135, ev1⟩ := ev
  by_cases hk0 : kPl (pl n w) a1.toInt = 0
  · have _u := True.intro
    obtain ⟨hP1, hD1⟩ := hB.1 hk0
    have hu1 := ev1 hk0
    rw [ht] at hP1
    obtain ⟨hP, hD⟩ := va_join (wr := (MW g0 g1 g2 y4 y5 th (n) (w) T P)) (w1 := (LW h0 h1 h2 h3 b0 y1 y2 y3 y6 (n) (w) T P u.2 (vp_updL O 0 u.1.toInt64))) hP hD [0, 1, 2, 3, 4] [5, 6, 7] rfl rfl (by decide) (by decide) hk1 hFc hP1 hD1
    have hP := hP.sub (ws' := (GW h0 h1 h2 h3 b0 g0 g1 g2 y1 y2 y3 y6 y4 y5 (n) (w) th T P u.2 (vp_updL O 0 u.1.toInt64))) [3, 4, 5, 6, 7, 0, 1, 2] rfl
    have hD := hD.sub (ws' := (GW h0 h1 h2 h3 b0 g0 g1 g2 y1 y2 y3 y6 y4 y5 (n) (w) th T P u.2 (vp_updL O 0 u.1.toInt64))) [3, 4, 5, 6, 7, 0, 1, 2] (by decide) rfl
    generalize H1 = H at hP hS ⊢
    generalize locs1 = locs at hS ⊢
    refine lv_istore (lv' := [(5, .int v1135), (0, .ref b), (1, .ref h0), (2, .ref g0), (3, .ref b0), (4, .int x4)]) hx hb dL_law_1138 hl (by decide) rfl (fun ls hl => ?_)
    refine lv_aload_n hx hb dL_law_1140 rfl (lv_at hl 3 rfl) ?_
    refine lv_aload_n hx hb dL_law_1141 rfl (lv_at hl 1 rfl) ?_
    refine lv_iload hx hb dL_law_1142 (lv_at hl 5 rfl) ?_
    refine lv_iconst (v := 1) hx hb dL_law_1144 (by decide) ?_
    refine z_iadd hx hb dL_law_1145 h4 (show (1 : Int32).toInt = 1 by decide) (by omega) (by omega) (fun v1145 e1145 => ?_)
    have i1146 : vp_in v1145 L := vp_in_iff.mpr ⟨by omega, by omega⟩
    refine va_sld hx hb hX hbl hbA hS i1146 dL_law_1146 ?_
    refine lv_as (y := xs (3 * c9 + 1)) (congrArg xs (clN (Eq.trans e1145 (by omega)))) ?_
    refine lv_as ha1.symm ?_
    have hPc := hP.sub (ws' := (MW g0 g1 g2 y4 y5 th (n) (w) T P)) [5, 6, 7] rfl
    have hFc := va_free (wc := (MW g0 g1 g2 y4 y5 th (n) (w) T P)) hD hS hA [5, 6, 7] rfl
    have hDc := hD.sub (ws' := (MW g0 g1 g2 y4 y5 th (n) (w) T P)) [5, 6, 7] (by decide) rfl
    refine va_calli (va_runV (As := [.int a1]) (rest := []) ⟨hx, hb, hml, hown, hts⟩ (c_X2_ranked l D E g0 g1 g2 y4 y5 H.size (n) (w) th T P hn hw hT hPt (hDc.weaken (fun _ _ _ _ => trivial)) a1) (cwV 1 hts gL_law_X2_ranked rfl rfl rfl (by decide +kernel) ⟨Nat.le_of_ble_eq_true rfl, Nat.le_of_ble_eq_true rfl⟩) ⟨cp.blind, va_recv hK hP (ci := 1) (q0 := 5) rfl rfl, fun U hU hW => ⟨rfl, cp.call hPc hKm hE hS hFc hU hW⟩⟩ rfl rfl hl.1 rfl (lv_room (Nat.le_of_ble_eq_true rfl)) dL_law_1147 ⟨by rw [hR1]; omega, by rw [hR2]; omega⟩) hS (fun q _ h => hFc q h) hFc (fun v1147 u1147 t H1 locs1 ht hvm e1147 hB hz1 hk1 hS => ?_)
    obtain ⟨et1147, ev1147⟩ := e1147
    obtain ⟨hP1, hD1⟩ := hB
    have e1147 := ev1147 hk0
    rw [ht] at hP1
    obtain ⟨hP, hD⟩ := va_join (wr := (LW h0 h1 h2 h3 b0 y1 y2 y3 y6 (n) (w) T P u.2 (vp_updL O 0 u.1.toInt64))) (w1 := (MW g0 g1 g2 y4 y5 u1147 (n) (w) T P)) hP hD [5, 6, 7] [0, 1, 2, 3, 4] rfl rfl (by decide) (by decide) hk1 hFc hP1 hD1
    have hP : va_P D vwCl (GW h0 h1 h2 h3 b0 g0 g1 g2 y1 y2 y3 y6 y4 y5 (n) (w) u1147 T P u.2 (vp_updL O 0 u.1.toInt64)) H1 := hP
    have hD : va_D (fun q : Nat => s.heap.size ≤ q) (GW h0 h1 h2 h3 b0 g0 g1 g2 y1 y2 y3 y6 y4 y5 (n) (w) u1147 T P u.2 (vp_updL O 0 u.1.toInt64)) := hD
    generalize H1 = H at hP hS ⊢
    generalize locs1 = locs at hS ⊢
    refine lv_istore (lv' := [(6, .int v1147), (5, .int v1135), (0, .ref b), (1, .ref h0), (2, .ref g0), (3, .ref b0), (4, .int x4)]) hx hb dL_law_1150 hl (by decide) rfl (fun ls hl => ?_)
    refine lv_aload_n hx hb dL_law_1152 rfl (lv_at hl 4 rfl) ?_
    have hPc := hP.sub (ws' := (MW g0 g1 g2 y4 y5 u1147 (n) (w) T P)) [5, 6, 7] rfl
    refine va_calli (va_runV (As := []) (rest := []) ⟨hx, hb, hml, hown, hts⟩ (c_X2_thrown l D E g0 g1 g2 y4 y5 H.size (n) (w) u1147 T P hn hw hT hPt) (cwV 0 hts gL_law_X2_thrown rfl rfl rfl (by decide +kernel) ⟨Nat.le_of_ble_eq_true rfl, Nat.le_of_ble_eq_true rfl⟩) ⟨cp.blind, va_recv hK hP (ci := 1) (q0 := 5) rfl rfl, fun U hU hW => ⟨rfl, cp.call hPc hKm hE hS (fr0 hS hA) hU hW⟩⟩ rfl rfl hl.1 rfl (lv_room (Nat.le_of_ble_eq_true rfl)) dL_law_1153 ⟨by rw [hR1]; omega, by rw [hR2]; omega⟩) hS (fun q _ h => (fr0 hS hA) q h) (fr0 hS hA) (fun v1153 u1153 t H1 locs1 ht hvm e1153 hB hz1 hk1 hS => ?_)
    have hP := kp hP hk1
    generalize H1 = H at hP hS ⊢
    generalize locs1 = locs at hS ⊢
    refine lv_iload hx hb dL_law_1156 (lv_at hl 1 rfl) ?_
    refine z_icmp_eq (tgt := 1163) hx hb dL_law_1158 (by decide) (Eq.trans e1153 et1147) e1135 (fun c1158 => ?_) (fun c1158 => ?_)
    · have _u := True.intro
      refine lv_iload hx hb dL_law_1163 (lv_at hl 1 rfl) ?_
      refine z_if_ne (tgt := 1180) hx hb dL_law_1165 (by decide) e1135 (fun c1165 => ?_) (fun c1165 => ?_)
      · have _u := True.intro
        exfalso; omega
      · have _u := True.intro
        refine lv_aload_n hx hb dL_law_1168 rfl (lv_at hl 5 rfl) ?_
        refine lv_iconst (v := 0) hx hb dL_law_1169 (by decide) ?_
        refine z_lald hx hb hK hP 4 3 rfl rfl 0 (show (0 : Int32).toInt = 0 by decide) rfl (by decide) dL_law_1170 ?_
        refine lv_iload hx hb dL_law_1171 (lv_at hl 0 rfl) ?_
        refine z_i2l hx hb dL_law_1173 e1147 (fun v1173 e1173 => ?_)
        refine z_lcmp hx hb dL_law_1174 (show ((vp_updL O 0 u.1.toInt64) 0).toInt = u.1.toInt by rw [pk_uLs, Int32.toInt_toInt64]) e1173 (fun v1174 z1174 e1174 f1174 k1174 => ?_)
        refine z_if_eq (tgt := 1180) hx hb dL_law_1175 (by decide) e1174 (fun c1175 => ?_) (fun c1175 => ?_)
        · have _u := True.intro
          refine lv_goto (tgt := 1453) hx hb dL_law_1180 (by decide) ?_
          refine W.widen (k := 8 + 2 * c9 + 2) (n := 252 + 12 * c9 + 12) (by omega) (by omega) ?_
          exact K (n) (w) u1147 T P u.2 (vp_updL O 0 u.1.toInt64) hn hw hT hPt _ _ hP hD hS _ (lv_sub hl [2, 3, 4, 5, 6] rfl)
        · exfalso; omega
    · exfalso; omega
  · have _u := True.intro
    obtain ⟨hP1, hD1⟩ := hB.2 hk0
    rw [ht] at hP1
    obtain ⟨hP, hD⟩ := va_join (wr := (MW g0 g1 g2 y4 y5 th (n) (w) T P)) (w1 := (LW h0 h1 h2 h3 b0 y1 y2 y3 y6 (n) (w) T P u.2 O)) hP hD [0, 1, 2, 3, 4] [5, 6, 7] rfl rfl (by decide) (by decide) hk1 hFc hP1 hD1
    have hP := hP.sub (ws' := (GW h0 h1 h2 h3 b0 g0 g1 g2 y1 y2 y3 y6 y4 y5 (n) (w) th T P u.2 O)) [3, 4, 5, 6, 7, 0, 1, 2] rfl
    have hD := hD.sub (ws' := (GW h0 h1 h2 h3 b0 g0 g1 g2 y1 y2 y3 y6 y4 y5 (n) (w) th T P u.2 O)) [3, 4, 5, 6, 7, 0, 1, 2] (by decide) rfl
    generalize H1 = H at hP hS ⊢
    generalize locs1 = locs at hS ⊢
    refine lv_istore (lv' := [(5, .int v1135), (0, .ref b), (1, .ref h0), (2, .ref g0), (3, .ref b0), (4, .int x4)]) hx hb dL_law_1138 hl (by decide) rfl (fun ls hl => ?_)
    refine lv_aload_n hx hb dL_law_1140 rfl (lv_at hl 3 rfl) ?_
    refine lv_aload_n hx hb dL_law_1141 rfl (lv_at hl 1 rfl) ?_
    refine lv_iload hx hb dL_law_1142 (lv_at hl 5 rfl) ?_
    refine lv_iconst (v := 1) hx hb dL_law_1144 (by decide) ?_
    refine z_iadd hx hb dL_law_1145 h4 (show (1 : Int32).toInt = 1 by decide) (by omega) (by omega) (fun v1145 e1145 => ?_)
    have i1146 : vp_in v1145 L := vp_in_iff.mpr ⟨by omega, by omega⟩
    refine va_sld hx hb hX hbl hbA hS i1146 dL_law_1146 ?_
    refine lv_as (y := xs (3 * c9 + 1)) (congrArg xs (clN (Eq.trans e1145 (by omega)))) ?_
    refine lv_as ha1.symm ?_
    have hPc := hP.sub (ws' := (MW g0 g1 g2 y4 y5 th (n) (w) T P)) [5, 6, 7] rfl
    have hFc := va_free (wc := (MW g0 g1 g2 y4 y5 th (n) (w) T P)) hD hS hA [5, 6, 7] rfl
    have hDc := hD.sub (ws' := (MW g0 g1 g2 y4 y5 th (n) (w) T P)) [5, 6, 7] (by decide) rfl
    refine va_calli (va_runV (As := [.int a1]) (rest := []) ⟨hx, hb, hml, hown, hts⟩ (c_X2_ranked l D E g0 g1 g2 y4 y5 H.size (n) (w) th T P hn hw hT hPt (hDc.weaken (fun _ _ _ _ => trivial)) a1) (cwV 1 hts gL_law_X2_ranked rfl rfl rfl (by decide +kernel) ⟨Nat.le_of_ble_eq_true rfl, Nat.le_of_ble_eq_true rfl⟩) ⟨cp.blind, va_recv hK hP (ci := 1) (q0 := 5) rfl rfl, fun U hU hW => ⟨rfl, cp.call hPc hKm hE hS hFc hU hW⟩⟩ rfl rfl hl.1 rfl (lv_room (Nat.le_of_ble_eq_true rfl)) dL_law_1147 ⟨by rw [hR1]; omega, by rw [hR2]; omega⟩) hS (fun q _ h => hFc q h) hFc (fun v1147 u1147 t H1 locs1 ht hvm e1147 hB hz1 hk1 hS => ?_)
    obtain ⟨et1147, ev1147⟩ := e1147
    obtain ⟨hP1, hD1⟩ := hB
    rw [ht] at hP1
    obtain ⟨hP, hD⟩ := va_join (wr := (LW h0 h1 h2 h3 b0 y1 y2 y3 y6 (n) (w) T P u.2 O)) (w1 := (MW g0 g1 g2 y4 y5 u1147 (n) (w) T P)) hP hD [5, 6, 7] [0, 1, 2, 3, 4] rfl rfl (by decide) (by decide) hk1 hFc hP1 hD1
    have hP : va_P D vwCl (GW h0 h1 h2 h3 b0 g0 g1 g2 y1 y2 y3 y6 y4 y5 (n) (w) u1147 T P u.2 O) H1 := hP
    have hD : va_D (fun q : Nat => s.heap.size ≤ q) (GW h0 h1 h2 h3 b0 g0 g1 g2 y1 y2 y3 y6 y4 y5 (n) (w) u1147 T P u.2 O) := hD
    generalize H1 = H at hP hS ⊢
    generalize locs1 = locs at hS ⊢
    refine lv_istore (lv' := [(6, .int v1147), (5, .int v1135), (0, .ref b), (1, .ref h0), (2, .ref g0), (3, .ref b0), (4, .int x4)]) hx hb dL_law_1150 hl (by decide) rfl (fun ls hl => ?_)
    refine lv_aload_n hx hb dL_law_1152 rfl (lv_at hl 4 rfl) ?_
    have hPc := hP.sub (ws' := (MW g0 g1 g2 y4 y5 u1147 (n) (w) T P)) [5, 6, 7] rfl
    refine va_calli (va_runV (As := []) (rest := []) ⟨hx, hb, hml, hown, hts⟩ (c_X2_thrown l D E g0 g1 g2 y4 y5 H.size (n) (w) u1147 T P hn hw hT hPt) (cwV 0 hts gL_law_X2_thrown rfl rfl rfl (by decide +kernel) ⟨Nat.le_of_ble_eq_true rfl, Nat.le_of_ble_eq_true rfl⟩) ⟨cp.blind, va_recv hK hP (ci := 1) (q0 := 5) rfl rfl, fun U hU hW => ⟨rfl, cp.call hPc hKm hE hS (fr0 hS hA) hU hW⟩⟩ rfl rfl hl.1 rfl (lv_room (Nat.le_of_ble_eq_true rfl)) dL_law_1153 ⟨by rw [hR1]; omega, by rw [hR2]; omega⟩) hS (fun q _ h => (fr0 hS hA) q h) (fr0 hS hA) (fun v1153 u1153 t H1 locs1 ht hvm e1153 hB hz1 hk1 hS => ?_)
    have hP := kp hP hk1
    generalize H1 = H at hP hS ⊢
    generalize locs1 = locs at hS ⊢
    refine lv_iload hx hb dL_law_1156 (lv_at hl 1 rfl) ?_
    refine z_icmp_eq (tgt := 1163) hx hb dL_law_1158 (by decide) (Eq.trans e1153 et1147) e1135 (fun c1158 => ?_) (fun c1158 => ?_)
    · have _u := True.intro
      refine lv_iload hx hb dL_law_1163 (lv_at hl 1 rfl) ?_
      refine z_if_ne (tgt := 1180) hx hb dL_law_1165 (by decide) e1135 (fun c1165 => ?_) (fun c1165 => ?_)
      · have _u := True.intro
        refine lv_goto (tgt := 1453) hx hb dL_law_1180 (by decide) ?_
        refine W.widen (k := 8 + 2 * c9 + 2) (n := 252 + 12 * c9 + 12) (by omega) (by omega) ?_
        exact K (n) (w) u1147 T P u.2 O hn hw hT hPt _ _ hP hD hS _ (lv_sub hl [2, 3, 4, 5, 6] rfl)
      · have _u := True.intro
        exfalso; omega
    · exfalso; omega
set_option maxHeartbeats 4000000 in
set_option maxRecDepth 100000 in
theorem law_c22 {p : Program} {l : Launch} {e : Env} {s : State} {m : MethodId} {below : List Frame} {meth : Method} {c : Code} {D : va_G} {E : Nat × Nat × Nat} {b L : Nat} {xs : Nat → Int32} {h0 h1 h2 h3 b0 g0 g1 g2 : Nat} {y1 y2 y3 y6 y4 y5 : ClassId} {c9 : Nat} {x4 : Int32} {n w : Nat} {th : Int32} {T P M : Nat → Int32} {O : Nat → Int64} {H : Heap} {locs : List Loc} {ls : Array Slot} (hlt : l.stackTraces = false) (hEd : E.1 ≠ E.2.1 ∧ E.1 ≠ E.2.2 ∧ E.2.1 ≠ E.2.2) (hE : XEnv E (fun q : Nat => s.heap.size ≤ q) s s.heap) (hL : L ≤ 1536) (C0 : lw_At p s m meth c b L xs) (h4 : x4.toInt = ((3 * c9 : Nat) : Int)) (hc : 3 * c9 + 3 ≤ L) (hn : n ≤ 64) (hw : w ≤ 24) (hT : SymF T) (hPt : SymF P) (hK : va_K D vwCl (GT y1 y2 y3 y6 y4 y5) s) (hP : va_P D vwCl (GW h0 h1 h2 h3 b0 g0 g1 g2 y1 y2 y3 y6 y4 y5 n w th T P M O) H) (hD : va_D (fun q : Nat => s.heap.size ≤ q) (GW h0 h1 h2 h3 b0 g0 g1 g2 y1 y2 y3 y6 y4 y5 n w th T P M O)) (hS : va_S (fun q : Nat => s.heap.size ≤ q) s.heap H locs) (hl : lv_has ls 7 [(0, .ref b), (1, .ref h0), (2, .ref g0), (3, .ref b0), (4, .int x4)]) (K : LK p l e s m below meth c D b h0 h1 h2 h3 b0 g0 g1 g2 y1 y2 y3 y6 y4 y5 c9 x4) : W p l e room_1 s m #[Value.ref b] below meth c H locs (8 + 2 * c9) (252 + 12 * c9) (lw_Z below #[Value.ref b] s) (F0 m 1183 ls []) := by
  obtain ⟨hx, hb, hr, hml, hown, hts0, hX, hbl, hlocks, hgv⟩ := C0
  have hts : ∀ w ∈ wsL_law, w.before #[Value.ref b] s = true := fun w h => hts0 w (wsL_law_in w h)
  have hA : ∀ q : Nat, s.heap.size ≤ q → (fun q : Nat => s.heap.size ≤ q) q := fun _ h => h
  have hbA : ¬ (fun q : Nat => s.heap.size ≤ q) b := Nat.not_le.mpr hbl
  have hR1 : room_1.cells = 1051 := rfl
  have hR2 : room_1.slots = 8558 := rfl
  have hKx := hK.sub (tys' := (XT y1 y2 y3)) [0, 1, 2] rfl
  have hKl := hK.sub (tys' := (LT y1 y2 y3 y6)) [0, 1, 2, 3] rfl
  have hKm := hK.sub (tys' := (MT y4 y5)) [4, 5] rfl
  refine lv_aload_n hx hb dL_law_1183 rfl (lv_at hl 1 rfl) ?_
  refine lv_aload_n hx hb dL_law_1184 rfl (lv_at hl 0 rfl) ?_
  refine lv_iload hx hb dL_law_1185 (lv_at hl 4 rfl) ?_
  refine lv_iconst (v := 1) hx hb dL_law_1187 (by decide) ?_
  refine z_iadd hx hb dL_law_1188 h4 (show (1 : Int32).toInt = 1 by decide) (by omega) (by omega) (fun v1188 e1188 => ?_)
  have i1189 : vp_in v1188 L := vp_in_iff.mpr ⟨by omega, by omega⟩
  refine va_sld hx hb hX hbl hbA hS i1189 dL_law_1189 ?_
  refine lv_as (y := xs (3 * c9 + 1)) (congrArg xs (clN (Eq.trans e1188 (by omega)))) ?_
  obtain ⟨a1, ha1⟩ : ∃ z, z = xs (3 * c9 + 1) := ⟨_, rfl⟩
  refine lv_as ha1.symm ?_
  refine lv_aload_n hx hb dL_law_1190 rfl (lv_at hl 3 rfl) ?_
  have hPl := hP.sub (ws' := (LW h0 h1 h2 h3 b0 y1 y2 y3 y6 (n) (w) T P M O)) [0, 1, 2, 3, 4] rfl
  have hFc := va_free (wc := (LW h0 h1 h2 h3 b0 y1 y2 y3 y6 (n) (w) T P M O)) hD hS hA [0, 1, 2, 3, 4] rfl
  have hDl := hD.sub (ws' := (LW h0 h1 h2 h3 b0 y1 y2 y3 y6 (n) (w) T P M O)) [0, 1, 2, 3, 4] (by decide) rfl
  refine va_calli (vx_runSW (As := [.ref h0, .int a1, .ref b0]) (rest := []) ⟨hx, hb, hml, hown, hts⟩ (c_L_bestLetter l hlt D E h0 h1 h2 h3 b0 y1 y2 y3 y6 H.size n w T P M O hn hw hT hPt (hDl.weaken (fun _ _ _ _ => trivial)) a1) (vx_cwSW 3 hts gL_law_L_bestLetter rfl rfl rfl (by decide +kernel) ⟨Nat.le_of_ble_eq_true rfl, Nat.le_of_ble_eq_true rfl⟩) ⟨cp.blind, fun U hU hW => ⟨rfl, cp.call hPl hKl hE hS hFc hU hW⟩⟩ rfl rfl hl.1 rfl (lv_room (Nat.le_of_ble_eq_true rfl)) dL_law_1191 ⟨by rw [hR1]; omega, by rw [hR2]; omega⟩) hS (fun q _ h => hFc q h) hFc (fun v1191 u t H1 locs1 ht hvm ev hB hz1 hk1 hS => ?_)
  obtain ⟨e1191, ev1⟩ := ev
  by_cases hk0 : kPl w a1.toInt = 0
  · have _u := True.intro
    obtain ⟨hP1, hD1⟩ := hB.1 hk0
    have hu1 := ev1 hk0
    rw [ht] at hP1
    obtain ⟨hP, hD⟩ := va_join (wr := (MW g0 g1 g2 y4 y5 th (n) (w) T P)) (w1 := (LW h0 h1 h2 h3 b0 y1 y2 y3 y6 (n) (w) T P u.2 (vp_updL O 0 u.1.toInt64))) hP hD [0, 1, 2, 3, 4] [5, 6, 7] rfl rfl (by decide) (by decide) hk1 hFc hP1 hD1
    have hP := hP.sub (ws' := (GW h0 h1 h2 h3 b0 g0 g1 g2 y1 y2 y3 y6 y4 y5 (n) (w) th T P u.2 (vp_updL O 0 u.1.toInt64))) [3, 4, 5, 6, 7, 0, 1, 2] rfl
    have hD := hD.sub (ws' := (GW h0 h1 h2 h3 b0 g0 g1 g2 y1 y2 y3 y6 y4 y5 (n) (w) th T P u.2 (vp_updL O 0 u.1.toInt64))) [3, 4, 5, 6, 7, 0, 1, 2] (by decide) rfl
    generalize H1 = H at hP hS ⊢
    generalize locs1 = locs at hS ⊢
    refine lv_istore (lv' := [(5, .int v1191), (0, .ref b), (1, .ref h0), (2, .ref g0), (3, .ref b0), (4, .int x4)]) hx hb dL_law_1194 hl (by decide) rfl (fun ls hl => ?_)
    refine lv_aload_n hx hb dL_law_1196 rfl (lv_at hl 3 rfl) ?_
    refine lv_aload_n hx hb dL_law_1197 rfl (lv_at hl 1 rfl) ?_
    refine lv_iload hx hb dL_law_1198 (lv_at hl 5 rfl) ?_
    refine lv_iconst (v := 1) hx hb dL_law_1200 (by decide) ?_
    refine z_iadd hx hb dL_law_1201 h4 (show (1 : Int32).toInt = 1 by decide) (by omega) (by omega) (fun v1201 e1201 => ?_)
    have i1202 : vp_in v1201 L := vp_in_iff.mpr ⟨by omega, by omega⟩
    refine va_sld hx hb hX hbl hbA hS i1202 dL_law_1202 ?_
    refine lv_as (y := xs (3 * c9 + 1)) (congrArg xs (clN (Eq.trans e1201 (by omega)))) ?_
    refine lv_as ha1.symm ?_
    have hPc := hP.sub (ws' := (MW g0 g1 g2 y4 y5 th (n) (w) T P)) [5, 6, 7] rfl
    have hFc := va_free (wc := (MW g0 g1 g2 y4 y5 th (n) (w) T P)) hD hS hA [5, 6, 7] rfl
    have hDc := hD.sub (ws' := (MW g0 g1 g2 y4 y5 th (n) (w) T P)) [5, 6, 7] (by decide) rfl
    refine va_calli (va_runV (As := [.int a1]) (rest := []) ⟨hx, hb, hml, hown, hts⟩ (c_X2_bestLetter l D E g0 g1 g2 y4 y5 H.size (n) (w) th T P hn hw hT hPt (hDc.weaken (fun _ _ _ _ => trivial)) a1) (cwV 1 hts gL_law_X2_bestLetter rfl rfl rfl (by decide +kernel) ⟨Nat.le_of_ble_eq_true rfl, Nat.le_of_ble_eq_true rfl⟩) ⟨cp.blind, va_recv hK hP (ci := 1) (q0 := 5) rfl rfl, fun U hU hW => ⟨rfl, cp.call hPc hKm hE hS hFc hU hW⟩⟩ rfl rfl hl.1 rfl (lv_room (Nat.le_of_ble_eq_true rfl)) dL_law_1203 ⟨by rw [hR1]; omega, by rw [hR2]; omega⟩) hS (fun q _ h => hFc q h) hFc (fun v1203 u1203 t H1 locs1 ht hvm e1203 hB hz1 hk1 hS => ?_)
    obtain ⟨et1203, ev1203⟩ := e1203
    obtain ⟨hP1, hD1⟩ := hB
    have e1203 := ev1203 hk0
    rw [ht] at hP1
    obtain ⟨hP, hD⟩ := va_join (wr := (LW h0 h1 h2 h3 b0 y1 y2 y3 y6 (n) (w) T P u.2 (vp_updL O 0 u.1.toInt64))) (w1 := (MW g0 g1 g2 y4 y5 u1203 (n) (w) T P)) hP hD [5, 6, 7] [0, 1, 2, 3, 4] rfl rfl (by decide) (by decide) hk1 hFc hP1 hD1
    have hP : va_P D vwCl (GW h0 h1 h2 h3 b0 g0 g1 g2 y1 y2 y3 y6 y4 y5 (n) (w) u1203 T P u.2 (vp_updL O 0 u.1.toInt64)) H1 := hP
    have hD : va_D (fun q : Nat => s.heap.size ≤ q) (GW h0 h1 h2 h3 b0 g0 g1 g2 y1 y2 y3 y6 y4 y5 (n) (w) u1203 T P u.2 (vp_updL O 0 u.1.toInt64)) := hD
    generalize H1 = H at hP hS ⊢
    generalize locs1 = locs at hS ⊢
    refine lv_istore (lv' := [(6, .int v1203), (5, .int v1191), (0, .ref b), (1, .ref h0), (2, .ref g0), (3, .ref b0), (4, .int x4)]) hx hb dL_law_1206 hl (by decide) rfl (fun ls hl => ?_)
    refine lv_aload_n hx hb dL_law_1208 rfl (lv_at hl 4 rfl) ?_
    have hPc := hP.sub (ws' := (MW g0 g1 g2 y4 y5 u1203 (n) (w) T P)) [5, 6, 7] rfl
    refine va_calli (va_runV (As := []) (rest := []) ⟨hx, hb, hml, hown, hts⟩ (c_X2_thrown l D E g0 g1 g2 y4 y5 H.size (n) (w) u1203 T P hn hw hT hPt) (cwV 0 hts gL_law_X2_thrown rfl rfl rfl (by decide +kernel) ⟨Nat.le_of_ble_eq_true rfl, Nat.le_of_ble_eq_true rfl⟩) ⟨cp.blind, va_recv hK hP (ci := 1) (q0 := 5) rfl rfl, fun U hU hW => ⟨rfl, cp.call hPc hKm hE hS (fr0 hS hA) hU hW⟩⟩ rfl rfl hl.1 rfl (lv_room (Nat.le_of_ble_eq_true rfl)) dL_law_1209 ⟨by rw [hR1]; omega, by rw [hR2]; omega⟩) hS (fun q _ h => (fr0 hS hA) q h) (fr0 hS hA) (fun v1209 u1209 t H1 locs1 ht hvm e1209 hB hz1 hk1 hS => ?_)
    have hP := kp hP hk1
    generalize H1 = H at hP hS ⊢
    generalize locs1 = locs at hS ⊢
    refine lv_iload hx hb dL_law_1212 (lv_at hl 1 rfl) ?_
    refine z_icmp_eq (tgt := 1219) hx hb dL_law_1214 (by decide) (Eq.trans e1209 et1203) e1191 (fun c1214 => ?_) (fun c1214 => ?_)
    · have _u := True.intro
      refine lv_iload hx hb dL_law_1219 (lv_at hl 1 rfl) ?_
      refine z_if_ne (tgt := 1236) hx hb dL_law_1221 (by decide) e1191 (fun c1221 => ?_) (fun c1221 => ?_)
      · have _u := True.intro
        exfalso; omega
      · have _u := True.intro
        refine lv_aload_n hx hb dL_law_1224 rfl (lv_at hl 5 rfl) ?_
        refine lv_iconst (v := 0) hx hb dL_law_1225 (by decide) ?_
        refine z_lald hx hb hK hP 4 3 rfl rfl 0 (show (0 : Int32).toInt = 0 by decide) rfl (by decide) dL_law_1226 ?_
        refine lv_iload hx hb dL_law_1227 (lv_at hl 0 rfl) ?_
        refine z_i2l hx hb dL_law_1229 e1203 (fun v1229 e1229 => ?_)
        refine z_lcmp hx hb dL_law_1230 (show ((vp_updL O 0 u.1.toInt64) 0).toInt = u.1.toInt by rw [pk_uLs, Int32.toInt_toInt64]) e1229 (fun v1230 z1230 e1230 f1230 k1230 => ?_)
        refine z_if_eq (tgt := 1236) hx hb dL_law_1231 (by decide) e1230 (fun c1231 => ?_) (fun c1231 => ?_)
        · have _u := True.intro
          refine lv_goto (tgt := 1453) hx hb dL_law_1236 (by decide) ?_
          refine W.widen (k := 8 + 2 * c9 + 2) (n := 252 + 12 * c9 + 12) (by omega) (by omega) ?_
          exact K (n) (w) u1203 T P u.2 (vp_updL O 0 u.1.toInt64) hn hw hT hPt _ _ hP hD hS _ (lv_sub hl [2, 3, 4, 5, 6] rfl)
        · exfalso; omega
    · exfalso; omega
  · have _u := True.intro
    obtain ⟨hP1, hD1⟩ := hB.2 hk0
    rw [ht] at hP1
    obtain ⟨hP, hD⟩ := va_join (wr := (MW g0 g1 g2 y4 y5 th (n) (w) T P)) (w1 := (LW h0 h1 h2 h3 b0 y1 y2 y3 y6 (n) (w) T P u.2 O)) hP hD [0, 1, 2, 3, 4] [5, 6, 7] rfl rfl (by decide) (by decide) hk1 hFc hP1 hD1
    have hP := hP.sub (ws' := (GW h0 h1 h2 h3 b0 g0 g1 g2 y1 y2 y3 y6 y4 y5 (n) (w) th T P u.2 O)) [3, 4, 5, 6, 7, 0, 1, 2] rfl
    have hD := hD.sub (ws' := (GW h0 h1 h2 h3 b0 g0 g1 g2 y1 y2 y3 y6 y4 y5 (n) (w) th T P u.2 O)) [3, 4, 5, 6, 7, 0, 1, 2] (by decide) rfl
    generalize H1 = H at hP hS ⊢
    generalize locs1 = locs at hS ⊢
    refine lv_istore (lv' := [(5, .int v1191), (0, .ref b), (1, .ref h0), (2, .ref g0), (3, .ref b0), (4, .int x4)]) hx hb dL_law_1194 hl (by decide) rfl (fun ls hl => ?_)
    refine lv_aload_n hx hb dL_law_1196 rfl (lv_at hl 3 rfl) ?_
    refine lv_aload_n hx hb dL_law_1197 rfl (lv_at hl 1 rfl) ?_
    refine lv_iload hx hb dL_law_1198 (lv_at hl 5 rfl) ?_
    refine lv_iconst (v := 1) hx hb dL_law_1200 (by decide) ?_
    refine z_iadd hx hb dL_law_1201 h4 (show (1 : Int32).toInt = 1 by decide) (by omega) (by omega) (fun v1201 e1201 => ?_)
    have i1202 : vp_in v1201 L := vp_in_iff.mpr ⟨by omega, by omega⟩
    refine va_sld hx hb hX hbl hbA hS i1202 dL_law_1202 ?_
    refine lv_as (y := xs (3 * c9 + 1)) (congrArg xs (clN (Eq.trans e1201 (by omega)))) ?_
    refine lv_as ha1.symm ?_
    have hPc := hP.sub (ws' := (MW g0 g1 g2 y4 y5 th (n) (w) T P)) [5, 6, 7] rfl
    have hFc := va_free (wc := (MW g0 g1 g2 y4 y5 th (n) (w) T P)) hD hS hA [5, 6, 7] rfl
    have hDc := hD.sub (ws' := (MW g0 g1 g2 y4 y5 th (n) (w) T P)) [5, 6, 7] (by decide) rfl
    refine va_calli (va_runV (As := [.int a1]) (rest := []) ⟨hx, hb, hml, hown, hts⟩ (c_X2_bestLetter l D E g0 g1 g2 y4 y5 H.size (n) (w) th T P hn hw hT hPt (hDc.weaken (fun _ _ _ _ => trivial)) a1) (cwV 1 hts gL_law_X2_bestLetter rfl rfl rfl (by decide +kernel) ⟨Nat.le_of_ble_eq_true rfl, Nat.le_of_ble_eq_true rfl⟩) ⟨cp.blind, va_recv hK hP (ci := 1) (q0 := 5) rfl rfl, fun U hU hW => ⟨rfl, cp.call hPc hKm hE hS hFc hU hW⟩⟩ rfl rfl hl.1 rfl (lv_room (Nat.le_of_ble_eq_true rfl)) dL_law_1203 ⟨by rw [hR1]; omega, by rw [hR2]; omega⟩) hS (fun q _ h => hFc q h) hFc (fun v1203 u1203 t H1 locs1 ht hvm e1203 hB hz1 hk1 hS => ?_)
    obtain ⟨et1203, ev1203⟩ := e1203
    obtain ⟨hP1, hD1⟩ := hB
    rw [ht] at hP1
    obtain ⟨hP, hD⟩ := va_join (wr := (LW h0 h1 h2 h3 b0 y1 y2 y3 y6 (n) (w) T P u.2 O)) (w1 := (MW g0 g1 g2 y4 y5 u1203 (n) (w) T P)) hP hD [5, 6, 7] [0, 1, 2, 3, 4] rfl rfl (by decide) (by decide) hk1 hFc hP1 hD1
    have hP : va_P D vwCl (GW h0 h1 h2 h3 b0 g0 g1 g2 y1 y2 y3 y6 y4 y5 (n) (w) u1203 T P u.2 O) H1 := hP
    have hD : va_D (fun q : Nat => s.heap.size ≤ q) (GW h0 h1 h2 h3 b0 g0 g1 g2 y1 y2 y3 y6 y4 y5 (n) (w) u1203 T P u.2 O) := hD
    generalize H1 = H at hP hS ⊢
    generalize locs1 = locs at hS ⊢
    refine lv_istore (lv' := [(6, .int v1203), (5, .int v1191), (0, .ref b), (1, .ref h0), (2, .ref g0), (3, .ref b0), (4, .int x4)]) hx hb dL_law_1206 hl (by decide) rfl (fun ls hl => ?_)
    refine lv_aload_n hx hb dL_law_1208 rfl (lv_at hl 4 rfl) ?_
    have hPc := hP.sub (ws' := (MW g0 g1 g2 y4 y5 u1203 (n) (w) T P)) [5, 6, 7] rfl
    refine va_calli (va_runV (As := []) (rest := []) ⟨hx, hb, hml, hown, hts⟩ (c_X2_thrown l D E g0 g1 g2 y4 y5 H.size (n) (w) u1203 T P hn hw hT hPt) (cwV 0 hts gL_law_X2_thrown rfl rfl rfl (by decide +kernel) ⟨Nat.le_of_ble_eq_true rfl, Nat.le_of_ble_eq_true rfl⟩) ⟨cp.blind, va_recv hK hP (ci := 1) (q0 := 5) rfl rfl, fun U hU hW => ⟨rfl, cp.call hPc hKm hE hS (fr0 hS hA) hU hW⟩⟩ rfl rfl hl.1 rfl (lv_room (Nat.le_of_ble_eq_true rfl)) dL_law_1209 ⟨by rw [hR1]; omega, by rw [hR2]; omega⟩) hS (fun q _ h => (fr0 hS hA) q h) (fr0 hS hA) (fun v1209 u1209 t H1 locs1 ht hvm e1209 hB hz1 hk1 hS => ?_)
    have hP := kp hP hk1
    generalize H1 = H at hP hS ⊢
    generalize locs1 = locs at hS ⊢
    refine lv_iload hx hb dL_law_1212 (lv_at hl 1 rfl) ?_
    refine z_icmp_eq (tgt := 1219) hx hb dL_law_1214 (by decide) (Eq.trans e1209 et1203) e1191 (fun c1214 => ?_) (fun c1214 => ?_)
    · have _u := True.intro
      refine lv_iload hx hb dL_law_1219 (lv_at hl 1 rfl) ?_
      refine z_if_ne (tgt := 1236) hx hb dL_law_1221 (by decide) e1191 (fun c1221 => ?_) (fun c1221 => ?_)
      · have _u := True.intro
        refine lv_goto (tgt := 1453) hx hb dL_law_1236 (by decide) ?_
        refine W.widen (k := 8 + 2 * c9 + 2) (n := 252 + 12 * c9 + 12) (by omega) (by omega) ?_
        exact K (n) (w) u1203 T P u.2 O hn hw hT hPt _ _ hP hD hS _ (lv_sub hl [2, 3, 4, 5, 6] rfl)
      · have _u := True.intro
        exfalso; omega
    · exfalso; omega
set_option maxHeartbeats 4000000 in
set_option maxRecDepth 100000 in
theorem law_c23 {p : Program} {l : Launch} {e : Env} {s : State} {m : MethodId} {below : List Frame} {meth : Method} {c : Code} {D : va_G} {E : Nat × Nat × Nat} {b L : Nat} {xs : Nat → Int32} {h0 h1 h2 h3 b0 g0 g1 g2 : Nat} {y1 y2 y3 y6 y4 y5 : ClassId} {c9 : Nat} {x4 : Int32} {n w : Nat} {th : Int32} {T P M : Nat → Int32} {O : Nat → Int64} {H : Heap} {locs : List Loc} {ls : Array Slot} (hlt : l.stackTraces = false) (hEd : E.1 ≠ E.2.1 ∧ E.1 ≠ E.2.2 ∧ E.2.1 ≠ E.2.2) (hE : XEnv E (fun q : Nat => s.heap.size ≤ q) s s.heap) (hL : L ≤ 1536) (C0 : lw_At p s m meth c b L xs) (h4 : x4.toInt = ((3 * c9 : Nat) : Int)) (hc : 3 * c9 + 3 ≤ L) (hn : n ≤ 64) (hw : w ≤ 24) (hT : SymF T) (hPt : SymF P) (hK : va_K D vwCl (GT y1 y2 y3 y6 y4 y5) s) (hP : va_P D vwCl (GW h0 h1 h2 h3 b0 g0 g1 g2 y1 y2 y3 y6 y4 y5 n w th T P M O) H) (hD : va_D (fun q : Nat => s.heap.size ≤ q) (GW h0 h1 h2 h3 b0 g0 g1 g2 y1 y2 y3 y6 y4 y5 n w th T P M O)) (hS : va_S (fun q : Nat => s.heap.size ≤ q) s.heap H locs) (hl : lv_has ls 7 [(0, .ref b), (1, .ref h0), (2, .ref g0), (3, .ref b0), (4, .int x4)]) (K : LK p l e s m below meth c D b h0 h1 h2 h3 b0 g0 g1 g2 y1 y2 y3 y6 y4 y5 c9 x4) : W p l e room_1 s m #[Value.ref b] below meth c H locs (8 + 2 * c9) (252 + 12 * c9) (lw_Z below #[Value.ref b] s) (F0 m 1239 ls []) := by
  obtain ⟨hx, hb, hr, hml, hown, hts0, hX, hbl, hlocks, hgv⟩ := C0
  have hts : ∀ w ∈ wsL_law, w.before #[Value.ref b] s = true := fun w h => hts0 w (wsL_law_in w h)
  have hA : ∀ q : Nat, s.heap.size ≤ q → (fun q : Nat => s.heap.size ≤ q) q := fun _ h => h
  have hbA : ¬ (fun q : Nat => s.heap.size ≤ q) b := Nat.not_le.mpr hbl
  have hR1 : room_1.cells = 1051 := rfl
  have hR2 : room_1.slots = 8558 := rfl
  have hKx := hK.sub (tys' := (XT y1 y2 y3)) [0, 1, 2] rfl
  have hKl := hK.sub (tys' := (LT y1 y2 y3 y6)) [0, 1, 2, 3] rfl
  have hKm := hK.sub (tys' := (MT y4 y5)) [4, 5] rfl
  refine lv_aload_n hx hb dL_law_1239 rfl (lv_at hl 1 rfl) ?_
  have hPc := hP.sub (ws' := (XW h0 h1 h2 h3 y1 y2 y3 (n) (w) T P M)) [0, 1, 2, 3] rfl
  refine va_calli (va_runV (As := []) (rest := []) ⟨hx, hb, hml, hown, hts⟩ (c_X1_sumMatches l D E h0 h1 h2 h3 y1 y2 y3 H.size (n) (w) T P M hn hw hT hPt hEd) (cwV 0 hts gL_law_X1_sumMatches rfl rfl rfl (by decide +kernel) ⟨Nat.le_of_ble_eq_true rfl, Nat.le_of_ble_eq_true rfl⟩) ⟨cp.blind, va_recv hK hP (ci := 0) (q0 := 0) rfl rfl, fun U hU hW => ⟨rfl, cp.call hPc hKx hE hS (fr0 hS hA) hU hW⟩⟩ rfl rfl hl.1 rfl (lv_room (Nat.le_of_ble_eq_true rfl)) dL_law_1240 ⟨by rw [hR1]; omega, by rw [hR2]; omega⟩) hS (fun q _ h => (fr0 hS hA) q h) (fr0 hS hA) (fun v1240 u1240 t H1 locs1 ht hvm e1240 hB hz1 hk1 hS => ?_)
  have hP := kp hP hk1
  generalize H1 = H at hP hS ⊢
  generalize locs1 = locs at hS ⊢
  refine lv_aload_n hx hb dL_law_1243 rfl (lv_at hl 2 rfl) ?_
  have hPc := hP.sub (ws' := (MW g0 g1 g2 y4 y5 th (n) (w) T P)) [5, 6, 7] rfl
  have hFc := va_free (wc := (MW g0 g1 g2 y4 y5 th (n) (w) T P)) hD hS hA [5, 6, 7] rfl
  have hDc := hD.sub (ws' := (MW g0 g1 g2 y4 y5 th (n) (w) T P)) [5, 6, 7] (by decide) rfl
  refine va_calli (va_runV (As := []) (rest := [.int v1240]) ⟨hx, hb, hml, hown, hts⟩ (c_X2_sumMatches l D E g0 g1 g2 y4 y5 H.size (n) (w) th T P hn hw hT hPt (hDc.weaken (fun _ _ _ _ => trivial))) (cwV 0 hts gL_law_X2_sumMatches rfl rfl rfl (by decide +kernel) ⟨Nat.le_of_ble_eq_true rfl, Nat.le_of_ble_eq_true rfl⟩) ⟨cp.blind, va_recv hK hP (ci := 1) (q0 := 5) rfl rfl, fun U hU hW => ⟨rfl, cp.call hPc hKm hE hS hFc hU hW⟩⟩ rfl rfl hl.1 rfl (lv_room (Nat.le_of_ble_eq_true rfl)) dL_law_1244 ⟨by rw [hR1]; omega, by rw [hR2]; omega⟩) hS (fun q _ h => hFc q h) hFc (fun v1244 u1244 t H1 locs1 ht hvm e1244 hB hz1 hk1 hS => ?_)
  obtain ⟨hP1, hD1⟩ := hB
  rw [ht] at hP1
  obtain ⟨hP, hD⟩ := va_join (wr := (LW h0 h1 h2 h3 b0 y1 y2 y3 y6 (n) (w) T P M O)) (w1 := (MW g0 g1 g2 y4 y5 0 (n) (w) T P)) hP hD [5, 6, 7] [0, 1, 2, 3, 4] rfl rfl (by decide) (by decide) hk1 hFc hP1 hD1
  have hP : va_P D vwCl (GW h0 h1 h2 h3 b0 g0 g1 g2 y1 y2 y3 y6 y4 y5 (n) (w) 0 T P M O) H1 := hP
  have hD : va_D (fun q : Nat => s.heap.size ≤ q) (GW h0 h1 h2 h3 b0 g0 g1 g2 y1 y2 y3 y6 y4 y5 (n) (w) 0 T P M O) := hD
  generalize H1 = H at hP hS ⊢
  generalize locs1 = locs at hS ⊢
  refine z_icmp_eq (tgt := 1453) hx hb dL_law_1247 (by decide) e1240 e1244 (fun c1247 => ?_) (fun c1247 => ?_)
  · have _u := True.intro
    refine W.widen (k := 8 + 2 * c9 + 2) (n := 252 + 12 * c9 + 12) (by omega) (by omega) ?_
    exact K (n) (w) 0 T P M O hn hw hT hPt _ _ hP hD hS _ (lv_sub hl [0, 1, 2, 3, 4] rfl)
  · exfalso; omega
set_option maxHeartbeats 4000000 in
set_option maxRecDepth 100000 in
theorem law_c24 {p : Program} {l : Launch} {e : Env} {s : State} {m : MethodId} {below : List Frame} {meth : Method} {c : Code} {D : va_G} {E : Nat × Nat × Nat} {b L : Nat} {xs : Nat → Int32} {h0 h1 h2 h3 b0 g0 g1 g2 : Nat} {y1 y2 y3 y6 y4 y5 : ClassId} {c9 : Nat} {x4 : Int32} {n w : Nat} {th : Int32} {T P M : Nat → Int32} {O : Nat → Int64} {H : Heap} {locs : List Loc} {ls : Array Slot} (hlt : l.stackTraces = false) (hEd : E.1 ≠ E.2.1 ∧ E.1 ≠ E.2.2 ∧ E.2.1 ≠ E.2.2) (hE : XEnv E (fun q : Nat => s.heap.size ≤ q) s s.heap) (hL : L ≤ 1536) (C0 : lw_At p s m meth c b L xs) (h4 : x4.toInt = ((3 * c9 : Nat) : Int)) (hc : 3 * c9 + 3 ≤ L) (hn : n ≤ 64) (hw : w ≤ 24) (hT : SymF T) (hPt : SymF P) (hK : va_K D vwCl (GT y1 y2 y3 y6 y4 y5) s) (hP : va_P D vwCl (GW h0 h1 h2 h3 b0 g0 g1 g2 y1 y2 y3 y6 y4 y5 n w th T P M O) H) (hD : va_D (fun q : Nat => s.heap.size ≤ q) (GW h0 h1 h2 h3 b0 g0 g1 g2 y1 y2 y3 y6 y4 y5 n w th T P M O)) (hS : va_S (fun q : Nat => s.heap.size ≤ q) s.heap H locs) (hl : lv_has ls 7 [(0, .ref b), (1, .ref h0), (2, .ref g0), (3, .ref b0), (4, .int x4)]) (K : LK p l e s m below meth c D b h0 h1 h2 h3 b0 g0 g1 g2 y1 y2 y3 y6 y4 y5 c9 x4) : W p l e room_1 s m #[Value.ref b] below meth c H locs (8 + 2 * c9) (252 + 12 * c9) (lw_Z below #[Value.ref b] s) (F0 m 1252 ls []) := by
  obtain ⟨hx, hb, hr, hml, hown, hts0, hX, hbl, hlocks, hgv⟩ := C0
  have hts : ∀ w ∈ wsL_law, w.before #[Value.ref b] s = true := fun w h => hts0 w (wsL_law_in w h)
  have hA : ∀ q : Nat, s.heap.size ≤ q → (fun q : Nat => s.heap.size ≤ q) q := fun _ h => h
  have hbA : ¬ (fun q : Nat => s.heap.size ≤ q) b := Nat.not_le.mpr hbl
  have hR1 : room_1.cells = 1051 := rfl
  have hR2 : room_1.slots = 8558 := rfl
  have hKx := hK.sub (tys' := (XT y1 y2 y3)) [0, 1, 2] rfl
  have hKl := hK.sub (tys' := (LT y1 y2 y3 y6)) [0, 1, 2, 3] rfl
  have hKm := hK.sub (tys' := (MT y4 y5)) [4, 5] rfl
  refine lv_aload_n hx hb dL_law_1252 rfl (lv_at hl 1 rfl) ?_
  refine lv_aload_n hx hb dL_law_1253 rfl (lv_at hl 0 rfl) ?_
  refine lv_iload hx hb dL_law_1254 (lv_at hl 4 rfl) ?_
  refine lv_iconst (v := 1) hx hb dL_law_1256 (by decide) ?_
  refine z_iadd hx hb dL_law_1257 h4 (show (1 : Int32).toInt = 1 by decide) (by omega) (by omega) (fun v1257 e1257 => ?_)
  have i1258 : vp_in v1257 L := vp_in_iff.mpr ⟨by omega, by omega⟩
  refine va_sld hx hb hX hbl hbA hS i1258 dL_law_1258 ?_
  refine lv_as (y := xs (3 * c9 + 1)) (congrArg xs (clN (Eq.trans e1257 (by omega)))) ?_
  obtain ⟨a1, ha1⟩ : ∃ z, z = xs (3 * c9 + 1) := ⟨_, rfl⟩
  refine lv_as ha1.symm ?_
  refine lv_aload_n hx hb dL_law_1259 rfl (lv_at hl 3 rfl) ?_
  have hPl := hP.sub (ws' := (LW h0 h1 h2 h3 b0 y1 y2 y3 y6 (n) (w) T P M O)) [0, 1, 2, 3, 4] rfl
  have hFc := va_free (wc := (LW h0 h1 h2 h3 b0 y1 y2 y3 y6 (n) (w) T P M O)) hD hS hA [0, 1, 2, 3, 4] rfl
  have hDl := hD.sub (ws' := (LW h0 h1 h2 h3 b0 y1 y2 y3 y6 (n) (w) T P M O)) [0, 1, 2, 3, 4] (by decide) rfl
  refine va_calli (vx_runSW (As := [.ref h0, .int a1, .ref b0]) (rest := []) ⟨hx, hb, hml, hown, hts⟩ (c_L_sumMatch l hlt D E h0 h1 h2 h3 b0 y1 y2 y3 y6 H.size n w T P M O hn hw hT hPt (hDl.weaken (fun _ _ _ _ => trivial)) a1 hEd) (vx_cwSW 3 hts gL_law_L_sumMatch rfl rfl rfl (by decide +kernel) ⟨Nat.le_of_ble_eq_true rfl, Nat.le_of_ble_eq_true rfl⟩) ⟨cp.blind, fun U hU hW => ⟨rfl, cp.call hPl hKl hE hS hFc hU hW⟩⟩ rfl rfl hl.1 rfl (lv_room (Nat.le_of_ble_eq_true rfl)) dL_law_1260 ⟨by rw [hR1]; omega, by rw [hR2]; omega⟩) hS (fun q _ h => hFc q h) hFc (fun v1260 u t H1 locs1 ht hvm ev hB hz1 hk1 hS => ?_)
  obtain ⟨e1260, ev1⟩ := ev
  by_cases hk0 : kMt 1 T P w n a1.toInt = 0
  · have _u := True.intro
    obtain ⟨hP1, hD1⟩ := hB.1 hk0
    have hu1 := ev1 hk0
    rw [ht] at hP1
    obtain ⟨hP, hD⟩ := va_join (wr := (MW g0 g1 g2 y4 y5 th (n) (w) T P)) (w1 := (LW h0 h1 h2 h3 b0 y1 y2 y3 y6 (n) (w) T P u.2 (vp_updL O 0 u.1.toInt64))) hP hD [0, 1, 2, 3, 4] [5, 6, 7] rfl rfl (by decide) (by decide) hk1 hFc hP1 hD1
    have hP := hP.sub (ws' := (GW h0 h1 h2 h3 b0 g0 g1 g2 y1 y2 y3 y6 y4 y5 (n) (w) th T P u.2 (vp_updL O 0 u.1.toInt64))) [3, 4, 5, 6, 7, 0, 1, 2] rfl
    have hD := hD.sub (ws' := (GW h0 h1 h2 h3 b0 g0 g1 g2 y1 y2 y3 y6 y4 y5 (n) (w) th T P u.2 (vp_updL O 0 u.1.toInt64))) [3, 4, 5, 6, 7, 0, 1, 2] (by decide) rfl
    generalize H1 = H at hP hS ⊢
    generalize locs1 = locs at hS ⊢
    refine lv_istore (lv' := [(5, .int v1260), (0, .ref b), (1, .ref h0), (2, .ref g0), (3, .ref b0), (4, .int x4)]) hx hb dL_law_1263 hl (by decide) rfl (fun ls hl => ?_)
    refine lv_aload_n hx hb dL_law_1265 rfl (lv_at hl 3 rfl) ?_
    refine lv_aload_n hx hb dL_law_1266 rfl (lv_at hl 1 rfl) ?_
    refine lv_iload hx hb dL_law_1267 (lv_at hl 5 rfl) ?_
    refine lv_iconst (v := 1) hx hb dL_law_1269 (by decide) ?_
    refine z_iadd hx hb dL_law_1270 h4 (show (1 : Int32).toInt = 1 by decide) (by omega) (by omega) (fun v1270 e1270 => ?_)
    have i1271 : vp_in v1270 L := vp_in_iff.mpr ⟨by omega, by omega⟩
    refine va_sld hx hb hX hbl hbA hS i1271 dL_law_1271 ?_
    refine lv_as (y := xs (3 * c9 + 1)) (congrArg xs (clN (Eq.trans e1270 (by omega)))) ?_
    refine lv_as ha1.symm ?_
    have hPc := hP.sub (ws' := (MW g0 g1 g2 y4 y5 th (n) (w) T P)) [5, 6, 7] rfl
    have hFc := va_free (wc := (MW g0 g1 g2 y4 y5 th (n) (w) T P)) hD hS hA [5, 6, 7] rfl
    have hDc := hD.sub (ws' := (MW g0 g1 g2 y4 y5 th (n) (w) T P)) [5, 6, 7] (by decide) rfl
    refine va_calli (va_runV (As := [.int a1]) (rest := []) ⟨hx, hb, hml, hown, hts⟩ (c_X2_sumMatch l D E g0 g1 g2 y4 y5 H.size (n) (w) th T P hn hw hT hPt (hDc.weaken (fun _ _ _ _ => trivial)) a1) (cwV 1 hts gL_law_X2_sumMatch rfl rfl rfl (by decide +kernel) ⟨Nat.le_of_ble_eq_true rfl, Nat.le_of_ble_eq_true rfl⟩) ⟨cp.blind, va_recv hK hP (ci := 1) (q0 := 5) rfl rfl, fun U hU hW => ⟨rfl, cp.call hPc hKm hE hS hFc hU hW⟩⟩ rfl rfl hl.1 rfl (lv_room (Nat.le_of_ble_eq_true rfl)) dL_law_1272 ⟨by rw [hR1]; omega, by rw [hR2]; omega⟩) hS (fun q _ h => hFc q h) hFc (fun v1272 u1272 t H1 locs1 ht hvm e1272 hB hz1 hk1 hS => ?_)
    obtain ⟨et1272, ev1272⟩ := e1272
    obtain ⟨hP1, hD1⟩ := hB
    have e1272 := ev1272 hk0
    rw [ht] at hP1
    obtain ⟨hP, hD⟩ := va_join (wr := (LW h0 h1 h2 h3 b0 y1 y2 y3 y6 (n) (w) T P u.2 (vp_updL O 0 u.1.toInt64))) (w1 := (MW g0 g1 g2 y4 y5 u1272 (n) (w) T P)) hP hD [5, 6, 7] [0, 1, 2, 3, 4] rfl rfl (by decide) (by decide) hk1 hFc hP1 hD1
    have hP : va_P D vwCl (GW h0 h1 h2 h3 b0 g0 g1 g2 y1 y2 y3 y6 y4 y5 (n) (w) u1272 T P u.2 (vp_updL O 0 u.1.toInt64)) H1 := hP
    have hD : va_D (fun q : Nat => s.heap.size ≤ q) (GW h0 h1 h2 h3 b0 g0 g1 g2 y1 y2 y3 y6 y4 y5 (n) (w) u1272 T P u.2 (vp_updL O 0 u.1.toInt64)) := hD
    generalize H1 = H at hP hS ⊢
    generalize locs1 = locs at hS ⊢
    refine lv_istore (lv' := [(6, .int v1272), (5, .int v1260), (0, .ref b), (1, .ref h0), (2, .ref g0), (3, .ref b0), (4, .int x4)]) hx hb dL_law_1275 hl (by decide) rfl (fun ls hl => ?_)
    refine lv_aload_n hx hb dL_law_1277 rfl (lv_at hl 4 rfl) ?_
    have hPc := hP.sub (ws' := (MW g0 g1 g2 y4 y5 u1272 (n) (w) T P)) [5, 6, 7] rfl
    refine va_calli (va_runV (As := []) (rest := []) ⟨hx, hb, hml, hown, hts⟩ (c_X2_thrown l D E g0 g1 g2 y4 y5 H.size (n) (w) u1272 T P hn hw hT hPt) (cwV 0 hts gL_law_X2_thrown rfl rfl rfl (by decide +kernel) ⟨Nat.le_of_ble_eq_true rfl, Nat.le_of_ble_eq_true rfl⟩) ⟨cp.blind, va_recv hK hP (ci := 1) (q0 := 5) rfl rfl, fun U hU hW => ⟨rfl, cp.call hPc hKm hE hS (fr0 hS hA) hU hW⟩⟩ rfl rfl hl.1 rfl (lv_room (Nat.le_of_ble_eq_true rfl)) dL_law_1278 ⟨by rw [hR1]; omega, by rw [hR2]; omega⟩) hS (fun q _ h => (fr0 hS hA) q h) (fr0 hS hA) (fun v1278 u1278 t H1 locs1 ht hvm e1278 hB hz1 hk1 hS => ?_)
    have hP := kp hP hk1
    generalize H1 = H at hP hS ⊢
    generalize locs1 = locs at hS ⊢
    refine lv_iload hx hb dL_law_1281 (lv_at hl 1 rfl) ?_
    refine z_icmp_eq (tgt := 1288) hx hb dL_law_1283 (by decide) (Eq.trans e1278 et1272) e1260 (fun c1283 => ?_) (fun c1283 => ?_)
    · have _u := True.intro
      refine lv_iload hx hb dL_law_1288 (lv_at hl 1 rfl) ?_
      refine z_if_ne (tgt := 1305) hx hb dL_law_1290 (by decide) e1260 (fun c1290 => ?_) (fun c1290 => ?_)
      · have _u := True.intro
        exfalso; omega
      · have _u := True.intro
        refine lv_aload_n hx hb dL_law_1293 rfl (lv_at hl 5 rfl) ?_
        refine lv_iconst (v := 0) hx hb dL_law_1294 (by decide) ?_
        refine z_lald hx hb hK hP 4 3 rfl rfl 0 (show (0 : Int32).toInt = 0 by decide) rfl (by decide) dL_law_1295 ?_
        refine lv_iload hx hb dL_law_1296 (lv_at hl 0 rfl) ?_
        refine z_i2l hx hb dL_law_1298 e1272 (fun v1298 e1298 => ?_)
        refine z_lcmp hx hb dL_law_1299 (show ((vp_updL O 0 u.1.toInt64) 0).toInt = u.1.toInt by rw [pk_uLs, Int32.toInt_toInt64]) e1298 (fun v1299 z1299 e1299 f1299 k1299 => ?_)
        refine z_if_eq (tgt := 1305) hx hb dL_law_1300 (by decide) e1299 (fun c1300 => ?_) (fun c1300 => ?_)
        · have _u := True.intro
          refine lv_goto (tgt := 1453) hx hb dL_law_1305 (by decide) ?_
          refine W.widen (k := 8 + 2 * c9 + 2) (n := 252 + 12 * c9 + 12) (by omega) (by omega) ?_
          exact K (n) (w) u1272 T P u.2 (vp_updL O 0 u.1.toInt64) hn hw hT hPt _ _ hP hD hS _ (lv_sub hl [2, 3, 4, 5, 6] rfl)
        · exfalso; omega
    · exfalso; omega
  · have _u := True.intro
    obtain ⟨hP1, hD1⟩ := hB.2 hk0
    rw [ht] at hP1
    obtain ⟨hP, hD⟩ := va_join (wr := (MW g0 g1 g2 y4 y5 th (n) (w) T P)) (w1 := (LW h0 h1 h2 h3 b0 y1 y2 y3 y6 (n) (w) T P u.2 O)) hP hD [0, 1, 2, 3, 4] [5, 6, 7] rfl rfl (by decide) (by decide) hk1 hFc hP1 hD1
    have hP := hP.sub (ws' := (GW h0 h1 h2 h3 b0 g0 g1 g2 y1 y2 y3 y6 y4 y5 (n) (w) th T P u.2 O)) [3, 4, 5, 6, 7, 0, 1, 2] rfl
    have hD := hD.sub (ws' := (GW h0 h1 h2 h3 b0 g0 g1 g2 y1 y2 y3 y6 y4 y5 (n) (w) th T P u.2 O)) [3, 4, 5, 6, 7, 0, 1, 2] (by decide) rfl
    generalize H1 = H at hP hS ⊢
    generalize locs1 = locs at hS ⊢
    refine lv_istore (lv' := [(5, .int v1260), (0, .ref b), (1, .ref h0), (2, .ref g0), (3, .ref b0), (4, .int x4)]) hx hb dL_law_1263 hl (by decide) rfl (fun ls hl => ?_)
    refine lv_aload_n hx hb dL_law_1265 rfl (lv_at hl 3 rfl) ?_
    refine lv_aload_n hx hb dL_law_1266 rfl (lv_at hl 1 rfl) ?_
    refine lv_iload hx hb dL_law_1267 (lv_at hl 5 rfl) ?_
    refine lv_iconst (v := 1) hx hb dL_law_1269 (by decide) ?_
    refine z_iadd hx hb dL_law_1270 h4 (show (1 : Int32).toInt = 1 by decide) (by omega) (by omega) (fun v1270 e1270 => ?_)
    have i1271 : vp_in v1270 L := vp_in_iff.mpr ⟨by omega, by omega⟩
    refine va_sld hx hb hX hbl hbA hS i1271 dL_law_1271 ?_
    refine lv_as (y := xs (3 * c9 + 1)) (congrArg xs (clN (Eq.trans e1270 (by omega)))) ?_
    refine lv_as ha1.symm ?_
    have hPc := hP.sub (ws' := (MW g0 g1 g2 y4 y5 th (n) (w) T P)) [5, 6, 7] rfl
    have hFc := va_free (wc := (MW g0 g1 g2 y4 y5 th (n) (w) T P)) hD hS hA [5, 6, 7] rfl
    have hDc := hD.sub (ws' := (MW g0 g1 g2 y4 y5 th (n) (w) T P)) [5, 6, 7] (by decide) rfl
    refine va_calli (va_runV (As := [.int a1]) (rest := []) ⟨hx, hb, hml, hown, hts⟩ (c_X2_sumMatch l D E g0 g1 g2 y4 y5 H.size (n) (w) th T P hn hw hT hPt (hDc.weaken (fun _ _ _ _ => trivial)) a1) (cwV 1 hts gL_law_X2_sumMatch rfl rfl rfl (by decide +kernel) ⟨Nat.le_of_ble_eq_true rfl, Nat.le_of_ble_eq_true rfl⟩) ⟨cp.blind, va_recv hK hP (ci := 1) (q0 := 5) rfl rfl, fun U hU hW => ⟨rfl, cp.call hPc hKm hE hS hFc hU hW⟩⟩ rfl rfl hl.1 rfl (lv_room (Nat.le_of_ble_eq_true rfl)) dL_law_1272 ⟨by rw [hR1]; omega, by rw [hR2]; omega⟩) hS (fun q _ h => hFc q h) hFc (fun v1272 u1272 t H1 locs1 ht hvm e1272 hB hz1 hk1 hS => ?_)
    obtain ⟨et1272, ev1272⟩ := e1272
    obtain ⟨hP1, hD1⟩ := hB
    rw [ht] at hP1
    obtain ⟨hP, hD⟩ := va_join (wr := (LW h0 h1 h2 h3 b0 y1 y2 y3 y6 (n) (w) T P u.2 O)) (w1 := (MW g0 g1 g2 y4 y5 u1272 (n) (w) T P)) hP hD [5, 6, 7] [0, 1, 2, 3, 4] rfl rfl (by decide) (by decide) hk1 hFc hP1 hD1
    have hP : va_P D vwCl (GW h0 h1 h2 h3 b0 g0 g1 g2 y1 y2 y3 y6 y4 y5 (n) (w) u1272 T P u.2 O) H1 := hP
    have hD : va_D (fun q : Nat => s.heap.size ≤ q) (GW h0 h1 h2 h3 b0 g0 g1 g2 y1 y2 y3 y6 y4 y5 (n) (w) u1272 T P u.2 O) := hD
    generalize H1 = H at hP hS ⊢
    generalize locs1 = locs at hS ⊢
    refine lv_istore (lv' := [(6, .int v1272), (5, .int v1260), (0, .ref b), (1, .ref h0), (2, .ref g0), (3, .ref b0), (4, .int x4)]) hx hb dL_law_1275 hl (by decide) rfl (fun ls hl => ?_)
    refine lv_aload_n hx hb dL_law_1277 rfl (lv_at hl 4 rfl) ?_
    have hPc := hP.sub (ws' := (MW g0 g1 g2 y4 y5 u1272 (n) (w) T P)) [5, 6, 7] rfl
    refine va_calli (va_runV (As := []) (rest := []) ⟨hx, hb, hml, hown, hts⟩ (c_X2_thrown l D E g0 g1 g2 y4 y5 H.size (n) (w) u1272 T P hn hw hT hPt) (cwV 0 hts gL_law_X2_thrown rfl rfl rfl (by decide +kernel) ⟨Nat.le_of_ble_eq_true rfl, Nat.le_of_ble_eq_true rfl⟩) ⟨cp.blind, va_recv hK hP (ci := 1) (q0 := 5) rfl rfl, fun U hU hW => ⟨rfl, cp.call hPc hKm hE hS (fr0 hS hA) hU hW⟩⟩ rfl rfl hl.1 rfl (lv_room (Nat.le_of_ble_eq_true rfl)) dL_law_1278 ⟨by rw [hR1]; omega, by rw [hR2]; omega⟩) hS (fun q _ h => (fr0 hS hA) q h) (fr0 hS hA) (fun v1278 u1278 t H1 locs1 ht hvm e1278 hB hz1 hk1 hS => ?_)
    have hP := kp hP hk1
    generalize H1 = H at hP hS ⊢
    generalize locs1 = locs at hS ⊢
    refine lv_iload hx hb dL_law_1281 (lv_at hl 1 rfl) ?_
    refine z_icmp_eq (tgt := 1288) hx hb dL_law_1283 (by decide) (Eq.trans e1278 et1272) e1260 (fun c1283 => ?_) (fun c1283 => ?_)
    · have _u := True.intro
      refine lv_iload hx hb dL_law_1288 (lv_at hl 1 rfl) ?_
      refine z_if_ne (tgt := 1305) hx hb dL_law_1290 (by decide) e1260 (fun c1290 => ?_) (fun c1290 => ?_)
      · have _u := True.intro
        refine lv_goto (tgt := 1453) hx hb dL_law_1305 (by decide) ?_
        refine W.widen (k := 8 + 2 * c9 + 2) (n := 252 + 12 * c9 + 12) (by omega) (by omega) ?_
        exact K (n) (w) u1272 T P u.2 O hn hw hT hPt _ _ hP hD hS _ (lv_sub hl [2, 3, 4, 5, 6] rfl)
      · have _u := True.intro
        exfalso; omega
    · exfalso; omega
set_option maxHeartbeats 4000000 in
set_option maxRecDepth 100000 in
theorem law_c25 {p : Program} {l : Launch} {e : Env} {s : State} {m : MethodId} {below : List Frame} {meth : Method} {c : Code} {D : va_G} {E : Nat × Nat × Nat} {b L : Nat} {xs : Nat → Int32} {h0 h1 h2 h3 b0 g0 g1 g2 : Nat} {y1 y2 y3 y6 y4 y5 : ClassId} {c9 : Nat} {x4 : Int32} {n w : Nat} {th : Int32} {T P M : Nat → Int32} {O : Nat → Int64} {H : Heap} {locs : List Loc} {ls : Array Slot} (hlt : l.stackTraces = false) (hEd : E.1 ≠ E.2.1 ∧ E.1 ≠ E.2.2 ∧ E.2.1 ≠ E.2.2) (hE : XEnv E (fun q : Nat => s.heap.size ≤ q) s s.heap) (hL : L ≤ 1536) (C0 : lw_At p s m meth c b L xs) (h4 : x4.toInt = ((3 * c9 : Nat) : Int)) (hc : 3 * c9 + 3 ≤ L) (hn : n ≤ 64) (hw : w ≤ 24) (hT : SymF T) (hPt : SymF P) (hK : va_K D vwCl (GT y1 y2 y3 y6 y4 y5) s) (hP : va_P D vwCl (GW h0 h1 h2 h3 b0 g0 g1 g2 y1 y2 y3 y6 y4 y5 n w th T P M O) H) (hD : va_D (fun q : Nat => s.heap.size ≤ q) (GW h0 h1 h2 h3 b0 g0 g1 g2 y1 y2 y3 y6 y4 y5 n w th T P M O)) (hS : va_S (fun q : Nat => s.heap.size ≤ q) s.heap H locs) (hl : lv_has ls 7 [(0, .ref b), (1, .ref h0), (2, .ref g0), (3, .ref b0), (4, .int x4)]) (K : LK p l e s m below meth c D b h0 h1 h2 h3 b0 g0 g1 g2 y1 y2 y3 y6 y4 y5 c9 x4) : W p l e room_1 s m #[Value.ref b] below meth c H locs (8 + 2 * c9) (252 + 12 * c9) (lw_Z below #[Value.ref b] s) (F0 m 1308 ls []) := by
  obtain ⟨hx, hb, hr, hml, hown, hts0, hX, hbl, hlocks, hgv⟩ := C0
  have hts : ∀ w ∈ wsL_law, w.before #[Value.ref b] s = true := fun w h => hts0 w (wsL_law_in w h)
  have hA : ∀ q : Nat, s.heap.size ≤ q → (fun q : Nat => s.heap.size ≤ q) q := fun _ h => h
  have hbA : ¬ (fun q : Nat => s.heap.size ≤ q) b := Nat.not_le.mpr hbl
  have hR1 : room_1.cells = 1051 := rfl
  have hR2 : room_1.slots = 8558 := rfl
  have hKx := hK.sub (tys' := (XT y1 y2 y3)) [0, 1, 2] rfl
  have hKl := hK.sub (tys' := (LT y1 y2 y3 y6)) [0, 1, 2, 3] rfl
  have hKm := hK.sub (tys' := (MT y4 y5)) [4, 5] rfl
  refine lv_aload_n hx hb dL_law_1308 rfl (lv_at hl 1 rfl) ?_
  have hPc := hP.sub (ws' := (XW h0 h1 h2 h3 y1 y2 y3 (n) (w) T P M)) [0, 1, 2, 3] rfl
  refine va_calli (va_runV (As := []) (rest := []) ⟨hx, hb, hml, hown, hts⟩ (c_X1_orderMatches l D E h0 h1 h2 h3 y1 y2 y3 H.size (n) (w) T P M hn hw hT hPt hEd) (cwV 0 hts gL_law_X1_orderMatches rfl rfl rfl (by decide +kernel) ⟨Nat.le_of_ble_eq_true rfl, Nat.le_of_ble_eq_true rfl⟩) ⟨cp.blind, va_recv hK hP (ci := 0) (q0 := 0) rfl rfl, fun U hU hW => ⟨rfl, cp.call hPc hKx hE hS (fr0 hS hA) hU hW⟩⟩ rfl rfl hl.1 rfl (lv_room (Nat.le_of_ble_eq_true rfl)) dL_law_1309 ⟨by rw [hR1]; omega, by rw [hR2]; omega⟩) hS (fun q _ h => (fr0 hS hA) q h) (fr0 hS hA) (fun v1309 u1309 t H1 locs1 ht hvm e1309 hB hz1 hk1 hS => ?_)
  have hP := kp hP hk1
  generalize H1 = H at hP hS ⊢
  generalize locs1 = locs at hS ⊢
  refine lv_aload_n hx hb dL_law_1312 rfl (lv_at hl 2 rfl) ?_
  have hPc := hP.sub (ws' := (MW g0 g1 g2 y4 y5 th (n) (w) T P)) [5, 6, 7] rfl
  have hFc := va_free (wc := (MW g0 g1 g2 y4 y5 th (n) (w) T P)) hD hS hA [5, 6, 7] rfl
  have hDc := hD.sub (ws' := (MW g0 g1 g2 y4 y5 th (n) (w) T P)) [5, 6, 7] (by decide) rfl
  refine va_calli (va_runV (As := []) (rest := [.int v1309]) ⟨hx, hb, hml, hown, hts⟩ (c_X2_orderMatches l D E g0 g1 g2 y4 y5 H.size (n) (w) th T P hn hw hT hPt (hDc.weaken (fun _ _ _ _ => trivial))) (cwV 0 hts gL_law_X2_orderMatches rfl rfl rfl (by decide +kernel) ⟨Nat.le_of_ble_eq_true rfl, Nat.le_of_ble_eq_true rfl⟩) ⟨cp.blind, va_recv hK hP (ci := 1) (q0 := 5) rfl rfl, fun U hU hW => ⟨rfl, cp.call hPc hKm hE hS hFc hU hW⟩⟩ rfl rfl hl.1 rfl (lv_room (Nat.le_of_ble_eq_true rfl)) dL_law_1313 ⟨by rw [hR1]; omega, by rw [hR2]; omega⟩) hS (fun q _ h => hFc q h) hFc (fun v1313 u1313 t H1 locs1 ht hvm e1313 hB hz1 hk1 hS => ?_)
  obtain ⟨hP1, hD1⟩ := hB
  rw [ht] at hP1
  obtain ⟨hP, hD⟩ := va_join (wr := (LW h0 h1 h2 h3 b0 y1 y2 y3 y6 (n) (w) T P M O)) (w1 := (MW g0 g1 g2 y4 y5 0 (n) (w) T P)) hP hD [5, 6, 7] [0, 1, 2, 3, 4] rfl rfl (by decide) (by decide) hk1 hFc hP1 hD1
  have hP : va_P D vwCl (GW h0 h1 h2 h3 b0 g0 g1 g2 y1 y2 y3 y6 y4 y5 (n) (w) 0 T P M O) H1 := hP
  have hD : va_D (fun q : Nat => s.heap.size ≤ q) (GW h0 h1 h2 h3 b0 g0 g1 g2 y1 y2 y3 y6 y4 y5 (n) (w) 0 T P M O) := hD
  generalize H1 = H at hP hS ⊢
  generalize locs1 = locs at hS ⊢
  refine z_icmp_eq (tgt := 1453) hx hb dL_law_1316 (by decide) e1309 e1313 (fun c1316 => ?_) (fun c1316 => ?_)
  · have _u := True.intro
    refine W.widen (k := 8 + 2 * c9 + 2) (n := 252 + 12 * c9 + 12) (by omega) (by omega) ?_
    exact K (n) (w) 0 T P M O hn hw hT hPt _ _ hP hD hS _ (lv_sub hl [0, 1, 2, 3, 4] rfl)
  · exfalso; omega
set_option maxHeartbeats 4000000 in
set_option maxRecDepth 100000 in
theorem law_c26 {p : Program} {l : Launch} {e : Env} {s : State} {m : MethodId} {below : List Frame} {meth : Method} {c : Code} {D : va_G} {E : Nat × Nat × Nat} {b L : Nat} {xs : Nat → Int32} {h0 h1 h2 h3 b0 g0 g1 g2 : Nat} {y1 y2 y3 y6 y4 y5 : ClassId} {c9 : Nat} {x4 : Int32} {n w : Nat} {th : Int32} {T P M : Nat → Int32} {O : Nat → Int64} {H : Heap} {locs : List Loc} {ls : Array Slot} (hlt : l.stackTraces = false) (hEd : E.1 ≠ E.2.1 ∧ E.1 ≠ E.2.2 ∧ E.2.1 ≠ E.2.2) (hE : XEnv E (fun q : Nat => s.heap.size ≤ q) s s.heap) (hL : L ≤ 1536) (C0 : lw_At p s m meth c b L xs) (h4 : x4.toInt = ((3 * c9 : Nat) : Int)) (hc : 3 * c9 + 3 ≤ L) (hn : n ≤ 64) (hw : w ≤ 24) (hT : SymF T) (hPt : SymF P) (hK : va_K D vwCl (GT y1 y2 y3 y6 y4 y5) s) (hP : va_P D vwCl (GW h0 h1 h2 h3 b0 g0 g1 g2 y1 y2 y3 y6 y4 y5 n w th T P M O) H) (hD : va_D (fun q : Nat => s.heap.size ≤ q) (GW h0 h1 h2 h3 b0 g0 g1 g2 y1 y2 y3 y6 y4 y5 n w th T P M O)) (hS : va_S (fun q : Nat => s.heap.size ≤ q) s.heap H locs) (hl : lv_has ls 7 [(0, .ref b), (1, .ref h0), (2, .ref g0), (3, .ref b0), (4, .int x4)]) (K : LK p l e s m below meth c D b h0 h1 h2 h3 b0 g0 g1 g2 y1 y2 y3 y6 y4 y5 c9 x4) : W p l e room_1 s m #[Value.ref b] below meth c H locs (8 + 2 * c9) (252 + 12 * c9) (lw_Z below #[Value.ref b] s) (F0 m 1321 ls []) := by
  obtain ⟨hx, hb, hr, hml, hown, hts0, hX, hbl, hlocks, hgv⟩ := C0
  have hts : ∀ w ∈ wsL_law, w.before #[Value.ref b] s = true := fun w h => hts0 w (wsL_law_in w h)
  have hA : ∀ q : Nat, s.heap.size ≤ q → (fun q : Nat => s.heap.size ≤ q) q := fun _ h => h
  have hbA : ¬ (fun q : Nat => s.heap.size ≤ q) b := Nat.not_le.mpr hbl
  have hR1 : room_1.cells = 1051 := rfl
  have hR2 : room_1.slots = 8558 := rfl
  have hKx := hK.sub (tys' := (XT y1 y2 y3)) [0, 1, 2] rfl
  have hKl := hK.sub (tys' := (LT y1 y2 y3 y6)) [0, 1, 2, 3] rfl
  have hKm := hK.sub (tys' := (MT y4 y5)) [4, 5] rfl
  refine lv_aload_n hx hb dL_law_1321 rfl (lv_at hl 1 rfl) ?_
  refine lv_aload_n hx hb dL_law_1322 rfl (lv_at hl 0 rfl) ?_
  refine lv_iload hx hb dL_law_1323 (lv_at hl 4 rfl) ?_
  refine lv_iconst (v := 1) hx hb dL_law_1325 (by decide) ?_
  refine z_iadd hx hb dL_law_1326 h4 (show (1 : Int32).toInt = 1 by decide) (by omega) (by omega) (fun v1326 e1326 => ?_)
  have i1327 : vp_in v1326 L := vp_in_iff.mpr ⟨by omega, by omega⟩
  refine va_sld hx hb hX hbl hbA hS i1327 dL_law_1327 ?_
  refine lv_as (y := xs (3 * c9 + 1)) (congrArg xs (clN (Eq.trans e1326 (by omega)))) ?_
  obtain ⟨a1, ha1⟩ : ∃ z, z = xs (3 * c9 + 1) := ⟨_, rfl⟩
  refine lv_as ha1.symm ?_
  refine lv_aload_n hx hb dL_law_1328 rfl (lv_at hl 3 rfl) ?_
  have hPl := hP.sub (ws' := (LW h0 h1 h2 h3 b0 y1 y2 y3 y6 (n) (w) T P M O)) [0, 1, 2, 3, 4] rfl
  have hFc := va_free (wc := (LW h0 h1 h2 h3 b0 y1 y2 y3 y6 (n) (w) T P M O)) hD hS hA [0, 1, 2, 3, 4] rfl
  have hDl := hD.sub (ws' := (LW h0 h1 h2 h3 b0 y1 y2 y3 y6 (n) (w) T P M O)) [0, 1, 2, 3, 4] (by decide) rfl
  refine va_calli (vx_runSW (As := [.ref h0, .int a1, .ref b0]) (rest := []) ⟨hx, hb, hml, hown, hts⟩ (c_L_orderMatch l hlt D E h0 h1 h2 h3 b0 y1 y2 y3 y6 H.size n w T P M O hn hw hT hPt (hDl.weaken (fun _ _ _ _ => trivial)) a1 hEd) (vx_cwSW 3 hts gL_law_L_orderMatch rfl rfl rfl (by decide +kernel) ⟨Nat.le_of_ble_eq_true rfl, Nat.le_of_ble_eq_true rfl⟩) ⟨cp.blind, fun U hU hW => ⟨rfl, cp.call hPl hKl hE hS hFc hU hW⟩⟩ rfl rfl hl.1 rfl (lv_room (Nat.le_of_ble_eq_true rfl)) dL_law_1329 ⟨by rw [hR1]; omega, by rw [hR2]; omega⟩) hS (fun q _ h => hFc q h) hFc (fun v1329 u t H1 locs1 ht hvm ev hB hz1 hk1 hS => ?_)
  obtain ⟨e1329, ev1⟩ := ev
  by_cases hk0 : kMt 2 T P w n a1.toInt = 0
  · have _u := True.intro
    obtain ⟨hP1, hD1⟩ := hB.1 hk0
    have hu1 := ev1 hk0
    rw [ht] at hP1
    obtain ⟨hP, hD⟩ := va_join (wr := (MW g0 g1 g2 y4 y5 th (n) (w) T P)) (w1 := (LW h0 h1 h2 h3 b0 y1 y2 y3 y6 (n) (w) T P u.2 (vp_updL O 0 u.1.toInt64))) hP hD [0, 1, 2, 3, 4] [5, 6, 7] rfl rfl (by decide) (by decide) hk1 hFc hP1 hD1
    have hP := hP.sub (ws' := (GW h0 h1 h2 h3 b0 g0 g1 g2 y1 y2 y3 y6 y4 y5 (n) (w) th T P u.2 (vp_updL O 0 u.1.toInt64))) [3, 4, 5, 6, 7, 0, 1, 2] rfl
    have hD := hD.sub (ws' := (GW h0 h1 h2 h3 b0 g0 g1 g2 y1 y2 y3 y6 y4 y5 (n) (w) th T P u.2 (vp_updL O 0 u.1.toInt64))) [3, 4, 5, 6, 7, 0, 1, 2] (by decide) rfl
    generalize H1 = H at hP hS ⊢
    generalize locs1 = locs at hS ⊢
    refine lv_istore (lv' := [(5, .int v1329), (0, .ref b), (1, .ref h0), (2, .ref g0), (3, .ref b0), (4, .int x4)]) hx hb dL_law_1332 hl (by decide) rfl (fun ls hl => ?_)
    refine lv_aload_n hx hb dL_law_1334 rfl (lv_at hl 3 rfl) ?_
    refine lv_aload_n hx hb dL_law_1335 rfl (lv_at hl 1 rfl) ?_
    refine lv_iload hx hb dL_law_1336 (lv_at hl 5 rfl) ?_
    refine lv_iconst (v := 1) hx hb dL_law_1338 (by decide) ?_
    refine z_iadd hx hb dL_law_1339 h4 (show (1 : Int32).toInt = 1 by decide) (by omega) (by omega) (fun v1339 e1339 => ?_)
    have i1340 : vp_in v1339 L := vp_in_iff.mpr ⟨by omega, by omega⟩
    refine va_sld hx hb hX hbl hbA hS i1340 dL_law_1340 ?_
    refine lv_as (y := xs (3 * c9 + 1)) (congrArg xs (clN (Eq.trans e1339 (by omega)))) ?_
    refine lv_as ha1.symm ?_
    have hPc := hP.sub (ws' := (MW g0 g1 g2 y4 y5 th (n) (w) T P)) [5, 6, 7] rfl
    have hFc := va_free (wc := (MW g0 g1 g2 y4 y5 th (n) (w) T P)) hD hS hA [5, 6, 7] rfl
    have hDc := hD.sub (ws' := (MW g0 g1 g2 y4 y5 th (n) (w) T P)) [5, 6, 7] (by decide) rfl
    refine va_calli (va_runV (As := [.int a1]) (rest := []) ⟨hx, hb, hml, hown, hts⟩ (c_X2_orderMatch l D E g0 g1 g2 y4 y5 H.size (n) (w) th T P hn hw hT hPt (hDc.weaken (fun _ _ _ _ => trivial)) a1) (cwV 1 hts gL_law_X2_orderMatch rfl rfl rfl (by decide +kernel) ⟨Nat.le_of_ble_eq_true rfl, Nat.le_of_ble_eq_true rfl⟩) ⟨cp.blind, va_recv hK hP (ci := 1) (q0 := 5) rfl rfl, fun U hU hW => ⟨rfl, cp.call hPc hKm hE hS hFc hU hW⟩⟩ rfl rfl hl.1 rfl (lv_room (Nat.le_of_ble_eq_true rfl)) dL_law_1341 ⟨by rw [hR1]; omega, by rw [hR2]; omega⟩) hS (fun q _ h => hFc q h) hFc (fun v1341 u1341 t H1 locs1 ht hvm e1341 hB hz1 hk1 hS => ?_)
    obtain ⟨et1341, ev1341⟩ := e1341
    obtain ⟨hP1, hD1⟩ := hB
    have e1341 := ev1341 hk0
    rw [ht] at hP1
    obtain ⟨hP, hD⟩ := va_join (wr := (LW h0 h1 h2 h3 b0 y1 y2 y3 y6 (n) (w) T P u.2 (vp_updL O 0 u.1.toInt64))) (w1 := (MW g0 g1 g2 y4 y5 u1341 (n) (w) T P)) hP hD [5, 6, 7] [0, 1, 2, 3, 4] rfl rfl (by decide) (by decide) hk1 hFc hP1 hD1
    have hP : va_P D vwCl (GW h0 h1 h2 h3 b0 g0 g1 g2 y1 y2 y3 y6 y4 y5 (n) (w) u1341 T P u.2 (vp_updL O 0 u.1.toInt64)) H1 := hP
    have hD : va_D (fun q : Nat => s.heap.size ≤ q) (GW h0 h1 h2 h3 b0 g0 g1 g2 y1 y2 y3 y6 y4 y5 (n) (w) u1341 T P u.2 (vp_updL O 0 u.1.toInt64)) := hD
    generalize H1 = H at hP hS ⊢
    generalize locs1 = locs at hS ⊢
    refine lv_istore (lv' := [(6, .int v1341), (5, .int v1329), (0, .ref b), (1, .ref h0), (2, .ref g0), (3, .ref b0), (4, .int x4)]) hx hb dL_law_1344 hl (by decide) rfl (fun ls hl => ?_)
    refine lv_aload_n hx hb dL_law_1346 rfl (lv_at hl 4 rfl) ?_
    have hPc := hP.sub (ws' := (MW g0 g1 g2 y4 y5 u1341 (n) (w) T P)) [5, 6, 7] rfl
    refine va_calli (va_runV (As := []) (rest := []) ⟨hx, hb, hml, hown, hts⟩ (c_X2_thrown l D E g0 g1 g2 y4 y5 H.size (n) (w) u1341 T P hn hw hT hPt) (cwV 0 hts gL_law_X2_thrown rfl rfl rfl (by decide +kernel) ⟨Nat.le_of_ble_eq_true rfl, Nat.le_of_ble_eq_true rfl⟩) ⟨cp.blind, va_recv hK hP (ci := 1) (q0 := 5) rfl rfl, fun U hU hW => ⟨rfl, cp.call hPc hKm hE hS (fr0 hS hA) hU hW⟩⟩ rfl rfl hl.1 rfl (lv_room (Nat.le_of_ble_eq_true rfl)) dL_law_1347 ⟨by rw [hR1]; omega, by rw [hR2]; omega⟩) hS (fun q _ h => (fr0 hS hA) q h) (fr0 hS hA) (fun v1347 u1347 t H1 locs1 ht hvm e1347 hB hz1 hk1 hS => ?_)
    have hP := kp hP hk1
    generalize H1 = H at hP hS ⊢
    generalize locs1 = locs at hS ⊢
    refine lv_iload hx hb dL_law_1350 (lv_at hl 1 rfl) ?_
    refine z_icmp_eq (tgt := 1357) hx hb dL_law_1352 (by decide) (Eq.trans e1347 et1341) e1329 (fun c1352 => ?_) (fun c1352 => ?_)
    · have _u := True.intro
      refine lv_iload hx hb dL_law_1357 (lv_at hl 1 rfl) ?_
      refine z_if_ne (tgt := 1374) hx hb dL_law_1359 (by decide) e1329 (fun c1359 => ?_) (fun c1359 => ?_)
      · have _u := True.intro
        exfalso; omega
      · have _u := True.intro
        refine lv_aload_n hx hb dL_law_1362 rfl (lv_at hl 5 rfl) ?_
        refine lv_iconst (v := 0) hx hb dL_law_1363 (by decide) ?_
        refine z_lald hx hb hK hP 4 3 rfl rfl 0 (show (0 : Int32).toInt = 0 by decide) rfl (by decide) dL_law_1364 ?_
        refine lv_iload hx hb dL_law_1365 (lv_at hl 0 rfl) ?_
        refine z_i2l hx hb dL_law_1367 e1341 (fun v1367 e1367 => ?_)
        refine z_lcmp hx hb dL_law_1368 (show ((vp_updL O 0 u.1.toInt64) 0).toInt = u.1.toInt by rw [pk_uLs, Int32.toInt_toInt64]) e1367 (fun v1368 z1368 e1368 f1368 k1368 => ?_)
        refine z_if_eq (tgt := 1374) hx hb dL_law_1369 (by decide) e1368 (fun c1369 => ?_) (fun c1369 => ?_)
        · have _u := True.intro
          refine lv_goto (tgt := 1453) hx hb dL_law_1374 (by decide) ?_
          refine W.widen (k := 8 + 2 * c9 + 2) (n := 252 + 12 * c9 + 12) (by omega) (by omega) ?_
          exact K (n) (w) u1341 T P u.2 (vp_updL O 0 u.1.toInt64) hn hw hT hPt _ _ hP hD hS _ (lv_sub hl [2, 3, 4, 5, 6] rfl)
        · exfalso; omega
    · exfalso; omega
  · have _u := True.intro
    obtain ⟨hP1, hD1⟩ := hB.2 hk0
    rw [ht] at hP1
    obtain ⟨hP, hD⟩ := va_join (wr := (MW g0 g1 g2 y4 y5 th (n) (w) T P)) (w1 := (LW h0 h1 h2 h3 b0 y1 y2 y3 y6 (n) (w) T P u.2 O)) hP hD [0, 1, 2, 3, 4] [5, 6, 7] rfl rfl (by decide) (by decide) hk1 hFc hP1 hD1
    have hP := hP.sub (ws' := (GW h0 h1 h2 h3 b0 g0 g1 g2 y1 y2 y3 y6 y4 y5 (n) (w) th T P u.2 O)) [3, 4, 5, 6, 7, 0, 1, 2] rfl
    have hD := hD.sub (ws' := (GW h0 h1 h2 h3 b0 g0 g1 g2 y1 y2 y3 y6 y4 y5 (n) (w) th T P u.2 O)) [3, 4, 5, 6, 7, 0, 1, 2] (by decide) rfl
    generalize H1 = H at hP hS ⊢
    generalize locs1 = locs at hS ⊢
    refine lv_istore (lv' := [(5, .int v1329), (0, .ref b), (1, .ref h0), (2, .ref g0), (3, .ref b0), (4, .int x4)]) hx hb dL_law_1332 hl (by decide) rfl (fun ls hl => ?_)
    refine lv_aload_n hx hb dL_law_1334 rfl (lv_at hl 3 rfl) ?_
    refine lv_aload_n hx hb dL_law_1335 rfl (lv_at hl 1 rfl) ?_
    refine lv_iload hx hb dL_law_1336 (lv_at hl 5 rfl) ?_
    refine lv_iconst (v := 1) hx hb dL_law_1338 (by decide) ?_
    refine z_iadd hx hb dL_law_1339 h4 (show (1 : Int32).toInt = 1 by decide) (by omega) (by omega) (fun v1339 e1339 => ?_)
    have i1340 : vp_in v1339 L := vp_in_iff.mpr ⟨by omega, by omega⟩
    refine va_sld hx hb hX hbl hbA hS i1340 dL_law_1340 ?_
    refine lv_as (y := xs (3 * c9 + 1)) (congrArg xs (clN (Eq.trans e1339 (by omega)))) ?_
    refine lv_as ha1.symm ?_
    have hPc := hP.sub (ws' := (MW g0 g1 g2 y4 y5 th (n) (w) T P)) [5, 6, 7] rfl
    have hFc := va_free (wc := (MW g0 g1 g2 y4 y5 th (n) (w) T P)) hD hS hA [5, 6, 7] rfl
    have hDc := hD.sub (ws' := (MW g0 g1 g2 y4 y5 th (n) (w) T P)) [5, 6, 7] (by decide) rfl
    refine va_calli (va_runV (As := [.int a1]) (rest := []) ⟨hx, hb, hml, hown, hts⟩ (c_X2_orderMatch l D E g0 g1 g2 y4 y5 H.size (n) (w) th T P hn hw hT hPt (hDc.weaken (fun _ _ _ _ => trivial)) a1) (cwV 1 hts gL_law_X2_orderMatch rfl rfl rfl (by decide +kernel) ⟨Nat.le_of_ble_eq_true rfl, Nat.le_of_ble_eq_true rfl⟩) ⟨cp.blind, va_recv hK hP (ci := 1) (q0 := 5) rfl rfl, fun U hU hW => ⟨rfl, cp.call hPc hKm hE hS hFc hU hW⟩⟩ rfl rfl hl.1 rfl (lv_room (Nat.le_of_ble_eq_true rfl)) dL_law_1341 ⟨by rw [hR1]; omega, by rw [hR2]; omega⟩) hS (fun q _ h => hFc q h) hFc (fun v1341 u1341 t H1 locs1 ht hvm e1341 hB hz1 hk1 hS => ?_)
    obtain ⟨et1341, ev1341⟩ := e1341
    obtain ⟨hP1, hD1⟩ := hB
    rw [ht] at hP1
    obtain ⟨hP, hD⟩ := va_join (wr := (LW h0 h1 h2 h3 b0 y1 y2 y3 y6 (n) (w) T P u.2 O)) (w1 := (MW g0 g1 g2 y4 y5 u1341 (n) (w) T P)) hP hD [5, 6, 7] [0, 1, 2, 3, 4] rfl rfl (by decide) (by decide) hk1 hFc hP1 hD1
    have hP : va_P D vwCl (GW h0 h1 h2 h3 b0 g0 g1 g2 y1 y2 y3 y6 y4 y5 (n) (w) u1341 T P u.2 O) H1 := hP
    have hD : va_D (fun q : Nat => s.heap.size ≤ q) (GW h0 h1 h2 h3 b0 g0 g1 g2 y1 y2 y3 y6 y4 y5 (n) (w) u1341 T P u.2 O) := hD
    generalize H1 = H at hP hS ⊢
    generalize locs1 = locs at hS ⊢
    refine lv_istore (lv' := [(6, .int v1341), (5, .int v1329), (0, .ref b), (1, .ref h0), (2, .ref g0), (3, .ref b0), (4, .int x4)]) hx hb dL_law_1344 hl (by decide) rfl (fun ls hl => ?_)
    refine lv_aload_n hx hb dL_law_1346 rfl (lv_at hl 4 rfl) ?_
    have hPc := hP.sub (ws' := (MW g0 g1 g2 y4 y5 u1341 (n) (w) T P)) [5, 6, 7] rfl
    refine va_calli (va_runV (As := []) (rest := []) ⟨hx, hb, hml, hown, hts⟩ (c_X2_thrown l D E g0 g1 g2 y4 y5 H.size (n) (w) u1341 T P hn hw hT hPt) (cwV 0 hts gL_law_X2_thrown rfl rfl rfl (by decide +kernel) ⟨Nat.le_of_ble_eq_true rfl, Nat.le_of_ble_eq_true rfl⟩) ⟨cp.blind, va_recv hK hP (ci := 1) (q0 := 5) rfl rfl, fun U hU hW => ⟨rfl, cp.call hPc hKm hE hS (fr0 hS hA) hU hW⟩⟩ rfl rfl hl.1 rfl (lv_room (Nat.le_of_ble_eq_true rfl)) dL_law_1347 ⟨by rw [hR1]; omega, by rw [hR2]; omega⟩) hS (fun q _ h => (fr0 hS hA) q h) (fr0 hS hA) (fun v1347 u1347 t H1 locs1 ht hvm e1347 hB hz1 hk1 hS => ?_)
    have hP := kp hP hk1
    generalize H1 = H at hP hS ⊢
    generalize locs1 = locs at hS ⊢
    refine lv_iload hx hb dL_law_1350 (lv_at hl 1 rfl) ?_
    refine z_icmp_eq (tgt := 1357) hx hb dL_law_1352 (by decide) (Eq.trans e1347 et1341) e1329 (fun c1352 => ?_) (fun c1352 => ?_)
    · have _u := True.intro
      refine lv_iload hx hb dL_law_1357 (lv_at hl 1 rfl) ?_
      refine z_if_ne (tgt := 1374) hx hb dL_law_1359 (by decide) e1329 (fun c1359 => ?_) (fun c1359 => ?_)
      · have _u := True.intro
        refine lv_goto (tgt := 1453) hx hb dL_law_1374 (by decide) ?_
        refine W.widen (k := 8 + 2 * c9 + 2) (n := 252 + 12 * c9 + 12) (by omega) (by omega) ?_
        exact K (n) (w) u1341 T P u.2 O hn hw hT hPt _ _ hP hD hS _ (lv_sub hl [2, 3, 4, 5, 6] rfl)
      · have _u := True.intro
        exfalso; omega
    · exfalso; omega
set_option maxHeartbeats 4000000 in
set_option maxRecDepth 100000 in
theorem law_c27 {p : Program} {l : Launch} {e : Env} {s : State} {m : MethodId} {below : List Frame} {meth : Method} {c : Code} {D : va_G} {E : Nat × Nat × Nat} {b L : Nat} {xs : Nat → Int32} {h0 h1 h2 h3 b0 g0 g1 g2 : Nat} {y1 y2 y3 y6 y4 y5 : ClassId} {c9 : Nat} {x4 : Int32} {n w : Nat} {th : Int32} {T P M : Nat → Int32} {O : Nat → Int64} {H : Heap} {locs : List Loc} {ls : Array Slot} (hlt : l.stackTraces = false) (hEd : E.1 ≠ E.2.1 ∧ E.1 ≠ E.2.2 ∧ E.2.1 ≠ E.2.2) (hE : XEnv E (fun q : Nat => s.heap.size ≤ q) s s.heap) (hL : L ≤ 1536) (C0 : lw_At p s m meth c b L xs) (h4 : x4.toInt = ((3 * c9 : Nat) : Int)) (hc : 3 * c9 + 3 ≤ L) (hn : n ≤ 64) (hw : w ≤ 24) (hT : SymF T) (hPt : SymF P) (hK : va_K D vwCl (GT y1 y2 y3 y6 y4 y5) s) (hP : va_P D vwCl (GW h0 h1 h2 h3 b0 g0 g1 g2 y1 y2 y3 y6 y4 y5 n w th T P M O) H) (hD : va_D (fun q : Nat => s.heap.size ≤ q) (GW h0 h1 h2 h3 b0 g0 g1 g2 y1 y2 y3 y6 y4 y5 n w th T P M O)) (hS : va_S (fun q : Nat => s.heap.size ≤ q) s.heap H locs) (hl : lv_has ls 7 [(0, .ref b), (1, .ref h0), (2, .ref g0), (3, .ref b0), (4, .int x4)]) (K : LK p l e s m below meth c D b h0 h1 h2 h3 b0 g0 g1 g2 y1 y2 y3 y6 y4 y5 c9 x4) : W p l e room_1 s m #[Value.ref b] below meth c H locs (8 + 2 * c9) (252 + 12 * c9) (lw_Z below #[Value.ref b] s) (F0 m 1377 ls []) := by
  obtain ⟨hx, hb, hr, hml, hown, hts0, hX, hbl, hlocks, hgv⟩ := C0
  have hts : ∀ w ∈ wsL_law, w.before #[Value.ref b] s = true := fun w h => hts0 w (wsL_law_in w h)
  have hA : ∀ q : Nat, s.heap.size ≤ q → (fun q : Nat => s.heap.size ≤ q) q := fun _ h => h
  have hbA : ¬ (fun q : Nat => s.heap.size ≤ q) b := Nat.not_le.mpr hbl
  have hR1 : room_1.cells = 1051 := rfl
  have hR2 : room_1.slots = 8558 := rfl
  have hKx := hK.sub (tys' := (XT y1 y2 y3)) [0, 1, 2] rfl
  have hKl := hK.sub (tys' := (LT y1 y2 y3 y6)) [0, 1, 2, 3] rfl
  have hKm := hK.sub (tys' := (MT y4 y5)) [4, 5] rfl
  refine lv_aload_n hx hb dL_law_1377 rfl (lv_at hl 1 rfl) ?_
  refine lv_aload_n hx hb dL_law_1378 rfl (lv_at hl 0 rfl) ?_
  refine lv_iload hx hb dL_law_1379 (lv_at hl 4 rfl) ?_
  refine lv_iconst (v := 1) hx hb dL_law_1381 (by decide) ?_
  refine z_iadd hx hb dL_law_1382 h4 (show (1 : Int32).toInt = 1 by decide) (by omega) (by omega) (fun v1382 e1382 => ?_)
  have i1383 : vp_in v1382 L := vp_in_iff.mpr ⟨by omega, by omega⟩
  refine va_sld hx hb hX hbl hbA hS i1383 dL_law_1383 ?_
  refine lv_as (y := xs (3 * c9 + 1)) (congrArg xs (clN (Eq.trans e1382 (by omega)))) ?_
  obtain ⟨a1, ha1⟩ : ∃ z, z = xs (3 * c9 + 1) := ⟨_, rfl⟩
  refine lv_as ha1.symm ?_
  refine lv_aload_n hx hb dL_law_1384 rfl (lv_at hl 3 rfl) ?_
  have hPl := hP.sub (ws' := (LW h0 h1 h2 h3 b0 y1 y2 y3 y6 (n) (w) T P M O)) [0, 1, 2, 3, 4] rfl
  have hFc := va_free (wc := (LW h0 h1 h2 h3 b0 y1 y2 y3 y6 (n) (w) T P M O)) hD hS hA [0, 1, 2, 3, 4] rfl
  have hDl := hD.sub (ws' := (LW h0 h1 h2 h3 b0 y1 y2 y3 y6 (n) (w) T P M O)) [0, 1, 2, 3, 4] (by decide) rfl
  refine va_calli (vx_runSW (As := [.ref h0, .int a1, .ref b0]) (rest := []) ⟨hx, hb, hml, hown, hts⟩ (c_L_hasPeriod l hlt D E h0 h1 h2 h3 b0 y1 y2 y3 y6 H.size n w T P M O hn hw hT hPt (hDl.weaken (fun _ _ _ _ => trivial)) a1) (vx_cwSW 3 hts gL_law_L_hasPeriod rfl rfl rfl (by decide +kernel) ⟨Nat.le_of_ble_eq_true rfl, Nat.le_of_ble_eq_true rfl⟩) ⟨cp.blind, fun U hU hW => ⟨rfl, cp.call hPl hKl hE hS hFc hU hW⟩⟩ rfl rfl hl.1 rfl (lv_room (Nat.le_of_ble_eq_true rfl)) dL_law_1385 ⟨by rw [hR1]; omega, by rw [hR2]; omega⟩) hS (fun q _ h => hFc q h) hFc (fun v1385 u t H1 locs1 ht hvm ev hB hz1 hk1 hS => ?_)
  obtain ⟨e1385, ev1⟩ := ev
  by_cases hk0 : kHP a1.toInt = 0
  · have _u := True.intro
    obtain ⟨hP1, hD1⟩ := hB.1 hk0
    have hu1 := ev1 hk0
    rw [ht] at hP1
    obtain ⟨hP, hD⟩ := va_join (wr := (MW g0 g1 g2 y4 y5 th (n) (w) T P)) (w1 := (LW h0 h1 h2 h3 b0 y1 y2 y3 y6 (n) (w) T P u.2 (vp_updL O 0 u.1.toInt64))) hP hD [0, 1, 2, 3, 4] [5, 6, 7] rfl rfl (by decide) (by decide) hk1 hFc hP1 hD1
    have hP := hP.sub (ws' := (GW h0 h1 h2 h3 b0 g0 g1 g2 y1 y2 y3 y6 y4 y5 (n) (w) th T P u.2 (vp_updL O 0 u.1.toInt64))) [3, 4, 5, 6, 7, 0, 1, 2] rfl
    have hD := hD.sub (ws' := (GW h0 h1 h2 h3 b0 g0 g1 g2 y1 y2 y3 y6 y4 y5 (n) (w) th T P u.2 (vp_updL O 0 u.1.toInt64))) [3, 4, 5, 6, 7, 0, 1, 2] (by decide) rfl
    generalize H1 = H at hP hS ⊢
    generalize locs1 = locs at hS ⊢
    refine lv_istore (lv' := [(5, .int v1385), (0, .ref b), (1, .ref h0), (2, .ref g0), (3, .ref b0), (4, .int x4)]) hx hb dL_law_1388 hl (by decide) rfl (fun ls hl => ?_)
    refine lv_aload_n hx hb dL_law_1390 rfl (lv_at hl 3 rfl) ?_
    refine lv_aload_n hx hb dL_law_1391 rfl (lv_at hl 1 rfl) ?_
    refine lv_iload hx hb dL_law_1392 (lv_at hl 5 rfl) ?_
    refine lv_iconst (v := 1) hx hb dL_law_1394 (by decide) ?_
    refine z_iadd hx hb dL_law_1395 h4 (show (1 : Int32).toInt = 1 by decide) (by omega) (by omega) (fun v1395 e1395 => ?_)
    have i1396 : vp_in v1395 L := vp_in_iff.mpr ⟨by omega, by omega⟩
    refine va_sld hx hb hX hbl hbA hS i1396 dL_law_1396 ?_
    refine lv_as (y := xs (3 * c9 + 1)) (congrArg xs (clN (Eq.trans e1395 (by omega)))) ?_
    refine lv_as ha1.symm ?_
    have hPc := hP.sub (ws' := (MW g0 g1 g2 y4 y5 th (n) (w) T P)) [5, 6, 7] rfl
    have hFc := va_free (wc := (MW g0 g1 g2 y4 y5 th (n) (w) T P)) hD hS hA [5, 6, 7] rfl
    have hDc := hD.sub (ws' := (MW g0 g1 g2 y4 y5 th (n) (w) T P)) [5, 6, 7] (by decide) rfl
    refine va_calli (va_runV (As := [.int a1]) (rest := []) ⟨hx, hb, hml, hown, hts⟩ (c_X2_hasPeriod l D E g0 g1 g2 y4 y5 H.size (n) (w) th T P hn hw hT hPt (hDc.weaken (fun _ _ _ _ => trivial)) a1) (cwV 1 hts gL_law_X2_hasPeriod rfl rfl rfl (by decide +kernel) ⟨Nat.le_of_ble_eq_true rfl, Nat.le_of_ble_eq_true rfl⟩) ⟨cp.blind, va_recv hK hP (ci := 1) (q0 := 5) rfl rfl, fun U hU hW => ⟨rfl, cp.call hPc hKm hE hS hFc hU hW⟩⟩ rfl rfl hl.1 rfl (lv_room (Nat.le_of_ble_eq_true rfl)) dL_law_1397 ⟨by rw [hR1]; omega, by rw [hR2]; omega⟩) hS (fun q _ h => hFc q h) hFc (fun v1397 u1397 t H1 locs1 ht hvm e1397 hB hz1 hk1 hS => ?_)
    obtain ⟨et1397, ev1397⟩ := e1397
    obtain ⟨hP1, hD1⟩ := hB
    have e1397 := ev1397 hk0
    rw [ht] at hP1
    obtain ⟨hP, hD⟩ := va_join (wr := (LW h0 h1 h2 h3 b0 y1 y2 y3 y6 (n) (w) T P u.2 (vp_updL O 0 u.1.toInt64))) (w1 := (MW g0 g1 g2 y4 y5 u1397 (n) (w) T P)) hP hD [5, 6, 7] [0, 1, 2, 3, 4] rfl rfl (by decide) (by decide) hk1 hFc hP1 hD1
    have hP : va_P D vwCl (GW h0 h1 h2 h3 b0 g0 g1 g2 y1 y2 y3 y6 y4 y5 (n) (w) u1397 T P u.2 (vp_updL O 0 u.1.toInt64)) H1 := hP
    have hD : va_D (fun q : Nat => s.heap.size ≤ q) (GW h0 h1 h2 h3 b0 g0 g1 g2 y1 y2 y3 y6 y4 y5 (n) (w) u1397 T P u.2 (vp_updL O 0 u.1.toInt64)) := hD
    generalize H1 = H at hP hS ⊢
    generalize locs1 = locs at hS ⊢
    have eb := e1397
    refine lv_istore (lv' := [(6, .int v1397), (5, .int v1385), (0, .ref b), (1, .ref h0), (2, .ref g0), (3, .ref b0), (4, .int x4)]) hx hb dL_law_1400 hl (by decide) rfl (fun ls hl => ?_)
    refine lv_aload_n hx hb dL_law_1402 rfl (lv_at hl 4 rfl) ?_
    have hPc := hP.sub (ws' := (MW g0 g1 g2 y4 y5 u1397 (n) (w) T P)) [5, 6, 7] rfl
    refine va_calli (va_runV (As := []) (rest := []) ⟨hx, hb, hml, hown, hts⟩ (c_X2_thrown l D E g0 g1 g2 y4 y5 H.size (n) (w) u1397 T P hn hw hT hPt) (cwV 0 hts gL_law_X2_thrown rfl rfl rfl (by decide +kernel) ⟨Nat.le_of_ble_eq_true rfl, Nat.le_of_ble_eq_true rfl⟩) ⟨cp.blind, va_recv hK hP (ci := 1) (q0 := 5) rfl rfl, fun U hU hW => ⟨rfl, cp.call hPc hKm hE hS (fr0 hS hA) hU hW⟩⟩ rfl rfl hl.1 rfl (lv_room (Nat.le_of_ble_eq_true rfl)) dL_law_1403 ⟨by rw [hR1]; omega, by rw [hR2]; omega⟩) hS (fun q _ h => (fr0 hS hA) q h) (fr0 hS hA) (fun v1403 u1403 t H1 locs1 ht hvm e1403 hB hz1 hk1 hS => ?_)
    have hP := kp hP hk1
    generalize H1 = H at hP hS ⊢
    generalize locs1 = locs at hS ⊢
    refine lv_iload hx hb dL_law_1406 (lv_at hl 1 rfl) ?_
    refine z_icmp_eq (tgt := 1413) hx hb dL_law_1408 (by decide) (Eq.trans e1403 et1397) e1385 (fun c1408 => ?_) (fun c1408 => ?_)
    · have _u := True.intro
      refine lv_iload hx hb dL_law_1413 (lv_at hl 1 rfl) ?_
      refine z_if_ne (tgt := 1437) hx hb dL_law_1415 (by decide) e1385 (fun c1415 => ?_) (fun c1415 => ?_)
      · have _u := True.intro
        exfalso; omega
      · have _u := True.intro
        refine lv_aload_n hx hb dL_law_1418 rfl (lv_at hl 5 rfl) ?_
        refine lv_iconst (v := 0) hx hb dL_law_1419 (by decide) ?_
        refine z_lald hx hb hK hP 4 3 rfl rfl 0 (show (0 : Int32).toInt = 0 by decide) rfl (by decide) dL_law_1420 ?_
        refine lv_iload hx hb dL_law_1421 (lv_at hl 0 rfl) ?_
        refine zb_if_eq (tgt := 1430) hx hb dL_law_1423 (by decide) e1397 (fun c1423 => ?_) (fun c1423 => ?_)
        · have _u := True.intro
          rw [c1423] at hu1 eb
          have hu2 : u.1.toInt = 0 := hu1
          refine lv_lconst (v := 0) hx hb dL_law_1430 (by decide) ?_
          refine z_lcmp hx hb dL_law_1431 (show ((vp_updL O 0 u.1.toInt64) 0).toInt = u.1.toInt by rw [pk_uLs, Int32.toInt_toInt64]) (show (0 : Int64).toInt = 0 by decide) (fun v1431 z1431 e1431 f1431 k1431 => ?_)
          refine z_if_eq (tgt := 1437) hx hb dL_law_1432 (by decide) e1431 (fun c1432 => ?_) (fun c1432 => ?_)
          · have _u := True.intro
            refine lv_goto (tgt := 1453) hx hb dL_law_1437 (by decide) ?_
            refine W.widen (k := 8 + 2 * c9 + 2) (n := 252 + 12 * c9 + 12) (by omega) (by omega) ?_
            exact K (n) (w) u1397 T P u.2 (vp_updL O 0 u.1.toInt64) hn hw hT hPt _ _ hP hD hS _ (lv_sub hl [2, 3, 4, 5, 6] rfl)
          · exfalso; omega
        · have _u := True.intro
          rw [c1423] at hu1 eb
          have hu2 : u.1.toInt = 1 := hu1
          refine lv_lconst (v := 1) hx hb dL_law_1426 (by decide) ?_
          refine lv_goto (tgt := 1431) hx hb dL_law_1427 (by decide) ?_
          refine z_lcmp hx hb dL_law_1431 (show ((vp_updL O 0 u.1.toInt64) 0).toInt = u.1.toInt by rw [pk_uLs, Int32.toInt_toInt64]) (show (1 : Int64).toInt = 1 by decide) (fun v1431 z1431 e1431 f1431 k1431 => ?_)
          refine z_if_eq (tgt := 1437) hx hb dL_law_1432 (by decide) e1431 (fun c1432 => ?_) (fun c1432 => ?_)
          · have _u := True.intro
            refine lv_goto (tgt := 1453) hx hb dL_law_1437 (by decide) ?_
            refine W.widen (k := 8 + 2 * c9 + 2) (n := 252 + 12 * c9 + 12) (by omega) (by omega) ?_
            exact K (n) (w) u1397 T P u.2 (vp_updL O 0 u.1.toInt64) hn hw hT hPt _ _ hP hD hS _ (lv_sub hl [2, 3, 4, 5, 6] rfl)
          · exfalso; omega
    · exfalso; omega
  · have _u := True.intro
    obtain ⟨hP1, hD1⟩ := hB.2 hk0
    rw [ht] at hP1
    obtain ⟨hP, hD⟩ := va_join (wr := (MW g0 g1 g2 y4 y5 th (n) (w) T P)) (w1 := (LW h0 h1 h2 h3 b0 y1 y2 y3 y6 (n) (w) T P u.2 O)) hP hD [0, 1, 2, 3, 4] [5, 6, 7] rfl rfl (by decide) (by decide) hk1 hFc hP1 hD1
    have hP := hP.sub (ws' := (GW h0 h1 h2 h3 b0 g0 g1 g2 y1 y2 y3 y6 y4 y5 (n) (w) th T P u.2 O)) [3, 4, 5, 6, 7, 0, 1, 2] rfl
    have hD := hD.sub (ws' := (GW h0 h1 h2 h3 b0 g0 g1 g2 y1 y2 y3 y6 y4 y5 (n) (w) th T P u.2 O)) [3, 4, 5, 6, 7, 0, 1, 2] (by decide) rfl
    generalize H1 = H at hP hS ⊢
    generalize locs1 = locs at hS ⊢
    refine lv_istore (lv' := [(5, .int v1385), (0, .ref b), (1, .ref h0), (2, .ref g0), (3, .ref b0), (4, .int x4)]) hx hb dL_law_1388 hl (by decide) rfl (fun ls hl => ?_)
    refine lv_aload_n hx hb dL_law_1390 rfl (lv_at hl 3 rfl) ?_
    refine lv_aload_n hx hb dL_law_1391 rfl (lv_at hl 1 rfl) ?_
    refine lv_iload hx hb dL_law_1392 (lv_at hl 5 rfl) ?_
    refine lv_iconst (v := 1) hx hb dL_law_1394 (by decide) ?_
    refine z_iadd hx hb dL_law_1395 h4 (show (1 : Int32).toInt = 1 by decide) (by omega) (by omega) (fun v1395 e1395 => ?_)
    have i1396 : vp_in v1395 L := vp_in_iff.mpr ⟨by omega, by omega⟩
    refine va_sld hx hb hX hbl hbA hS i1396 dL_law_1396 ?_
    refine lv_as (y := xs (3 * c9 + 1)) (congrArg xs (clN (Eq.trans e1395 (by omega)))) ?_
    refine lv_as ha1.symm ?_
    have hPc := hP.sub (ws' := (MW g0 g1 g2 y4 y5 th (n) (w) T P)) [5, 6, 7] rfl
    have hFc := va_free (wc := (MW g0 g1 g2 y4 y5 th (n) (w) T P)) hD hS hA [5, 6, 7] rfl
    have hDc := hD.sub (ws' := (MW g0 g1 g2 y4 y5 th (n) (w) T P)) [5, 6, 7] (by decide) rfl
    refine va_calli (va_runV (As := [.int a1]) (rest := []) ⟨hx, hb, hml, hown, hts⟩ (c_X2_hasPeriod l D E g0 g1 g2 y4 y5 H.size (n) (w) th T P hn hw hT hPt (hDc.weaken (fun _ _ _ _ => trivial)) a1) (cwV 1 hts gL_law_X2_hasPeriod rfl rfl rfl (by decide +kernel) ⟨Nat.le_of_ble_eq_true rfl, Nat.le_of_ble_eq_true rfl⟩) ⟨cp.blind, va_recv hK hP (ci := 1) (q0 := 5) rfl rfl, fun U hU hW => ⟨rfl, cp.call hPc hKm hE hS hFc hU hW⟩⟩ rfl rfl hl.1 rfl (lv_room (Nat.le_of_ble_eq_true rfl)) dL_law_1397 ⟨by rw [hR1]; omega, by rw [hR2]; omega⟩) hS (fun q _ h => hFc q h) hFc (fun v1397 u1397 t H1 locs1 ht hvm e1397 hB hz1 hk1 hS => ?_)
    obtain ⟨et1397, ev1397⟩ := e1397
    obtain ⟨hP1, hD1⟩ := hB
    rw [ht] at hP1
    obtain ⟨hP, hD⟩ := va_join (wr := (LW h0 h1 h2 h3 b0 y1 y2 y3 y6 (n) (w) T P u.2 O)) (w1 := (MW g0 g1 g2 y4 y5 u1397 (n) (w) T P)) hP hD [5, 6, 7] [0, 1, 2, 3, 4] rfl rfl (by decide) (by decide) hk1 hFc hP1 hD1
    have hP : va_P D vwCl (GW h0 h1 h2 h3 b0 g0 g1 g2 y1 y2 y3 y6 y4 y5 (n) (w) u1397 T P u.2 O) H1 := hP
    have hD : va_D (fun q : Nat => s.heap.size ≤ q) (GW h0 h1 h2 h3 b0 g0 g1 g2 y1 y2 y3 y6 y4 y5 (n) (w) u1397 T P u.2 O) := hD
    generalize H1 = H at hP hS ⊢
    generalize locs1 = locs at hS ⊢
    refine lv_istore (lv' := [(6, .int v1397), (5, .int v1385), (0, .ref b), (1, .ref h0), (2, .ref g0), (3, .ref b0), (4, .int x4)]) hx hb dL_law_1400 hl (by decide) rfl (fun ls hl => ?_)
    refine lv_aload_n hx hb dL_law_1402 rfl (lv_at hl 4 rfl) ?_
    have hPc := hP.sub (ws' := (MW g0 g1 g2 y4 y5 u1397 (n) (w) T P)) [5, 6, 7] rfl
    refine va_calli (va_runV (As := []) (rest := []) ⟨hx, hb, hml, hown, hts⟩ (c_X2_thrown l D E g0 g1 g2 y4 y5 H.size (n) (w) u1397 T P hn hw hT hPt) (cwV 0 hts gL_law_X2_thrown rfl rfl rfl (by decide +kernel) ⟨Nat.le_of_ble_eq_true rfl, Nat.le_of_ble_eq_true rfl⟩) ⟨cp.blind, va_recv hK hP (ci := 1) (q0 := 5) rfl rfl, fun U hU hW => ⟨rfl, cp.call hPc hKm hE hS (fr0 hS hA) hU hW⟩⟩ rfl rfl hl.1 rfl (lv_room (Nat.le_of_ble_eq_true rfl)) dL_law_1403 ⟨by rw [hR1]; omega, by rw [hR2]; omega⟩) hS (fun q _ h => (fr0 hS hA) q h) (fr0 hS hA) (fun v1403 u1403 t H1 locs1 ht hvm e1403 hB hz1 hk1 hS => ?_)
    have hP := kp hP hk1
    generalize H1 = H at hP hS ⊢
    generalize locs1 = locs at hS ⊢
    refine lv_iload hx hb dL_law_1406 (lv_at hl 1 rfl) ?_
    refine z_icmp_eq (tgt := 1413) hx hb dL_law_1408 (by decide) (Eq.trans e1403 et1397) e1385 (fun c1408 => ?_) (fun c1408 => ?_)
    · have _u := True.intro
      refine lv_iload hx hb dL_law_1413 (lv_at hl 1 rfl) ?_
      refine z_if_ne (tgt := 1437) hx hb dL_law_1415 (by decide) e1385 (fun c1415 => ?_) (fun c1415 => ?_)
      · have _u := True.intro
        refine lv_goto (tgt := 1453) hx hb dL_law_1437 (by decide) ?_
        refine W.widen (k := 8 + 2 * c9 + 2) (n := 252 + 12 * c9 + 12) (by omega) (by omega) ?_
        exact K (n) (w) u1397 T P u.2 O hn hw hT hPt _ _ hP hD hS _ (lv_sub hl [2, 3, 4, 5, 6] rfl)
      · have _u := True.intro
        exfalso; omega
    · exfalso; omega
set_option maxHeartbeats 4000000 in
set_option maxRecDepth 100000 in
theorem law_c28 {p : Program} {l : Launch} {e : Env} {s : State} {m : MethodId} {below : List Frame} {meth : Method} {c : Code} {D : va_G} {E : Nat × Nat × Nat} {b L : Nat} {xs : Nat → Int32} {h0 h1 h2 h3 b0 g0 g1 g2 : Nat} {y1 y2 y3 y6 y4 y5 : ClassId} {c9 : Nat} {x4 : Int32} {n w : Nat} {th : Int32} {T P M : Nat → Int32} {O : Nat → Int64} {H : Heap} {locs : List Loc} {ls : Array Slot} (hlt : l.stackTraces = false) (hEd : E.1 ≠ E.2.1 ∧ E.1 ≠ E.2.2 ∧ E.2.1 ≠ E.2.2) (hE : XEnv E (fun q : Nat => s.heap.size ≤ q) s s.heap) (hL : L ≤ 1536) (C0 : lw_At p s m meth c b L xs) (h4 : x4.toInt = ((3 * c9 : Nat) : Int)) (hc : 3 * c9 + 3 ≤ L) (hn : n ≤ 64) (hw : w ≤ 24) (hT : SymF T) (hPt : SymF P) (hK : va_K D vwCl (GT y1 y2 y3 y6 y4 y5) s) (hP : va_P D vwCl (GW h0 h1 h2 h3 b0 g0 g1 g2 y1 y2 y3 y6 y4 y5 n w th T P M O) H) (hD : va_D (fun q : Nat => s.heap.size ≤ q) (GW h0 h1 h2 h3 b0 g0 g1 g2 y1 y2 y3 y6 y4 y5 n w th T P M O)) (hS : va_S (fun q : Nat => s.heap.size ≤ q) s.heap H locs) (hl : lv_has ls 7 [(0, .ref b), (1, .ref h0), (2, .ref g0), (3, .ref b0), (4, .int x4)]) (K : LK p l e s m below meth c D b h0 h1 h2 h3 b0 g0 g1 g2 y1 y2 y3 y6 y4 y5 c9 x4) : W p l e room_1 s m #[Value.ref b] below meth c H locs (8 + 2 * c9) (252 + 12 * c9) (lw_Z below #[Value.ref b] s) (F0 m 1440 ls []) := by
  obtain ⟨hx, hb, hr, hml, hown, hts0, hX, hbl, hlocks, hgv⟩ := C0
  have hts : ∀ w ∈ wsL_law, w.before #[Value.ref b] s = true := fun w h => hts0 w (wsL_law_in w h)
  have hA : ∀ q : Nat, s.heap.size ≤ q → (fun q : Nat => s.heap.size ≤ q) q := fun _ h => h
  have hbA : ¬ (fun q : Nat => s.heap.size ≤ q) b := Nat.not_le.mpr hbl
  have hR1 : room_1.cells = 1051 := rfl
  have hR2 : room_1.slots = 8558 := rfl
  have hKx := hK.sub (tys' := (XT y1 y2 y3)) [0, 1, 2] rfl
  have hKl := hK.sub (tys' := (LT y1 y2 y3 y6)) [0, 1, 2, 3] rfl
  have hKm := hK.sub (tys' := (MT y4 y5)) [4, 5] rfl
  refine lv_aload_n hx hb dL_law_1440 rfl (lv_at hl 1 rfl) ?_
  have hPc := hP.sub (ws' := (XW h0 h1 h2 h3 y1 y2 y3 (n) (w) T P M)) [0, 1, 2, 3] rfl
  refine va_calli (va_runV (As := []) (rest := []) ⟨hx, hb, hml, hown, hts⟩ (c_X1_leastPeriod l D E h0 h1 h2 h3 y1 y2 y3 H.size (n) (w) T P M hn hw hT hPt) (cwV 0 hts gL_law_X1_leastPeriod rfl rfl rfl (by decide +kernel) ⟨Nat.le_of_ble_eq_true rfl, Nat.le_of_ble_eq_true rfl⟩) ⟨cp.blind, va_recv hK hP (ci := 0) (q0 := 0) rfl rfl, fun U hU hW => ⟨rfl, cp.call hPc hKx hE hS (fr0 hS hA) hU hW⟩⟩ rfl rfl hl.1 rfl (lv_room (Nat.le_of_ble_eq_true rfl)) dL_law_1441 ⟨by rw [hR1]; omega, by rw [hR2]; omega⟩) hS (fun q _ h => (fr0 hS hA) q h) (fr0 hS hA) (fun v1441 u1441 t H1 locs1 ht hvm e1441 hB hz1 hk1 hS => ?_)
  have hP := kp hP hk1
  generalize H1 = H at hP hS ⊢
  generalize locs1 = locs at hS ⊢
  refine lv_aload_n hx hb dL_law_1444 rfl (lv_at hl 2 rfl) ?_
  have hPc := hP.sub (ws' := (MW g0 g1 g2 y4 y5 th (n) (w) T P)) [5, 6, 7] rfl
  have hFc := va_free (wc := (MW g0 g1 g2 y4 y5 th (n) (w) T P)) hD hS hA [5, 6, 7] rfl
  have hDc := hD.sub (ws' := (MW g0 g1 g2 y4 y5 th (n) (w) T P)) [5, 6, 7] (by decide) rfl
  refine va_calli (va_runV (As := []) (rest := [.int v1441]) ⟨hx, hb, hml, hown, hts⟩ (c_X2_leastPeriod l D E g0 g1 g2 y4 y5 H.size (n) (w) th T P hn hw hT hPt (hDc.weaken (fun _ _ _ _ => trivial))) (cwV 0 hts gL_law_X2_leastPeriod rfl rfl rfl (by decide +kernel) ⟨Nat.le_of_ble_eq_true rfl, Nat.le_of_ble_eq_true rfl⟩) ⟨cp.blind, va_recv hK hP (ci := 1) (q0 := 5) rfl rfl, fun U hU hW => ⟨rfl, cp.call hPc hKm hE hS hFc hU hW⟩⟩ rfl rfl hl.1 rfl (lv_room (Nat.le_of_ble_eq_true rfl)) dL_law_1445 ⟨by rw [hR1]; omega, by rw [hR2]; omega⟩) hS (fun q _ h => hFc q h) hFc (fun v1445 u1445 t H1 locs1 ht hvm e1445 hB hz1 hk1 hS => ?_)
  obtain ⟨hP1, hD1⟩ := hB
  rw [ht] at hP1
  obtain ⟨hP, hD⟩ := va_join (wr := (LW h0 h1 h2 h3 b0 y1 y2 y3 y6 (n) (w) T P M O)) (w1 := (MW g0 g1 g2 y4 y5 0 (n) (w) T P)) hP hD [5, 6, 7] [0, 1, 2, 3, 4] rfl rfl (by decide) (by decide) hk1 hFc hP1 hD1
  have hP : va_P D vwCl (GW h0 h1 h2 h3 b0 g0 g1 g2 y1 y2 y3 y6 y4 y5 (n) (w) 0 T P M O) H1 := hP
  have hD : va_D (fun q : Nat => s.heap.size ≤ q) (GW h0 h1 h2 h3 b0 g0 g1 g2 y1 y2 y3 y6 y4 y5 (n) (w) 0 T P M O) := hD
  generalize H1 = H at hP hS ⊢
  generalize locs1 = locs at hS ⊢
  refine z_icmp_eq (tgt := 1453) hx hb dL_law_1448 (by decide) e1441 e1445 (fun c1448 => ?_) (fun c1448 => ?_)
  · have _u := True.intro
    refine W.widen (k := 8 + 2 * c9 + 2) (n := 252 + 12 * c9 + 12) (by omega) (by omega) ?_
    exact K (n) (w) 0 T P M O hn hw hT hPt _ _ hP hD hS _ (lv_sub hl [0, 1, 2, 3, 4] rfl)
  · exfalso; omega
