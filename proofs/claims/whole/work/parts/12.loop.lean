theorem sw_1 : ∀ X ∈ xE, Cond.declares (Bundle.initS X) ∈ lw_tbl := by decide +kernel
theorem sw_2 : ∀ X ∈ xC, Cond.castable X X ∈ lw_tbl := by decide +kernel
theorem sw_3 : ∀ q ∈ xS, Cond.stringRef RX1 q.1 q.2 ∈ lw_tbl := by decide +kernel
theorem sw_4 : ∀ q ∈ xS, Cond.exactly (.string RX1 q.1) "java/lang/String" ∈ flatC (Jvm.Cond.and given_1 narrow_1) := by decide +kernel
theorem sw_5 : ∀ X ∈ xC, ∀ Y ∈ xC, X ≠ Y → Cond.not (.castable X Y) ∈ flatC (Jvm.Cond.and given_1 narrow_1) := by decide +kernel
def xL : List String := ["SYMBOLS", "SUM", "ORDER"]
theorem sw_6 : ∀ X ∈ xL, Cond.exactly (.static RX0 X "LBlankMatcher$Likeness;") RX0 ∈ flatC (Jvm.Cond.and given_1 narrow_1) := by decide +kernel
theorem sw_7 : ∀ X ∈ xL, Cond.laysStatic RX0 X "LBlankMatcher$Likeness;" ∈ lw_tbl := by decide +kernel
theorem sw_8 : Cond.not (.eq (.static RX0 "SYMBOLS" "LBlankMatcher$Likeness;") (.static RX0 "SUM" "LBlankMatcher$Likeness;")) ∈ flatC (Jvm.Cond.and given_1 narrow_1) := by decide +kernel
theorem sw_9 : Cond.not (.eq (.static RX0 "SYMBOLS" "LBlankMatcher$Likeness;") (.static RX0 "ORDER" "LBlankMatcher$Likeness;")) ∈ flatC (Jvm.Cond.and given_1 narrow_1) := by decide +kernel
theorem sw_10 : Cond.not (.eq (.static RX0 "SUM" "LBlankMatcher$Likeness;") (.static RX0 "ORDER" "LBlankMatcher$Likeness;")) ∈ flatC (Jvm.Cond.and given_1 narrow_1) := by decide +kernel
theorem sw_11 : Cond.isRef (.static Bundle.tN "UNASSIGNED_STACK" Bundle.steD) ∈ flatC (Jvm.Cond.and given_1 narrow_1) ∧ Cond.isRef (.static Bundle.tN "SUPPRESSED_SENTINEL" Bundle.listD) ∈ flatC (Jvm.Cond.and given_1 narrow_1) := by decide +kernel
theorem sw_12 : Cond.laysStatic Bundle.tN "UNASSIGNED_STACK" Bundle.steD ∈ lw_tbl ∧ Cond.laysStatic Bundle.tN "SUPPRESSED_SENTINEL" Bundle.listD ∈ lw_tbl ∧ Cond.initialized Bundle.tN ∈ lw_tbl ∧ Cond.initialized RX0 ∈ lw_tbl := by decide +kernel
theorem env_start {s : State} {b : Nat} (hts0 : ∀ w ∈ lw_tbl, w.before #[Value.ref b] s = true) (hgv : (Jvm.Cond.and given_1 narrow_1).before #[Value.ref b] s = true) : ∃ E : Nat × Nat × Nat, (E.1 ≠ E.2.1 ∧ E.1 ≠ E.2.2 ∧ E.2.1 ≠ E.2.2) ∧ XEnv E (fun q : Nat => s.heap.size ≤ q) s s.heap := by
  have hf := flat_of_before _ hgv
  have hA : ∀ a : Nat, a < s.heap.size → ¬ (fun q : Nat => s.heap.size ≤ q) a := fun a h => Nat.not_le.mpr h
  obtain ⟨e1, k1, k2, k3, q1, -⟩ := Cond.exactly_spec (hf _ (sw_6 "SYMBOLS" (by simp [xL])))
  obtain ⟨e2, k4, k5, k6, q2, -⟩ := Cond.exactly_spec (hf _ (sw_6 "SUM" (by simp [xL])))
  obtain ⟨e3, k7, k8, k9, q3, -⟩ := Cond.exactly_spec (hf _ (sw_6 "ORDER" (by simp [xL])))
  have z1 := va_Zref (hts0 _ (sw_7 "SYMBOLS" (by simp [xL]))) (hts0 _ sw_12.2.2.2) q1 hA
  have z2 := va_Zref (hts0 _ (sw_7 "SUM" (by simp [xL]))) (hts0 _ sw_12.2.2.2) q2 hA
  have z3 := va_Zref (hts0 _ (sw_7 "ORDER" (by simp [xL]))) (hts0 _ sw_12.2.2.2) q3 hA
  refine ⟨(e1, e2, e3), ⟨va_neR (hf _ sw_8) q1 q2, va_neR (hf _ sw_9) q1 q3, va_neR (hf _ sw_10) q2 q3⟩, ⟨fun X hX => va_Nw.of rfl (hts0 _ (sw_1 X hX)), fun X hX => va_Nw.of rfl (hts0 _ (sw_2 X hX)), fun q hq => ?_, fun X hX Y hY n => va_Nc.of (hf _ (sw_5 X hX Y hY n))⟩, vx_Zqof (hts0 _ sw_12.1) (hts0 _ sw_12.2.2.1) (hf _ sw_11.1) hA, vx_Zqof (hts0 _ sw_12.2.1) (hts0 _ sw_12.2.2.1) (hf _ sw_11.2) hA, z1, z2, z3⟩
  obtain ⟨a, j1, j2, j3, j4, -⟩ := Cond.exactly_spec (hf _ (sw_4 q hq))
  exact ⟨a, vk_R.of (hts0 _ (sw_3 q hq)) j4⟩
set_option maxHeartbeats 4000000 in
set_option maxRecDepth 100000 in
theorem law_loop {p : Program} {l : Launch} {e : Env} {s : State} {m : MethodId} {below : List Frame} {meth : Method} {c : Code} {D : va_G} {E : Nat × Nat × Nat} {b L : Nat} {xs : Nat → Int32} {h0 h1 h2 h3 b0 g0 g1 g2 : Nat} {y1 y2 y3 y6 y4 y5 : ClassId} (hlt : l.stackTraces = false) (hEd : E.1 ≠ E.2.1 ∧ E.1 ≠ E.2.2 ∧ E.2.1 ≠ E.2.2) (hE : XEnv E (fun q : Nat => s.heap.size ≤ q) s s.heap) (hL : L ≤ 1536) (C0 : lw_At p s m meth c b L xs) (hK : va_K D vwCl (GT y1 y2 y3 y6 y4 y5) s) : ∀ (nf c9 : Nat) (x4 : Int32) (n w : Nat) (th : Int32) (T P M : Nat → Int32) (O : Nat → Int64), L + 1 - 3 * c9 < nf → x4.toInt = ((3 * c9 : Nat) : Int) → 3 * c9 ≤ L → n ≤ 64 → w ≤ 24 → SymF T → SymF P → ∀ (H : Heap) (locs : List Loc), va_P D vwCl (GW h0 h1 h2 h3 b0 g0 g1 g2 y1 y2 y3 y6 y4 y5 n w th T P M O) H → va_D (fun q : Nat => s.heap.size ≤ q) (GW h0 h1 h2 h3 b0 g0 g1 g2 y1 y2 y3 y6 y4 y5 n w th T P M O) → va_S (fun q : Nat => s.heap.size ≤ q) s.heap H locs → ∀ (ls : Array Slot), lv_has ls 7 [(0, .ref b), (1, .ref h0), (2, .ref g0), (3, .ref b0), (4, .int x4)] → W p l e room_1 s m #[Value.ref b] below meth c H locs (8 + 2 * c9) (252 + 12 * c9) (lw_Z below #[Value.ref b] s) (F0 m 23 ls []) := by
  obtain ⟨hx, hb, hr, hml, hown, hts0, hX, hbl, hlocks, hgv⟩ := id C0
  have hA : ∀ q : Nat, s.heap.size ≤ q → (fun q : Nat => s.heap.size ≤ q) q := fun _ h => h
  have hbA : ¬ (fun q : Nat => s.heap.size ≤ q) b := Nat.not_le.mpr hbl
  have iL : (nI L).toInt = (L : Int) := nI_toInt (by omega)
  intro nf
  induction nf with
  | zero => intros; omega
  | succ nf ih =>
    intro c9 x4 n w th T P M O hnf h4 hle hn hw hT hPt H locs hP hD hS ls hl
    refine lv_iload hx hb dL_law_23 (lv_at hl 4 rfl) ?_
    refine lv_aload_n hx hb dL_law_25 rfl (lv_at hl 0 rfl) ?_
    refine va_slen hx hb hX hbl hbA hS dL_law_26 ?_
    refine lv_iconst (v := 3) hx hb dL_law_27 (by decide) ?_
    refine z_isub hx hb dL_law_28 iL (show (3 : Int32).toInt = 3 by decide) (by omega) (by omega) (fun v28 e28 => ?_)
    refine z_icmp_gt (tgt := 1459) hx hb dL_law_29 (by decide) h4 e28 (fun c29 => ?_) (fun c29 => ?_)
    · refine lv_iconst (v := 1) hx hb dL_law_1459 (by decide) ?_
      refine va_forget (fun q hq => hS.2.2 q hq) ?_
      refine W.widen (k := 1051) (n := 8558) (by omega) (by omega) ?_
      exact lw_ret hx hb hr hlocks dL_law_1460
    · have hc : 3 * c9 + 3 ≤ L := by omega
      have K : LK p l e s m below meth c D b h0 h1 h2 h3 b0 g0 g1 g2 y1 y2 y3 y6 y4 y5 c9 x4 := by
        intro n w th T P M O hn hw hT hPt H locs hP hD hS ls hl
        refine z_iinc (k := 4) (lv' := fun v => [(4, .int v), (0, .ref b), (1, .ref h0), (2, .ref g0), (3, .ref b0)]) hx hb dL_law_1453 hl rfl h4 (by decide) (by omega) (by omega) (by decide) (fun _ => rfl) (fun v1 ls e1 hl => ?_)
        refine lv_goto (tgt := 23) hx hb dL_law_1456 (by decide) ?_
        refine W.widen (k := 8 + 2 * (c9 + 1)) (n := 252 + 12 * (c9 + 1)) (by omega) (by omega) ?_
        exact ih (c9 + 1) v1 n w th T P M O (by omega) (by omega) (by omega) hn hw hT hPt H locs hP hD hS ls (lv_sub hl [1, 2, 3, 4, 0] rfl)
      refine lv_aload_n hx hb dL_law_32 rfl (lv_at hl 0 rfl) ?_
      refine lv_iload hx hb dL_law_33 (lv_at hl 4 rfl) ?_
      have i35 : vp_in x4 L := vp_in_iff.mpr ⟨by omega, by omega⟩
      refine va_sld hx hb hX hbl hbA hS i35 dL_law_35 ?_
      refine lv_bipush (v := 31) hx hb dL_law_36 (by decide) ?_
      refine lv_iand hx hb dL_law_38 ?_
      obtain ⟨j, hj, ej⟩ := pk_andE (xs x4.toNatClampNeg) (m := 31) 5 (by decide)
      refine lv_as ej ?_
      have ij : (nI j).toInt = (j : Int) := nI_toInt (by omega)
      by_cases hj9 : 29 ≤ j
      · exact lv_tableOut (tgt := 1453) hx hb dL_law_39 (by rw [ij]; omega) (by decide) (W.widen (k := 8 + 2 * c9 + 2) (n := 252 + 12 * c9 + 12) (by omega) (by omega) (K n w th T P M O hn hw hT hPt H locs hP hD hS ls hl))
      · rcases (show j = 0 ∨ j = 1 ∨ j = 2 ∨ j = 3 ∨ j = 4 ∨ j = 5 ∨ j = 6 ∨ j = 7 ∨ j = 8 ∨ j = 9 ∨ j = 10 ∨ j = 11 ∨ j = 12 ∨ j = 13 ∨ j = 14 ∨ j = 15 ∨ j = 16 ∨ j = 17 ∨ j = 18 ∨ j = 19 ∨ j = 20 ∨ j = 21 ∨ j = 22 ∨ j = 23 ∨ j = 24 ∨ j = 25 ∨ j = 26 ∨ j = 27 ∨ j = 28 by omega) with rfl | rfl | rfl | rfl | rfl | rfl | rfl | rfl | rfl | rfl | rfl | rfl | rfl | rfl | rfl | rfl | rfl | rfl | rfl | rfl | rfl | rfl | rfl | rfl | rfl | rfl | rfl | rfl | rfl
        · exact lv_tableIn (off := 129) (tgt := 168) hx hb dL_law_39 (by rw [ij]; decide) (by rw [ij]; decide) (by rw [ij]; decide) (by decide) (law_c0 hlt hEd hE hL C0 h4 hc hn hw hT hPt hK hP hD hS hl K)
        · exact lv_tableIn (off := 185) (tgt := 224) hx hb dL_law_39 (by rw [ij]; decide) (by rw [ij]; decide) (by rw [ij]; decide) (by decide) (law_c1 hlt hEd hE hL C0 h4 hc hn hw hT hPt hK hP hD hS hl K)
        · exact lv_tableIn (off := 253) (tgt := 292) hx hb dL_law_39 (by rw [ij]; decide) (by rw [ij]; decide) (by rw [ij]; decide) (by decide) (law_c2 hlt hEd hE hL C0 h4 hc hn hw hT hPt hK hP hD hS hl K)
        · exact lv_tableIn (off := 321) (tgt := 360) hx hb dL_law_39 (by rw [ij]; decide) (by rw [ij]; decide) (by rw [ij]; decide) (by decide) (law_c3 hlt hEd hE hL C0 h4 hc hn hw hT hPt hK hP hD hS hl K)
        · exact lv_tableIn (off := 377) (tgt := 416) hx hb dL_law_39 (by rw [ij]; decide) (by rw [ij]; decide) (by rw [ij]; decide) (by decide) (law_c4 hlt hEd hE hL C0 h4 hc hn hw hT hPt hK hP hD hS hl K)
        · exact lv_tableIn (off := 445) (tgt := 484) hx hb dL_law_39 (by rw [ij]; decide) (by rw [ij]; decide) (by rw [ij]; decide) (by decide) (law_c5 hlt hEd hE hL C0 h4 hc hn hw hT hPt hK hP hD hS hl K)
        · exact lv_tableIn (off := 513) (tgt := 552) hx hb dL_law_39 (by rw [ij]; decide) (by rw [ij]; decide) (by rw [ij]; decide) (by decide) (law_c6 hlt hEd hE hL C0 h4 hc hn hw hT hPt hK hP hD hS hl K)
        · exact lv_tableIn (off := 526) (tgt := 565) hx hb dL_law_39 (by rw [ij]; decide) (by rw [ij]; decide) (by rw [ij]; decide) (by decide) (law_c7 hlt hEd hE hL C0 h4 hc hn hw hT hPt hK hP hD hS hl K)
        · exact lv_tableIn (off := 539) (tgt := 578) hx hb dL_law_39 (by rw [ij]; decide) (by rw [ij]; decide) (by rw [ij]; decide) (by decide) (law_c8 hlt hEd hE hL C0 h4 hc hn hw hT hPt hK hP hD hS hl K)
        · exact lv_tableIn (off := 552) (tgt := 591) hx hb dL_law_39 (by rw [ij]; decide) (by rw [ij]; decide) (by rw [ij]; decide) (by decide) (law_c9 hlt hEd hE hL C0 h4 hc hn hw hT hPt hK hP hD hS hl K)
        · exact lv_tableIn (off := 565) (tgt := 604) hx hb dL_law_39 (by rw [ij]; decide) (by rw [ij]; decide) (by rw [ij]; decide) (by decide) (law_c10 hlt hEd hE hL C0 h4 hc hn hw hT hPt hK hP hD hS hl K)
        · exact lv_tableIn (off := 578) (tgt := 617) hx hb dL_law_39 (by rw [ij]; decide) (by rw [ij]; decide) (by rw [ij]; decide) (by decide) (law_c11 hlt hEd hE hL C0 h4 hc hn hw hT hPt hK hP hD hS hl K)
        · exact lv_tableIn (off := 634) (tgt := 673) hx hb dL_law_39 (by rw [ij]; decide) (by rw [ij]; decide) (by rw [ij]; decide) (by decide) (law_c12 hlt hEd hE hL C0 h4 hc hn hw hT hPt hK hP hD hS hl K)
        · exact lv_tableIn (off := 690) (tgt := 729) hx hb dL_law_39 (by rw [ij]; decide) (by rw [ij]; decide) (by rw [ij]; decide) (by decide) (law_c13 hlt hEd hE hL C0 h4 hc hn hw hT hPt hK hP hD hS hl K)
        · exact lv_tableIn (off := 703) (tgt := 742) hx hb dL_law_39 (by rw [ij]; decide) (by rw [ij]; decide) (by rw [ij]; decide) (by decide) (law_c14 hlt hEd hE hL C0 h4 hc hn hw hT hPt hK hP hD hS hl K)
        · exact lv_tableIn (off := 759) (tgt := 798) hx hb dL_law_39 (by rw [ij]; decide) (by rw [ij]; decide) (by rw [ij]; decide) (by decide) (law_c15 hlt hEd hE hL C0 h4 hc hn hw hT hPt hK hP hD hS hl K)
        · exact lv_tableIn (off := 772) (tgt := 811) hx hb dL_law_39 (by rw [ij]; decide) (by rw [ij]; decide) (by rw [ij]; decide) (by decide) (law_c16 hlt hEd hE hL C0 h4 hc hn hw hT hPt hK hP hD hS hl K)
        · exact lv_tableIn (off := 828) (tgt := 867) hx hb dL_law_39 (by rw [ij]; decide) (by rw [ij]; decide) (by rw [ij]; decide) (by decide) (law_c17 hlt hEd hE hL C0 h4 hc hn hw hT hPt hK hP hD hS hl K)
        · exact lv_tableIn (off := 896) (tgt := 935) hx hb dL_law_39 (by rw [ij]; decide) (by rw [ij]; decide) (by rw [ij]; decide) (by decide) (law_c18 hlt hEd hE hL C0 h4 hc hn hw hT hPt hK hP hD hS hl K)
        · exact lv_tableIn (off := 964) (tgt := 1003) hx hb dL_law_39 (by rw [ij]; decide) (by rw [ij]; decide) (by rw [ij]; decide) (by decide) (law_c19 hlt hEd hE hL C0 h4 hc hn hw hT hPt hK hP hD hS hl K)
        · exact lv_tableIn (off := 1032) (tgt := 1071) hx hb dL_law_39 (by rw [ij]; decide) (by rw [ij]; decide) (by rw [ij]; decide) (by decide) (law_c20 hlt hEd hE hL C0 h4 hc hn hw hT hPt hK hP hD hS hl K)
        · exact lv_tableIn (off := 1088) (tgt := 1127) hx hb dL_law_39 (by rw [ij]; decide) (by rw [ij]; decide) (by rw [ij]; decide) (by decide) (law_c21 hlt hEd hE hL C0 h4 hc hn hw hT hPt hK hP hD hS hl K)
        · exact lv_tableIn (off := 1144) (tgt := 1183) hx hb dL_law_39 (by rw [ij]; decide) (by rw [ij]; decide) (by rw [ij]; decide) (by decide) (law_c22 hlt hEd hE hL C0 h4 hc hn hw hT hPt hK hP hD hS hl K)
        · exact lv_tableIn (off := 1200) (tgt := 1239) hx hb dL_law_39 (by rw [ij]; decide) (by rw [ij]; decide) (by rw [ij]; decide) (by decide) (law_c23 hlt hEd hE hL C0 h4 hc hn hw hT hPt hK hP hD hS hl K)
        · exact lv_tableIn (off := 1213) (tgt := 1252) hx hb dL_law_39 (by rw [ij]; decide) (by rw [ij]; decide) (by rw [ij]; decide) (by decide) (law_c24 hlt hEd hE hL C0 h4 hc hn hw hT hPt hK hP hD hS hl K)
        · exact lv_tableIn (off := 1269) (tgt := 1308) hx hb dL_law_39 (by rw [ij]; decide) (by rw [ij]; decide) (by rw [ij]; decide) (by decide) (law_c25 hlt hEd hE hL C0 h4 hc hn hw hT hPt hK hP hD hS hl K)
        · exact lv_tableIn (off := 1282) (tgt := 1321) hx hb dL_law_39 (by rw [ij]; decide) (by rw [ij]; decide) (by rw [ij]; decide) (by decide) (law_c26 hlt hEd hE hL C0 h4 hc hn hw hT hPt hK hP hD hS hl K)
        · exact lv_tableIn (off := 1338) (tgt := 1377) hx hb dL_law_39 (by rw [ij]; decide) (by rw [ij]; decide) (by rw [ij]; decide) (by decide) (law_c27 hlt hEd hE hL C0 h4 hc hn hw hT hPt hK hP hD hS hl K)
        · exact lv_tableIn (off := 1401) (tgt := 1440) hx hb dL_law_39 (by rw [ij]; decide) (by rw [ij]; decide) (by rw [ij]; decide) (by decide) (law_c28 hlt hEd hE hL C0 h4 hc hn hw hT hPt hK hP hD hS hl K)
