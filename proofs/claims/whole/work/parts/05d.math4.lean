section Math4
def sgn (a : Int) : Int := if a < 0 then -1 else if 0 < a then 1 else 0
theorem of2_sgn {T P : Nat → Int32} {o a b : Nat} : of2 T P o a b = decide (sgn ((P a).toInt - (P b).toInt) = sgn ((T (o + a)).toInt - (T (o + b)).toInt)) := by
  rw [Bool.eq_iff_iff]
  simp only [of2, Bool.and_eq_true, decide_eq_true_eq]
  unfold sgn
  (repeat' split) <;> omega
def af (c : Nat → Nat) (v : Nat) : Nat → Bool := fun o => decide (c o < c v) || (decide (c o = c v) && decide (o < v))
theorem ahd_af (c : Nat → Nat) (q v : Nat) : ahd c q v = cnt (af c v) q := rfl
theorem rk_ex {c : Nat → Nat} {q r W : Nat} (hc : ∀ p, p < q → c p < W) (hr : r < q) : ∃ p, p < q ∧ ahd c q p = r := by
  obtain ⟨V, hV, hl⟩ := pk_least (fun V => r < cnt (ltc c V) q) ⟨W, by show r < _; rw [ltc_all hc]; exact hr⟩
  cases V with
  | zero =>
    have h0 : r < cnt (ltc c 0) q := hV
    rw [ltc_0] at h0
    exact absurd h0 (Nat.not_lt_zero _)
  | succ v =>
    have h1 : ¬ r < cnt (ltc c v) q := hl v (Nat.lt_succ_self v)
    have h3 : r < cnt (ltc c (v + 1)) q := hV
    have h2 := ltc_s (c := c) (v := v) (q := q)
    obtain ⟨p, hp, hf, hk⟩ := nth_ex (f := eqc c v) (k := r - cnt (ltc c v) q) (N := q) (by omega)
    have e : c p = v := by simpa [eqc] using hf
    refine ⟨p, hp, ?_⟩
    rw [ahd_eq (by omega), e]
    omega
/-- mismatches of a letter at all places -/
def mif (T : Nat → Int32) (l i : Nat) : Nat → Bool := fun p => !(ag (nI l) (T (i + p)))
def mi (T : Nat → Int32) (i q : Nat) : Nat → Nat := fun l => cnt (mif T l i) q
theorem mi_c {T : Nat → Int32} {i l : Nat} (q : Nat) (h1 : 1 ≤ l) (h2 : l < 2 ^ 31) : mi T i q l + blc T i q l + cnt (lf T 0 i) q = q := by
  have hne : ¬ nI l = 0 := nI_ne0 h1 h2
  have hne2 : ¬ (0 : Int32) = nI l := fun z => hne z.symm
  induction q with
  | zero => rfl
  | succ q ih =>
    show cnt (mif T l i) (q + 1) + cnt (lf T (nI l) i) (q + 1) + cnt (lf T 0 i) (q + 1) = q + 1
    have ih2 : cnt (mif T l i) q + cnt (lf T (nI l) i) q + cnt (lf T 0 i) q = q := ih
    by_cases e1 : T (i + q) = nI l
    · rw [cnt_f (f := mif T l i) (by simp [mif, ag, e1]), cnt_t (f := lf T (nI l) i) (by simp [lf, e1]), cnt_f (f := lf T 0 i) (by simp [lf, e1, hne])]
      omega
    · have e1' : ¬ nI l = T (i + q) := fun z => e1 z.symm
      by_cases e2 : T (i + q) = 0
      · rw [cnt_f (f := mif T l i) (by simp [mif, ag, e2]), cnt_f (f := lf T (nI l) i) (by simp [lf, e2, hne2]), cnt_t (f := lf T 0 i) (by simp [lf, e2])]
        omega
      · rw [cnt_t (f := mif T l i) (by simp [mif, ag, e1', e2, hne]), cnt_f (f := lf T (nI l) i) (by simp [lf, e1]), cnt_f (f := lf T 0 i) (by simp [lf, e2])]
        omega
theorem cpy_s0 {f g : Nat → Int32} {sp k : Nat} {x : Int32} (hx : x = f (sp + k)) : upd (va_cpy f g sp 0 k) k x = va_cpy f g sp 0 (k + 1) := by
  have h := cpy_s (f := f) (g := g) (sp := sp) (dp := 0) (k := k) hx
  rw [Nat.zero_add] at h
  exact h
theorem bf_cpy {T P : Nat → Int32} {f K : Nat} : cnt (bf (va_cpy T P f 0 K)) K = cnt (bf (fun i => T (f + i))) K := by
  refine cnt_congr (fun j hj => ?_)
  show decide (va_cpy T P f 0 K j = 0) = decide (T (f + j) = 0)
  rw [pk_cpy_in (Nat.zero_le j) (by omega), Nat.sub_zero]
end Math4
section Zl
variable {p : Program} {l : Launch} {e : Env} {R : Room} {s : State} {m : MethodId} {args : Array Value} {below : List Frame} {meth : Method} {c : Code} {H : Heap} {locs : List Loc} {cells slots : Nat} {Q : State → Prop}
variable {cc : ByteArray} {pc : Nat} {ls : Array Slot} {rest : List Value}
theorem z_i2l (hexec : p.tables.exec = Jvm.exec) (hb : c.code = cc) {x : Int32} {a : Int} (hdg : decode cc pc = .ok (.i2l, 1)) (ha : x.toInt = a)
    (k : ∀ v : Int64, v.toInt = a → W p l e R s m args below meth c H locs cells slots Q (F0 m (pc + 1) ls (.long v :: rest))) : W p l e R s m args below meth c H locs cells slots Q (F0 m pc ls (.int x :: rest)) :=
  lv_i2l hexec hb hdg rfl (k _ (by rw [Int32.toInt_toInt64]; exact ha))
theorem z_ladd (hexec : p.tables.exec = Jvm.exec) (hb : c.code = cc) {x y : Int64} {a b : Int} (hdg : decode cc pc = .ok (.ladd, 1)) (ha : x.toInt = a) (hb2 : y.toInt = b) (h1 : -9223372036854775808 ≤ a + b) (h2 : a + b < 9223372036854775808)
    (k : ∀ v : Int64, v.toInt = a + b → W p l e R s m args below meth c H locs cells slots Q (F0 m (pc + 1) ls (.long v :: rest))) : W p l e R s m args below meth c H locs cells slots Q (F0 m pc ls (.long y :: .long x :: rest)) := by
  subst ha
  subst hb2
  exact lv_ladd hexec hb hdg (k _ (by rw [Int64.toInt_add]; exact Int.bmod_eq_of_le (by omega) (by omega)))
theorem z_lcmp (hexec : p.tables.exec = Jvm.exec) (hb : c.code = cc) {x y : Int64} {a b : Int} (hdg : decode cc pc = .ok (.lcmp, 1)) (ha : x.toInt = a) (hb2 : y.toInt = b)
    (k : ∀ (v : Int32) (z : Int), v.toInt = z → (0 < z ↔ b < a) → (z = 0 ↔ a = b) → W p l e R s m args below meth c H locs cells slots Q (F0 m (pc + 1) ls (.int v :: rest))) : W p l e R s m args below meth c H locs cells slots Q (F0 m pc ls (.long y :: .long x :: rest)) := by
  have h1 := lg_cmp_gt x y
  rw [Int32.lt_iff_toInt_lt, i0, Int64.lt_iff_toInt_lt, ha, hb2] at h1
  have h2 := lg_cmp_eq x y
  rw [← Int32.toInt_inj, i0, ← Int64.toInt_inj, ha, hb2] at h2
  exact W.lcmp hexec hb hdg (k _ _ rfl h1 h2)
end Zl
