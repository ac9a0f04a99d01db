section Math2
theorem ltS {p : Nat → Prop} {f j : Nat} (h : ∀ i, f ≤ i → i < j → p i) (hj : p j) : ∀ i, f ≤ i → i < j + 1 → p i := fun i h1 h2 => by
  rcases Nat.lt_or_ge i j with q | q
  · exact h i h1 q
  · have : i = j := by omega
    rw [this]; exact hj
theorem fmis_1 {T P : Nat → Int32} {o f w : Nat} (h : fmis T P o f w = -1) : ∀ j, f ≤ j → j < w → mf T P o j = false := by
  have hs := fst_spec (f := fun j => decide (f ≤ j) && mf T P o j) (N := w)
  have hl := fst_le (fun j => decide (f ≤ j) && mf T P o j) w
  intro j h1 h2
  simp only [fmis] at h
  split at h
  · omega
  · have q := hs.1 j (by omega)
    simpa [h1] using q
theorem fmis_2 {T P : Nat → Int32} {o f w : Nat} (h : ¬ fmis T P o f w = -1) : ∃ j, f ≤ j ∧ j < w ∧ mf T P o j = true := by
  have hs := fst_spec (f := fun j => decide (f ≤ j) && mf T P o j) (N := w)
  simp only [fmis] at h
  split at h
  · rename_i q
    have h2 := hs.2 q
    simp only [Bool.and_eq_true, decide_eq_true_eq] at h2
    exact ⟨_, h2.1, q, h2.2⟩
  · exact absurd rfl h
theorem lik0_t {T P : Nat → Int32} {w o : Nat} (h : fmis T P o 0 w = -1) : lik 0 T P w o = true := by
  have h1 : mis T P o w = 0 := cnt_none (fun j hj => fmis_1 h j (Nat.zero_le j) hj)
  simp [lik, h1]
theorem lik0_f {T P : Nat → Int32} {w o : Nat} (h : ¬ fmis T P o 0 w = -1) : lik 0 T P w o = false := by
  obtain ⟨j, -, h1, h2⟩ := fmis_2 h
  have h3 : 0 < mis T P o w := cnt_some h1 h2
  simp [lik]
  omega
theorem lik0_m {T P : Nat → Int32} {w o : Nat} : lik 0 T P w o = decide (mis T P o w = 0) := rfl
theorem lik1_t {T P : Nat → Int32} {w o : Nat} (h : isum (sf T P o) w = 0) : lik 1 T P w o = true := by simp [lik, h]
theorem lik1_f {T P : Nat → Int32} {w o : Nat} (h : ¬ isum (sf T P o) w = 0) : lik 1 T P w o = false := by simp [lik, h]
theorem lik2_t {T P : Nat → Int32} {w o : Nat} (h : ∀ a, a < w → of1 T P o a = true) : lik 2 T P w o = true := by
  show allB (fun a => of1 T P o a) w = true
  exact allB_t h
theorem lik2_f {T P : Nat → Int32} {w o j : Nat} (hj : j < w) (h : of1 T P o j = false) : lik 2 T P w o = false := by
  show allB (fun a => of1 T P o a) w = false
  exact allB_f hj h
theorem lk1 {kd q : Nat} {E : Nat × Nat × Nat} (hq : (kd = 0 ∧ q = E.1) ∨ (kd = 1 ∧ q = E.2.1) ∨ (kd = 2 ∧ q = E.2.2)) (hEd : E.1 ≠ E.2.1 ∧ E.1 ≠ E.2.2 ∧ E.2.1 ≠ E.2.2) (h : q = E.2.1) : kd = 1 := by
  obtain ⟨h1, h2, h3⟩ := hEd
  rcases hq with ⟨-, q1⟩ | ⟨q0, -⟩ | ⟨-, q1⟩
  · exact absurd (q1.symm.trans h) h1
  · exact q0
  · exact absurd (h.symm.trans q1) h3
theorem lk2 {kd q : Nat} {E : Nat × Nat × Nat} (hq : (kd = 0 ∧ q = E.1) ∨ (kd = 1 ∧ q = E.2.1) ∨ (kd = 2 ∧ q = E.2.2)) (hEd : E.1 ≠ E.2.1 ∧ E.1 ≠ E.2.2 ∧ E.2.1 ≠ E.2.2) (h : q = E.2.2) : kd = 2 := by
  obtain ⟨h1, h2, h3⟩ := hEd
  rcases hq with ⟨-, q1⟩ | ⟨-, q1⟩ | ⟨q0, -⟩
  · exact absurd (q1.symm.trans h) h2
  · exact absurd (q1.symm.trans h) h3
  · exact q0
theorem lk0 {kd q : Nat} {E : Nat × Nat × Nat} (hq : (kd = 0 ∧ q = E.1) ∨ (kd = 1 ∧ q = E.2.1) ∨ (kd = 2 ∧ q = E.2.2)) (h1 : ¬ some q = some E.2.1) (h2 : ¬ some q = some E.2.2) : kd = 0 := by
  rcases hq with ⟨q0, -⟩ | ⟨-, q1⟩ | ⟨-, q1⟩
  · exact q0
  · exact absurd (congrArg some q1) h1
  · exact absurd (congrArg some q1) h2
theorem fnd_no {kd : Nat} {T P : Nat → Int32} {w n : Nat} {a : Int} (h : ∀ i, i < pl n w → (lik kd T P w i && decide ((cnt (lik kd T P w) i : Int) = a)) = false) : fnd kd T P w n a = -1 := by
  have h1 := fst_no h
  simp [fnd, h1]
theorem fnd_at {kd : Nat} {T P : Nat → Int32} {w n j : Nat} {a : Int} (hj : j < pl n w) (h1 : (lik kd T P w j && decide ((cnt (lik kd T P w) j : Int) = a)) = true) (h : ∀ i, 0 ≤ i → i < j → (lik kd T P w i && decide ((cnt (lik kd T P w) i : Int) = a)) = false) : fnd kd T P w n a = j := by
  have h2 := fst_eq hj h1 (fun i hi => h i (Nat.zero_le i) hi)
  simp [fnd, h2, hj]
/-- among the first N places that f marks there is one with the number k, if k is less than their count -/
theorem nth_ex {f : Nat → Bool} {k N : Nat} (h : k < cnt f N) : ∃ o, o < N ∧ f o = true ∧ cnt f o = k := by
  induction N with
  | zero => exact absurd h (Nat.not_lt_zero _)
  | succ N ih =>
    rcases Nat.lt_or_ge k (cnt f N) with q | q
    · obtain ⟨o, h1, h2, h3⟩ := ih q
      exact ⟨o, by omega, h2, h3⟩
    · cases hf : f N
      · rw [cnt_f hf] at h; omega
      · rw [cnt_t hf] at h
        exact ⟨N, by omega, hf, by omega⟩
theorem nth_lt {f : Nat → Bool} {o N : Nat} (ho : o < N) (hf : f o = true) : cnt f o < cnt f N := by
  have h1 := cnt_mono f (show o + 1 ≤ N by omega)
  rw [cnt_t hf] at h1
  omega
theorem nth_un {f : Nat → Bool} {a b : Nat} (ha : f a = true) (hb : f b = true) (h : cnt f a = cnt f b) : a = b := by
  rcases Nat.lt_trichotomy a b with q | q | q
  · have := nth_lt q ha; omega
  · exact q
  · have := nth_lt q hb; omega
/-- whether there is a match with the number a: 0 if there is, 1 if not -/
def kMt (kd : Nat) (T P : Nat → Int32) (w n : Nat) (a : Int) : Nat := if 0 ≤ a ∧ a < (cnt (lik kd T P w) (pl n w) : Int) then 0 else 1
theorem fnd_k0 {kd : Nat} {T P : Nat → Int32} {w n : Nat} {a : Int} (h : ¬ fnd kd T P w n a = -1) : kMt kd T P w n a = 0 := by
  have hs := fst_spec (f := fun o => lik kd T P w o && decide ((cnt (lik kd T P w) o : Int) = a)) (N := pl n w)
  simp only [fnd] at h
  split at h
  · rename_i q
    have h2 := hs.2 q
    simp only [Bool.and_eq_true, decide_eq_true_eq] at h2
    have h3 := nth_lt q h2.1
    simp only [kMt]
    rw [if_pos ⟨by omega, by omega⟩]
  · exact absurd rfl h
theorem fnd_k1 {kd : Nat} {T P : Nat → Int32} {w n : Nat} {a : Int} (h : fnd kd T P w n a = -1) : kMt kd T P w n a = 1 := by
  have hs := fst_spec (f := fun o => lik kd T P w o && decide ((cnt (lik kd T P w) o : Int) = a)) (N := pl n w)
  have hl := fst_le (fun o => lik kd T P w o && decide ((cnt (lik kd T P w) o : Int) = a)) (pl n w)
  simp only [kMt]
  refine if_neg (fun q => ?_)
  obtain ⟨o, h1, h2, h3⟩ := nth_ex (f := lik kd T P w) (k := a.toNat) (N := pl n w) (by omega)
  simp only [fnd] at h
  split at h
  · omega
  · have h4 := hs.1 o (by omega)
    simp only [h2, Bool.true_and, decide_eq_false_iff_not] at h4
    omega
/-- the target of a search that is known to end -/
theorem fnd_tg {kd : Nat} {T P : Nat → Int32} {w n : Nat} {a : Int} (h : 0 ≤ a ∧ a < (cnt (lik kd T P w) (pl n w) : Int)) : ∃ o : Nat, o < pl n w ∧ lik kd T P w o = true ∧ (cnt (lik kd T P w) o : Int) = a ∧ fnd kd T P w n a = o := by
  obtain ⟨o, h1, h2, h3⟩ := nth_ex (f := lik kd T P w) (k := a.toNat) (N := pl n w) (by omega)
  refine ⟨o, h1, h2, by omega, fnd_at h1 (by rw [h2, decide_eq_true (show (cnt (lik kd T P w) o : Int) = a by omega)]; rfl) (fun i _ hi => ?_)⟩
  cases q : lik kd T P w i
  · rfl
  · have := nth_lt hi q
    rw [decide_eq_false (by omega)]
    rfl
def lf (T : Nat → Int32) (x : Int32) (i : Nat) : Nat → Bool := fun p => decide (T (i + p) = x)
theorem lf_t {T : Nat → Int32} {x : Int32} {i p : Nat} (h : (T (i + p)).toInt = x.toInt) : lf T x i p = true := by
  simp [lf, Int32.toInt_inj.mp h]
theorem lf_f {T : Nat → Int32} {x : Int32} {i p : Nat} (h : ¬ (T (i + p)).toInt = x.toInt) : lf T x i p = false := by
  have h2 : ¬ T (i + p) = x := fun q => h (congrArg _ q)
  simp [lf, h2]
def bf (P : Nat → Int32) : Nat → Bool := fun j => decide (P j = 0)
theorem bf_t {P : Nat → Int32} {j : Nat} (h : (P j).toInt = 0) : bf P j = true := by
  have h2 : P j = 0 := Int32.toInt_inj.mp h
  simp [bf, h2]
theorem bf_f {P : Nat → Int32} {j : Nat} (h : ¬ (P j).toInt = 0) : bf P j = false := by
  have h2 : ¬ P j = 0 := fun q => h (congrArg _ q)
  simp [bf, h2]
def pf (T : Nat → Int32) (p : Nat) : Nat → Bool := fun i => ag (T i) (T (i + p))
def per (T : Nat → Int32) (n p : Nat) : Bool := allB (pf T p) (n - p)
/-- how many of q places stand ahead of the place p by their counts c -/
def ahd (c : Nat → Nat) (q p : Nat) : Nat := cnt (fun o => decide (c o < c p) || (decide (c o = c p) && decide (o < p))) q
def rkP (c : Nat → Nat) (q r : Nat) : Nat := fst (fun p => decide (ahd c q p = r)) q
def ltc (c : Nat → Nat) (v : Nat) : Nat → Bool := fun o => decide (c o < v)
def eqc (c : Nat → Nat) (v : Nat) : Nat → Bool := fun o => decide (c o = v)
theorem cnt_or {f g : Nat → Bool} (k : Nat) (h : ∀ j, j < k → ¬ (f j = true ∧ g j = true)) : cnt (fun j => f j || g j) k = cnt f k + cnt g k := by
  induction k with
  | zero => rfl
  | succ k ih =>
    have h1 := ih (fun j hj => h j (by omega))
    have h2 := h k (by omega)
    cases hf : f k <;> cases hg : g k
    · rw [cnt_f (f := fun j => f j || g j) (by simp [hf, hg]), cnt_f hf, cnt_f hg, h1]
    · rw [cnt_t (f := fun j => f j || g j) (by simp [hf, hg]), cnt_f hf, cnt_t hg, h1]; omega
    · rw [cnt_t (f := fun j => f j || g j) (by simp [hf, hg]), cnt_t hf, cnt_f hg, h1]; omega
    · exact absurd ⟨hf, hg⟩ h2
theorem cnt_and_lt {f : Nat → Bool} {p k : Nat} (h : p ≤ k) : cnt (fun j => f j && decide (j < p)) k = cnt f p := by
  induction k with
  | zero => have : p = 0 := by omega
            subst this; rfl
  | succ k ih =>
    rcases Nat.lt_or_ge k p with q | q
    · have e : p = k + 1 := by omega
      subst e
      exact cnt_congr (fun j hj => by simp [hj])
    · rw [cnt_f (f := fun j => f j && decide (j < p)) (by simp; intro _; omega), ih q]
theorem ahd_eq {c : Nat → Nat} {q p : Nat} (hp : p ≤ q) : ahd c q p = cnt (ltc c (c p)) q + cnt (eqc c (c p)) p := by
  rw [← cnt_and_lt (f := eqc c (c p)) hp]
  refine cnt_or q (fun j _ h => ?_)
  simp only [ltc, eqc, decide_eq_true_eq, Bool.and_eq_true] at h
  omega
theorem ltc_s {c : Nat → Nat} {v q : Nat} : cnt (ltc c (v + 1)) q = cnt (ltc c v) q + cnt (eqc c v) q := by
  rw [← cnt_or q (fun j _ h => by simp only [ltc, eqc, decide_eq_true_eq] at h; omega)]
  refine cnt_congr (fun j _ => ?_)
  simp only [ltc, eqc]
  by_cases h1 : c j < v
  · simp [h1]; omega
  · by_cases h2 : c j = v
    · simp [h2]
    · simp [h1, h2]; omega
theorem ltc_0 {c : Nat → Nat} {q : Nat} : cnt (ltc c 0) q = 0 := cnt_none (fun j _ => by simp [ltc])
theorem ltc_all {c : Nat → Nat} {v q : Nat} (h : ∀ p, p < q → c p < v) : cnt (ltc c v) q = q := by
  induction q with
  | zero => rfl
  | succ q ih => rw [cnt_t (by simp [ltc, h q (by omega)]), ih (fun p hp => h p (by omega))]
theorem ahd_mono {c : Nat → Nat} {q a b : Nat} (ha : a < q) (hb : b < q) (h : c a < c b ∨ (c a = c b ∧ a < b)) : ahd c q a < ahd c q b := by
  rw [ahd_eq (by omega), ahd_eq (by omega)]
  rcases h with h | ⟨h, h2⟩
  · have h1 : cnt (ltc c (c a)) q + cnt (eqc c (c a)) q ≤ cnt (ltc c (c b)) q := by
      rw [← ltc_s]
      clear ha hb
      induction q with
      | zero => exact Nat.le_refl _
      | succ q ih =>
        cases h4 : ltc c (c a + 1) q
        · rw [cnt_f h4]; exact Nat.le_trans ih (cnt_le_s _ _)
        · have h5 : ltc c (c b) q = true := by
            simp only [ltc, decide_eq_true_eq] at h4 ⊢
            omega
          rw [cnt_t h4, cnt_t h5]; omega
    have h6 := nth_lt (f := eqc c (c a)) ha (by simp [eqc])
    omega
  · rw [h]
    have h6 := nth_lt (f := eqc c (c b)) h2 (by simp [eqc, h])
    omega
theorem ahd_inj {c : Nat → Nat} {q a b : Nat} (ha : a < q) (hb : b < q) (h : ahd c q a = ahd c q b) : a = b := by
  rcases Nat.lt_trichotomy (c a) (c b) with h1 | h1 | h1
  · have := ahd_mono ha hb (Or.inl h1); omega
  · rcases Nat.lt_trichotomy a b with h2 | h2 | h2
    · have := ahd_mono ha hb (Or.inr ⟨h1, h2⟩); omega
    · exact h2
    · have := ahd_mono hb ha (Or.inr ⟨h1.symm, h2⟩); omega
  · have := ahd_mono hb ha (Or.inl h1); omega
theorem rkP_at {c : Nat → Nat} {q r p : Nat} (hp : p < q) (h : ahd c q p = r) : rkP c q r = p := by
  refine fst_eq hp (by simp [h]) (fun j hj => ?_)
  refine decide_eq_false (fun h2 => ?_)
  have := ahd_inj (show j < q by omega) hp (h2.trans h.symm)
  omega
end Math2
