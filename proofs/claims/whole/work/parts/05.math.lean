/-! mine: what the calls answer, as plain functions of the text T (n symbols) and the pattern P (w symbols) -/
section Math
def SymF (f : Nat → Int32) : Prop := ∀ j, 0 ≤ (f j).toInt ∧ (f j).toInt ≤ 26
theorem SymF.upd {f : Nat → Int32} (h : SymF f) (k : Nat) {x : Int32} (hx : 0 ≤ x.toInt ∧ x.toInt ≤ 26) : SymF (upd f k x) := fun j => by
  by_cases q : j = k
  · rw [q, pk_us]; exact hx
  · rw [pk_un q]; exact h j
theorem SymF.cpy {f g : Nat → Int32} (hf : SymF f) (hg : SymF g) (sp dp n : Nat) : SymF (va_cpy f g sp dp n) := fun j => by
  by_cases q : dp ≤ j ∧ j < dp + n
  · rw [pk_cpy_in q.1 q.2]; exact hf _
  · rw [pk_cpy_out (by omega)]; exact hg _
theorem cpy_0 {f g : Nat → Int32} {sp dp : Nat} : va_cpy f g sp dp 0 = g := funext fun j => pk_cpy_out (by omega)
theorem cpy_s {f g : Nat → Int32} {sp dp k : Nat} {x : Int32} (hx : x = f (sp + k)) : upd (va_cpy f g sp dp k) (dp + k) x = va_cpy f g sp dp (k + 1) := funext fun j => by
  by_cases q : j = dp + k
  · subst q
    rw [pk_us, pk_cpy_in (by omega) (by omega), hx]
    exact congrArg f (by omega)
  · rw [pk_un q]
    by_cases q2 : dp ≤ j ∧ j < dp + k
    · rw [pk_cpy_in q2.1 q2.2, pk_cpy_in q2.1 (by omega)]
    · rw [pk_cpy_out (by omega), pk_cpy_out (by omega)]
def ag (x y : Int32) : Bool := decide (x = y) || decide (x = 0) || decide (y = 0)
theorem ag_eq {x y : Int32} (h : x.toInt = y.toInt) : ag x y = true := by
  have : x = y := Int32.toInt_inj.mp h
  simp [ag, this]
theorem ag_l {x y : Int32} (h : x.toInt = 0) : ag x y = true := by
  have : x = 0 := Int32.toInt_inj.mp h
  simp [ag, this]
theorem ag_r {x y : Int32} (h : y.toInt = 0) : ag x y = true := by
  have : y = 0 := Int32.toInt_inj.mp h
  simp [ag, this]
theorem ag_no {x y : Int32} (h1 : ¬ x.toInt = y.toInt) (h2 : ¬ x.toInt = 0) (h3 : ¬ y.toInt = 0) : ag x y = false := by
  have q1 : ¬ x = y := fun q => h1 (congrArg _ q)
  have q2 : ¬ x = 0 := fun q => h2 (congrArg _ q)
  have q3 : ¬ y = 0 := fun q => h3 (congrArg _ q)
  simp [ag, q1, q2, q3]
theorem ag_symm (x y : Int32) : ag x y = ag y x := by
  by_cases h : x = y
  · rw [h]
  · have h2 : ¬ y = x := fun q => h q.symm
    simp [ag, h, h2, Bool.or_comm]
def cnt (f : Nat → Bool) : Nat → Nat
  | 0 => 0
  | k + 1 => cnt f k + (if f k then 1 else 0)
theorem cnt_0 (f : Nat → Bool) : cnt f 0 = 0 := rfl
theorem cnt_t {f : Nat → Bool} {k : Nat} (h : f k = true) : cnt f (k + 1) = cnt f k + 1 := by simp [cnt, h]
theorem cnt_f {f : Nat → Bool} {k : Nat} (h : f k = false) : cnt f (k + 1) = cnt f k := by simp [cnt, h]
theorem cnt_le (f : Nat → Bool) (k : Nat) : cnt f k ≤ k := by
  induction k with
  | zero => exact Nat.le_refl _
  | succ k ih =>
    cases h : f k
    · rw [cnt_f h]; omega
    · rw [cnt_t h]; omega
theorem cnt_le_s (f : Nat → Bool) (k : Nat) : cnt f k ≤ cnt f (k + 1) := by
  cases h : f k
  · rw [cnt_f h]; omega
  · rw [cnt_t h]; omega
theorem cnt_mono (f : Nat → Bool) {a b : Nat} (h : a ≤ b) : cnt f a ≤ cnt f b := by
  induction b with
  | zero => have : a = 0 := by omega
            subst this; exact Nat.le_refl _
  | succ b ih =>
    rcases Nat.lt_or_ge a (b + 1) with q | q
    · exact Nat.le_trans (ih (by omega)) (cnt_le_s f b)
    · have : a = b + 1 := by omega
      subst this; exact Nat.le_refl _
theorem cnt_congr {f g : Nat → Bool} {k : Nat} (h : ∀ j, j < k → f j = g j) : cnt f k = cnt g k := by
  induction k with
  | zero => rfl
  | succ k ih =>
    have h1 := ih (fun j hj => h j (by omega))
    have h2 := h k (by omega)
    cases h3 : f k
    · rw [cnt_f h3, cnt_f (h2 ▸ h3), h1]
    · rw [cnt_t h3, cnt_t (h2 ▸ h3), h1]
theorem cnt_none {f : Nat → Bool} {k : Nat} (h : ∀ j, j < k → f j = false) : cnt f k = 0 := by
  induction k with
  | zero => rfl
  | succ k ih => rw [cnt_f (h k (by omega)), ih (fun j hj => h j (by omega))]
theorem cnt_some {f : Nat → Bool} {j k : Nat} (hj : j < k) (h : f j = true) : 0 < cnt f k := by
  have h1 := cnt_mono f (show j + 1 ≤ k by omega)
  rw [cnt_t h] at h1
  omega
/-- the first place below N at which f holds; N if there is none -/
def fst (f : Nat → Bool) : Nat → Nat
  | 0 => 0
  | k + 1 => if fst f k < k then fst f k else if f k then k else k + 1
theorem fst_no {f : Nat → Bool} {N : Nat} (h : ∀ j, j < N → f j = false) : fst f N = N := by
  induction N with
  | zero => rfl
  | succ N ih =>
    have h1 := ih (fun j hj => h j (by omega))
    simp [fst, h1, h N (by omega)]
theorem fst_eq {f : Nat → Bool} {k N : Nat} (hk : k < N) (h : f k = true) (hl : ∀ j, j < k → f j = false) : fst f N = k := by
  induction N with
  | zero => omega
  | succ N ih =>
    rcases Nat.lt_or_ge k N with q | q
    · have h1 := ih q
      simp [fst, h1, q]
    · have e : k = N := by omega
      subst e
      have h1 := fst_no hl
      simp [fst, h1, h]
theorem fst_le (f : Nat → Bool) (N : Nat) : fst f N ≤ N := by
  induction N with
  | zero => exact Nat.le_refl _
  | succ N ih =>
    simp only [fst]
    split
    · omega
    · split <;> omega
theorem fst_spec {f : Nat → Bool} {N : Nat} : (∀ j, j < fst f N → f j = false) ∧ (fst f N < N → f (fst f N) = true) := by
  induction N with
  | zero => exact ⟨fun j hj => by simp [fst] at hj, fun h => by omega⟩
  | succ N ih =>
    have hle := fst_le f N
    simp only [fst]
    split
    · exact ⟨ih.1, fun _ => ih.2 (by omega)⟩
    · have e : fst f N = N := by omega
      rw [e] at ih
      cases h : f N
      · refine ⟨fun j hj => ?_, fun hh => ?_⟩
        · rcases Nat.lt_or_ge j N with q | q
          · exact ih.1 j q
          · have : j = N := by simp at hj; omega
            rw [this]; exact h
        · simp at hh
      · exact ⟨fun j hj => ih.1 j (by simpa using hj), fun _ => by simpa using h⟩
def allB (f : Nat → Bool) (k : Nat) : Bool := decide (cnt (fun j => !f j) k = 0)
theorem allB_t {f : Nat → Bool} {k : Nat} (h : ∀ j, j < k → f j = true) : allB f k = true := by
  simp only [allB, decide_eq_true_eq]
  exact cnt_none (fun j hj => by simp [h j hj])
theorem allB_f {f : Nat → Bool} {j k : Nat} (hj : j < k) (h : f j = false) : allB f k = false := by
  have h1 := cnt_some (f := fun j => !f j) hj (by simp [h])
  simp only [allB, decide_eq_false_iff_not]
  omega
theorem allB_s (f : Nat → Bool) (k : Nat) : allB f (k + 1) = (allB f k && f k) := by
  simp only [allB]
  cases h : f k
  · rw [cnt_t (f := fun j => !f j) (by simp [h])]; simp
  · rw [cnt_f (f := fun j => !f j) (by simp [h])]; simp
theorem allB_0 (f : Nat → Bool) : allB f 0 = true := rfl
theorem allB_get {f : Nat → Bool} {j k : Nat} (h : allB f k = true) (hj : j < k) : f j = true := by
  cases q : f j
  · rw [allB_f hj q] at h; cases h
  · rfl
def isum (f : Nat → Int32) : Nat → Int32
  | 0 => 0
  | k + 1 => isum f k + f k
theorem isum_congr {f g : Nat → Int32} {k : Nat} (h : ∀ j, j < k → f j = g j) : isum f k = isum g k := by
  induction k with
  | zero => rfl
  | succ k ih => simp only [isum]; rw [ih (fun j hj => h j (by omega)), h k (by omega)]
theorem isum_zero (k : Nat) : isum (fun _ => 0) k = 0 := by
  induction k with
  | zero => rfl
  | succ k ih => simp only [isum]; rw [ih, Int32.add_zero]
theorem add4 (a b c d : Int32) : a + b + (c + d) = a + c + (b + d) := by
  rw [Int32.add_assoc, Int32.add_assoc, ← Int32.add_assoc b, Int32.add_comm b c, Int32.add_assoc c]
theorem isum_add (f g : Nat → Int32) (k : Nat) : isum (fun j => f j + g j) k = isum f k + isum g k := by
  induction k with
  | zero => rfl
  | succ k ih =>
    show isum (fun j => f j + g j) k + (f k + g k) = isum f k + f k + (isum g k + g k)
    rw [ih]
    exact add4 _ _ _ _
/-- sums may change places -/
theorem isum_swap (F : Nat → Nat → Int32) (a b : Nat) : isum (fun i => isum (fun j => F i j) b) a = isum (fun j => isum (fun i => F i j) a) b := by
  induction a with
  | zero =>
    show (0 : Int32) = _
    exact (isum_zero b).symm
  | succ a ih =>
    show isum (fun i => isum (fun j => F i j) b) a + isum (fun j => F a j) b = isum (fun j => isum (fun i => F i j) a + F a j) b
    rw [ih, isum_add]
/-- a sum with one place that counts -/
theorem isum_one {f : Nat → Int32} {k N : Nat} (h : ∀ j, j ≠ k → f j = 0) : isum f N = if k < N then f k else 0 := by
  induction N with
  | zero => simp [isum]
  | succ N ih =>
    simp only [isum]
    rw [ih]
    rcases Nat.lt_trichotomy k N with q | q | q
    · rw [if_pos q, if_pos (by omega), h N (by omega), Int32.add_zero]
    · subst q
      rw [if_neg (by omega), if_pos (by omega), Int32.zero_add]
    · rw [if_neg (by omega), if_neg (by omega), h N (by omega), Int32.add_zero]
/-- how many places there are -/
def pl (n w : Nat) : Nat := n + 1 - w
/-- a mismatch at the symbol j of the pattern laid at o -/
def mf (T P : Nat → Int32) (o : Nat) : Nat → Bool := fun j => !(ag (P j) (T (o + j)))
def mis (T P : Nat → Int32) (o w : Nat) : Nat := cnt (mf T P o) w
theorem mf_f {T P : Nat → Int32} {o j : Nat} (h : ag (P j) (T (o + j)) = true) : mf T P o j = false := by simp [mf, h]
theorem mf_t {T P : Nat → Int32} {o j : Nat} (h : ag (P j) (T (o + j)) = false) : mf T P o j = true := by simp [mf, h]
/-- the first mismatch from f on; -1 if there is none -/
def fmis (T P : Nat → Int32) (o f w : Nat) : Int := if fst (fun j => decide (f ≤ j) && mf T P o j) w < w then (fst (fun j => decide (f ≤ j) && mf T P o j) w : Int) else -1
theorem fmis_no {T P : Nat → Int32} {o f w : Nat} (h : ∀ j, f ≤ j → j < w → mf T P o j = false) : fmis T P o f w = -1 := by
  have h1 : fst (fun j => decide (f ≤ j) && mf T P o j) w = w := fst_no (fun j hj => by
    by_cases q : f ≤ j
    · simp [h j q hj]
    · simp [q])
  simp [fmis, h1]
theorem fmis_at {T P : Nat → Int32} {o f w k : Nat} (hk : k < w) (hf : f ≤ k) (h1 : mf T P o k = true) (h : ∀ j, f ≤ j → j < k → mf T P o j = false) : fmis T P o f w = k := by
  have h2 : fst (fun j => decide (f ≤ j) && mf T P o j) w = k := fst_eq hk (by simp [hf, h1]) (fun j hj => by
    by_cases q : f ≤ j
    · simp [h j q hj]
    · simp [q])
  simp [fmis, h2, hk]
def sf (T P : Nat → Int32) (o : Nat) : Nat → Int32 := fun j => T (o + j) - P j
/-- the symbols a and b stand to each other here as there -/
def of2 (T P : Nat → Int32) (o a b : Nat) : Bool := decide ((P b).toInt < (P a).toInt ↔ (T (o + b)).toInt < (T (o + a)).toInt) && decide ((P a).toInt < (P b).toInt ↔ (T (o + a)).toInt < (T (o + b)).toInt)
def of1 (T P : Nat → Int32) (o a : Nat) : Bool := allB (fun b => of2 T P o a b) a
def lik (kd : Nat) (T P : Nat → Int32) (w o : Nat) : Bool := if kd = 0 then decide (mis T P o w = 0) else if kd = 1 then decide (isum (sf T P o) w = 0) else allB (fun a => of1 T P o a) w
/-- the place of the match a; -1 if there is none -/
def fnd (kd : Nat) (T P : Nat → Int32) (w n : Nat) (a : Int) : Int := if fst (fun o => lik kd T P w o && decide ((cnt (lik kd T P w) o : Int) = a)) (pl n w) < pl n w then (fst (fun o => lik kd T P w o && decide ((cnt (lik kd T P w) o : Int) = a)) (pl n w) : Int) else -1
end Math
