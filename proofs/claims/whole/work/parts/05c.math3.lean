section Math3
/-! which exception a call throws, by its place in the throws clause; 0 for none -/
def kAT (n : Nat) (a : Int) : Nat := if a < 0 ∨ 26 < a then 1 else if 64 ≤ n then 2 else 0
def kAP (w : Nat) (a : Int) : Nat := if a < 0 ∨ 26 < a then 1 else if 24 ≤ w then 2 else 0
def kRT (n : Nat) (a b : Int) : Nat := if b < 1 then 1 else if a < 0 ∨ (n : Int) < a + b then 2 else if 64 < (n : Int) + b then 3 else 0
def kST (n : Nat) (a b : Int) : Nat := if a < 0 ∨ (n : Int) ≤ a then 1 else if b < 0 ∨ 26 < b then 2 else 0
def kTP (n : Nat) (a b : Int) : Nat := if b < 0 ∨ 24 < b then 1 else if a < 0 ∨ (n : Int) < a + b then 2 else 0
def kNeg (a : Int) : Nat := if a < 0 then 1 else 0
def kPl (q : Nat) (a : Int) : Nat := if a < 0 ∨ (q : Int) ≤ a then 1 else 0
def kMO (q : Nat) (a b : Int) : Nat := if b < 1 ∨ 26 < b then 1 else if a < 0 ∨ (q : Int) ≤ a then 2 else 0
def kNM (q : Nat) (a b : Int) : Nat := if b < 0 then 1 else if a < 0 ∨ (q : Int) ≤ a then 2 else 0
def kAg (n w : Nat) (a b : Int) : Nat := if a < 0 ∨ (n : Int) < a ∨ b < 0 ∨ (w : Int) < b then 1 else 0
def kHP (a : Int) : Nat := if a < 1 then 1 else 0
theorem isum_s (f : Nat → Int32) (k : Nat) : isum f (k + 1) = isum f k + f k := rfl
/-- products: by the symbols of the text, by the symbols of the pattern -/
def cg (T P : Nat → Int32) (w k : Nat) : Nat → Int32 := fun i => if k + 1 ≤ w + i ∧ i ≤ k then T i * P (w + i - (k + 1)) else 0
def pg (T P : Nat → Int32) (n w k : Nat) : Nat → Int32 := fun j => if w ≤ k + 1 + j ∧ k + 1 + j - w < n then T (k + 1 + j - w) * P j else 0
theorem cg_t {T P : Nat → Int32} {w k i : Nat} (h1 : k + 1 ≤ w + i) (h2 : i ≤ k) : cg T P w k i = T i * P (w + i - (k + 1)) := if_pos ⟨h1, h2⟩
theorem cg_f {T P : Nat → Int32} {w k i : Nat} (h : ¬ (k + 1 ≤ w + i ∧ i ≤ k)) : cg T P w k i = 0 := if_neg h
theorem pg_t {T P : Nat → Int32} {n w k j : Nat} (h1 : w ≤ k + 1 + j) (h2 : k + 1 + j - w < n) : pg T P n w k j = T (k + 1 + j - w) * P j := if_pos ⟨h1, h2⟩
theorem pg_f {T P : Nat → Int32} {n w k j : Nat} (h : ¬ (w ≤ k + 1 + j ∧ k + 1 + j - w < n)) : pg T P n w k j = 0 := if_neg h
theorem prod_eq (T P : Nat → Int32) (n w k : Nat) : isum (cg T P w k) n = isum (pg T P n w k) w := by
  have h1 : isum (cg T P w k) n = isum (fun i => isum (fun j => if w + i = k + 1 + j then T i * P j else 0) w) n := by
    refine isum_congr (fun i _ => ?_)
    show cg T P w k i = isum (fun j => if w + i = k + 1 + j then T i * P j else 0) w
    by_cases q : k + 1 ≤ w + i
    · rw [isum_one (f := fun j => if w + i = k + 1 + j then T i * P j else 0) (k := w + i - (k + 1)) (fun j hj => if_neg (by omega))]
      by_cases q2 : i ≤ k
      · rw [cg_t q q2, if_pos (by omega)]
        exact (if_pos (by omega)).symm
      · rw [cg_f (by omega), if_neg (by omega)]
    · rw [cg_f (by omega)]
      refine ((isum_congr (g := fun _ => 0) (fun j _ => if_neg (by omega))).trans (isum_zero w)).symm
  have h2 : isum (pg T P n w k) w = isum (fun j => isum (fun i => if w + i = k + 1 + j then T i * P j else 0) n) w := by
    refine isum_congr (fun j hj => ?_)
    show pg T P n w k j = isum (fun i => if w + i = k + 1 + j then T i * P j else 0) n
    by_cases q : w ≤ k + 1 + j
    · rw [isum_one (f := fun i => if w + i = k + 1 + j then T i * P j else 0) (k := k + 1 + j - w) (fun i hi => if_neg (by omega))]
      by_cases q2 : k + 1 + j - w < n
      · rw [pg_t q q2, if_pos q2]
        exact (if_pos (by omega)).symm
      · rw [pg_f (by omega), if_neg q2]
    · rw [pg_f (by omega)]
      refine ((isum_congr (g := fun _ => 0) (fun i _ => if_neg (by omega))).trans (isum_zero n)).symm
  rw [h1, h2]
  exact isum_swap (fun i j => if w + i = k + 1 + j then T i * P j else 0) n w
def df (T P : Nat → Int32) (o : Nat) : Nat → Int32 := fun j => P j * T (o + j) * (P j - T (o + j)) * (P j - T (o + j))
/-- matches that do not overlap, place by place: how many, and from where on the next is free -/
def apk (f : Nat → Bool) (w : Nat) : Nat → Nat × Nat
  | 0 => (0, 0)
  | k + 1 => if (apk f w k).2 ≤ k ∧ f k = true then ((apk f w k).1 + 1, k + w) else apk f w k
theorem apk_t {f : Nat → Bool} {w k : Nat} (h1 : (apk f w k).2 ≤ k) (h2 : f k = true) : apk f w (k + 1) = ((apk f w k).1 + 1, k + w) := if_pos ⟨h1, h2⟩
theorem apk_f {f : Nat → Bool} {w k : Nat} (h : ¬ ((apk f w k).2 ≤ k ∧ f k = true)) : apk f w (k + 1) = apk f w k := if_neg h
theorem apk_hit {f : Nat → Bool} {w j : Nat} (h : (apk f w j).2 ≤ j) (hf : f j = true) (d : Nat) (hd : j + 1 + d ≤ j + max 1 w) : apk f w (j + 1 + d) = ((apk f w j).1 + 1, j + w) := by
  induction d with
  | zero => exact apk_t h hf
  | succ d ih =>
    have h1 := ih (by omega)
    have h2 : apk f w (j + 1 + d + 1) = apk f w (j + 1 + d) := apk_f (fun q => by
      have h3 := q.1
      rw [h1] at h3
      have h4 : j + w ≤ j + 1 + d := h3
      omega)
    exact h2.trans h1
theorem apk_hit2 {f : Nat → Bool} {w j i : Nat} (h : (apk f w j).2 ≤ j) (hf : f j = true) (h1 : j + 1 ≤ i) (h2 : i ≤ j + max 1 w) : apk f w i = ((apk f w j).1 + 1, j + w) := by
  have h3 := apk_hit h hf (i - (j + 1)) (by omega)
  rw [show j + 1 + (i - (j + 1)) = i by omega] at h3
  exact h3
theorem apk_le (f : Nat → Bool) (w k : Nat) : (apk f w k).1 ≤ k := by
  induction k with
  | zero => exact Nat.le_refl _
  | succ k ih =>
    by_cases h : (apk f w k).2 ≤ k ∧ f k = true
    · rw [apk_t h.1 h.2]; show (apk f w k).1 + 1 ≤ k + 1; omega
    · rw [apk_f h]; omega
/-- mismatches at symbols that are the letter x -/
def mof (T P : Nat → Int32) (x : Int32) (o : Nat) : Nat → Bool := fun j => decide (P j = x) && mf T P o j
theorem mof_f1 {T P : Nat → Int32} {x : Int32} {o j : Nat} (h : ¬ (P j).toInt = x.toInt) : mof T P x o j = false := by
  have h2 : ¬ P j = x := fun q => h (congrArg _ q)
  simp [mof, h2]
theorem mof_f2 {T P : Nat → Int32} {x : Int32} {o j : Nat} (h : ag (P j) (T (o + j)) = true) : mof T P x o j = false := by simp [mof, mf_f h]
theorem mof_t {T P : Nat → Int32} {x : Int32} {o j : Nat} (h1 : (P j).toInt = x.toInt) (h : ag (P j) (T (o + j)) = false) : mof T P x o j = true := by simp [mof, mf_t h, Int32.toInt_inj.mp h1]
def naf (T P : Nat → Int32) (i f : Nat) : Nat → Bool := fun k => !(ag (T (i + k)) (P (f + k)))
def agr (T P : Nat → Int32) (n w i f : Nat) : Nat := fst (naf T P i f) (min (n - i) (w - f))
def wf (T P : Nat → Int32) (w : Nat) (a : Int) : Nat → Bool := fun o => decide ((mis T P o w : Int) ≤ a)
theorem updI {M : Nat → Int32} {g : Nat → Nat} {j : Nat} {v : Int32} (h : ∀ p, p < j → (M p).toInt = (g p : Int)) (hv : v.toInt = (g j : Int)) : ∀ p, p < j + 1 → (upd M j v p).toInt = (g p : Int) := fun p hp => by
  by_cases q : p = j
  · rw [q, pk_us]; exact hv
  · rw [pk_un q]; exact h p (by omega)
/-- how often a letter stands where the pattern's symbol i may lie -/
def blc (T : Nat → Int32) (i q : Nat) : Nat → Nat := fun l => cnt (lf T (nI l) i) q
/-- the best of the letters 1 to k + 1, of several the lowest -/
def bl (c : Nat → Nat) : Nat → Nat
  | 0 => 1
  | k + 1 => if c (bl c k) < c (k + 2) then k + 2 else bl c k
theorem bl_t {c : Nat → Nat} {k : Nat} (h : c (bl c k) < c (k + 2)) : bl c (k + 1) = k + 2 := if_pos h
theorem bl_f {c : Nat → Nat} {k : Nat} (h : ¬ c (bl c k) < c (k + 2)) : bl c (k + 1) = bl c k := if_neg h
theorem bl_le (c : Nat → Nat) (k : Nat) : 1 ≤ bl c k ∧ bl c k ≤ k + 1 := by
  induction k with
  | zero => exact ⟨Nat.le_refl _, Nat.le_refl _⟩
  | succ k ih =>
    by_cases h : c (bl c k) < c (k + 2)
    · rw [bl_t h]; omega
    · rw [bl_f h]; omega
/-- the least period -/
def lpd (T : Nat → Int32) (n : Nat) : Nat := fst (fun k => per T n (k + 1)) (max 1 n - 1) + 1
theorem lpd_at {T : Nat → Int32} {n j : Nat} (h1 : 1 ≤ j) (h2 : j < max 1 n) (h3 : per T n j = true) (h : ∀ i, 1 ≤ i → i < j → per T n i = false) : lpd T n = j := by
  have h4 := fst_eq (f := fun k => per T n (k + 1)) (k := j - 1) (N := max 1 n - 1) (by omega) (by show per T n (j - 1 + 1) = true; rw [show j - 1 + 1 = j by omega]; exact h3) (fun i hi => h (i + 1) (by omega) (by omega))
  unfold lpd
  rw [h4]
  omega
theorem lpd_no {T : Nat → Int32} {n : Nat} (h : ∀ i, 1 ≤ i → i < max 1 n → per T n i = false) : lpd T n = max 1 n := by
  have h4 := fst_no (f := fun k => per T n (k + 1)) (N := max 1 n - 1) (fun i hi => h (i + 1) (by omega) (by omega))
  unfold lpd
  rw [h4]
  omega
theorem per_end {T : Nat → Int32} {n p : Nat} (h : n ≤ p) : per T n p = true := allB_t (fun j hj => by omega)
end Math3
