theorem naf_t {T P : Nat → Int32} {i f k : Nat} (h : ag (T (i + k)) (P (f + k)) = false) : naf T P i f k = true := by
  show (!ag (T (i + k)) (P (f + k))) = true
  rw [h]; rfl
theorem naf_f {T P : Nat → Int32} {i f k : Nat} (h : ag (T (i + k)) (P (f + k)) = true) : naf T P i f k = false := by
  show (!ag (T (i + k)) (P (f + k))) = false
  rw [h]; rfl
