/-! Pure rows. -/
theorem cpy_0 {α : Type} (f g : Nat → α) (sp dp : Nat) : va_cpy f g sp dp 0 = g := by
  funext j
  exact pk_cpy_out (by omega)
theorem cpy_step (f : Nat → Int32) (sp dp k : Nat) (h : sp + k < dp ∨ dp ≤ sp) : upd (va_cpy f f sp dp k) (dp + k) (va_cpy f f sp dp k (sp + k)) = va_cpy f f sp dp (k + 1) := by
  have h1 : va_cpy f f sp dp k (sp + k) = f (sp + k) := pk_cpy_out (by omega)
  rw [h1]
  funext j
  by_cases hj : j = dp + k
  · subst hj
    rw [pk_us, pk_cpy_in (by omega) (by omega)]
    congr 1; omega
  · rw [pk_un hj]
    by_cases hin : dp ≤ j ∧ j < dp + k
    · rw [pk_cpy_in hin.1 hin.2, pk_cpy_in hin.1 (by omega)]
    · rw [pk_cpy_out (by omega), pk_cpy_out (by omega)]
