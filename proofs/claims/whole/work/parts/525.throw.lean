/-! Rows for the face's methods that may throw. -/
theorem csum_set {L : List En} {i : Nat} {u : En} (h : i < L.length) : csum (L.set i u) + (ct (L.getD i e0)).length = csum L + (ct u).length := by
  have h1 := set_csum (u := u) h L.length (Nat.le_refl _)
  rw [List.take_of_length_le (by rw [List.length_set]; exact Nat.le_refl _), List.take_of_length_le (Nat.le_refl _), if_pos h, if_pos h] at h1
  exact h1
theorem rp_rows {pl : va_W} {cB : ClassId} {f : Nat → Option Nat} {L : List En} {k v : Nat} {u : En} (h : tRows pl cB f L) (hk : k < L.length) (hp : pEnt pl cB v u) (he : u.1 = (L.getD k e0).1) (hcs : csum L + (ct u).length ≤ 8000 + (ct (L.getD k e0)).length) : tRows pl cB (va_up f k (some v)) (L.set k u) :=
  repF_rows h hk hp (by rw [he]; exact h.2.2.1 k hk) (by have := csum_set (u := u) hk; omega)
theorem cpyL_tk9 {P : List Nat} {n : Nat} (h : n ≤ P.length) : cpyL P n = P.take n := by
  unfold cpyL
  rw [show n - P.length = 0 by omega]
  simp
theorem lmax_toInt {x y : Int64} {a b : Int} (hx : x.toInt = a) (hy : y.toInt = b) : (if y < x then x else y).toInt = if a < b then b else a := by
  have hlt : y < x ↔ b < a := by rw [Int64.lt_iff_toInt_lt, hx, hy]
  by_cases h : b < a
  · rw [if_pos (hlt.mpr h), hx, if_neg (by omega)]
  · rw [if_neg (fun q => h (hlt.mp q)), hy]
    by_cases h2 : a < b
    · rw [if_pos h2]
    · rw [if_neg h2]; omega
theorem cnt_ok {L : List En} {k : Nat} (h : k < L.length) (top : List Nat) : k + (1 + cntB top (L.drop (k + 1))) ≤ L.length := by
  have := cntB_le top (L.drop (k + 1))
  rw [List.length_drop] at this
  omega
theorem fnd2_m1 {L : List En} {P : List Nat} (hl : L.length < 2 ^ 31) (h : (fnd2 L P).toInt = -1) : ¬ (insI P L < L.length ∧ (L.getD (insI P L) e0).1 = P) := fun h1 => by
  rw [fnd2, if_pos h1, nI_toInt (by omega)] at h
  omega
theorem putL_new {L : List En} {u : En} (h : ¬ (insI u.1 L < L.length ∧ (L.getD (insI u.1 L) e0).1 = u.1)) : putL L u = insL L (insI u.1 L) u := by rw [putL, if_neg h]
theorem i32_rng (x : Int32) : -2147483648 ≤ x.toInt ∧ x.toInt < 2147483648 := ⟨Int32.le_toInt x, Int32.toInt_lt x⟩
theorem ix_io {n k : Nat} {ix : Int32} (h : ix = nI k) (hk : k < n) (hl : n < 2 ^ 31) : 0 ≤ ix.toInt ∧ ix.toInt < n := (ix_in h hk hl).1
