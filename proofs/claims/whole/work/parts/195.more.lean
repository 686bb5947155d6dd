theorem flt_len {L : List En} {f : En → Bool} : (L.filter f).length ≤ L.length := List.length_filter_le _ _
theorem flt_csum {L : List En} {f : En → Bool} : csum (L.filter f) ≤ csum L := by
  induction L with
  | nil => exact Nat.le_refl _
  | cons u L ih =>
    rw [List.filter_cons]
    split
    · simp only [csum]; omega
    · simp only [csum]; omega
theorem flt_one {f : En → Bool} {u : En} (h : f u = true) : [u].filter f = [u] := by simp [h]
theorem flt_no {f : En → Bool} {u : En} (h : f u = false) : [u].filter f = [] := by simp [h]
