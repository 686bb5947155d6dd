/-! Rows for make, write, step, regress, and the object's beginning. -/
theorem nowI_ge (f0 : Int32) (n cl : Nat) : (cl : Int) ≤ nowI f0 n cl ∧ f0.toInt + n ≤ nowI f0 n cl ∧ (nowI f0 n cl = cl ∨ nowI f0 n cl = f0.toInt + n) := by
  unfold nowI
  split <;> omega
theorem nowI_ovl {f0 : Int32} {a : Nat} {C T : List Nat} (h : (a : Int) = f0.toInt) (ha : a ≤ C.length) : nowI f0 T.length C.length = ((ovl C a T).length : Int) := by
  rw [ovl_len ha]
  unfold nowI
  split <;> split <;> omega
theorem dirC_f {L : List En} {P : List Nat} {k : Nat} (hl : L.length < 2 ^ 31) (h : lsl P P.length = some k) (hn : ¬ (0 ≤ (fnd2 L (P.take k)).toInt ∧ (fnd2 L (P.take k)).toInt < L.length)) : dirC L P = false := by
  rw [dirC_some h, decide_eq_false]
  rintro ⟨h1, -⟩
  rcases fnd2_or L (P.take k) with ⟨h2, -⟩ | ⟨h2, h3, -⟩
  · rw [h2] at h1; exact absurd h1 (by decide)
  · rw [h2, nI_toInt (by omega)] at hn; omega
theorem i32_2 {x : Int32} : x = 2 ↔ x.toInt = 2 := ⟨fun h => by rw [h]; rfl, fun h => Int32.toInt_inj.mp (by rw [h]; rfl)⟩
theorem dirC_k {L : List En} {P : List Nat} {k i : Nat} (hl : L.length < 2 ^ 31) (h : lsl P P.length = some k) (hk : fnd2 L (P.take k) = nI i) (hi : i < L.length) : dirC L P = decide ((L.getD i e0).2.1.toInt = 2) := by
  rw [dirC_some h, hk, nI_toInt (by omega), Int.toNat_natCast]
  exact decide_eq_decide.mpr ⟨fun q => i32_2.mp q.2, fun q => ⟨by omega, i32_2.mpr q⟩⟩
theorem bArr_nil {w : va_W} {cB : ClassId} {a : Nat} {f : Nat → Int32} (h : (a, .inl (cB, 0, .inl f)) ∈ w) : bArr w cB a [] := ⟨f, h, fun k hk => absurd hk (Nat.not_lt_zero _), fun b hb => (by cases hb), by simp⟩
theorem srt_put {L : List En} {u : En} (hs : srt L) (h : ¬ fd9 u.1 L) : srt (putL L u) := by
  rw [putL_new h]
  exact srt_P.mpr (sP_ins (srt_P.mp hs) h).1
theorem tRows_nil {w : va_W} {cB : ClassId} {f : Nat → Option Nat} : tRows w cB f [] := ⟨by simp, fun i hi => absurd hi (Nat.not_lt_zero _), fun i hi => absurd hi (Nat.not_lt_zero _), by simp [csum]⟩
theorem gd_rep {n k : Nat} : (List.replicate n (0 : Nat)).getD k 0 = 0 := by
  rw [List.getD_eq_getElem?_getD, List.getElem?_replicate]
  split <;> rfl
theorem tpR_0 : tpR (fun _ => 0) [] := ⟨List.replicate 400 0, List.length_replicate, fun k hk => (by rw [gd_rep]; rfl), fun b hb => (by rw [List.eq_of_mem_replicate hb]; omega), Nat.zero_le _, List.take_zero⟩
