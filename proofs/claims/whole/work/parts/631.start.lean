/-! What the Statement gives at the law's entry, in the words used here. -/
theorem arr_p {args : Array Value} {s : State} {ty : FieldType} (h : (Cond.arrayClass ty).before args s = true) : ∃ cA : ClassId, ArrOfT s cA ty ∧ s.vm.findClass ("[" ++ ty.toString) = some cA := by
  obtain ⟨c9, k, comp, h1, h2, h3⟩ := Cond.arrayClass_spec h
  exact ⟨c9, fun n z => ⟨fun k h => (by cases h), k, h2, comp, h3⟩, h1⟩
theorem arr_o {args : Array Value} {s : State} {C : String} (h : (Cond.arrayOver (.object C)).before args s = true) : ∃ cA : ClassId, ArrOfT s cA (.object C) ∧ va_RA s cA (.object C) := by
  obtain ⟨comp, c9, k, h1, h2, h3, h4, h5⟩ := Cond.arrayOver_spec h
  exact ⟨c9, fun n z => ⟨fun k h => (by cases h), k, h3, comp, h4⟩, k, comp, h3, h4, h1, h5⟩
theorem cNw_in : ∀ w ∈ cNw, w ∈ lw_tbl := by decide +kernel
theorem cSt_in : ∀ q ∈ cSt, Cond.stringRef RX8 q.1 q.2 ∈ lw_tbl := by decide +kernel
section STT
variable {s : State} {b : Nat}
theorem st_cT (hts0 : ∀ w ∈ lw_tbl, w.before #[Value.ref b] s = true) (hex : ∀ q ∈ cSt, (Cond.exactly (.string RX8 q.1) "java/lang/String").before #[Value.ref b] s = true) : cT s := by
  refine ⟨(hts0 (.arrayOver (.object RX1)) (by decide +kernel)), (hts0 (.arrayOver (.object RX4)) (by decide +kernel)), fun w hw => va_tabs (cNw_on w hw) rfl (hts0 w (cNw_in w hw)), fun q hq => ?_⟩
  obtain ⟨a, cQ, cell, kQ, ha, -⟩ := Cond.exactly_spec (hex q hq)
  exact ⟨a, vk_R.of (hts0 _ (cSt_in q hq)) ha⟩
theorem st_xU (hts0 : ∀ w ∈ lw_tbl, w.before #[Value.ref b] s = true) (h1 : (Cond.isRef (.static Bundle.tN "UNASSIGNED_STACK" Bundle.steD)).before #[Value.ref b] s = true) (h2 : (Cond.isRef (.static Bundle.tN "SUPPRESSED_SENTINEL" Bundle.listD)).before #[Value.ref b] s = true) : xU (fun q => s.heap.size ≤ q) s s.heap :=
  ⟨vx_Zqof (hts0 (.laysStatic Bundle.tN "UNASSIGNED_STACK" Bundle.steD) (by decide +kernel)) (hts0 (.initialized Bundle.tN) (by decide +kernel)) h1 (fun a h1 h2 => absurd h2 (Nat.not_le.mpr h1)), vx_Zqof (hts0 (.laysStatic Bundle.tN "SUPPRESSED_SENTINEL" Bundle.listD) (by decide +kernel)) (hts0 (.initialized Bundle.tN) (by decide +kernel)) h2 (fun a h1 h2 => absurd h2 (Nat.not_le.mpr h1))⟩
end STT
theorem JT_nil : JT [] := ⟨fun i j _ h => absurd h (Nat.not_lt_zero _), Nat.zero_le _, Nat.zero_le _⟩
theorem J9_0 : J9 (fun _ => []) [] [] (nI 0) 0 0 0 0 0 (nI 0) (fun _ => 0) (fun _ => 0) :=
  ⟨⟨JT_nil, fun i h => absurd h (Nat.not_lt_zero _)⟩, JT_nil, JT_nil, ⟨rfl, Nat.zero_le _, fun k h => absurd h (Nat.not_lt_zero _)⟩, ⟨Nat.zero_le _, Nat.zero_le _, Nat.zero_le _, Nat.zero_le _⟩, fun _ => ⟨rfl, JT_nil⟩, fun h => absurd rfl h, fun h => absurd h (by decide)⟩
theorem cSt_ex : ∀ q ∈ cSt, Cond.exactly (.string RX8 q.1) "java/lang/String" ∈ flatC (Jvm.Cond.and given_1 narrow_1) := by decide +kernel
