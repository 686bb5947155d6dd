/-! The reference object as it begins. -/
theorem RT_0 : RT (fun _ => 0) (fun _ => 0) (fun _ => 0) (fun _ => 0) (fun _ => 0) (fun _ => 0) (fun _ => 0) (fun _ => 0) (fun _ => 0) (fun _ => 0) (fun _ => []) := by
  intro t ht
  exact ⟨rfl, rfl, Nat.zero_le _, Nat.zero_le _, fun i hi => absurd hi (Nat.not_lt_zero _)⟩
theorem RW_0 {cI : ClassId} {x : Nat} {q : Nat → Nat} {w : va_W} (h : w = rwx cI x q (nI 0) (nI 0) (nI 0) (nI 0) (nI 0) (nI 0) (nI 0) (bI false) (nI 0) (fun _ => 0) (fun _ => 0) (fun _ => 0) (fun _ => 0) (fun _ => 0) (fun _ => 0) (fun _ => 0) (fun _ => 0) (fun _ => 0) (fun _ => 0) (fun _ => 0) (fun _ => 0) (fun _ => 0) (fun _ => 0) (fun _ => 0)) : RW cI x q w (nI 0) (fun _ => []) [] (List.replicate 20 0) false [] 0 0 0 0 (nI 0) (fun _ => 0) (fun _ => 0) :=
  ⟨nI 0, _, _, _, _, _, _, _, _, _, _, _, _, _, h, RT_0, ⟨fun k hk => absurd hk (Nat.not_lt_zero _), Nat.zero_le _, fun b hb => (by cases hb)⟩, ⟨fun k hk => (by rw [gd_rep]; rfl), List.length_replicate, fun b hb => (by rw [List.eq_of_mem_replicate hb]; omega)⟩, fun h => (by cases h)⟩
