set_option maxHeartbeats 4000000 in
set_option maxRecDepth 100000 in
theorem O_feed {p : Program} {l : Launch} {e : Env} {s : State} {m : MethodId} {args : Array Value} {below : List Frame} {meth : Method} {c : Code} {b L : Nat} {xs : Nat → Int32} {G : va_G} {tys : List (ClassId × FieldType)} {cB cI cE cS cJ : ClassId} {z q : Nat → Nat} {x out : Nat} {Q : State → Prop} {cells slots : Nat} (C : lwX p l s m args c b L xs G tys cB cI cE cS cJ) {i : Nat} (hi : i + 6 ≤ L) (hcl : cells + 4 ≤ 601024 ∧ slots + 3006 ≤ 7293034) {th : Int32} {X w pl : va_W} {fo : Nat → Int64} {H : Heap} {locs : List Loc} {ls : Array Slot} (hS : Sim cB cI cE cS z q x th X w pl) (hR : rR G (fun q : Nat => s.heap.size ≤ q) s.heap H locs (((X ++ [(out, .inl (cJ, 1, .inr (.inl fo)))]) ++ w) ++ pl)) (hl : lv_has ls 7 [(4, .int (nI i)), (0, .ref b), (1, .ref (z 0)), (2, .ref x), (3, .ref out)]) (hback : ∀ (th : Int32) (X w pl : va_W) (fo : Nat → Int64) (H : Heap) (locs : List Loc) (ls : Array Slot), Sim cB cI cE cS z q x th X w pl → rR G (fun q : Nat => s.heap.size ≤ q) s.heap H locs (((X ++ [(out, .inl (cJ, 1, .inr (.inl fo)))]) ++ w) ++ pl) → lv_has ls 7 [(4, .int (nI i)), (0, .ref b), (1, .ref (z 0)), (2, .ref x), (3, .ref out)] → W p l e room_1 s m args below meth c H locs (cells + 4) (slots + 3006) Q (F0 m 1010 ls [])) : W p l e room_1 s m args below meth c H locs cells slots Q (F0 m 132 ls []) := by
  obtain ⟨hx, hb, hml, hown, hts, hT, hK, hJ9, hZ, hU, hn1, hn2, hX, hbl, hlt, hL⟩ := C
  have hA : ∀ q : Nat, s.heap.size ≤ q → (fun q : Nat => s.heap.size ≤ q) q := fun _ h => h
  have hbA : ¬ (fun q : Nat => s.heap.size ≤ q) b := Nat.not_le.mpr hbl
  have hTi : tys[1]? = some (cI, .int) := by rw [hT]; rfl
  obtain ⟨T, rd, Sn, Cw, C2, tm0, dn, st, Ts, cs, cp, ops, cg, ns, bg, sT, sC, hk, hw, hJ⟩ := id hS
  obtain ⟨⟨⟨hs0, hl0, hc0⟩, hu0⟩, hT3, hT4, hH, ⟨hst, hdn, hcg, hop⟩, hr0, hw0, hnn⟩ := id hJ
  have hbd := hw.bd
  have hb1 := (hbd.1 1 (by decide)).1
  have hns := hH.2.1
  have hopc : ops ≤ 2 * cg + 3 := by
    by_cases h0 : st = 0
    · have := (hr0 h0).1; omega
    · exact (hw0 h0).2.2.2.2.1
  obtain ⟨fs, hm⟩ := hk.mem
  obtain ⟨fs9, hm9⟩ := hw.mem
  refine lv_aload_n hx hb dL_law_132 rfl (lv_at hl 2 rfl) ?_
  refine lv_aload_n hx hb dL_law_133 rfl (lv_at hl 1 rfl) ?_
  refine lv_iload hx hb dL_law_134 (lv_at hl 0 rfl) ?_
  refine lv_iconst (v := nI 1) hx hb dL_law_136 rfl ?_
  refine nn_add hx hb dL_law_137 ?_
  refine va_sld hx hb hX hbl hbA hR.2.2 (vp_in_nI (by omega) (by omega)) dL_law_138 ?_
  refine nn_eqi (y := xs (i + 1)) (by rw [nI_clamp (by omega)]) ?_
  refine lv_aload_n hx hb dL_law_139 rfl (lv_at hl 1 rfl) ?_
  refine lv_iload hx hb dL_law_140 (lv_at hl 0 rfl) ?_
  refine lv_iconst (v := nI 2) hx hb dL_law_142 rfl ?_
  refine nn_add hx hb dL_law_143 ?_
  refine va_sld hx hb hX hbl hbA hR.2.2 (vp_in_nI (by omega) (by omega)) dL_law_144 ?_
  refine nn_eqi (y := xs (i + 2)) (by rw [nI_clamp (by omega)]) ?_
  refine lv_aload_n hx hb dL_law_145 rfl (lv_at hl 1 rfl) ?_
  refine lv_iload hx hb dL_law_146 (lv_at hl 0 rfl) ?_
  refine lv_iconst (v := nI 3) hx hb dL_law_148 rfl ?_
  refine nn_add hx hb dL_law_149 ?_
  refine va_sld hx hb hX hbl hbA hR.2.2 (vp_in_nI (by omega) (by omega)) dL_law_150 ?_
  refine nn_eqi (y := xs (i + 3)) (by rw [nI_clamp (by omega)]) ?_
  refine lv_aload_n hx hb dL_law_151 rfl (lv_at hl 1 rfl) ?_
  refine lv_iload hx hb dL_law_152 (lv_at hl 0 rfl) ?_
  refine lv_iconst (v := nI 4) hx hb dL_law_154 rfl ?_
  refine nn_add hx hb dL_law_155 ?_
  refine va_sld hx hb hX hbl hbA hR.2.2 (vp_in_nI (by omega) (by omega)) dL_law_156 ?_
  refine nn_eqi (y := xs (i + 4)) (by rw [nI_clamp (by omega)]) ?_
  refine lv_aload_n hx hb dL_law_157 rfl (lv_at hl 1 rfl) ?_
  refine lv_iload hx hb dL_law_158 (lv_at hl 0 rfl) ?_
  refine lv_iconst (v := nI 5) hx hb dL_law_160 rfl ?_
  refine nn_add hx hb dL_law_161 ?_
  refine va_sld hx hb hX hbl hbA hR.2.2 (vp_in_nI (by omega) (by omega)) dL_law_162 ?_
  refine nn_eqi (y := xs (i + 5)) (by rw [nI_clamp (by omega)]) ?_
  have hR1 : rR G (fun q : Nat => s.heap.size ≤ q) s.heap H locs ((X ++ ([(out, .inl (cJ, 1, .inr (.inl fo)))] ++ w)) ++ pl) := by rw [← List.append_assoc]; exact hR
  refine xl_callV (C := RX8) (As := [.int (xs (i + 1)), .int (xs (i + 2)), .int (xs (i + 3)), .int (xs (i + 4)), .int (xs (i + 5))]) (rest := []) (cx := X) (wr := [(out, .inl (cJ, 1, .inr (.inl fo)))] ++ w) (K_feed l hT hk (xs (i + 1)) (xs (i + 2)) (xs (i + 3)) (xs (i + 4)) (xs (i + 5))) ⟨hx, hb, hml, hown, hts⟩ (cwV 5 hts gL_law_X8_feed rfl rfl rfl (by decide +kernel) ⟨Nat.le_of_ble_eq_true rfl, Nat.le_of_ble_eq_true rfl⟩) hK hZ hR1 hA (xrecv (ci := 7) hK hR1.1 rfl (List.mem_append_left _ (List.mem_append_left _ hm))) rfl hl.1 rfl (Nat.le_of_ble_eq_true rfl) dL_law_163 ⟨(by show cells + 0 ≤ 601024; omega), (by show slots + 0 ≤ 7293034; omega)⟩ (fun o9 X1 nw H locs h1 hR => ?_)
  have hR : rR G (fun q : Nat => s.heap.size ≤ q) s.heap H locs (((X1 ++ [(out, .inl (cJ, 1, .inr (.inl fo)))]) ++ w) ++ (pl ++ nw)) := by rw [List.append_assoc X1]; exact hR
  obtain rfl : o9 = none := h1.1
  refine lv_aload_n hx hb dL_law_166 rfl (lv_at hl 3 rfl) ?_
  refine lv_aload_n hx hb dL_law_167 rfl (lv_at hl 1 rfl) ?_
  refine lv_iload hx hb dL_law_168 (lv_at hl 0 rfl) ?_
  refine lv_iconst (v := nI 1) hx hb dL_law_170 rfl ?_
  refine nn_add hx hb dL_law_171 ?_
  refine va_sld hx hb hX hbl hbA hR.2.2 (vp_in_nI (by omega) (by omega)) dL_law_172 ?_
  refine nn_eqi (y := xs (i + 1)) (by rw [nI_clamp (by omega)]) ?_
  refine lv_aload_n hx hb dL_law_173 rfl (lv_at hl 1 rfl) ?_
  refine lv_iload hx hb dL_law_174 (lv_at hl 0 rfl) ?_
  refine lv_iconst (v := nI 2) hx hb dL_law_176 rfl ?_
  refine nn_add hx hb dL_law_177 ?_
  refine va_sld hx hb hX hbl hbA hR.2.2 (vp_in_nI (by omega) (by omega)) dL_law_178 ?_
  refine nn_eqi (y := xs (i + 2)) (by rw [nI_clamp (by omega)]) ?_
  refine lv_aload_n hx hb dL_law_179 rfl (lv_at hl 1 rfl) ?_
  refine lv_iload hx hb dL_law_180 (lv_at hl 0 rfl) ?_
  refine lv_iconst (v := nI 3) hx hb dL_law_182 rfl ?_
  refine nn_add hx hb dL_law_183 ?_
  refine va_sld hx hb hX hbl hbA hR.2.2 (vp_in_nI (by omega) (by omega)) dL_law_184 ?_
  refine nn_eqi (y := xs (i + 3)) (by rw [nI_clamp (by omega)]) ?_
  refine lv_aload_n hx hb dL_law_185 rfl (lv_at hl 1 rfl) ?_
  refine lv_iload hx hb dL_law_186 (lv_at hl 0 rfl) ?_
  refine lv_iconst (v := nI 4) hx hb dL_law_188 rfl ?_
  refine nn_add hx hb dL_law_189 ?_
  refine va_sld hx hb hX hbl hbA hR.2.2 (vp_in_nI (by omega) (by omega)) dL_law_190 ?_
  refine nn_eqi (y := xs (i + 4)) (by rw [nI_clamp (by omega)]) ?_
  refine lv_aload_n hx hb dL_law_191 rfl (lv_at hl 1 rfl) ?_
  refine lv_iload hx hb dL_law_192 (lv_at hl 0 rfl) ?_
  refine lv_iconst (v := nI 5) hx hb dL_law_194 rfl ?_
  refine nn_add hx hb dL_law_195 ?_
  refine va_sld hx hb hX hbl hbA hR.2.2 (vp_in_nI (by omega) (by omega)) dL_law_196 ?_
  refine nn_eqi (y := xs (i + 5)) (by rw [nI_clamp (by omega)]) ?_
  refine xl_callV (C := RX9) (As := [.int (xs (i + 1)), .int (xs (i + 2)), .int (xs (i + 3)), .int (xs (i + 4)), .int (xs (i + 5))]) (rest := []) (cx := w) (wr := X1 ++ [(out, .inl (cJ, 1, .inr (.inl fo)))]) (r2c (F_feed l hTi hw (xs (i + 1)) (xs (i + 2)) (xs (i + 3)) (xs (i + 4)) (xs (i + 5)))) ⟨hx, hb, hml, hown, hts⟩ (cwV 5 hts gL_law_X9_feed rfl rfl rfl (by decide +kernel) ⟨Nat.le_of_ble_eq_true rfl, Nat.le_of_ble_eq_true rfl⟩) hK hZ (rR_swap hR) hA (xrecv (ci := 8) hK hR.1 rfl (List.mem_append_left _ (List.mem_append_right _ hm9))) rfl hl.1 rfl (Nat.le_of_ble_eq_true rfl) dL_law_197 ⟨(by show cells + 0 + 0 ≤ 601024; omega), (by show slots + 0 + 0 ≤ 7293034; omega)⟩ (fun r w1 nw1 H locs h2 hR => ?_)
  obtain ⟨rfl, h2⟩ := h2
  rw [List.append_nil] at hR
  have hR : rR G (fun q : Nat => s.heap.size ≤ q) s.heap H locs (((X1 ++ [(out, .inl (cJ, 1, .inr (.inl fo)))]) ++ w1) ++ (pl ++ nw)) := rR_swap hR
  obtain rfl : r = none := h2.1
  have hS := J_feed (rd := rd) hJ h1 h2
  refine lv_goto (tgt := 1010) hx hb dL_law_200 (by decide) ?_
  refine W.widen (k := cells + 4) (n := slots + 3006) (by show cells + 0 + 0 ≤ cells + 4; omega) (by show slots + 0 + 0 ≤ slots + 3006; omega) ?_
  exact hback _ _ _ _ _ _ _ _ hS hR (lv_sub hl [0, 1, 2, 3, 4] rfl)
set_option maxHeartbeats 4000000 in
set_option maxRecDepth 100000 in
theorem O_end {p : Program} {l : Launch} {e : Env} {s : State} {m : MethodId} {args : Array Value} {below : List Frame} {meth : Method} {c : Code} {b L : Nat} {xs : Nat → Int32} {G : va_G} {tys : List (ClassId × FieldType)} {cB cI cE cS cJ : ClassId} {z q : Nat → Nat} {x out : Nat} {Q : State → Prop} {cells slots : Nat} (C : lwX p l s m args c b L xs G tys cB cI cE cS cJ) {i : Nat} (hi : i + 6 ≤ L) (hcl : cells + 4 ≤ 601024 ∧ slots + 3006 ≤ 7293034) {th : Int32} {X w pl : va_W} {fo : Nat → Int64} {H : Heap} {locs : List Loc} {ls : Array Slot} (hS : Sim cB cI cE cS z q x th X w pl) (hR : rR G (fun q : Nat => s.heap.size ≤ q) s.heap H locs (((X ++ [(out, .inl (cJ, 1, .inr (.inl fo)))]) ++ w) ++ pl)) (hl : lv_has ls 7 [(4, .int (nI i)), (0, .ref b), (1, .ref (z 0)), (2, .ref x), (3, .ref out)]) (hback : ∀ (th : Int32) (X w pl : va_W) (fo : Nat → Int64) (H : Heap) (locs : List Loc) (ls : Array Slot), Sim cB cI cE cS z q x th X w pl → rR G (fun q : Nat => s.heap.size ≤ q) s.heap H locs (((X ++ [(out, .inl (cJ, 1, .inr (.inl fo)))]) ++ w) ++ pl) → lv_has ls 7 [(4, .int (nI i)), (0, .ref b), (1, .ref (z 0)), (2, .ref x), (3, .ref out)] → W p l e room_1 s m args below meth c H locs (cells + 4) (slots + 3006) Q (F0 m 1010 ls [])) : W p l e room_1 s m args below meth c H locs cells slots Q (F0 m 203 ls []) := by
  obtain ⟨hx, hb, hml, hown, hts, hT, hK, hJ9, hZ, hU, hn1, hn2, hX, hbl, hlt, hL⟩ := C
  have hA : ∀ q : Nat, s.heap.size ≤ q → (fun q : Nat => s.heap.size ≤ q) q := fun _ h => h
  have hbA : ¬ (fun q : Nat => s.heap.size ≤ q) b := Nat.not_le.mpr hbl
  have hTi : tys[1]? = some (cI, .int) := by rw [hT]; rfl
  obtain ⟨T, rd, Sn, Cw, C2, tm0, dn, st, Ts, cs, cp, ops, cg, ns, bg, sT, sC, hk, hw, hJ⟩ := id hS
  obtain ⟨⟨⟨hs0, hl0, hc0⟩, hu0⟩, hT3, hT4, hH, ⟨hst, hdn, hcg, hop⟩, hr0, hw0, hnn⟩ := id hJ
  have hbd := hw.bd
  have hb1 := (hbd.1 1 (by decide)).1
  have hns := hH.2.1
  have hopc : ops ≤ 2 * cg + 3 := by
    by_cases h0 : st = 0
    · have := (hr0 h0).1; omega
    · exact (hw0 h0).2.2.2.2.1
  obtain ⟨fs, hm⟩ := hk.mem
  obtain ⟨fs9, hm9⟩ := hw.mem
  refine lv_aload_n hx hb dL_law_203 rfl (lv_at hl 2 rfl) ?_
  refine lv_aload_n hx hb dL_law_204 rfl (lv_at hl 1 rfl) ?_
  refine lv_iload hx hb dL_law_205 (lv_at hl 0 rfl) ?_
  refine lv_iconst (v := nI 1) hx hb dL_law_207 rfl ?_
  refine nn_add hx hb dL_law_208 ?_
  refine va_sld hx hb hX hbl hbA hR.2.2 (vp_in_nI (by omega) (by omega)) dL_law_209 ?_
  refine nn_eqi (y := xs (i + 1)) (by rw [nI_clamp (by omega)]) ?_
  have hR1 : rR G (fun q : Nat => s.heap.size ≤ q) s.heap H locs ((X ++ ([(out, .inl (cJ, 1, .inr (.inl fo)))] ++ w)) ++ pl) := by rw [← List.append_assoc]; exact hR
  refine xl_callV (C := RX8) (As := [.int (xs (i + 1))]) (rest := []) (cx := X) (wr := [(out, .inl (cJ, 1, .inr (.inl fo)))] ++ w) (K_end l hT hk (xs (i + 1))) ⟨hx, hb, hml, hown, hts⟩ (cwV 1 hts gL_law_X8_end rfl rfl rfl (by decide +kernel) ⟨Nat.le_of_ble_eq_true rfl, Nat.le_of_ble_eq_true rfl⟩) hK hZ hR1 hA (xrecv (ci := 7) hK hR1.1 rfl (List.mem_append_left _ (List.mem_append_left _ hm))) rfl hl.1 rfl (Nat.le_of_ble_eq_true rfl) dL_law_210 ⟨(by show cells + 0 ≤ 601024; omega), (by show slots + 0 ≤ 7293034; omega)⟩ (fun o9 X1 nw H locs h1 hR => ?_)
  have hR : rR G (fun q : Nat => s.heap.size ≤ q) s.heap H locs (((X1 ++ [(out, .inl (cJ, 1, .inr (.inl fo)))]) ++ w) ++ (pl ++ nw)) := by rw [List.append_assoc X1]; exact hR
  obtain ⟨v1, rfl⟩ : ∃ v, o9 = some (.int v) := by rcases h1 with ⟨-, rfl, -⟩ | ⟨-, rfl, -⟩ <;> exact ⟨_, rfl⟩
  refine lv_aload_n hx hb dL_law_213 rfl (lv_at hl 3 rfl) ?_
  refine lv_aload_n hx hb dL_law_214 rfl (lv_at hl 1 rfl) ?_
  refine lv_iload hx hb dL_law_215 (lv_at hl 0 rfl) ?_
  refine lv_iconst (v := nI 1) hx hb dL_law_217 rfl ?_
  refine nn_add hx hb dL_law_218 ?_
  refine va_sld hx hb hX hbl hbA hR.2.2 (vp_in_nI (by omega) (by omega)) dL_law_219 ?_
  refine nn_eqi (y := xs (i + 1)) (by rw [nI_clamp (by omega)]) ?_
  refine xl_callV (C := RX9) (As := [.int (xs (i + 1))]) (rest := [.int v1]) (cx := w) (wr := X1 ++ [(out, .inl (cJ, 1, .inr (.inl fo)))]) (r2c (F_end l hTi hw (xs (i + 1)))) ⟨hx, hb, hml, hown, hts⟩ (cwV 1 hts gL_law_X9_end rfl rfl rfl (by decide +kernel) ⟨Nat.le_of_ble_eq_true rfl, Nat.le_of_ble_eq_true rfl⟩) hK hZ (rR_swap hR) hA (xrecv (ci := 8) hK hR.1 rfl (List.mem_append_left _ (List.mem_append_right _ hm9))) rfl hl.1 rfl (Nat.le_of_ble_eq_true rfl) dL_law_220 ⟨(by show cells + 0 + 0 ≤ 601024; omega), (by show slots + 0 + 0 ≤ 7293034; omega)⟩ (fun r w1 nw1 H locs h2 hR => ?_)
  obtain ⟨rfl, h2⟩ := h2
  rw [List.append_nil] at hR
  have hR : rR G (fun q : Nat => s.heap.size ≤ q) s.heap H locs (((X1 ++ [(out, .inl (cJ, 1, .inr (.inl fo)))]) ++ w1) ++ (pl ++ nw)) := rR_swap hR
  obtain ⟨v, e1, rfl, hS⟩ := J_end hJ h1 h2
  cases e1
  refine lv_icmp_eq (tgt := 1010) hx hb dL_law_223 (by decide) (fun c_1 => ?_) (fun c_1 => ?_)
  · refine W.widen (k := cells + 4) (n := slots + 3006) (by show cells + 0 + 0 ≤ cells + 4; omega) (by show slots + 0 + 0 ≤ slots + 3006; omega) ?_
    exact hback _ _ _ _ _ _ _ _ hS hR (lv_sub hl [0, 1, 2, 3, 4] rfl)
  · exact absurd rfl c_1
set_option maxHeartbeats 4000000 in
set_option maxRecDepth 100000 in
theorem O_make {p : Program} {l : Launch} {e : Env} {s : State} {m : MethodId} {args : Array Value} {below : List Frame} {meth : Method} {c : Code} {b L : Nat} {xs : Nat → Int32} {G : va_G} {tys : List (ClassId × FieldType)} {cB cI cE cS cJ : ClassId} {z q : Nat → Nat} {x out : Nat} {Q : State → Prop} {cells slots : Nat} (C : lwX p l s m args c b L xs G tys cB cI cE cS cJ) {i : Nat} (hi : i + 6 ≤ L) (hcl : cells + 4 ≤ 601024 ∧ slots + 3006 ≤ 7293034) {th : Int32} {X w pl : va_W} {fo : Nat → Int64} {H : Heap} {locs : List Loc} {ls : Array Slot} (hS : Sim cB cI cE cS z q x th X w pl) (hR : rR G (fun q : Nat => s.heap.size ≤ q) s.heap H locs (((X ++ [(out, .inl (cJ, 1, .inr (.inl fo)))]) ++ w) ++ pl)) (hl : lv_has ls 7 [(4, .int (nI i)), (0, .ref b), (1, .ref (z 0)), (2, .ref x), (3, .ref out)]) (hback : ∀ (th : Int32) (X w pl : va_W) (fo : Nat → Int64) (H : Heap) (locs : List Loc) (ls : Array Slot), Sim cB cI cE cS z q x th X w pl → rR G (fun q : Nat => s.heap.size ≤ q) s.heap H locs (((X ++ [(out, .inl (cJ, 1, .inr (.inl fo)))]) ++ w) ++ pl) → lv_has ls 7 [(4, .int (nI i)), (0, .ref b), (1, .ref (z 0)), (2, .ref x), (3, .ref out)] → W p l e room_1 s m args below meth c H locs (cells + 4) (slots + 3006) Q (F0 m 1010 ls [])) : W p l e room_1 s m args below meth c H locs cells slots Q (F0 m 228 ls []) := by
  obtain ⟨hx, hb, hml, hown, hts, hT, hK, hJ9, hZ, hU, hn1, hn2, hX, hbl, hlt, hL⟩ := C
  have hA : ∀ q : Nat, s.heap.size ≤ q → (fun q : Nat => s.heap.size ≤ q) q := fun _ h => h
  have hbA : ¬ (fun q : Nat => s.heap.size ≤ q) b := Nat.not_le.mpr hbl
  have hTi : tys[1]? = some (cI, .int) := by rw [hT]; rfl
  obtain ⟨T, rd, Sn, Cw, C2, tm0, dn, st, Ts, cs, cp, ops, cg, ns, bg, sT, sC, hk, hw, hJ⟩ := id hS
  obtain ⟨⟨⟨hs0, hl0, hc0⟩, hu0⟩, hT3, hT4, hH, ⟨hst, hdn, hcg, hop⟩, hr0, hw0, hnn⟩ := id hJ
  have hbd := hw.bd
  have hb1 := (hbd.1 1 (by decide)).1
  have hns := hH.2.1
  have hopc : ops ≤ 2 * cg + 3 := by
    by_cases h0 : st = 0
    · have := (hr0 h0).1; omega
    · exact (hw0 h0).2.2.2.2.1
  obtain ⟨fs, hm⟩ := hk.mem
  obtain ⟨fs9, hm9⟩ := hw.mem
  refine lv_aload_n hx hb dL_law_228 rfl (lv_at hl 2 rfl) ?_
  refine lv_aload_n hx hb dL_law_229 rfl (lv_at hl 1 rfl) ?_
  refine lv_iload hx hb dL_law_230 (lv_at hl 0 rfl) ?_
  refine lv_iconst (v := nI 1) hx hb dL_law_232 rfl ?_
  refine nn_add hx hb dL_law_233 ?_
  refine va_sld hx hb hX hbl hbA hR.2.2 (vp_in_nI (by omega) (by omega)) dL_law_234 ?_
  refine nn_eqi (y := xs (i + 1)) (by rw [nI_clamp (by omega)]) ?_
  refine lv_aload_n hx hb dL_law_235 rfl (lv_at hl 1 rfl) ?_
  refine lv_iload hx hb dL_law_236 (lv_at hl 0 rfl) ?_
  refine lv_iconst (v := nI 2) hx hb dL_law_238 rfl ?_
  refine nn_add hx hb dL_law_239 ?_
  refine va_sld hx hb hX hbl hbA hR.2.2 (vp_in_nI (by omega) (by omega)) dL_law_240 ?_
  refine nn_eqi (y := xs (i + 2)) (by rw [nI_clamp (by omega)]) ?_
  refine lv_aload_n hx hb dL_law_241 rfl (lv_at hl 1 rfl) ?_
  refine lv_iload hx hb dL_law_242 (lv_at hl 0 rfl) ?_
  refine lv_iconst (v := nI 3) hx hb dL_law_244 rfl ?_
  refine nn_add hx hb dL_law_245 ?_
  refine va_sld hx hb hX hbl hbA hR.2.2 (vp_in_nI (by omega) (by omega)) dL_law_246 ?_
  refine nn_eqi (y := xs (i + 3)) (by rw [nI_clamp (by omega)]) ?_
  refine lv_aload_n hx hb dL_law_247 rfl (lv_at hl 4 rfl) ?_
  refine xl_callH (As := [.ref (z 0), .int (xs (i + 1)), .int (xs (i + 2)), .int (xs (i + 3)), .ref out]) (rest := []) (cx := X ++ [(out, .inl (cJ, 1, .inr (.inl fo)))]) (wr := w) (H_make l hm (xs (i + 1)) (xs (i + 2)) (xs (i + 3)) (fun sz => K_make l hT hlt hk (xs (i + 1)) (xs (i + 2)) (xs (i + 3)) hst hs0) (fun o X1 nw h => ⟨_, h.2.2.2.1⟩) (fun E X1 nw h => by rcases h with ⟨rfl, -⟩ | ⟨rfl, -⟩ | ⟨rfl, -⟩ <;> first | exact Or.inl rfl | exact Or.inr rfl)) ⟨hx, hb, hml, hown, hts⟩ (vx_cwSW 5 hts gL_law_L_make rfl rfl rfl (by decide +kernel) ⟨Nat.le_of_ble_eq_true rfl, Nat.le_of_ble_eq_true rfl⟩) hK hZ hU hJ9 hn1 hn2 hR hA rfl hl.1 rfl (Nat.le_of_ble_eq_true rfl) dL_law_248 ⟨(by show cells + 4 ≤ 601024; omega), (by show slots + 3006 ≤ 7293034; omega)⟩ (fun ro Xh nw H locs h1 hR => ?_)
  obtain ⟨k, X1, f2, o9, rfl, hk2, rfl, h1, hf0⟩ := hPo_norm (by decide) h1
  refine lv_istore (lv' := [(5, .int (nI k)), (4, .int (nI i)), (0, .ref b), (1, .ref (z 0)), (2, .ref x), (3, .ref out)]) hx hb dL_law_251 hl (by decide) rfl (fun ls hl => ?_)
  refine lv_aload_n hx hb dL_law_253 rfl (lv_at hl 4 rfl) ?_
  refine lv_aload_n hx hb dL_law_254 rfl (lv_at hl 2 rfl) ?_
  refine lv_iload hx hb dL_law_255 (lv_at hl 1 rfl) ?_
  refine lv_iconst (v := nI 1) hx hb dL_law_257 rfl ?_
  refine nn_add hx hb dL_law_258 ?_
  refine va_sld hx hb hX hbl hbA hR.2.2 (vp_in_nI (by omega) (by omega)) dL_law_259 ?_
  refine nn_eqi (y := xs (i + 1)) (by rw [nI_clamp (by omega)]) ?_
  refine lv_aload_n hx hb dL_law_260 rfl (lv_at hl 2 rfl) ?_
  refine lv_iload hx hb dL_law_261 (lv_at hl 1 rfl) ?_
  refine lv_iconst (v := nI 2) hx hb dL_law_263 rfl ?_
  refine nn_add hx hb dL_law_264 ?_
  refine va_sld hx hb hX hbl hbA hR.2.2 (vp_in_nI (by omega) (by omega)) dL_law_265 ?_
  refine nn_eqi (y := xs (i + 2)) (by rw [nI_clamp (by omega)]) ?_
  refine lv_aload_n hx hb dL_law_266 rfl (lv_at hl 2 rfl) ?_
  refine lv_iload hx hb dL_law_267 (lv_at hl 1 rfl) ?_
  refine lv_iconst (v := nI 3) hx hb dL_law_269 rfl ?_
  refine nn_add hx hb dL_law_270 ?_
  refine va_sld hx hb hX hbl hbA hR.2.2 (vp_in_nI (by omega) (by omega)) dL_law_271 ?_
  refine nn_eqi (y := xs (i + 3)) (by rw [nI_clamp (by omega)]) ?_
  refine xl_callV (C := RX9) (As := [.int (xs (i + 1)), .int (xs (i + 2)), .int (xs (i + 3))]) (rest := []) (cx := w) (wr := X1 ++ [(out, .inl (cJ, 1, .inr (.inl f2)))]) (r2c (F_make l hTi hw (xs (i + 1)) (xs (i + 2)) (xs (i + 3)) hst hl0)) ⟨hx, hb, hml, hown, hts⟩ (cwV 3 hts gL_law_X9_make rfl rfl rfl (by decide +kernel) ⟨Nat.le_of_ble_eq_true rfl, Nat.le_of_ble_eq_true rfl⟩) hK hZ (rR_swap hR) hA (xrecv (ci := 8) hK hR.1 rfl (List.mem_append_left _ (List.mem_append_right _ hm9))) rfl hl.1 rfl (Nat.le_of_ble_eq_true rfl) dL_law_272 ⟨(by show cells + 4 + 0 ≤ 601024; omega), (by show slots + 3006 + 0 ≤ 7293034; omega)⟩ (fun r w1 nw1 H locs h2 hR => ?_)
  obtain ⟨rfl, h2⟩ := h2
  rw [List.append_nil] at hR
  have hR : rR G (fun q : Nat => s.heap.size ≤ q) s.heap H locs (((X1 ++ [(out, .inl (cJ, 1, .inr (.inl f2)))]) ++ w1) ++ (pl ++ nw)) := rR_swap hR
  obtain ⟨bb, rfl, hkb, hS⟩ := J_make hJ h1 h2
  refine lv_istore (lv' := [(6, .int bb), (5, .int (nI k)), (4, .int (nI i)), (0, .ref b), (1, .ref (z 0)), (2, .ref x), (3, .ref out)]) hx hb dL_law_275 hl (by decide) rfl (fun ls hl => ?_)
  refine lv_aload_n hx hb dL_law_277 rfl (lv_at hl 5 rfl) ?_
  obtain ⟨T8, rd8, Sn8, Cw8, C28, tm8, dn8, st8, Ts8, cs8, cp8, ops8, cg8, ns8, bg8, sT8, sC8, hk8, hw8, hJ8⟩ := id hS
  obtain ⟨fs8, hm8⟩ := hw8.mem
  refine xl_callV (C := RX9) (As := []) (rest := []) (cx := w1) (wr := X1 ++ [(out, .inl (cJ, 1, .inr (.inl f2)))]) (p2c (F_thrown l hTi (A := (fun q : Nat => s.heap.size ≤ q)) hw8)) ⟨hx, hb, hml, hown, hts⟩ (cwV 0 hts gL_law_X9_thrown rfl rfl rfl (by decide +kernel) ⟨Nat.le_of_ble_eq_true rfl, Nat.le_of_ble_eq_true rfl⟩) hK hZ (rR_swap hR) hA (xrecv (ci := 8) hK hR.1 rfl (List.mem_append_left _ (List.mem_append_right _ hm8))) rfl hl.1 rfl (Nat.le_of_ble_eq_true rfl) dL_law_278 ⟨(by show cells + 4 + 0 + 0 ≤ 601024; omega), (by show slots + 3006 + 0 + 0 ≤ 7293034; omega)⟩ (fun r8 w8 nw8 H locs h8 hR => ?_)
  obtain ⟨e8, e9, v8, rfl, rfl⟩ := h8
  rw [e8, e9, List.append_nil] at hR
  have hR : rR G (fun q : Nat => s.heap.size ≤ q) s.heap H locs (((X1 ++ [(out, .inl (cJ, 1, .inr (.inl f2)))]) ++ w1) ++ (pl ++ nw)) := rR_swap hR
  refine lv_iload hx hb dL_law_281 (lv_at hl 1 rfl) ?_
  refine nn_eq hx hb dL_law_283 (tgt := 288) (by decide) (by omega) (by omega) (fun c_1 => ?_) (fun c_1 => ?_)
  · refine lv_iload hx hb dL_law_288 (lv_at hl 1 rfl) ?_
    refine nz_ne hx hb dL_law_290 (tgt := 305) (by decide) (by omega) (fun c_2 => ?_) (fun c_2 => ?_)
    · refine lv_goto (tgt := 1010) hx hb dL_law_305 (by decide) ?_
      refine W.widen (k := cells + 4) (n := slots + 3006) (by show cells + 4 + 0 + 0 ≤ cells + 4; omega) (by show slots + 3006 + 0 + 0 ≤ slots + 3006; omega) ?_
      exact hback _ _ _ _ _ _ _ _ hS hR (lv_sub hl [2, 3, 4, 5, 6] rfl)
    · refine lv_aload_n hx hb dL_law_293 rfl (lv_at hl 6 rfl) ?_
      refine lv_iconst (v := nI 0) hx hb dL_law_294 rfl ?_
      have hfb : (f2 0).toInt = bb.toInt := by
        rw [hf0 (by omega) bb (hkb (by omega))]; exact i64 rfl
      refine va_lald hx hb hJ9 hR.1 X1.length 0 (by rw [List.append_assoc, List.append_assoc, List.getElem?_append_right (Nat.le_refl _), Nat.sub_self]; rfl) rfl (vp_in_nI (by decide) (by decide)) dL_law_295 ?_
      refine lv_iload hx hb dL_law_296 (lv_at hl 0 rfl) ?_
      refine lv_i2l hx hb dL_law_298 rfl ?_
      refine zl_eq hx hb (show (f2 (nI 0).toNatClampNeg).toInt = bb.toInt from hfb) (i64 rfl) dL_law_299 dL_law_300 (tgt := 305) (by decide) (fun c_3 => ?_) (fun c_3 => ?_)
      · refine lv_goto (tgt := 1010) hx hb dL_law_305 (by decide) ?_
        refine W.widen (k := cells + 4) (n := slots + 3006) (by show cells + 4 + 0 + 0 ≤ cells + 4; omega) (by show slots + 3006 + 0 + 0 ≤ slots + 3006; omega) ?_
        exact hback _ _ _ _ _ _ _ _ hS hR (lv_sub hl [2, 3, 4, 5, 6] rfl)
      · exact absurd rfl c_3
  · exact absurd rfl c_1
set_option maxHeartbeats 4000000 in
set_option maxRecDepth 100000 in
theorem O_choose {p : Program} {l : Launch} {e : Env} {s : State} {m : MethodId} {args : Array Value} {below : List Frame} {meth : Method} {c : Code} {b L : Nat} {xs : Nat → Int32} {G : va_G} {tys : List (ClassId × FieldType)} {cB cI cE cS cJ : ClassId} {z q : Nat → Nat} {x out : Nat} {Q : State → Prop} {cells slots : Nat} (C : lwX p l s m args c b L xs G tys cB cI cE cS cJ) {i : Nat} (hi : i + 6 ≤ L) (hcl : cells + 4 ≤ 601024 ∧ slots + 3006 ≤ 7293034) {th : Int32} {X w pl : va_W} {fo : Nat → Int64} {H : Heap} {locs : List Loc} {ls : Array Slot} (hS : Sim cB cI cE cS z q x th X w pl) (hR : rR G (fun q : Nat => s.heap.size ≤ q) s.heap H locs (((X ++ [(out, .inl (cJ, 1, .inr (.inl fo)))]) ++ w) ++ pl)) (hl : lv_has ls 7 [(4, .int (nI i)), (0, .ref b), (1, .ref (z 0)), (2, .ref x), (3, .ref out)]) (hback : ∀ (th : Int32) (X w pl : va_W) (fo : Nat → Int64) (H : Heap) (locs : List Loc) (ls : Array Slot), Sim cB cI cE cS z q x th X w pl → rR G (fun q : Nat => s.heap.size ≤ q) s.heap H locs (((X ++ [(out, .inl (cJ, 1, .inr (.inl fo)))]) ++ w) ++ pl) → lv_has ls 7 [(4, .int (nI i)), (0, .ref b), (1, .ref (z 0)), (2, .ref x), (3, .ref out)] → W p l e room_1 s m args below meth c H locs (cells + 4) (slots + 3006) Q (F0 m 1010 ls [])) : W p l e room_1 s m args below meth c H locs cells slots Q (F0 m 308 ls []) := by
  obtain ⟨hx, hb, hml, hown, hts, hT, hK, hJ9, hZ, hU, hn1, hn2, hX, hbl, hlt, hL⟩ := C
  have hA : ∀ q : Nat, s.heap.size ≤ q → (fun q : Nat => s.heap.size ≤ q) q := fun _ h => h
  have hbA : ¬ (fun q : Nat => s.heap.size ≤ q) b := Nat.not_le.mpr hbl
  have hTi : tys[1]? = some (cI, .int) := by rw [hT]; rfl
  obtain ⟨T, rd, Sn, Cw, C2, tm0, dn, st, Ts, cs, cp, ops, cg, ns, bg, sT, sC, hk, hw, hJ⟩ := id hS
  obtain ⟨⟨⟨hs0, hl0, hc0⟩, hu0⟩, hT3, hT4, hH, ⟨hst, hdn, hcg, hop⟩, hr0, hw0, hnn⟩ := id hJ
  have hbd := hw.bd
  have hb1 := (hbd.1 1 (by decide)).1
  have hns := hH.2.1
  have hopc : ops ≤ 2 * cg + 3 := by
    by_cases h0 : st = 0
    · have := (hr0 h0).1; omega
    · exact (hw0 h0).2.2.2.2.1
  obtain ⟨fs, hm⟩ := hk.mem
  obtain ⟨fs9, hm9⟩ := hw.mem
  refine lv_aload_n hx hb dL_law_308 rfl (lv_at hl 2 rfl) ?_
  have hR1 : rR G (fun q : Nat => s.heap.size ≤ q) s.heap H locs ((X ++ ([(out, .inl (cJ, 1, .inr (.inl fo)))] ++ w)) ++ pl) := by rw [← List.append_assoc]; exact hR
  refine xl_callV (C := RX8) (As := []) (rest := []) (cx := X) (wr := [(out, .inl (cJ, 1, .inr (.inl fo)))] ++ w) (K_choose l hT hk hs0) ⟨hx, hb, hml, hown, hts⟩ (cwV 0 hts gL_law_X8_choose rfl rfl rfl (by decide +kernel) ⟨Nat.le_of_ble_eq_true rfl, Nat.le_of_ble_eq_true rfl⟩) hK hZ hR1 hA (xrecv (ci := 7) hK hR1.1 rfl (List.mem_append_left _ (List.mem_append_left _ hm))) rfl hl.1 rfl (Nat.le_of_ble_eq_true rfl) dL_law_309 ⟨(by show cells + 1 ≤ 601024; omega), (by show slots + 1500 ≤ 7293034; omega)⟩ (fun o9 X1 nw H locs h1 hR => ?_)
  have hR : rR G (fun q : Nat => s.heap.size ≤ q) s.heap H locs (((X1 ++ [(out, .inl (cJ, 1, .inr (.inl fo)))]) ++ w) ++ (pl ++ nw)) := by rw [List.append_assoc X1]; exact hR
  obtain ⟨v1, rfl⟩ : ∃ v, o9 = some (.int v) := by obtain ⟨h1, -⟩ := h1; rcases h1 with ⟨-, rfl⟩ | ⟨i9, -, -, rfl⟩ <;> exact ⟨_, rfl⟩
  refine lv_aload_n hx hb dL_law_312 rfl (lv_at hl 3 rfl) ?_
  refine xl_callV (C := RX9) (As := []) (rest := [.int v1]) (cx := w) (wr := X1 ++ [(out, .inl (cJ, 1, .inr (.inl fo)))]) (r2c (F_choose l hTi hw )) ⟨hx, hb, hml, hown, hts⟩ (cwV 0 hts gL_law_X9_choose rfl rfl rfl (by decide +kernel) ⟨Nat.le_of_ble_eq_true rfl, Nat.le_of_ble_eq_true rfl⟩) hK hZ (rR_swap hR) hA (xrecv (ci := 8) hK hR.1 rfl (List.mem_append_left _ (List.mem_append_right _ hm9))) rfl hl.1 rfl (Nat.le_of_ble_eq_true rfl) dL_law_313 ⟨(by show cells + 1 + 0 ≤ 601024; omega), (by show slots + 1500 + 0 ≤ 7293034; omega)⟩ (fun r w1 nw1 H locs h2 hR => ?_)
  obtain ⟨rfl, h2⟩ := h2
  rw [List.append_nil] at hR
  have hR : rR G (fun q : Nat => s.heap.size ≤ q) s.heap H locs (((X1 ++ [(out, .inl (cJ, 1, .inr (.inl fo)))]) ++ w1) ++ (pl ++ nw)) := rR_swap hR
  obtain ⟨v, e1, rfl, hS⟩ := J_choose (cs := cs) hJ h1 h2
  cases e1
  refine lv_icmp_eq (tgt := 1010) hx hb dL_law_316 (by decide) (fun c_1 => ?_) (fun c_1 => ?_)
  · refine W.widen (k := cells + 4) (n := slots + 3006) (by show cells + 1 + 0 ≤ cells + 4; omega) (by show slots + 1500 + 0 ≤ slots + 3006; omega) ?_
    exact hback _ _ _ _ _ _ _ _ hS hR (lv_sub hl [0, 1, 2, 3, 4] rfl)
  · exact absurd rfl c_1
set_option maxHeartbeats 4000000 in
set_option maxRecDepth 100000 in
theorem O_write {p : Program} {l : Launch} {e : Env} {s : State} {m : MethodId} {args : Array Value} {below : List Frame} {meth : Method} {c : Code} {b L : Nat} {xs : Nat → Int32} {G : va_G} {tys : List (ClassId × FieldType)} {cB cI cE cS cJ : ClassId} {z q : Nat → Nat} {x out : Nat} {Q : State → Prop} {cells slots : Nat} (C : lwX p l s m args c b L xs G tys cB cI cE cS cJ) {i : Nat} (hi : i + 6 ≤ L) (hcl : cells + 4 ≤ 601024 ∧ slots + 3006 ≤ 7293034) {th : Int32} {X w pl : va_W} {fo : Nat → Int64} {H : Heap} {locs : List Loc} {ls : Array Slot} (hS : Sim cB cI cE cS z q x th X w pl) (hR : rR G (fun q : Nat => s.heap.size ≤ q) s.heap H locs (((X ++ [(out, .inl (cJ, 1, .inr (.inl fo)))]) ++ w) ++ pl)) (hl : lv_has ls 7 [(4, .int (nI i)), (0, .ref b), (1, .ref (z 0)), (2, .ref x), (3, .ref out)]) (hback : ∀ (th : Int32) (X w pl : va_W) (fo : Nat → Int64) (H : Heap) (locs : List Loc) (ls : Array Slot), Sim cB cI cE cS z q x th X w pl → rR G (fun q : Nat => s.heap.size ≤ q) s.heap H locs (((X ++ [(out, .inl (cJ, 1, .inr (.inl fo)))]) ++ w) ++ pl) → lv_has ls 7 [(4, .int (nI i)), (0, .ref b), (1, .ref (z 0)), (2, .ref x), (3, .ref out)] → W p l e room_1 s m args below meth c H locs (cells + 4) (slots + 3006) Q (F0 m 1010 ls [])) : W p l e room_1 s m args below meth c H locs cells slots Q (F0 m 321 ls []) := by
  obtain ⟨hx, hb, hml, hown, hts, hT, hK, hJ9, hZ, hU, hn1, hn2, hX, hbl, hlt, hL⟩ := C
  have hA : ∀ q : Nat, s.heap.size ≤ q → (fun q : Nat => s.heap.size ≤ q) q := fun _ h => h
  have hbA : ¬ (fun q : Nat => s.heap.size ≤ q) b := Nat.not_le.mpr hbl
  have hTi : tys[1]? = some (cI, .int) := by rw [hT]; rfl
  obtain ⟨T, rd, Sn, Cw, C2, tm0, dn, st, Ts, cs, cp, ops, cg, ns, bg, sT, sC, hk, hw, hJ⟩ := id hS
  obtain ⟨⟨⟨hs0, hl0, hc0⟩, hu0⟩, hT3, hT4, hH, ⟨hst, hdn, hcg, hop⟩, hr0, hw0, hnn⟩ := id hJ
  have hbd := hw.bd
  have hb1 := (hbd.1 1 (by decide)).1
  have hns := hH.2.1
  have hopc : ops ≤ 2 * cg + 3 := by
    by_cases h0 : st = 0
    · have := (hr0 h0).1; omega
    · exact (hw0 h0).2.2.2.2.1
  obtain ⟨fs, hm⟩ := hk.mem
  obtain ⟨fs9, hm9⟩ := hw.mem
  refine lv_aload_n hx hb dL_law_321 rfl (lv_at hl 2 rfl) ?_
  refine lv_aload_n hx hb dL_law_322 rfl (lv_at hl 1 rfl) ?_
  refine lv_iload hx hb dL_law_323 (lv_at hl 0 rfl) ?_
  refine lv_iconst (v := nI 1) hx hb dL_law_325 rfl ?_
  refine nn_add hx hb dL_law_326 ?_
  refine va_sld hx hb hX hbl hbA hR.2.2 (vp_in_nI (by omega) (by omega)) dL_law_327 ?_
  refine nn_eqi (y := xs (i + 1)) (by rw [nI_clamp (by omega)]) ?_
  refine lv_aload_n hx hb dL_law_328 rfl (lv_at hl 4 rfl) ?_
  refine xl_callH (As := [.ref (z 0), .int (xs (i + 1)), .ref out]) (rest := []) (cx := X ++ [(out, .inl (cJ, 1, .inr (.inl fo)))]) (wr := w) (H_write l hm (xs (i + 1)) (fun sz => K_write l hT hlt hk (xs (i + 1)) hst (fun i hi => (hu0 i hi).1)) (fun o X1 nw ⟨_, i9, _, _, _, _, _, h, _⟩ => ⟨_, h⟩) (fun E X1 nw h => by rcases h with ⟨rfl, -⟩ | ⟨rfl, -⟩ | ⟨-, i9, -, -, -, ⟨rfl, -⟩ | ⟨rfl, -⟩⟩ <;> first | exact Or.inl rfl | exact Or.inr rfl)) ⟨hx, hb, hml, hown, hts⟩ (vx_cwSW 3 hts gL_law_L_write rfl rfl rfl (by decide +kernel) ⟨Nat.le_of_ble_eq_true rfl, Nat.le_of_ble_eq_true rfl⟩) hK hZ hU hJ9 hn1 hn2 hR hA rfl hl.1 rfl (Nat.le_of_ble_eq_true rfl) dL_law_329 ⟨(by show cells + 3 ≤ 601024; omega), (by show slots + 3006 ≤ 7293034; omega)⟩ (fun ro Xh nw H locs h1 hR => ?_)
  obtain ⟨k, X1, f2, o9, rfl, hk2, rfl, h1, hf0⟩ := hPo_norm (by decide) h1
  refine lv_istore (lv' := [(5, .int (nI k)), (4, .int (nI i)), (0, .ref b), (1, .ref (z 0)), (2, .ref x), (3, .ref out)]) hx hb dL_law_332 hl (by decide) rfl (fun ls hl => ?_)
  refine lv_aload_n hx hb dL_law_334 rfl (lv_at hl 4 rfl) ?_
  refine lv_aload_n hx hb dL_law_335 rfl (lv_at hl 2 rfl) ?_
  refine lv_iload hx hb dL_law_336 (lv_at hl 1 rfl) ?_
  refine lv_iconst (v := nI 1) hx hb dL_law_338 rfl ?_
  refine nn_add hx hb dL_law_339 ?_
  refine va_sld hx hb hX hbl hbA hR.2.2 (vp_in_nI (by omega) (by omega)) dL_law_340 ?_
  refine nn_eqi (y := xs (i + 1)) (by rw [nI_clamp (by omega)]) ?_
  refine xl_callV (C := RX9) (As := [.int (xs (i + 1))]) (rest := []) (cx := w) (wr := X1 ++ [(out, .inl (cJ, 1, .inr (.inl f2)))]) (r2c (F_write l hTi hw (xs (i + 1)) hst)) ⟨hx, hb, hml, hown, hts⟩ (cwV 1 hts gL_law_X9_write rfl rfl rfl (by decide +kernel) ⟨Nat.le_of_ble_eq_true rfl, Nat.le_of_ble_eq_true rfl⟩) hK hZ (rR_swap hR) hA (xrecv (ci := 8) hK hR.1 rfl (List.mem_append_left _ (List.mem_append_right _ hm9))) rfl hl.1 rfl (Nat.le_of_ble_eq_true rfl) dL_law_341 ⟨(by show cells + 3 + 0 ≤ 601024; omega), (by show slots + 3006 + 0 ≤ 7293034; omega)⟩ (fun r w1 nw1 H locs h2 hR => ?_)
  obtain ⟨rfl, h2⟩ := h2
  rw [List.append_nil] at hR
  have hR : rR G (fun q : Nat => s.heap.size ≤ q) s.heap H locs (((X1 ++ [(out, .inl (cJ, 1, .inr (.inl f2)))]) ++ w1) ++ (pl ++ nw)) := rR_swap hR
  obtain ⟨bb, rfl, hkb, hS⟩ := J_write hJ h1 h2
  refine lv_istore (lv' := [(6, .int bb), (5, .int (nI k)), (4, .int (nI i)), (0, .ref b), (1, .ref (z 0)), (2, .ref x), (3, .ref out)]) hx hb dL_law_344 hl (by decide) rfl (fun ls hl => ?_)
  refine lv_aload_n hx hb dL_law_346 rfl (lv_at hl 5 rfl) ?_
  obtain ⟨T8, rd8, Sn8, Cw8, C28, tm8, dn8, st8, Ts8, cs8, cp8, ops8, cg8, ns8, bg8, sT8, sC8, hk8, hw8, hJ8⟩ := id hS
  obtain ⟨fs8, hm8⟩ := hw8.mem
  refine xl_callV (C := RX9) (As := []) (rest := []) (cx := w1) (wr := X1 ++ [(out, .inl (cJ, 1, .inr (.inl f2)))]) (p2c (F_thrown l hTi (A := (fun q : Nat => s.heap.size ≤ q)) hw8)) ⟨hx, hb, hml, hown, hts⟩ (cwV 0 hts gL_law_X9_thrown rfl rfl rfl (by decide +kernel) ⟨Nat.le_of_ble_eq_true rfl, Nat.le_of_ble_eq_true rfl⟩) hK hZ (rR_swap hR) hA (xrecv (ci := 8) hK hR.1 rfl (List.mem_append_left _ (List.mem_append_right _ hm8))) rfl hl.1 rfl (Nat.le_of_ble_eq_true rfl) dL_law_347 ⟨(by show cells + 3 + 0 + 0 ≤ 601024; omega), (by show slots + 3006 + 0 + 0 ≤ 7293034; omega)⟩ (fun r8 w8 nw8 H locs h8 hR => ?_)
  obtain ⟨e8, e9, v8, rfl, rfl⟩ := h8
  rw [e8, e9, List.append_nil] at hR
  have hR : rR G (fun q : Nat => s.heap.size ≤ q) s.heap H locs (((X1 ++ [(out, .inl (cJ, 1, .inr (.inl f2)))]) ++ w1) ++ (pl ++ nw)) := rR_swap hR
  refine lv_iload hx hb dL_law_350 (lv_at hl 1 rfl) ?_
  refine nn_eq hx hb dL_law_352 (tgt := 357) (by decide) (by omega) (by omega) (fun c_1 => ?_) (fun c_1 => ?_)
  · refine lv_iload hx hb dL_law_357 (lv_at hl 1 rfl) ?_
    refine nz_ne hx hb dL_law_359 (tgt := 374) (by decide) (by omega) (fun c_2 => ?_) (fun c_2 => ?_)
    · refine lv_goto (tgt := 1010) hx hb dL_law_374 (by decide) ?_
      refine W.widen (k := cells + 4) (n := slots + 3006) (by show cells + 3 + 0 + 0 ≤ cells + 4; omega) (by show slots + 3006 + 0 + 0 ≤ slots + 3006; omega) ?_
      exact hback _ _ _ _ _ _ _ _ hS hR (lv_sub hl [2, 3, 4, 5, 6] rfl)
    · refine lv_aload_n hx hb dL_law_362 rfl (lv_at hl 6 rfl) ?_
      refine lv_iconst (v := nI 0) hx hb dL_law_363 rfl ?_
      have hfb : (f2 0).toInt = bb.toInt := by
        rw [hf0 (by omega) bb (hkb (by omega))]; exact i64 rfl
      refine va_lald hx hb hJ9 hR.1 X1.length 0 (by rw [List.append_assoc, List.append_assoc, List.getElem?_append_right (Nat.le_refl _), Nat.sub_self]; rfl) rfl (vp_in_nI (by decide) (by decide)) dL_law_364 ?_
      refine lv_iload hx hb dL_law_365 (lv_at hl 0 rfl) ?_
      refine lv_i2l hx hb dL_law_367 rfl ?_
      refine zl_eq hx hb (show (f2 (nI 0).toNatClampNeg).toInt = bb.toInt from hfb) (i64 rfl) dL_law_368 dL_law_369 (tgt := 374) (by decide) (fun c_3 => ?_) (fun c_3 => ?_)
      · refine lv_goto (tgt := 1010) hx hb dL_law_374 (by decide) ?_
        refine W.widen (k := cells + 4) (n := slots + 3006) (by show cells + 3 + 0 + 0 ≤ cells + 4; omega) (by show slots + 3006 + 0 + 0 ≤ slots + 3006; omega) ?_
        exact hback _ _ _ _ _ _ _ _ hS hR (lv_sub hl [2, 3, 4, 5, 6] rfl)
      · exact absurd rfl c_3
  · exact absurd rfl c_1
set_option maxHeartbeats 4000000 in
set_option maxRecDepth 100000 in
theorem O_cut {p : Program} {l : Launch} {e : Env} {s : State} {m : MethodId} {args : Array Value} {below : List Frame} {meth : Method} {c : Code} {b L : Nat} {xs : Nat → Int32} {G : va_G} {tys : List (ClassId × FieldType)} {cB cI cE cS cJ : ClassId} {z q : Nat → Nat} {x out : Nat} {Q : State → Prop} {cells slots : Nat} (C : lwX p l s m args c b L xs G tys cB cI cE cS cJ) {i : Nat} (hi : i + 6 ≤ L) (hcl : cells + 4 ≤ 601024 ∧ slots + 3006 ≤ 7293034) {th : Int32} {X w pl : va_W} {fo : Nat → Int64} {H : Heap} {locs : List Loc} {ls : Array Slot} (hS : Sim cB cI cE cS z q x th X w pl) (hR : rR G (fun q : Nat => s.heap.size ≤ q) s.heap H locs (((X ++ [(out, .inl (cJ, 1, .inr (.inl fo)))]) ++ w) ++ pl)) (hl : lv_has ls 7 [(4, .int (nI i)), (0, .ref b), (1, .ref (z 0)), (2, .ref x), (3, .ref out)]) (hback : ∀ (th : Int32) (X w pl : va_W) (fo : Nat → Int64) (H : Heap) (locs : List Loc) (ls : Array Slot), Sim cB cI cE cS z q x th X w pl → rR G (fun q : Nat => s.heap.size ≤ q) s.heap H locs (((X ++ [(out, .inl (cJ, 1, .inr (.inl fo)))]) ++ w) ++ pl) → lv_has ls 7 [(4, .int (nI i)), (0, .ref b), (1, .ref (z 0)), (2, .ref x), (3, .ref out)] → W p l e room_1 s m args below meth c H locs (cells + 4) (slots + 3006) Q (F0 m 1010 ls [])) : W p l e room_1 s m args below meth c H locs cells slots Q (F0 m 377 ls []) := by
  obtain ⟨hx, hb, hml, hown, hts, hT, hK, hJ9, hZ, hU, hn1, hn2, hX, hbl, hlt, hL⟩ := C
  have hA : ∀ q : Nat, s.heap.size ≤ q → (fun q : Nat => s.heap.size ≤ q) q := fun _ h => h
  have hbA : ¬ (fun q : Nat => s.heap.size ≤ q) b := Nat.not_le.mpr hbl
  have hTi : tys[1]? = some (cI, .int) := by rw [hT]; rfl
  obtain ⟨T, rd, Sn, Cw, C2, tm0, dn, st, Ts, cs, cp, ops, cg, ns, bg, sT, sC, hk, hw, hJ⟩ := id hS
  obtain ⟨⟨⟨hs0, hl0, hc0⟩, hu0⟩, hT3, hT4, hH, ⟨hst, hdn, hcg, hop⟩, hr0, hw0, hnn⟩ := id hJ
  have hbd := hw.bd
  have hb1 := (hbd.1 1 (by decide)).1
  have hns := hH.2.1
  have hopc : ops ≤ 2 * cg + 3 := by
    by_cases h0 : st = 0
    · have := (hr0 h0).1; omega
    · exact (hw0 h0).2.2.2.2.1
  obtain ⟨fs, hm⟩ := hk.mem
  obtain ⟨fs9, hm9⟩ := hw.mem
  refine lv_aload_n hx hb dL_law_377 rfl (lv_at hl 2 rfl) ?_
  refine lv_aload_n hx hb dL_law_378 rfl (lv_at hl 1 rfl) ?_
  refine lv_iload hx hb dL_law_379 (lv_at hl 0 rfl) ?_
  refine lv_iconst (v := nI 1) hx hb dL_law_381 rfl ?_
  refine nn_add hx hb dL_law_382 ?_
  refine va_sld hx hb hX hbl hbA hR.2.2 (vp_in_nI (by omega) (by omega)) dL_law_383 ?_
  refine nn_eqi (y := xs (i + 1)) (by rw [nI_clamp (by omega)]) ?_
  have hR1 : rR G (fun q : Nat => s.heap.size ≤ q) s.heap H locs ((X ++ ([(out, .inl (cJ, 1, .inr (.inl fo)))] ++ w)) ++ pl) := by rw [← List.append_assoc]; exact hR
  refine xl_callH (As := [.ref (z 0), .int (xs (i + 1))]) (rest := []) (cx := X) (wr := [(out, .inl (cJ, 1, .inr (.inl fo)))] ++ w) (H_cut l hm (xs (i + 1)) (fun sz => K_cut l hT hlt hk (xs (i + 1)) hst (fun i hi => (hu0 i hi).1)) (fun o X1 nw h => h.1) (fun E X1 nw h => by rcases h with ⟨rfl, -⟩ | ⟨rfl, -⟩ <;> first | exact Or.inl rfl | exact Or.inr rfl)) ⟨hx, hb, hml, hown, hts⟩ (vx_cwSW 2 hts gL_law_L_cut rfl rfl rfl (by decide +kernel) ⟨Nat.le_of_ble_eq_true rfl, Nat.le_of_ble_eq_true rfl⟩) hK hZ hU hJ9 hn1 hn2 hR1 hA rfl hl.1 rfl (Nat.le_of_ble_eq_true rfl) dL_law_384 ⟨(by show cells + 2 ≤ 601024; omega), (by show slots + 1505 ≤ 7293034; omega)⟩ (fun ro Xh nw H locs h1 hR => ?_)
  generalize Xh = X1 at h1 hR
  obtain ⟨k, o9, rfl, hk2, h1⟩ := hPv_norm (by decide) h1
  have hR : rR G (fun q : Nat => s.heap.size ≤ q) s.heap H locs (((X1 ++ [(out, .inl (cJ, 1, .inr (.inl fo)))]) ++ w) ++ (pl ++ nw)) := by rw [List.append_assoc X1]; exact hR
  refine lv_istore (lv' := [(5, .int (nI k)), (4, .int (nI i)), (0, .ref b), (1, .ref (z 0)), (2, .ref x), (3, .ref out)]) hx hb dL_law_387 hl (by decide) rfl (fun ls hl => ?_)
  refine lv_aload_n hx hb dL_law_389 rfl (lv_at hl 4 rfl) ?_
  refine lv_aload_n hx hb dL_law_390 rfl (lv_at hl 2 rfl) ?_
  refine lv_iload hx hb dL_law_391 (lv_at hl 1 rfl) ?_
  refine lv_iconst (v := nI 1) hx hb dL_law_393 rfl ?_
  refine nn_add hx hb dL_law_394 ?_
  refine va_sld hx hb hX hbl hbA hR.2.2 (vp_in_nI (by omega) (by omega)) dL_law_395 ?_
  refine nn_eqi (y := xs (i + 1)) (by rw [nI_clamp (by omega)]) ?_
  refine xl_callV (C := RX9) (As := [.int (xs (i + 1))]) (rest := []) (cx := w) (wr := X1 ++ [(out, .inl (cJ, 1, .inr (.inl fo)))]) (r2c (F_cut l hTi hw (xs (i + 1)) hst)) ⟨hx, hb, hml, hown, hts⟩ (cwV 1 hts gL_law_X9_cut rfl rfl rfl (by decide +kernel) ⟨Nat.le_of_ble_eq_true rfl, Nat.le_of_ble_eq_true rfl⟩) hK hZ (rR_swap hR) hA (xrecv (ci := 8) hK hR.1 rfl (List.mem_append_left _ (List.mem_append_right _ hm9))) rfl hl.1 rfl (Nat.le_of_ble_eq_true rfl) dL_law_396 ⟨(by show cells + 2 + 0 ≤ 601024; omega), (by show slots + 1505 + 0 ≤ 7293034; omega)⟩ (fun r w1 nw1 H locs h2 hR => ?_)
  obtain ⟨rfl, h2⟩ := h2
  rw [List.append_nil] at hR
  have hR : rR G (fun q : Nat => s.heap.size ≤ q) s.heap H locs (((X1 ++ [(out, .inl (cJ, 1, .inr (.inl fo)))]) ++ w1) ++ (pl ++ nw)) := rR_swap hR
  obtain ⟨rfl, hS⟩ := J_cut hJ h1 h2
  refine lv_aload_n hx hb dL_law_399 rfl (lv_at hl 4 rfl) ?_
  obtain ⟨T8, rd8, Sn8, Cw8, C28, tm8, dn8, st8, Ts8, cs8, cp8, ops8, cg8, ns8, bg8, sT8, sC8, hk8, hw8, hJ8⟩ := id hS
  obtain ⟨fs8, hm8⟩ := hw8.mem
  refine xl_callV (C := RX9) (As := []) (rest := []) (cx := w1) (wr := X1 ++ [(out, .inl (cJ, 1, .inr (.inl fo)))]) (p2c (F_thrown l hTi (A := (fun q : Nat => s.heap.size ≤ q)) hw8)) ⟨hx, hb, hml, hown, hts⟩ (cwV 0 hts gL_law_X9_thrown rfl rfl rfl (by decide +kernel) ⟨Nat.le_of_ble_eq_true rfl, Nat.le_of_ble_eq_true rfl⟩) hK hZ (rR_swap hR) hA (xrecv (ci := 8) hK hR.1 rfl (List.mem_append_left _ (List.mem_append_right _ hm8))) rfl hl.1 rfl (Nat.le_of_ble_eq_true rfl) dL_law_400 ⟨(by show cells + 2 + 0 + 0 ≤ 601024; omega), (by show slots + 1505 + 0 + 0 ≤ 7293034; omega)⟩ (fun r8 w8 nw8 H locs h8 hR => ?_)
  obtain ⟨e8, e9, v8, rfl, rfl⟩ := h8
  rw [e8, e9, List.append_nil] at hR
  have hR : rR G (fun q : Nat => s.heap.size ≤ q) s.heap H locs (((X1 ++ [(out, .inl (cJ, 1, .inr (.inl fo)))]) ++ w1) ++ (pl ++ nw)) := rR_swap hR
  refine lv_iload hx hb dL_law_403 (lv_at hl 0 rfl) ?_
  refine nn_eq hx hb dL_law_405 (tgt := 410) (by decide) (by omega) (by omega) (fun c_1 => ?_) (fun c_1 => ?_)
  · refine lv_goto (tgt := 1010) hx hb dL_law_410 (by decide) ?_
    refine W.widen (k := cells + 4) (n := slots + 3006) (by show cells + 2 + 0 + 0 ≤ cells + 4; omega) (by show slots + 1505 + 0 + 0 ≤ slots + 3006; omega) ?_
    exact hback _ _ _ _ _ _ _ _ hS hR (lv_sub hl [1, 2, 3, 4, 5] rfl)
  · exact absurd rfl c_1
set_option maxHeartbeats 4000000 in
set_option maxRecDepth 100000 in
theorem O_set {p : Program} {l : Launch} {e : Env} {s : State} {m : MethodId} {args : Array Value} {below : List Frame} {meth : Method} {c : Code} {b L : Nat} {xs : Nat → Int32} {G : va_G} {tys : List (ClassId × FieldType)} {cB cI cE cS cJ : ClassId} {z q : Nat → Nat} {x out : Nat} {Q : State → Prop} {cells slots : Nat} (C : lwX p l s m args c b L xs G tys cB cI cE cS cJ) {i : Nat} (hi : i + 6 ≤ L) (hcl : cells + 4 ≤ 601024 ∧ slots + 3006 ≤ 7293034) {th : Int32} {X w pl : va_W} {fo : Nat → Int64} {H : Heap} {locs : List Loc} {ls : Array Slot} (hS : Sim cB cI cE cS z q x th X w pl) (hR : rR G (fun q : Nat => s.heap.size ≤ q) s.heap H locs (((X ++ [(out, .inl (cJ, 1, .inr (.inl fo)))]) ++ w) ++ pl)) (hl : lv_has ls 7 [(4, .int (nI i)), (0, .ref b), (1, .ref (z 0)), (2, .ref x), (3, .ref out)]) (hback : ∀ (th : Int32) (X w pl : va_W) (fo : Nat → Int64) (H : Heap) (locs : List Loc) (ls : Array Slot), Sim cB cI cE cS z q x th X w pl → rR G (fun q : Nat => s.heap.size ≤ q) s.heap H locs (((X ++ [(out, .inl (cJ, 1, .inr (.inl fo)))]) ++ w) ++ pl) → lv_has ls 7 [(4, .int (nI i)), (0, .ref b), (1, .ref (z 0)), (2, .ref x), (3, .ref out)] → W p l e room_1 s m args below meth c H locs (cells + 4) (slots + 3006) Q (F0 m 1010 ls [])) : W p l e room_1 s m args below meth c H locs cells slots Q (F0 m 413 ls []) := by
  obtain ⟨hx, hb, hml, hown, hts, hT, hK, hJ9, hZ, hU, hn1, hn2, hX, hbl, hlt, hL⟩ := C
  have hA : ∀ q : Nat, s.heap.size ≤ q → (fun q : Nat => s.heap.size ≤ q) q := fun _ h => h
  have hbA : ¬ (fun q : Nat => s.heap.size ≤ q) b := Nat.not_le.mpr hbl
  have hTi : tys[1]? = some (cI, .int) := by rw [hT]; rfl
  obtain ⟨T, rd, Sn, Cw, C2, tm0, dn, st, Ts, cs, cp, ops, cg, ns, bg, sT, sC, hk, hw, hJ⟩ := id hS
  obtain ⟨⟨⟨hs0, hl0, hc0⟩, hu0⟩, hT3, hT4, hH, ⟨hst, hdn, hcg, hop⟩, hr0, hw0, hnn⟩ := id hJ
  have hbd := hw.bd
  have hb1 := (hbd.1 1 (by decide)).1
  have hns := hH.2.1
  have hopc : ops ≤ 2 * cg + 3 := by
    by_cases h0 : st = 0
    · have := (hr0 h0).1; omega
    · exact (hw0 h0).2.2.2.2.1
  obtain ⟨fs, hm⟩ := hk.mem
  obtain ⟨fs9, hm9⟩ := hw.mem
  refine lv_aload_n hx hb dL_law_413 rfl (lv_at hl 2 rfl) ?_
  refine lv_aload_n hx hb dL_law_414 rfl (lv_at hl 1 rfl) ?_
  refine lv_iload hx hb dL_law_415 (lv_at hl 0 rfl) ?_
  refine lv_iconst (v := nI 1) hx hb dL_law_417 rfl ?_
  refine nn_add hx hb dL_law_418 ?_
  refine va_sld hx hb hX hbl hbA hR.2.2 (vp_in_nI (by omega) (by omega)) dL_law_419 ?_
  refine nn_eqi (y := xs (i + 1)) (by rw [nI_clamp (by omega)]) ?_
  refine lv_aload_n hx hb dL_law_420 rfl (lv_at hl 1 rfl) ?_
  refine lv_iload hx hb dL_law_421 (lv_at hl 0 rfl) ?_
  refine lv_iconst (v := nI 2) hx hb dL_law_423 rfl ?_
  refine nn_add hx hb dL_law_424 ?_
  refine va_sld hx hb hX hbl hbA hR.2.2 (vp_in_nI (by omega) (by omega)) dL_law_425 ?_
  refine nn_eqi (y := xs (i + 2)) (by rw [nI_clamp (by omega)]) ?_
  have hR1 : rR G (fun q : Nat => s.heap.size ≤ q) s.heap H locs ((X ++ ([(out, .inl (cJ, 1, .inr (.inl fo)))] ++ w)) ++ pl) := by rw [← List.append_assoc]; exact hR
  refine xl_callH (As := [.ref (z 0), .int (xs (i + 1)), .int (xs (i + 2))]) (rest := []) (cx := X) (wr := [(out, .inl (cJ, 1, .inr (.inl fo)))] ++ w) (H_set l hm (xs (i + 1)) (xs (i + 2)) (fun sz => K_set l hT hlt hk (xs (i + 1)) (xs (i + 2)) hst) (fun o X1 nw h => h.1) (fun E X1 nw h => by rcases h with ⟨rfl, -⟩ | ⟨rfl, -⟩ <;> first | exact Or.inl rfl | exact Or.inr rfl)) ⟨hx, hb, hml, hown, hts⟩ (vx_cwSW 3 hts gL_law_L_set rfl rfl rfl (by decide +kernel) ⟨Nat.le_of_ble_eq_true rfl, Nat.le_of_ble_eq_true rfl⟩) hK hZ hU hJ9 hn1 hn2 hR1 hA rfl hl.1 rfl (Nat.le_of_ble_eq_true rfl) dL_law_426 ⟨(by show cells + 1 ≤ 601024; omega), (by show slots + 6 ≤ 7293034; omega)⟩ (fun ro Xh nw H locs h1 hR => ?_)
  generalize Xh = X1 at h1 hR
  obtain ⟨k, o9, rfl, hk2, h1⟩ := hPv_norm (by decide) h1
  have hR : rR G (fun q : Nat => s.heap.size ≤ q) s.heap H locs (((X1 ++ [(out, .inl (cJ, 1, .inr (.inl fo)))]) ++ w) ++ (pl ++ nw)) := by rw [List.append_assoc X1]; exact hR
  refine lv_istore (lv' := [(5, .int (nI k)), (4, .int (nI i)), (0, .ref b), (1, .ref (z 0)), (2, .ref x), (3, .ref out)]) hx hb dL_law_429 hl (by decide) rfl (fun ls hl => ?_)
  refine lv_aload_n hx hb dL_law_431 rfl (lv_at hl 4 rfl) ?_
  refine lv_aload_n hx hb dL_law_432 rfl (lv_at hl 2 rfl) ?_
  refine lv_iload hx hb dL_law_433 (lv_at hl 1 rfl) ?_
  refine lv_iconst (v := nI 1) hx hb dL_law_435 rfl ?_
  refine nn_add hx hb dL_law_436 ?_
  refine va_sld hx hb hX hbl hbA hR.2.2 (vp_in_nI (by omega) (by omega)) dL_law_437 ?_
  refine nn_eqi (y := xs (i + 1)) (by rw [nI_clamp (by omega)]) ?_
  refine lv_aload_n hx hb dL_law_438 rfl (lv_at hl 2 rfl) ?_
  refine lv_iload hx hb dL_law_439 (lv_at hl 1 rfl) ?_
  refine lv_iconst (v := nI 2) hx hb dL_law_441 rfl ?_
  refine nn_add hx hb dL_law_442 ?_
  refine va_sld hx hb hX hbl hbA hR.2.2 (vp_in_nI (by omega) (by omega)) dL_law_443 ?_
  refine nn_eqi (y := xs (i + 2)) (by rw [nI_clamp (by omega)]) ?_
  refine xl_callV (C := RX9) (As := [.int (xs (i + 1)), .int (xs (i + 2))]) (rest := []) (cx := w) (wr := X1 ++ [(out, .inl (cJ, 1, .inr (.inl fo)))]) (r2c (F_set l hTi hw (xs (i + 1)) (xs (i + 2)) hst)) ⟨hx, hb, hml, hown, hts⟩ (cwV 2 hts gL_law_X9_set rfl rfl rfl (by decide +kernel) ⟨Nat.le_of_ble_eq_true rfl, Nat.le_of_ble_eq_true rfl⟩) hK hZ (rR_swap hR) hA (xrecv (ci := 8) hK hR.1 rfl (List.mem_append_left _ (List.mem_append_right _ hm9))) rfl hl.1 rfl (Nat.le_of_ble_eq_true rfl) dL_law_444 ⟨(by show cells + 1 + 0 ≤ 601024; omega), (by show slots + 6 + 0 ≤ 7293034; omega)⟩ (fun r w1 nw1 H locs h2 hR => ?_)
  obtain ⟨rfl, h2⟩ := h2
  rw [List.append_nil] at hR
  have hR : rR G (fun q : Nat => s.heap.size ≤ q) s.heap H locs (((X1 ++ [(out, .inl (cJ, 1, .inr (.inl fo)))]) ++ w1) ++ (pl ++ nw)) := rR_swap hR
  obtain ⟨rfl, hS⟩ := J_set hJ h1 h2
  refine lv_aload_n hx hb dL_law_447 rfl (lv_at hl 4 rfl) ?_
  obtain ⟨T8, rd8, Sn8, Cw8, C28, tm8, dn8, st8, Ts8, cs8, cp8, ops8, cg8, ns8, bg8, sT8, sC8, hk8, hw8, hJ8⟩ := id hS
  obtain ⟨fs8, hm8⟩ := hw8.mem
  refine xl_callV (C := RX9) (As := []) (rest := []) (cx := w1) (wr := X1 ++ [(out, .inl (cJ, 1, .inr (.inl fo)))]) (p2c (F_thrown l hTi (A := (fun q : Nat => s.heap.size ≤ q)) hw8)) ⟨hx, hb, hml, hown, hts⟩ (cwV 0 hts gL_law_X9_thrown rfl rfl rfl (by decide +kernel) ⟨Nat.le_of_ble_eq_true rfl, Nat.le_of_ble_eq_true rfl⟩) hK hZ (rR_swap hR) hA (xrecv (ci := 8) hK hR.1 rfl (List.mem_append_left _ (List.mem_append_right _ hm8))) rfl hl.1 rfl (Nat.le_of_ble_eq_true rfl) dL_law_448 ⟨(by show cells + 1 + 0 + 0 ≤ 601024; omega), (by show slots + 6 + 0 + 0 ≤ 7293034; omega)⟩ (fun r8 w8 nw8 H locs h8 hR => ?_)
  obtain ⟨e8, e9, v8, rfl, rfl⟩ := h8
  rw [e8, e9, List.append_nil] at hR
  have hR : rR G (fun q : Nat => s.heap.size ≤ q) s.heap H locs (((X1 ++ [(out, .inl (cJ, 1, .inr (.inl fo)))]) ++ w1) ++ (pl ++ nw)) := rR_swap hR
  refine lv_iload hx hb dL_law_451 (lv_at hl 0 rfl) ?_
  refine nn_eq hx hb dL_law_453 (tgt := 458) (by decide) (by omega) (by omega) (fun c_1 => ?_) (fun c_1 => ?_)
  · refine lv_goto (tgt := 1010) hx hb dL_law_458 (by decide) ?_
    refine W.widen (k := cells + 4) (n := slots + 3006) (by show cells + 1 + 0 + 0 ≤ cells + 4; omega) (by show slots + 6 + 0 + 0 ≤ slots + 3006; omega) ?_
    exact hback _ _ _ _ _ _ _ _ hS hR (lv_sub hl [1, 2, 3, 4, 5] rfl)
  · exact absurd rfl c_1
