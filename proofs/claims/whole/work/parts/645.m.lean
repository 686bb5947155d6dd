set_option maxHeartbeats 4000000 in
set_option maxRecDepth 100000 in
theorem O_remove {p : Program} {l : Launch} {e : Env} {s : State} {m : MethodId} {args : Array Value} {below : List Frame} {meth : Method} {c : Code} {b L : Nat} {xs : Nat → Int32} {G : va_G} {tys : List (ClassId × FieldType)} {cB cI cE cS cJ : ClassId} {z q : Nat → Nat} {x out : Nat} {Q : State → Prop} {cells slots : Nat} (C : lwX p l s m args c b L xs G tys cB cI cE cS cJ) {i : Nat} (hi : i + 6 ≤ L) (hcl : cells + 4 ≤ 601024 ∧ slots + 3006 ≤ 7293034) {th : Int32} {X w pl : va_W} {fo : Nat → Int64} {H : Heap} {locs : List Loc} {ls : Array Slot} (hS : Sim cB cI cE cS z q x th X w pl) (hR : rR G (fun q : Nat => s.heap.size ≤ q) s.heap H locs (((X ++ [(out, .inl (cJ, 1, .inr (.inl fo)))]) ++ w) ++ pl)) (hl : lv_has ls 7 [(4, .int (nI i)), (0, .ref b), (1, .ref (z 0)), (2, .ref x), (3, .ref out)]) (hback : ∀ (th : Int32) (X w pl : va_W) (fo : Nat → Int64) (H : Heap) (locs : List Loc) (ls : Array Slot), Sim cB cI cE cS z q x th X w pl → rR G (fun q : Nat => s.heap.size ≤ q) s.heap H locs (((X ++ [(out, .inl (cJ, 1, .inr (.inl fo)))]) ++ w) ++ pl) → lv_has ls 7 [(4, .int (nI i)), (0, .ref b), (1, .ref (z 0)), (2, .ref x), (3, .ref out)] → W p l e room_1 s m args below meth c H locs (cells + 4) (slots + 3006) Q (F0 m 1010 ls [])) : W p l e room_1 s m args below meth c H locs cells slots Q (F0 m 461 ls []) := by
  obtain ⟨hx, hb, hml, hown, hts, hT, hK, hJ9, hZ, hU, hn1, hn2, hX, hbl, hlt, hL⟩ := C
  have hA : ∀ q : Nat, s.heap.size ≤ q → (fun q : Nat => s.heap.size ≤ q) q := fun _ h => h
  have hbA : ¬ (fun q : Nat => s.heap.size ≤ q) b := Nat.not_le.mpr hbl
  have hTi : tys[1]? = some (cI, .int) := by rw [hT]; rfl
  obtain ⟨T, rd, Sn, Cw, C2, tm0, dn, st, Ts, cs, cp, ops, cg, ns, bg, sT, sC, hk, hw, hJ⟩ := id hS
  obtain ⟨⟨⟨hs0, hl0, hc0⟩, hu0⟩, hT3, hT4, hH, ⟨hst, hdn, hcg, hop⟩, hr0, hw0, hnn⟩ := id hJ
  have hbd := hw.bd
  have hb1 := (hbd.1 1 (by decide)).1
  have hns := hH.2.1
  have hopc : ops ≤ 2 * cg + 3 := by
    by_cases h0 : st = 0
    · have := (hr0 h0).1; omega
    · exact (hw0 h0).2.2.2.2.1
  obtain ⟨fs, hm⟩ := hk.mem
  obtain ⟨fs9, hm9⟩ := hw.mem
  refine lv_aload_n hx hb dL_law_461 rfl (lv_at hl 2 rfl) ?_
  refine lv_aload_n hx hb dL_law_462 rfl (lv_at hl 4 rfl) ?_
  refine xl_callH (As := [.ref (z 0), .ref out]) (rest := []) (cx := X ++ [(out, .inl (cJ, 1, .inr (.inl fo)))]) (wr := w) (H_remove l hm  (fun sz => K_remove l hT hlt hk hst) (fun o X1 nw ⟨_, i9, _, _, h, _⟩ => ⟨_, h⟩) (fun E X1 nw h => h.1)) ⟨hx, hb, hml, hown, hts⟩ (vx_cwSW 2 hts gL_law_L_remove rfl rfl rfl (by decide +kernel) ⟨Nat.le_of_ble_eq_true rfl, Nat.le_of_ble_eq_true rfl⟩) hK hZ hU hJ9 hn1 hn2 hR hA rfl hl.1 rfl (Nat.le_of_ble_eq_true rfl) dL_law_463 ⟨(by show cells + 1 ≤ 601024; omega), (by show slots + 6 ≤ 7293034; omega)⟩ (fun ro Xh nw H locs h1 hR => ?_)
  obtain ⟨k, X1, f2, o9, rfl, hk2, rfl, h1, hf0⟩ := hPo_norm (by decide) h1
  refine lv_istore (lv' := [(5, .int (nI k)), (4, .int (nI i)), (0, .ref b), (1, .ref (z 0)), (2, .ref x), (3, .ref out)]) hx hb dL_law_466 hl (by decide) rfl (fun ls hl => ?_)
  refine lv_aload_n hx hb dL_law_468 rfl (lv_at hl 4 rfl) ?_
  refine xl_callV (C := RX9) (As := []) (rest := []) (cx := w) (wr := X1 ++ [(out, .inl (cJ, 1, .inr (.inl f2)))]) (r2c (F_remove l hTi hw hst)) ⟨hx, hb, hml, hown, hts⟩ (cwV 0 hts gL_law_X9_remove rfl rfl rfl (by decide +kernel) ⟨Nat.le_of_ble_eq_true rfl, Nat.le_of_ble_eq_true rfl⟩) hK hZ (rR_swap hR) hA (xrecv (ci := 8) hK hR.1 rfl (List.mem_append_left _ (List.mem_append_right _ hm9))) rfl hl.1 rfl (Nat.le_of_ble_eq_true rfl) dL_law_469 ⟨(by show cells + 1 + 0 ≤ 601024; omega), (by show slots + 6 + 0 ≤ 7293034; omega)⟩ (fun r w1 nw1 H locs h2 hR => ?_)
  obtain ⟨rfl, h2⟩ := h2
  rw [List.append_nil] at hR
  have hR : rR G (fun q : Nat => s.heap.size ≤ q) s.heap H locs (((X1 ++ [(out, .inl (cJ, 1, .inr (.inl f2)))]) ++ w1) ++ (pl ++ nw)) := rR_swap hR
  obtain ⟨bb, rfl, hkb, hS⟩ := J_remove hJ h1 h2
  refine lv_istore (lv' := [(6, .int bb), (5, .int (nI k)), (4, .int (nI i)), (0, .ref b), (1, .ref (z 0)), (2, .ref x), (3, .ref out)]) hx hb dL_law_472 hl (by decide) rfl (fun ls hl => ?_)
  refine lv_aload_n hx hb dL_law_474 rfl (lv_at hl 5 rfl) ?_
  obtain ⟨T8, rd8, Sn8, Cw8, C28, tm8, dn8, st8, Ts8, cs8, cp8, ops8, cg8, ns8, bg8, sT8, sC8, hk8, hw8, hJ8⟩ := id hS
  obtain ⟨fs8, hm8⟩ := hw8.mem
  refine xl_callV (C := RX9) (As := []) (rest := []) (cx := w1) (wr := X1 ++ [(out, .inl (cJ, 1, .inr (.inl f2)))]) (p2c (F_thrown l hTi (A := (fun q : Nat => s.heap.size ≤ q)) hw8)) ⟨hx, hb, hml, hown, hts⟩ (cwV 0 hts gL_law_X9_thrown rfl rfl rfl (by decide +kernel) ⟨Nat.le_of_ble_eq_true rfl, Nat.le_of_ble_eq_true rfl⟩) hK hZ (rR_swap hR) hA (xrecv (ci := 8) hK hR.1 rfl (List.mem_append_left _ (List.mem_append_right _ hm8))) rfl hl.1 rfl (Nat.le_of_ble_eq_true rfl) dL_law_475 ⟨(by show cells + 1 + 0 + 0 ≤ 601024; omega), (by show slots + 6 + 0 + 0 ≤ 7293034; omega)⟩ (fun r8 w8 nw8 H locs h8 hR => ?_)
  obtain ⟨e8, e9, v8, rfl, rfl⟩ := h8
  rw [e8, e9, List.append_nil] at hR
  have hR : rR G (fun q : Nat => s.heap.size ≤ q) s.heap H locs (((X1 ++ [(out, .inl (cJ, 1, .inr (.inl f2)))]) ++ w1) ++ (pl ++ nw)) := rR_swap hR
  refine lv_iload hx hb dL_law_478 (lv_at hl 1 rfl) ?_
  refine nn_eq hx hb dL_law_480 (tgt := 485) (by decide) (by omega) (by omega) (fun c_1 => ?_) (fun c_1 => ?_)
  · refine lv_iload hx hb dL_law_485 (lv_at hl 1 rfl) ?_
    refine nz_ne hx hb dL_law_487 (tgt := 502) (by decide) (by omega) (fun c_2 => ?_) (fun c_2 => ?_)
    · refine lv_goto (tgt := 1010) hx hb dL_law_502 (by decide) ?_
      refine W.widen (k := cells + 4) (n := slots + 3006) (by show cells + 1 + 0 + 0 ≤ cells + 4; omega) (by show slots + 6 + 0 + 0 ≤ slots + 3006; omega) ?_
      exact hback _ _ _ _ _ _ _ _ hS hR (lv_sub hl [2, 3, 4, 5, 6] rfl)
    · refine lv_aload_n hx hb dL_law_490 rfl (lv_at hl 6 rfl) ?_
      refine lv_iconst (v := nI 0) hx hb dL_law_491 rfl ?_
      have hfb : (f2 0).toInt = bb.toInt := by
        rw [hf0 (by omega) bb (hkb (by omega))]; exact i64 rfl
      refine va_lald hx hb hJ9 hR.1 X1.length 0 (by rw [List.append_assoc, List.append_assoc, List.getElem?_append_right (Nat.le_refl _), Nat.sub_self]; rfl) rfl (vp_in_nI (by decide) (by decide)) dL_law_492 ?_
      refine lv_iload hx hb dL_law_493 (lv_at hl 0 rfl) ?_
      refine lv_i2l hx hb dL_law_495 rfl ?_
      refine zl_eq hx hb (show (f2 (nI 0).toNatClampNeg).toInt = bb.toInt from hfb) (i64 rfl) dL_law_496 dL_law_497 (tgt := 502) (by decide) (fun c_3 => ?_) (fun c_3 => ?_)
      · refine lv_goto (tgt := 1010) hx hb dL_law_502 (by decide) ?_
        refine W.widen (k := cells + 4) (n := slots + 3006) (by show cells + 1 + 0 + 0 ≤ cells + 4; omega) (by show slots + 6 + 0 + 0 ≤ slots + 3006; omega) ?_
        exact hback _ _ _ _ _ _ _ _ hS hR (lv_sub hl [2, 3, 4, 5, 6] rfl)
      · exact absurd rfl c_3
  · exact absurd rfl c_1
set_option maxHeartbeats 4000000 in
set_option maxRecDepth 100000 in
theorem O_begin {p : Program} {l : Launch} {e : Env} {s : State} {m : MethodId} {args : Array Value} {below : List Frame} {meth : Method} {c : Code} {b L : Nat} {xs : Nat → Int32} {G : va_G} {tys : List (ClassId × FieldType)} {cB cI cE cS cJ : ClassId} {z q : Nat → Nat} {x out : Nat} {Q : State → Prop} {cells slots : Nat} (C : lwX p l s m args c b L xs G tys cB cI cE cS cJ) {i : Nat} (hi : i + 6 ≤ L) (hcl : cells + 4 ≤ 601024 ∧ slots + 3006 ≤ 7293034) {th : Int32} {X w pl : va_W} {fo : Nat → Int64} {H : Heap} {locs : List Loc} {ls : Array Slot} (hS : Sim cB cI cE cS z q x th X w pl) (hR : rR G (fun q : Nat => s.heap.size ≤ q) s.heap H locs (((X ++ [(out, .inl (cJ, 1, .inr (.inl fo)))]) ++ w) ++ pl)) (hl : lv_has ls 7 [(4, .int (nI i)), (0, .ref b), (1, .ref (z 0)), (2, .ref x), (3, .ref out)]) (hback : ∀ (th : Int32) (X w pl : va_W) (fo : Nat → Int64) (H : Heap) (locs : List Loc) (ls : Array Slot), Sim cB cI cE cS z q x th X w pl → rR G (fun q : Nat => s.heap.size ≤ q) s.heap H locs (((X ++ [(out, .inl (cJ, 1, .inr (.inl fo)))]) ++ w) ++ pl) → lv_has ls 7 [(4, .int (nI i)), (0, .ref b), (1, .ref (z 0)), (2, .ref x), (3, .ref out)] → W p l e room_1 s m args below meth c H locs (cells + 4) (slots + 3006) Q (F0 m 1010 ls [])) : W p l e room_1 s m args below meth c H locs cells slots Q (F0 m 505 ls []) := by
  obtain ⟨hx, hb, hml, hown, hts, hT, hK, hJ9, hZ, hU, hn1, hn2, hX, hbl, hlt, hL⟩ := C
  have hA : ∀ q : Nat, s.heap.size ≤ q → (fun q : Nat => s.heap.size ≤ q) q := fun _ h => h
  have hbA : ¬ (fun q : Nat => s.heap.size ≤ q) b := Nat.not_le.mpr hbl
  have hTi : tys[1]? = some (cI, .int) := by rw [hT]; rfl
  obtain ⟨T, rd, Sn, Cw, C2, tm0, dn, st, Ts, cs, cp, ops, cg, ns, bg, sT, sC, hk, hw, hJ⟩ := id hS
  obtain ⟨⟨⟨hs0, hl0, hc0⟩, hu0⟩, hT3, hT4, hH, ⟨hst, hdn, hcg, hop⟩, hr0, hw0, hnn⟩ := id hJ
  have hbd := hw.bd
  have hb1 := (hbd.1 1 (by decide)).1
  have hns := hH.2.1
  have hopc : ops ≤ 2 * cg + 3 := by
    by_cases h0 : st = 0
    · have := (hr0 h0).1; omega
    · exact (hw0 h0).2.2.2.2.1
  obtain ⟨fs, hm⟩ := hk.mem
  obtain ⟨fs9, hm9⟩ := hw.mem
  refine lv_aload_n hx hb dL_law_505 rfl (lv_at hl 2 rfl) ?_
  refine lv_aload_n hx hb dL_law_506 rfl (lv_at hl 1 rfl) ?_
  refine lv_iload hx hb dL_law_507 (lv_at hl 0 rfl) ?_
  refine lv_iconst (v := nI 1) hx hb dL_law_509 rfl ?_
  refine nn_add hx hb dL_law_510 ?_
  refine va_sld hx hb hX hbl hbA hR.2.2 (vp_in_nI (by omega) (by omega)) dL_law_511 ?_
  refine nn_eqi (y := xs (i + 1)) (by rw [nI_clamp (by omega)]) ?_
  refine lv_aload_n hx hb dL_law_512 rfl (lv_at hl 4 rfl) ?_
  refine xl_callH (As := [.ref (z 0), .int (xs (i + 1)), .ref out]) (rest := []) (cx := X ++ [(out, .inl (cJ, 1, .inr (.inl fo)))]) (wr := w) (H_begin l hm (xs (i + 1)) (fun sz => K_begin l hT hlt hk (xs (i + 1)) hst (by omega)) (fun o X1 nw h => ⟨_, h.1⟩) (fun E X1 nw h => by rcases h with ⟨rfl, -⟩ | ⟨rfl, -⟩ <;> first | exact Or.inl rfl | exact Or.inr rfl)) ⟨hx, hb, hml, hown, hts⟩ (vx_cwSW 3 hts gL_law_L_begin rfl rfl rfl (by decide +kernel) ⟨Nat.le_of_ble_eq_true rfl, Nat.le_of_ble_eq_true rfl⟩) hK hZ hU hJ9 hn1 hn2 hR hA rfl hl.1 rfl (Nat.le_of_ble_eq_true rfl) dL_law_513 ⟨(by show cells + 1 ≤ 601024; omega), (by show slots + 6 ≤ 7293034; omega)⟩ (fun ro Xh nw H locs h1 hR => ?_)
  obtain ⟨k, X1, f2, o9, rfl, hk2, rfl, h1, hf0⟩ := hPo_norm (by decide) h1
  refine lv_istore (lv' := [(5, .int (nI k)), (4, .int (nI i)), (0, .ref b), (1, .ref (z 0)), (2, .ref x), (3, .ref out)]) hx hb dL_law_516 hl (by decide) rfl (fun ls hl => ?_)
  refine lv_aload_n hx hb dL_law_518 rfl (lv_at hl 4 rfl) ?_
  refine lv_aload_n hx hb dL_law_519 rfl (lv_at hl 2 rfl) ?_
  refine lv_iload hx hb dL_law_520 (lv_at hl 1 rfl) ?_
  refine lv_iconst (v := nI 1) hx hb dL_law_522 rfl ?_
  refine nn_add hx hb dL_law_523 ?_
  refine va_sld hx hb hX hbl hbA hR.2.2 (vp_in_nI (by omega) (by omega)) dL_law_524 ?_
  refine nn_eqi (y := xs (i + 1)) (by rw [nI_clamp (by omega)]) ?_
  refine xl_callV (C := RX9) (As := [.int (xs (i + 1))]) (rest := []) (cx := w) (wr := X1 ++ [(out, .inl (cJ, 1, .inr (.inl f2)))]) (r2c (F_begin l hTi hw (xs (i + 1)) hst hns)) ⟨hx, hb, hml, hown, hts⟩ (cwV 1 hts gL_law_X9_begin rfl rfl rfl (by decide +kernel) ⟨Nat.le_of_ble_eq_true rfl, Nat.le_of_ble_eq_true rfl⟩) hK hZ (rR_swap hR) hA (xrecv (ci := 8) hK hR.1 rfl (List.mem_append_left _ (List.mem_append_right _ hm9))) rfl hl.1 rfl (Nat.le_of_ble_eq_true rfl) dL_law_525 ⟨(by show cells + 1 + 0 ≤ 601024; omega), (by show slots + 6 + 0 ≤ 7293034; omega)⟩ (fun r w1 nw1 H locs h2 hR => ?_)
  obtain ⟨rfl, h2⟩ := h2
  rw [List.append_nil] at hR
  have hR : rR G (fun q : Nat => s.heap.size ≤ q) s.heap H locs (((X1 ++ [(out, .inl (cJ, 1, .inr (.inl f2)))]) ++ w1) ++ (pl ++ nw)) := rR_swap hR
  obtain ⟨bb, rfl, hkb, hS⟩ := J_begin hJ (Nat.le_trans (chg_le _ _) (by omega)) h1 h2
  refine lv_istore (lv' := [(6, .int bb), (5, .int (nI k)), (4, .int (nI i)), (0, .ref b), (1, .ref (z 0)), (2, .ref x), (3, .ref out)]) hx hb dL_law_528 hl (by decide) rfl (fun ls hl => ?_)
  refine lv_aload_n hx hb dL_law_530 rfl (lv_at hl 5 rfl) ?_
  obtain ⟨T8, rd8, Sn8, Cw8, C28, tm8, dn8, st8, Ts8, cs8, cp8, ops8, cg8, ns8, bg8, sT8, sC8, hk8, hw8, hJ8⟩ := id hS
  obtain ⟨fs8, hm8⟩ := hw8.mem
  refine xl_callV (C := RX9) (As := []) (rest := []) (cx := w1) (wr := X1 ++ [(out, .inl (cJ, 1, .inr (.inl f2)))]) (p2c (F_thrown l hTi (A := (fun q : Nat => s.heap.size ≤ q)) hw8)) ⟨hx, hb, hml, hown, hts⟩ (cwV 0 hts gL_law_X9_thrown rfl rfl rfl (by decide +kernel) ⟨Nat.le_of_ble_eq_true rfl, Nat.le_of_ble_eq_true rfl⟩) hK hZ (rR_swap hR) hA (xrecv (ci := 8) hK hR.1 rfl (List.mem_append_left _ (List.mem_append_right _ hm8))) rfl hl.1 rfl (Nat.le_of_ble_eq_true rfl) dL_law_531 ⟨(by show cells + 1 + 0 + 0 ≤ 601024; omega), (by show slots + 6 + 0 + 0 ≤ 7293034; omega)⟩ (fun r8 w8 nw8 H locs h8 hR => ?_)
  obtain ⟨e8, e9, v8, rfl, rfl⟩ := h8
  rw [e8, e9, List.append_nil] at hR
  have hR : rR G (fun q : Nat => s.heap.size ≤ q) s.heap H locs (((X1 ++ [(out, .inl (cJ, 1, .inr (.inl f2)))]) ++ w1) ++ (pl ++ nw)) := rR_swap hR
  refine lv_iload hx hb dL_law_534 (lv_at hl 1 rfl) ?_
  refine nn_eq hx hb dL_law_536 (tgt := 541) (by decide) (by omega) (by omega) (fun c_1 => ?_) (fun c_1 => ?_)
  · refine lv_iload hx hb dL_law_541 (lv_at hl 1 rfl) ?_
    refine nz_ne hx hb dL_law_543 (tgt := 558) (by decide) (by omega) (fun c_2 => ?_) (fun c_2 => ?_)
    · refine lv_goto (tgt := 1010) hx hb dL_law_558 (by decide) ?_
      refine W.widen (k := cells + 4) (n := slots + 3006) (by show cells + 1 + 0 + 0 ≤ cells + 4; omega) (by show slots + 6 + 0 + 0 ≤ slots + 3006; omega) ?_
      exact hback _ _ _ _ _ _ _ _ hS hR (lv_sub hl [2, 3, 4, 5, 6] rfl)
    · refine lv_aload_n hx hb dL_law_546 rfl (lv_at hl 6 rfl) ?_
      refine lv_iconst (v := nI 0) hx hb dL_law_547 rfl ?_
      have hfb : (f2 0).toInt = bb.toInt := by
        rw [hf0 (by omega) bb (hkb (by omega))]; exact i64 rfl
      refine va_lald hx hb hJ9 hR.1 X1.length 0 (by rw [List.append_assoc, List.append_assoc, List.getElem?_append_right (Nat.le_refl _), Nat.sub_self]; rfl) rfl (vp_in_nI (by decide) (by decide)) dL_law_548 ?_
      refine lv_iload hx hb dL_law_549 (lv_at hl 0 rfl) ?_
      refine lv_i2l hx hb dL_law_551 rfl ?_
      refine zl_eq hx hb (show (f2 (nI 0).toNatClampNeg).toInt = bb.toInt from hfb) (i64 rfl) dL_law_552 dL_law_553 (tgt := 558) (by decide) (fun c_3 => ?_) (fun c_3 => ?_)
      · refine lv_goto (tgt := 1010) hx hb dL_law_558 (by decide) ?_
        refine W.widen (k := cells + 4) (n := slots + 3006) (by show cells + 1 + 0 + 0 ≤ cells + 4; omega) (by show slots + 6 + 0 + 0 ≤ slots + 3006; omega) ?_
        exact hback _ _ _ _ _ _ _ _ hS hR (lv_sub hl [2, 3, 4, 5, 6] rfl)
      · exact absurd rfl c_3
  · exact absurd rfl c_1
set_option maxHeartbeats 4000000 in
set_option maxRecDepth 100000 in
theorem O_step {p : Program} {l : Launch} {e : Env} {s : State} {m : MethodId} {args : Array Value} {below : List Frame} {meth : Method} {c : Code} {b L : Nat} {xs : Nat → Int32} {G : va_G} {tys : List (ClassId × FieldType)} {cB cI cE cS cJ : ClassId} {z q : Nat → Nat} {x out : Nat} {Q : State → Prop} {cells slots : Nat} (C : lwX p l s m args c b L xs G tys cB cI cE cS cJ) {i : Nat} (hi : i + 6 ≤ L) (hcl : cells + 4 ≤ 601024 ∧ slots + 3006 ≤ 7293034) {th : Int32} {X w pl : va_W} {fo : Nat → Int64} {H : Heap} {locs : List Loc} {ls : Array Slot} (hS : Sim cB cI cE cS z q x th X w pl) (hR : rR G (fun q : Nat => s.heap.size ≤ q) s.heap H locs (((X ++ [(out, .inl (cJ, 1, .inr (.inl fo)))]) ++ w) ++ pl)) (hl : lv_has ls 7 [(4, .int (nI i)), (0, .ref b), (1, .ref (z 0)), (2, .ref x), (3, .ref out)]) (hback : ∀ (th : Int32) (X w pl : va_W) (fo : Nat → Int64) (H : Heap) (locs : List Loc) (ls : Array Slot), Sim cB cI cE cS z q x th X w pl → rR G (fun q : Nat => s.heap.size ≤ q) s.heap H locs (((X ++ [(out, .inl (cJ, 1, .inr (.inl fo)))]) ++ w) ++ pl) → lv_has ls 7 [(4, .int (nI i)), (0, .ref b), (1, .ref (z 0)), (2, .ref x), (3, .ref out)] → W p l e room_1 s m args below meth c H locs (cells + 4) (slots + 3006) Q (F0 m 1010 ls [])) : W p l e room_1 s m args below meth c H locs cells slots Q (F0 m 561 ls []) := by
  obtain ⟨hx, hb, hml, hown, hts, hT, hK, hJ9, hZ, hU, hn1, hn2, hX, hbl, hlt, hL⟩ := C
  have hA : ∀ q : Nat, s.heap.size ≤ q → (fun q : Nat => s.heap.size ≤ q) q := fun _ h => h
  have hbA : ¬ (fun q : Nat => s.heap.size ≤ q) b := Nat.not_le.mpr hbl
  have hTi : tys[1]? = some (cI, .int) := by rw [hT]; rfl
  obtain ⟨T, rd, Sn, Cw, C2, tm0, dn, st, Ts, cs, cp, ops, cg, ns, bg, sT, sC, hk, hw, hJ⟩ := id hS
  obtain ⟨⟨⟨hs0, hl0, hc0⟩, hu0⟩, hT3, hT4, hH, ⟨hst, hdn, hcg, hop⟩, hr0, hw0, hnn⟩ := id hJ
  have hbd := hw.bd
  have hb1 := (hbd.1 1 (by decide)).1
  have hns := hH.2.1
  have hopc : ops ≤ 2 * cg + 3 := by
    by_cases h0 : st = 0
    · have := (hr0 h0).1; omega
    · exact (hw0 h0).2.2.2.2.1
  obtain ⟨fs, hm⟩ := hk.mem
  obtain ⟨fs9, hm9⟩ := hw.mem
  refine lv_aload_n hx hb dL_law_561 rfl (lv_at hl 2 rfl) ?_
  refine lv_aload_n hx hb dL_law_562 rfl (lv_at hl 1 rfl) ?_
  refine lv_iload hx hb dL_law_563 (lv_at hl 0 rfl) ?_
  refine lv_iconst (v := nI 1) hx hb dL_law_565 rfl ?_
  refine nn_add hx hb dL_law_566 ?_
  refine va_sld hx hb hX hbl hbA hR.2.2 (vp_in_nI (by omega) (by omega)) dL_law_567 ?_
  refine nn_eqi (y := xs (i + 1)) (by rw [nI_clamp (by omega)]) ?_
  refine lv_aload_n hx hb dL_law_568 rfl (lv_at hl 4 rfl) ?_
  refine xl_callH (As := [.ref (z 0), .int (xs (i + 1)), .ref out]) (rest := []) (cx := X ++ [(out, .inl (cJ, 1, .inr (.inl fo)))]) (wr := w) (H_step l hm (xs (i + 1)) (fun sz => K_step l hT hlt hk (xs (i + 1)) hst (fun h => by rw [hH.1]; exact hnn h) (mir (Ts 3) (Ts 4)) (fun h => q_step (hw0 (by omega)) hT3 hT4 (hbd.1 3 (by decide)).2 (hbd.1 4 (by decide)).2)) (fun o X1 nw ⟨_, _, cn, _, h, _⟩ => ⟨_, h⟩) (fun E X1 nw h => by rcases h with ⟨rfl, -⟩ | ⟨rfl, -⟩ <;> first | exact Or.inl rfl | exact Or.inr rfl)) ⟨hx, hb, hml, hown, hts⟩ (vx_cwSW 3 hts gL_law_L_step rfl rfl rfl (by decide +kernel) ⟨Nat.le_of_ble_eq_true rfl, Nat.le_of_ble_eq_true rfl⟩) hK hZ hU hJ9 hn1 hn2 hR hA rfl hl.1 rfl (Nat.le_of_ble_eq_true rfl) dL_law_569 ⟨(by show cells + 3 ≤ 601024; omega), (by show slots + 125 ≤ 7293034; omega)⟩ (fun ro Xh nw H locs h1 hR => ?_)
  obtain ⟨k, X1, f2, o9, rfl, hk2, rfl, h1, hf0⟩ := hPo_norm (by decide) h1
  refine lv_istore (lv' := [(5, .int (nI k)), (4, .int (nI i)), (0, .ref b), (1, .ref (z 0)), (2, .ref x), (3, .ref out)]) hx hb dL_law_572 hl (by decide) rfl (fun ls hl => ?_)
  refine lv_aload_n hx hb dL_law_574 rfl (lv_at hl 4 rfl) ?_
  refine lv_aload_n hx hb dL_law_575 rfl (lv_at hl 2 rfl) ?_
  refine lv_iload hx hb dL_law_576 (lv_at hl 1 rfl) ?_
  refine lv_iconst (v := nI 1) hx hb dL_law_578 rfl ?_
  refine nn_add hx hb dL_law_579 ?_
  refine va_sld hx hb hX hbl hbA hR.2.2 (vp_in_nI (by omega) (by omega)) dL_law_580 ?_
  refine nn_eqi (y := xs (i + 1)) (by rw [nI_clamp (by omega)]) ?_
  refine xl_callV (C := RX9) (As := [.int (xs (i + 1))]) (rest := []) (cx := w) (wr := X1 ++ [(out, .inl (cJ, 1, .inr (.inl f2)))]) (r2c (F_step l hTi hw (xs (i + 1)) hst hnn hopc (by omega) (by have h3 := hT3.2.1; have h4 := hT4.2.1; omega) (by have h3 := hT3.2.2; have h4 := hT4.2.2; omega))) ⟨hx, hb, hml, hown, hts⟩ (cwV 1 hts gL_law_X9_step rfl rfl rfl (by decide +kernel) ⟨Nat.le_of_ble_eq_true rfl, Nat.le_of_ble_eq_true rfl⟩) hK hZ (rR_swap hR) hA (xrecv (ci := 8) hK hR.1 rfl (List.mem_append_left _ (List.mem_append_right _ hm9))) rfl hl.1 rfl (Nat.le_of_ble_eq_true rfl) dL_law_581 ⟨(by show cells + 3 + 0 ≤ 601024; omega), (by show slots + 125 + 0 ≤ 7293034; omega)⟩ (fun r w1 nw1 H locs h2 hR => ?_)
  obtain ⟨rfl, h2⟩ := h2
  rw [List.append_nil] at hR
  have hR : rR G (fun q : Nat => s.heap.size ≤ q) s.heap H locs (((X1 ++ [(out, .inl (cJ, 1, .inr (.inl f2)))]) ++ w1) ++ (pl ++ nw)) := rR_swap hR
  obtain ⟨bb, rfl, hkb, hS⟩ := J_step hJ h1 h2
  refine lv_istore (lv' := [(6, .int bb), (5, .int (nI k)), (4, .int (nI i)), (0, .ref b), (1, .ref (z 0)), (2, .ref x), (3, .ref out)]) hx hb dL_law_584 hl (by decide) rfl (fun ls hl => ?_)
  refine lv_aload_n hx hb dL_law_586 rfl (lv_at hl 5 rfl) ?_
  obtain ⟨T8, rd8, Sn8, Cw8, C28, tm8, dn8, st8, Ts8, cs8, cp8, ops8, cg8, ns8, bg8, sT8, sC8, hk8, hw8, hJ8⟩ := id hS
  obtain ⟨fs8, hm8⟩ := hw8.mem
  refine xl_callV (C := RX9) (As := []) (rest := []) (cx := w1) (wr := X1 ++ [(out, .inl (cJ, 1, .inr (.inl f2)))]) (p2c (F_thrown l hTi (A := (fun q : Nat => s.heap.size ≤ q)) hw8)) ⟨hx, hb, hml, hown, hts⟩ (cwV 0 hts gL_law_X9_thrown rfl rfl rfl (by decide +kernel) ⟨Nat.le_of_ble_eq_true rfl, Nat.le_of_ble_eq_true rfl⟩) hK hZ (rR_swap hR) hA (xrecv (ci := 8) hK hR.1 rfl (List.mem_append_left _ (List.mem_append_right _ hm8))) rfl hl.1 rfl (Nat.le_of_ble_eq_true rfl) dL_law_587 ⟨(by show cells + 3 + 0 + 0 ≤ 601024; omega), (by show slots + 125 + 0 + 0 ≤ 7293034; omega)⟩ (fun r8 w8 nw8 H locs h8 hR => ?_)
  obtain ⟨e8, e9, v8, rfl, rfl⟩ := h8
  rw [e8, e9, List.append_nil] at hR
  have hR : rR G (fun q : Nat => s.heap.size ≤ q) s.heap H locs (((X1 ++ [(out, .inl (cJ, 1, .inr (.inl f2)))]) ++ w1) ++ (pl ++ nw)) := rR_swap hR
  refine lv_iload hx hb dL_law_590 (lv_at hl 1 rfl) ?_
  refine nn_eq hx hb dL_law_592 (tgt := 597) (by decide) (by omega) (by omega) (fun c_1 => ?_) (fun c_1 => ?_)
  · refine lv_iload hx hb dL_law_597 (lv_at hl 1 rfl) ?_
    refine nz_ne hx hb dL_law_599 (tgt := 614) (by decide) (by omega) (fun c_2 => ?_) (fun c_2 => ?_)
    · refine lv_goto (tgt := 1010) hx hb dL_law_614 (by decide) ?_
      refine W.widen (k := cells + 4) (n := slots + 3006) (by show cells + 3 + 0 + 0 ≤ cells + 4; omega) (by show slots + 125 + 0 + 0 ≤ slots + 3006; omega) ?_
      exact hback _ _ _ _ _ _ _ _ hS hR (lv_sub hl [2, 3, 4, 5, 6] rfl)
    · refine lv_aload_n hx hb dL_law_602 rfl (lv_at hl 6 rfl) ?_
      refine lv_iconst (v := nI 0) hx hb dL_law_603 rfl ?_
      have hfb : (f2 0).toInt = bb.toInt := by
        rw [hf0 (by omega) bb (hkb (by omega))]; exact i64 rfl
      refine va_lald hx hb hJ9 hR.1 X1.length 0 (by rw [List.append_assoc, List.append_assoc, List.getElem?_append_right (Nat.le_refl _), Nat.sub_self]; rfl) rfl (vp_in_nI (by decide) (by decide)) dL_law_604 ?_
      refine lv_iload hx hb dL_law_605 (lv_at hl 0 rfl) ?_
      refine lv_i2l hx hb dL_law_607 rfl ?_
      refine zl_eq hx hb (show (f2 (nI 0).toNatClampNeg).toInt = bb.toInt from hfb) (i64 rfl) dL_law_608 dL_law_609 (tgt := 614) (by decide) (fun c_3 => ?_) (fun c_3 => ?_)
      · refine lv_goto (tgt := 1010) hx hb dL_law_614 (by decide) ?_
        refine W.widen (k := cells + 4) (n := slots + 3006) (by show cells + 3 + 0 + 0 ≤ cells + 4; omega) (by show slots + 125 + 0 + 0 ≤ slots + 3006; omega) ?_
        exact hback _ _ _ _ _ _ _ _ hS hR (lv_sub hl [2, 3, 4, 5, 6] rfl)
      · exact absurd rfl c_3
  · exact absurd rfl c_1
set_option maxHeartbeats 4000000 in
set_option maxRecDepth 100000 in
theorem O_crash {p : Program} {l : Launch} {e : Env} {s : State} {m : MethodId} {args : Array Value} {below : List Frame} {meth : Method} {c : Code} {b L : Nat} {xs : Nat → Int32} {G : va_G} {tys : List (ClassId × FieldType)} {cB cI cE cS cJ : ClassId} {z q : Nat → Nat} {x out : Nat} {Q : State → Prop} {cells slots : Nat} (C : lwX p l s m args c b L xs G tys cB cI cE cS cJ) {i : Nat} (hi : i + 6 ≤ L) (hcl : cells + 4 ≤ 601024 ∧ slots + 3006 ≤ 7293034) {th : Int32} {X w pl : va_W} {fo : Nat → Int64} {H : Heap} {locs : List Loc} {ls : Array Slot} (hS : Sim cB cI cE cS z q x th X w pl) (hR : rR G (fun q : Nat => s.heap.size ≤ q) s.heap H locs (((X ++ [(out, .inl (cJ, 1, .inr (.inl fo)))]) ++ w) ++ pl)) (hl : lv_has ls 7 [(4, .int (nI i)), (0, .ref b), (1, .ref (z 0)), (2, .ref x), (3, .ref out)]) (hback : ∀ (th : Int32) (X w pl : va_W) (fo : Nat → Int64) (H : Heap) (locs : List Loc) (ls : Array Slot), Sim cB cI cE cS z q x th X w pl → rR G (fun q : Nat => s.heap.size ≤ q) s.heap H locs (((X ++ [(out, .inl (cJ, 1, .inr (.inl fo)))]) ++ w) ++ pl) → lv_has ls 7 [(4, .int (nI i)), (0, .ref b), (1, .ref (z 0)), (2, .ref x), (3, .ref out)] → W p l e room_1 s m args below meth c H locs (cells + 4) (slots + 3006) Q (F0 m 1010 ls [])) : W p l e room_1 s m args below meth c H locs cells slots Q (F0 m 617 ls []) := by
  obtain ⟨hx, hb, hml, hown, hts, hT, hK, hJ9, hZ, hU, hn1, hn2, hX, hbl, hlt, hL⟩ := C
  have hA : ∀ q : Nat, s.heap.size ≤ q → (fun q : Nat => s.heap.size ≤ q) q := fun _ h => h
  have hbA : ¬ (fun q : Nat => s.heap.size ≤ q) b := Nat.not_le.mpr hbl
  have hTi : tys[1]? = some (cI, .int) := by rw [hT]; rfl
  obtain ⟨T, rd, Sn, Cw, C2, tm0, dn, st, Ts, cs, cp, ops, cg, ns, bg, sT, sC, hk, hw, hJ⟩ := id hS
  obtain ⟨⟨⟨hs0, hl0, hc0⟩, hu0⟩, hT3, hT4, hH, ⟨hst, hdn, hcg, hop⟩, hr0, hw0, hnn⟩ := id hJ
  have hbd := hw.bd
  have hb1 := (hbd.1 1 (by decide)).1
  have hns := hH.2.1
  have hopc : ops ≤ 2 * cg + 3 := by
    by_cases h0 : st = 0
    · have := (hr0 h0).1; omega
    · exact (hw0 h0).2.2.2.2.1
  obtain ⟨fs, hm⟩ := hk.mem
  obtain ⟨fs9, hm9⟩ := hw.mem
  refine lv_aload_n hx hb dL_law_617 rfl (lv_at hl 2 rfl) ?_
  have hR1 : rR G (fun q : Nat => s.heap.size ≤ q) s.heap H locs ((X ++ ([(out, .inl (cJ, 1, .inr (.inl fo)))] ++ w)) ++ pl) := by rw [← List.append_assoc]; exact hR
  refine xl_callH (As := [.ref (z 0)]) (rest := []) (cx := X) (wr := [(out, .inl (cJ, 1, .inr (.inl fo)))] ++ w) (H_crash l hm  (fun sz => K_crash l hT hlt hk hst) (fun o X1 nw h => h.1) (fun E X1 nw h => h.1)) ⟨hx, hb, hml, hown, hts⟩ (vx_cwSW 1 hts gL_law_L_crash rfl rfl rfl (by decide +kernel) ⟨Nat.le_of_ble_eq_true rfl, Nat.le_of_ble_eq_true rfl⟩) hK hZ hU hJ9 hn1 hn2 hR1 hA rfl hl.1 rfl (Nat.le_of_ble_eq_true rfl) dL_law_618 ⟨(by show cells + 1 ≤ 601024; omega), (by show slots + 6 ≤ 7293034; omega)⟩ (fun ro Xh nw H locs h1 hR => ?_)
  generalize Xh = X1 at h1 hR
  obtain ⟨k, o9, rfl, hk2, h1⟩ := hPv_norm (by decide) h1
  have hR : rR G (fun q : Nat => s.heap.size ≤ q) s.heap H locs (((X1 ++ [(out, .inl (cJ, 1, .inr (.inl fo)))]) ++ w) ++ (pl ++ nw)) := by rw [List.append_assoc X1]; exact hR
  refine lv_istore (lv' := [(5, .int (nI k)), (4, .int (nI i)), (0, .ref b), (1, .ref (z 0)), (2, .ref x), (3, .ref out)]) hx hb dL_law_621 hl (by decide) rfl (fun ls hl => ?_)
  refine lv_aload_n hx hb dL_law_623 rfl (lv_at hl 4 rfl) ?_
  refine xl_callV (C := RX9) (As := []) (rest := []) (cx := w) (wr := X1 ++ [(out, .inl (cJ, 1, .inr (.inl fo)))]) (r2c (F_crash l hTi hw (by omega))) ⟨hx, hb, hml, hown, hts⟩ (cwV 0 hts gL_law_X9_crash rfl rfl rfl (by decide +kernel) ⟨Nat.le_of_ble_eq_true rfl, Nat.le_of_ble_eq_true rfl⟩) hK hZ (rR_swap hR) hA (xrecv (ci := 8) hK hR.1 rfl (List.mem_append_left _ (List.mem_append_right _ hm9))) rfl hl.1 rfl (Nat.le_of_ble_eq_true rfl) dL_law_624 ⟨(by show cells + 1 + 0 ≤ 601024; omega), (by show slots + 6 + 0 ≤ 7293034; omega)⟩ (fun r w1 nw1 H locs h2 hR => ?_)
  obtain ⟨rfl, h2⟩ := h2
  rw [List.append_nil] at hR
  have hR : rR G (fun q : Nat => s.heap.size ≤ q) s.heap H locs (((X1 ++ [(out, .inl (cJ, 1, .inr (.inl fo)))]) ++ w1) ++ (pl ++ nw)) := rR_swap hR
  obtain ⟨rfl, hS⟩ := J_crash hJ h1 h2
  refine lv_aload_n hx hb dL_law_627 rfl (lv_at hl 4 rfl) ?_
  obtain ⟨T8, rd8, Sn8, Cw8, C28, tm8, dn8, st8, Ts8, cs8, cp8, ops8, cg8, ns8, bg8, sT8, sC8, hk8, hw8, hJ8⟩ := id hS
  obtain ⟨fs8, hm8⟩ := hw8.mem
  refine xl_callV (C := RX9) (As := []) (rest := []) (cx := w1) (wr := X1 ++ [(out, .inl (cJ, 1, .inr (.inl fo)))]) (p2c (F_thrown l hTi (A := (fun q : Nat => s.heap.size ≤ q)) hw8)) ⟨hx, hb, hml, hown, hts⟩ (cwV 0 hts gL_law_X9_thrown rfl rfl rfl (by decide +kernel) ⟨Nat.le_of_ble_eq_true rfl, Nat.le_of_ble_eq_true rfl⟩) hK hZ (rR_swap hR) hA (xrecv (ci := 8) hK hR.1 rfl (List.mem_append_left _ (List.mem_append_right _ hm8))) rfl hl.1 rfl (Nat.le_of_ble_eq_true rfl) dL_law_628 ⟨(by show cells + 1 + 0 + 0 ≤ 601024; omega), (by show slots + 6 + 0 + 0 ≤ 7293034; omega)⟩ (fun r8 w8 nw8 H locs h8 hR => ?_)
  obtain ⟨e8, e9, v8, rfl, rfl⟩ := h8
  rw [e8, e9, List.append_nil] at hR
  have hR : rR G (fun q : Nat => s.heap.size ≤ q) s.heap H locs (((X1 ++ [(out, .inl (cJ, 1, .inr (.inl fo)))]) ++ w1) ++ (pl ++ nw)) := rR_swap hR
  refine lv_iload hx hb dL_law_631 (lv_at hl 0 rfl) ?_
  refine nn_eq hx hb dL_law_633 (tgt := 638) (by decide) (by omega) (by omega) (fun c_1 => ?_) (fun c_1 => ?_)
  · refine lv_goto (tgt := 1010) hx hb dL_law_638 (by decide) ?_
    refine W.widen (k := cells + 4) (n := slots + 3006) (by show cells + 1 + 0 + 0 ≤ cells + 4; omega) (by show slots + 6 + 0 + 0 ≤ slots + 3006; omega) ?_
    exact hback _ _ _ _ _ _ _ _ hS hR (lv_sub hl [1, 2, 3, 4, 5] rfl)
  · exact absurd rfl c_1
set_option maxHeartbeats 4000000 in
set_option maxRecDepth 100000 in
theorem O_regress {p : Program} {l : Launch} {e : Env} {s : State} {m : MethodId} {args : Array Value} {below : List Frame} {meth : Method} {c : Code} {b L : Nat} {xs : Nat → Int32} {G : va_G} {tys : List (ClassId × FieldType)} {cB cI cE cS cJ : ClassId} {z q : Nat → Nat} {x out : Nat} {Q : State → Prop} {cells slots : Nat} (C : lwX p l s m args c b L xs G tys cB cI cE cS cJ) {i : Nat} (hi : i + 6 ≤ L) (hcl : cells + 4 ≤ 601024 ∧ slots + 3006 ≤ 7293034) {th : Int32} {X w pl : va_W} {fo : Nat → Int64} {H : Heap} {locs : List Loc} {ls : Array Slot} (hS : Sim cB cI cE cS z q x th X w pl) (hR : rR G (fun q : Nat => s.heap.size ≤ q) s.heap H locs (((X ++ [(out, .inl (cJ, 1, .inr (.inl fo)))]) ++ w) ++ pl)) (hl : lv_has ls 7 [(4, .int (nI i)), (0, .ref b), (1, .ref (z 0)), (2, .ref x), (3, .ref out)]) (hback : ∀ (th : Int32) (X w pl : va_W) (fo : Nat → Int64) (H : Heap) (locs : List Loc) (ls : Array Slot), Sim cB cI cE cS z q x th X w pl → rR G (fun q : Nat => s.heap.size ≤ q) s.heap H locs (((X ++ [(out, .inl (cJ, 1, .inr (.inl fo)))]) ++ w) ++ pl) → lv_has ls 7 [(4, .int (nI i)), (0, .ref b), (1, .ref (z 0)), (2, .ref x), (3, .ref out)] → W p l e room_1 s m args below meth c H locs (cells + 4) (slots + 3006) Q (F0 m 1010 ls [])) : W p l e room_1 s m args below meth c H locs cells slots Q (F0 m 641 ls []) := by
  obtain ⟨hx, hb, hml, hown, hts, hT, hK, hJ9, hZ, hU, hn1, hn2, hX, hbl, hlt, hL⟩ := C
  have hA : ∀ q : Nat, s.heap.size ≤ q → (fun q : Nat => s.heap.size ≤ q) q := fun _ h => h
  have hbA : ¬ (fun q : Nat => s.heap.size ≤ q) b := Nat.not_le.mpr hbl
  have hTi : tys[1]? = some (cI, .int) := by rw [hT]; rfl
  obtain ⟨T, rd, Sn, Cw, C2, tm0, dn, st, Ts, cs, cp, ops, cg, ns, bg, sT, sC, hk, hw, hJ⟩ := id hS
  obtain ⟨⟨⟨hs0, hl0, hc0⟩, hu0⟩, hT3, hT4, hH, ⟨hst, hdn, hcg, hop⟩, hr0, hw0, hnn⟩ := id hJ
  have hbd := hw.bd
  have hb1 := (hbd.1 1 (by decide)).1
  have hns := hH.2.1
  have hopc : ops ≤ 2 * cg + 3 := by
    by_cases h0 : st = 0
    · have := (hr0 h0).1; omega
    · exact (hw0 h0).2.2.2.2.1
  obtain ⟨fs, hm⟩ := hk.mem
  obtain ⟨fs9, hm9⟩ := hw.mem
  refine lv_aload_n hx hb dL_law_641 rfl (lv_at hl 2 rfl) ?_
  refine lv_aload_n hx hb dL_law_642 rfl (lv_at hl 1 rfl) ?_
  refine lv_iload hx hb dL_law_643 (lv_at hl 0 rfl) ?_
  refine lv_iconst (v := nI 1) hx hb dL_law_645 rfl ?_
  refine nn_add hx hb dL_law_646 ?_
  refine va_sld hx hb hX hbl hbA hR.2.2 (vp_in_nI (by omega) (by omega)) dL_law_647 ?_
  refine nn_eqi (y := xs (i + 1)) (by rw [nI_clamp (by omega)]) ?_
  refine lv_aload_n hx hb dL_law_648 rfl (lv_at hl 4 rfl) ?_
  refine xl_callH (As := [.ref (z 0), .int (xs (i + 1)), .ref out]) (rest := []) (cx := X ++ [(out, .inl (cJ, 1, .inr (.inl fo)))]) (wr := w) (H_regress l hm (xs (i + 1)) (fun sz => K_regress l hT hlt hk (xs (i + 1)) hst (mir (Ts 3) (Ts 4)) (fun h => q_back (hw0 (by omega)) hT3 hT4 (hbd.1 3 (by decide)).2 (hbd.1 4 (by decide)).2)) (fun o X1 nw ⟨_, _, cn, _, h, _⟩ => ⟨_, h⟩) (fun E X1 nw h => by rcases h with ⟨rfl, -⟩ | ⟨rfl, -⟩ <;> first | exact Or.inl rfl | exact Or.inr rfl)) ⟨hx, hb, hml, hown, hts⟩ (vx_cwSW 3 hts gL_law_L_regress rfl rfl rfl (by decide +kernel) ⟨Nat.le_of_ble_eq_true rfl, Nat.le_of_ble_eq_true rfl⟩) hK hZ hU hJ9 hn1 hn2 hR hA rfl hl.1 rfl (Nat.le_of_ble_eq_true rfl) dL_law_649 ⟨(by show cells + 1 ≤ 601024; omega), (by show slots + 6 ≤ 7293034; omega)⟩ (fun ro Xh nw H locs h1 hR => ?_)
  obtain ⟨k, X1, f2, o9, rfl, hk2, rfl, h1, hf0⟩ := hPo_norm (by decide) h1
  refine lv_istore (lv' := [(5, .int (nI k)), (4, .int (nI i)), (0, .ref b), (1, .ref (z 0)), (2, .ref x), (3, .ref out)]) hx hb dL_law_652 hl (by decide) rfl (fun ls hl => ?_)
  refine lv_aload_n hx hb dL_law_654 rfl (lv_at hl 4 rfl) ?_
  refine lv_aload_n hx hb dL_law_655 rfl (lv_at hl 2 rfl) ?_
  refine lv_iload hx hb dL_law_656 (lv_at hl 1 rfl) ?_
  refine lv_iconst (v := nI 1) hx hb dL_law_658 rfl ?_
  refine nn_add hx hb dL_law_659 ?_
  refine va_sld hx hb hX hbl hbA hR.2.2 (vp_in_nI (by omega) (by omega)) dL_law_660 ?_
  refine nn_eqi (y := xs (i + 1)) (by rw [nI_clamp (by omega)]) ?_
  refine xl_callV (C := RX9) (As := [.int (xs (i + 1))]) (rest := []) (cx := w) (wr := X1 ++ [(out, .inl (cJ, 1, .inr (.inl f2)))]) (r2c (F_regress l hTi hw (xs (i + 1)) hst hopc (by omega) (by have h3 := hT3.2.1; have h4 := hT4.2.1; omega) (by have h3 := hT3.2.2; have h4 := hT4.2.2; omega))) ⟨hx, hb, hml, hown, hts⟩ (cwV 1 hts gL_law_X9_regress rfl rfl rfl (by decide +kernel) ⟨Nat.le_of_ble_eq_true rfl, Nat.le_of_ble_eq_true rfl⟩) hK hZ (rR_swap hR) hA (xrecv (ci := 8) hK hR.1 rfl (List.mem_append_left _ (List.mem_append_right _ hm9))) rfl hl.1 rfl (Nat.le_of_ble_eq_true rfl) dL_law_661 ⟨(by show cells + 1 + 0 ≤ 601024; omega), (by show slots + 6 + 0 ≤ 7293034; omega)⟩ (fun r w1 nw1 H locs h2 hR => ?_)
  obtain ⟨rfl, h2⟩ := h2
  rw [List.append_nil] at hR
  have hR : rR G (fun q : Nat => s.heap.size ≤ q) s.heap H locs (((X1 ++ [(out, .inl (cJ, 1, .inr (.inl f2)))]) ++ w1) ++ (pl ++ nw)) := rR_swap hR
  obtain ⟨bb, rfl, hkb, hS⟩ := J_regress hJ h1 h2
  refine lv_istore (lv' := [(6, .int bb), (5, .int (nI k)), (4, .int (nI i)), (0, .ref b), (1, .ref (z 0)), (2, .ref x), (3, .ref out)]) hx hb dL_law_664 hl (by decide) rfl (fun ls hl => ?_)
  refine lv_aload_n hx hb dL_law_666 rfl (lv_at hl 5 rfl) ?_
  obtain ⟨T8, rd8, Sn8, Cw8, C28, tm8, dn8, st8, Ts8, cs8, cp8, ops8, cg8, ns8, bg8, sT8, sC8, hk8, hw8, hJ8⟩ := id hS
  obtain ⟨fs8, hm8⟩ := hw8.mem
  refine xl_callV (C := RX9) (As := []) (rest := []) (cx := w1) (wr := X1 ++ [(out, .inl (cJ, 1, .inr (.inl f2)))]) (p2c (F_thrown l hTi (A := (fun q : Nat => s.heap.size ≤ q)) hw8)) ⟨hx, hb, hml, hown, hts⟩ (cwV 0 hts gL_law_X9_thrown rfl rfl rfl (by decide +kernel) ⟨Nat.le_of_ble_eq_true rfl, Nat.le_of_ble_eq_true rfl⟩) hK hZ (rR_swap hR) hA (xrecv (ci := 8) hK hR.1 rfl (List.mem_append_left _ (List.mem_append_right _ hm8))) rfl hl.1 rfl (Nat.le_of_ble_eq_true rfl) dL_law_667 ⟨(by show cells + 1 + 0 + 0 ≤ 601024; omega), (by show slots + 6 + 0 + 0 ≤ 7293034; omega)⟩ (fun r8 w8 nw8 H locs h8 hR => ?_)
  obtain ⟨e8, e9, v8, rfl, rfl⟩ := h8
  rw [e8, e9, List.append_nil] at hR
  have hR : rR G (fun q : Nat => s.heap.size ≤ q) s.heap H locs (((X1 ++ [(out, .inl (cJ, 1, .inr (.inl f2)))]) ++ w1) ++ (pl ++ nw)) := rR_swap hR
  refine lv_iload hx hb dL_law_670 (lv_at hl 1 rfl) ?_
  refine nn_eq hx hb dL_law_672 (tgt := 677) (by decide) (by omega) (by omega) (fun c_1 => ?_) (fun c_1 => ?_)
  · refine lv_iload hx hb dL_law_677 (lv_at hl 1 rfl) ?_
    refine nz_ne hx hb dL_law_679 (tgt := 694) (by decide) (by omega) (fun c_2 => ?_) (fun c_2 => ?_)
    · refine lv_goto (tgt := 1010) hx hb dL_law_694 (by decide) ?_
      refine W.widen (k := cells + 4) (n := slots + 3006) (by show cells + 1 + 0 + 0 ≤ cells + 4; omega) (by show slots + 6 + 0 + 0 ≤ slots + 3006; omega) ?_
      exact hback _ _ _ _ _ _ _ _ hS hR (lv_sub hl [2, 3, 4, 5, 6] rfl)
    · refine lv_aload_n hx hb dL_law_682 rfl (lv_at hl 6 rfl) ?_
      refine lv_iconst (v := nI 0) hx hb dL_law_683 rfl ?_
      have hfb : (f2 0).toInt = bb.toInt := by
        rw [hf0 (by omega) bb (hkb (by omega))]; exact i64 rfl
      refine va_lald hx hb hJ9 hR.1 X1.length 0 (by rw [List.append_assoc, List.append_assoc, List.getElem?_append_right (Nat.le_refl _), Nat.sub_self]; rfl) rfl (vp_in_nI (by decide) (by decide)) dL_law_684 ?_
      refine lv_iload hx hb dL_law_685 (lv_at hl 0 rfl) ?_
      refine lv_i2l hx hb dL_law_687 rfl ?_
      refine zl_eq hx hb (show (f2 (nI 0).toNatClampNeg).toInt = bb.toInt from hfb) (i64 rfl) dL_law_688 dL_law_689 (tgt := 694) (by decide) (fun c_3 => ?_) (fun c_3 => ?_)
      · refine lv_goto (tgt := 1010) hx hb dL_law_694 (by decide) ?_
        refine W.widen (k := cells + 4) (n := slots + 3006) (by show cells + 1 + 0 + 0 ≤ cells + 4; omega) (by show slots + 6 + 0 + 0 ≤ slots + 3006; omega) ?_
        exact hback _ _ _ _ _ _ _ _ hS hR (lv_sub hl [2, 3, 4, 5, 6] rfl)
      · exact absurd rfl c_3
  · exact absurd rfl c_1
