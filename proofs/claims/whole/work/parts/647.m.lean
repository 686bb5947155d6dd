set_option maxHeartbeats 4000000 in
set_option maxRecDepth 100000 in
theorem O_restore {p : Program} {l : Launch} {e : Env} {s : State} {m : MethodId} {args : Array Value} {below : List Frame} {meth : Method} {c : Code} {b L : Nat} {xs : Nat → Int32} {G : va_G} {tys : List (ClassId × FieldType)} {cB cI cE cS cJ : ClassId} {z q : Nat → Nat} {x out : Nat} {Q : State → Prop} {cells slots : Nat} (C : lwX p l s m args c b L xs G tys cB cI cE cS cJ) {i : Nat} (hi : i + 6 ≤ L) (hcl : cells + 4 ≤ 601024 ∧ slots + 3006 ≤ 7293034) {th : Int32} {X w pl : va_W} {fo : Nat → Int64} {H : Heap} {locs : List Loc} {ls : Array Slot} (hS : Sim cB cI cE cS z q x th X w pl) (hR : rR G (fun q : Nat => s.heap.size ≤ q) s.heap H locs (((X ++ [(out, .inl (cJ, 1, .inr (.inl fo)))]) ++ w) ++ pl)) (hl : lv_has ls 7 [(4, .int (nI i)), (0, .ref b), (1, .ref (z 0)), (2, .ref x), (3, .ref out)]) (hback : ∀ (th : Int32) (X w pl : va_W) (fo : Nat → Int64) (H : Heap) (locs : List Loc) (ls : Array Slot), Sim cB cI cE cS z q x th X w pl → rR G (fun q : Nat => s.heap.size ≤ q) s.heap H locs (((X ++ [(out, .inl (cJ, 1, .inr (.inl fo)))]) ++ w) ++ pl) → lv_has ls 7 [(4, .int (nI i)), (0, .ref b), (1, .ref (z 0)), (2, .ref x), (3, .ref out)] → W p l e room_1 s m args below meth c H locs (cells + 4) (slots + 3006) Q (F0 m 1010 ls [])) : W p l e room_1 s m args below meth c H locs cells slots Q (F0 m 697 ls []) := by
  obtain ⟨hx, hb, hml, hown, hts, hT, hK, hJ9, hZ, hU, hn1, hn2, hX, hbl, hlt, hL⟩ := C
  have hA : ∀ q : Nat, s.heap.size ≤ q → (fun q : Nat => s.heap.size ≤ q) q := fun _ h => h
  have hbA : ¬ (fun q : Nat => s.heap.size ≤ q) b := Nat.not_le.mpr hbl
  have hTi : tys[1]? = some (cI, .int) := by rw [hT]; rfl
  obtain ⟨T, rd, Sn, Cw, C2, tm0, dn, st, Ts, cs, cp, ops, cg, ns, bg, sT, sC, hk, hw, hJ⟩ := id hS
  obtain ⟨⟨⟨hs0, hl0, hc0⟩, hu0⟩, hT3, hT4, hH, ⟨hst, hdn, hcg, hop⟩, hr0, hw0, hnn⟩ := id hJ
  have hbd := hw.bd
  have hb1 := (hbd.1 1 (by decide)).1
  have hns := hH.2.1
  have hopc : ops ≤ 2 * cg + 3 := by
    by_cases h0 : st = 0
    · have := (hr0 h0).1; omega
    · exact (hw0 h0).2.2.2.2.1
  obtain ⟨fs, hm⟩ := hk.mem
  obtain ⟨fs9, hm9⟩ := hw.mem
  refine lv_aload_n hx hb dL_law_697 rfl (lv_at hl 2 rfl) ?_
  refine lv_aload_n hx hb dL_law_698 rfl (lv_at hl 1 rfl) ?_
  refine lv_iload hx hb dL_law_699 (lv_at hl 0 rfl) ?_
  refine lv_iconst (v := nI 1) hx hb dL_law_701 rfl ?_
  refine nn_add hx hb dL_law_702 ?_
  refine va_sld hx hb hX hbl hbA hR.2.2 (vp_in_nI (by omega) (by omega)) dL_law_703 ?_
  refine nn_eqi (y := xs (i + 1)) (by rw [nI_clamp (by omega)]) ?_
  refine lv_aload_n hx hb dL_law_704 rfl (lv_at hl 4 rfl) ?_
  refine xl_callH (As := [.ref (z 0), .int (xs (i + 1)), .ref out]) (rest := []) (cx := X ++ [(out, .inl (cJ, 1, .inr (.inl fo)))]) (wr := w) (H_restore l hm (xs (i + 1)) (fun sz => K_restore l hT hlt hk (xs (i + 1)) hst) (fun o X1 nw ⟨_, k9, _, _, h, _⟩ => ⟨_, h⟩) (fun E X1 nw h => h.1)) ⟨hx, hb, hml, hown, hts⟩ (vx_cwSW 3 hts gL_law_L_restore rfl rfl rfl (by decide +kernel) ⟨Nat.le_of_ble_eq_true rfl, Nat.le_of_ble_eq_true rfl⟩) hK hZ hU hJ9 hn1 hn2 hR hA rfl hl.1 rfl (Nat.le_of_ble_eq_true rfl) dL_law_705 ⟨(by show cells + 1 ≤ 601024; omega), (by show slots + 6 ≤ 7293034; omega)⟩ (fun ro Xh nw H locs h1 hR => ?_)
  obtain ⟨k, X1, f2, o9, rfl, hk2, rfl, h1, hf0⟩ := hPo_norm (by decide) h1
  refine lv_istore (lv' := [(5, .int (nI k)), (4, .int (nI i)), (0, .ref b), (1, .ref (z 0)), (2, .ref x), (3, .ref out)]) hx hb dL_law_708 hl (by decide) rfl (fun ls hl => ?_)
  refine lv_aload_n hx hb dL_law_710 rfl (lv_at hl 4 rfl) ?_
  refine lv_aload_n hx hb dL_law_711 rfl (lv_at hl 2 rfl) ?_
  refine lv_iload hx hb dL_law_712 (lv_at hl 1 rfl) ?_
  refine lv_iconst (v := nI 1) hx hb dL_law_714 rfl ?_
  refine nn_add hx hb dL_law_715 ?_
  refine va_sld hx hb hX hbl hbA hR.2.2 (vp_in_nI (by omega) (by omega)) dL_law_716 ?_
  refine nn_eqi (y := xs (i + 1)) (by rw [nI_clamp (by omega)]) ?_
  refine xl_callV (C := RX9) (As := [.int (xs (i + 1))]) (rest := []) (cx := w) (wr := X1 ++ [(out, .inl (cJ, 1, .inr (.inl f2)))]) (r2c (F_restore l hTi hw (xs (i + 1)) hst hns)) ⟨hx, hb, hml, hown, hts⟩ (cwV 1 hts gL_law_X9_restore rfl rfl rfl (by decide +kernel) ⟨Nat.le_of_ble_eq_true rfl, Nat.le_of_ble_eq_true rfl⟩) hK hZ (rR_swap hR) hA (xrecv (ci := 8) hK hR.1 rfl (List.mem_append_left _ (List.mem_append_right _ hm9))) rfl hl.1 rfl (Nat.le_of_ble_eq_true rfl) dL_law_717 ⟨(by show cells + 1 + 0 ≤ 601024; omega), (by show slots + 6 + 0 ≤ 7293034; omega)⟩ (fun r w1 nw1 H locs h2 hR => ?_)
  obtain ⟨rfl, h2⟩ := h2
  rw [List.append_nil] at hR
  have hR : rR G (fun q : Nat => s.heap.size ≤ q) s.heap H locs (((X1 ++ [(out, .inl (cJ, 1, .inr (.inl f2)))]) ++ w1) ++ (pl ++ nw)) := rR_swap hR
  obtain ⟨bb, rfl, hkb, hS⟩ := J_restore hJ h1 h2
  refine lv_istore (lv' := [(6, .int bb), (5, .int (nI k)), (4, .int (nI i)), (0, .ref b), (1, .ref (z 0)), (2, .ref x), (3, .ref out)]) hx hb dL_law_720 hl (by decide) rfl (fun ls hl => ?_)
  refine lv_aload_n hx hb dL_law_722 rfl (lv_at hl 5 rfl) ?_
  obtain ⟨T8, rd8, Sn8, Cw8, C28, tm8, dn8, st8, Ts8, cs8, cp8, ops8, cg8, ns8, bg8, sT8, sC8, hk8, hw8, hJ8⟩ := id hS
  obtain ⟨fs8, hm8⟩ := hw8.mem
  refine xl_callV (C := RX9) (As := []) (rest := []) (cx := w1) (wr := X1 ++ [(out, .inl (cJ, 1, .inr (.inl f2)))]) (p2c (F_thrown l hTi (A := (fun q : Nat => s.heap.size ≤ q)) hw8)) ⟨hx, hb, hml, hown, hts⟩ (cwV 0 hts gL_law_X9_thrown rfl rfl rfl (by decide +kernel) ⟨Nat.le_of_ble_eq_true rfl, Nat.le_of_ble_eq_true rfl⟩) hK hZ (rR_swap hR) hA (xrecv (ci := 8) hK hR.1 rfl (List.mem_append_left _ (List.mem_append_right _ hm8))) rfl hl.1 rfl (Nat.le_of_ble_eq_true rfl) dL_law_723 ⟨(by show cells + 1 + 0 + 0 ≤ 601024; omega), (by show slots + 6 + 0 + 0 ≤ 7293034; omega)⟩ (fun r8 w8 nw8 H locs h8 hR => ?_)
  obtain ⟨e8, e9, v8, rfl, rfl⟩ := h8
  rw [e8, e9, List.append_nil] at hR
  have hR : rR G (fun q : Nat => s.heap.size ≤ q) s.heap H locs (((X1 ++ [(out, .inl (cJ, 1, .inr (.inl f2)))]) ++ w1) ++ (pl ++ nw)) := rR_swap hR
  refine lv_iload hx hb dL_law_726 (lv_at hl 1 rfl) ?_
  refine nn_eq hx hb dL_law_728 (tgt := 733) (by decide) (by omega) (by omega) (fun c_1 => ?_) (fun c_1 => ?_)
  · refine lv_iload hx hb dL_law_733 (lv_at hl 1 rfl) ?_
    refine nz_ne hx hb dL_law_735 (tgt := 750) (by decide) (by omega) (fun c_2 => ?_) (fun c_2 => ?_)
    · refine lv_goto (tgt := 1010) hx hb dL_law_750 (by decide) ?_
      refine W.widen (k := cells + 4) (n := slots + 3006) (by show cells + 1 + 0 + 0 ≤ cells + 4; omega) (by show slots + 6 + 0 + 0 ≤ slots + 3006; omega) ?_
      exact hback _ _ _ _ _ _ _ _ hS hR (lv_sub hl [2, 3, 4, 5, 6] rfl)
    · refine lv_aload_n hx hb dL_law_738 rfl (lv_at hl 6 rfl) ?_
      refine lv_iconst (v := nI 0) hx hb dL_law_739 rfl ?_
      have hfb : (f2 0).toInt = bb.toInt := by
        rw [hf0 (by omega) bb (hkb (by omega))]; exact i64 rfl
      refine va_lald hx hb hJ9 hR.1 X1.length 0 (by rw [List.append_assoc, List.append_assoc, List.getElem?_append_right (Nat.le_refl _), Nat.sub_self]; rfl) rfl (vp_in_nI (by decide) (by decide)) dL_law_740 ?_
      refine lv_iload hx hb dL_law_741 (lv_at hl 0 rfl) ?_
      refine lv_i2l hx hb dL_law_743 rfl ?_
      refine zl_eq hx hb (show (f2 (nI 0).toNatClampNeg).toInt = bb.toInt from hfb) (i64 rfl) dL_law_744 dL_law_745 (tgt := 750) (by decide) (fun c_3 => ?_) (fun c_3 => ?_)
      · refine lv_goto (tgt := 1010) hx hb dL_law_750 (by decide) ?_
        refine W.widen (k := cells + 4) (n := slots + 3006) (by show cells + 1 + 0 + 0 ≤ cells + 4; omega) (by show slots + 6 + 0 + 0 ≤ slots + 3006; omega) ?_
        exact hback _ _ _ _ _ _ _ _ hS hR (lv_sub hl [2, 3, 4, 5, 6] rfl)
      · exact absurd rfl c_3
  · exact absurd rfl c_1
set_option maxHeartbeats 4000000 in
set_option maxRecDepth 100000 in
theorem O_prune {p : Program} {l : Launch} {e : Env} {s : State} {m : MethodId} {args : Array Value} {below : List Frame} {meth : Method} {c : Code} {b L : Nat} {xs : Nat → Int32} {G : va_G} {tys : List (ClassId × FieldType)} {cB cI cE cS cJ : ClassId} {z q : Nat → Nat} {x out : Nat} {Q : State → Prop} {cells slots : Nat} (C : lwX p l s m args c b L xs G tys cB cI cE cS cJ) {i : Nat} (hi : i + 6 ≤ L) (hcl : cells + 4 ≤ 601024 ∧ slots + 3006 ≤ 7293034) {th : Int32} {X w pl : va_W} {fo : Nat → Int64} {H : Heap} {locs : List Loc} {ls : Array Slot} (hS : Sim cB cI cE cS z q x th X w pl) (hR : rR G (fun q : Nat => s.heap.size ≤ q) s.heap H locs (((X ++ [(out, .inl (cJ, 1, .inr (.inl fo)))]) ++ w) ++ pl)) (hl : lv_has ls 7 [(4, .int (nI i)), (0, .ref b), (1, .ref (z 0)), (2, .ref x), (3, .ref out)]) (hback : ∀ (th : Int32) (X w pl : va_W) (fo : Nat → Int64) (H : Heap) (locs : List Loc) (ls : Array Slot), Sim cB cI cE cS z q x th X w pl → rR G (fun q : Nat => s.heap.size ≤ q) s.heap H locs (((X ++ [(out, .inl (cJ, 1, .inr (.inl fo)))]) ++ w) ++ pl) → lv_has ls 7 [(4, .int (nI i)), (0, .ref b), (1, .ref (z 0)), (2, .ref x), (3, .ref out)] → W p l e room_1 s m args below meth c H locs (cells + 4) (slots + 3006) Q (F0 m 1010 ls [])) : W p l e room_1 s m args below meth c H locs cells slots Q (F0 m 753 ls []) := by
  obtain ⟨hx, hb, hml, hown, hts, hT, hK, hJ9, hZ, hU, hn1, hn2, hX, hbl, hlt, hL⟩ := C
  have hA : ∀ q : Nat, s.heap.size ≤ q → (fun q : Nat => s.heap.size ≤ q) q := fun _ h => h
  have hbA : ¬ (fun q : Nat => s.heap.size ≤ q) b := Nat.not_le.mpr hbl
  have hTi : tys[1]? = some (cI, .int) := by rw [hT]; rfl
  obtain ⟨T, rd, Sn, Cw, C2, tm0, dn, st, Ts, cs, cp, ops, cg, ns, bg, sT, sC, hk, hw, hJ⟩ := id hS
  obtain ⟨⟨⟨hs0, hl0, hc0⟩, hu0⟩, hT3, hT4, hH, ⟨hst, hdn, hcg, hop⟩, hr0, hw0, hnn⟩ := id hJ
  have hbd := hw.bd
  have hb1 := (hbd.1 1 (by decide)).1
  have hns := hH.2.1
  have hopc : ops ≤ 2 * cg + 3 := by
    by_cases h0 : st = 0
    · have := (hr0 h0).1; omega
    · exact (hw0 h0).2.2.2.2.1
  obtain ⟨fs, hm⟩ := hk.mem
  obtain ⟨fs9, hm9⟩ := hw.mem
  refine lv_aload_n hx hb dL_law_753 rfl (lv_at hl 2 rfl) ?_
  refine lv_aload_n hx hb dL_law_754 rfl (lv_at hl 1 rfl) ?_
  refine lv_iload hx hb dL_law_755 (lv_at hl 0 rfl) ?_
  refine lv_iconst (v := nI 1) hx hb dL_law_757 rfl ?_
  refine nn_add hx hb dL_law_758 ?_
  refine va_sld hx hb hX hbl hbA hR.2.2 (vp_in_nI (by omega) (by omega)) dL_law_759 ?_
  refine nn_eqi (y := xs (i + 1)) (by rw [nI_clamp (by omega)]) ?_
  refine lv_aload_n hx hb dL_law_760 rfl (lv_at hl 4 rfl) ?_
  refine xl_callH (As := [.ref (z 0), .int (xs (i + 1)), .ref out]) (rest := []) (cx := X ++ [(out, .inl (cJ, 1, .inr (.inl fo)))]) (wr := w) (H_prune l hm (xs (i + 1)) (fun sz => K_prune l hT hlt hk (xs (i + 1)) hst) (fun o X1 nw h => by obtain ⟨-, h⟩ := h; rcases h with ⟨-, h, -⟩ | ⟨k9, -, -, -, h, -⟩ <;> exact ⟨_, h⟩) (fun E X1 nw h => h.1)) ⟨hx, hb, hml, hown, hts⟩ (vx_cwSW 3 hts gL_law_L_prune rfl rfl rfl (by decide +kernel) ⟨Nat.le_of_ble_eq_true rfl, Nat.le_of_ble_eq_true rfl⟩) hK hZ hU hJ9 hn1 hn2 hR hA rfl hl.1 rfl (Nat.le_of_ble_eq_true rfl) dL_law_761 ⟨(by show cells + 1 ≤ 601024; omega), (by show slots + 6 ≤ 7293034; omega)⟩ (fun ro Xh nw H locs h1 hR => ?_)
  obtain ⟨k, X1, f2, o9, rfl, hk2, rfl, h1, hf0⟩ := hPo_norm (by decide) h1
  refine lv_istore (lv' := [(5, .int (nI k)), (4, .int (nI i)), (0, .ref b), (1, .ref (z 0)), (2, .ref x), (3, .ref out)]) hx hb dL_law_764 hl (by decide) rfl (fun ls hl => ?_)
  refine lv_aload_n hx hb dL_law_766 rfl (lv_at hl 4 rfl) ?_
  refine lv_aload_n hx hb dL_law_767 rfl (lv_at hl 2 rfl) ?_
  refine lv_iload hx hb dL_law_768 (lv_at hl 1 rfl) ?_
  refine lv_iconst (v := nI 1) hx hb dL_law_770 rfl ?_
  refine nn_add hx hb dL_law_771 ?_
  refine va_sld hx hb hX hbl hbA hR.2.2 (vp_in_nI (by omega) (by omega)) dL_law_772 ?_
  refine nn_eqi (y := xs (i + 1)) (by rw [nI_clamp (by omega)]) ?_
  refine xl_callV (C := RX9) (As := [.int (xs (i + 1))]) (rest := []) (cx := w) (wr := X1 ++ [(out, .inl (cJ, 1, .inr (.inl f2)))]) (r2c (F_prune l hTi hw (xs (i + 1)) hst hns)) ⟨hx, hb, hml, hown, hts⟩ (cwV 1 hts gL_law_X9_prune rfl rfl rfl (by decide +kernel) ⟨Nat.le_of_ble_eq_true rfl, Nat.le_of_ble_eq_true rfl⟩) hK hZ (rR_swap hR) hA (xrecv (ci := 8) hK hR.1 rfl (List.mem_append_left _ (List.mem_append_right _ hm9))) rfl hl.1 rfl (Nat.le_of_ble_eq_true rfl) dL_law_773 ⟨(by show cells + 1 + 0 ≤ 601024; omega), (by show slots + 6 + 0 ≤ 7293034; omega)⟩ (fun r w1 nw1 H locs h2 hR => ?_)
  obtain ⟨rfl, h2⟩ := h2
  rw [List.append_nil] at hR
  have hR : rR G (fun q : Nat => s.heap.size ≤ q) s.heap H locs (((X1 ++ [(out, .inl (cJ, 1, .inr (.inl f2)))]) ++ w1) ++ (pl ++ nw)) := rR_swap hR
  obtain ⟨bb, rfl, hkb, hS⟩ := J_prune hJ h1 h2
  refine lv_istore (lv' := [(6, .int bb), (5, .int (nI k)), (4, .int (nI i)), (0, .ref b), (1, .ref (z 0)), (2, .ref x), (3, .ref out)]) hx hb dL_law_776 hl (by decide) rfl (fun ls hl => ?_)
  refine lv_aload_n hx hb dL_law_778 rfl (lv_at hl 5 rfl) ?_
  obtain ⟨T8, rd8, Sn8, Cw8, C28, tm8, dn8, st8, Ts8, cs8, cp8, ops8, cg8, ns8, bg8, sT8, sC8, hk8, hw8, hJ8⟩ := id hS
  obtain ⟨fs8, hm8⟩ := hw8.mem
  refine xl_callV (C := RX9) (As := []) (rest := []) (cx := w1) (wr := X1 ++ [(out, .inl (cJ, 1, .inr (.inl f2)))]) (p2c (F_thrown l hTi (A := (fun q : Nat => s.heap.size ≤ q)) hw8)) ⟨hx, hb, hml, hown, hts⟩ (cwV 0 hts gL_law_X9_thrown rfl rfl rfl (by decide +kernel) ⟨Nat.le_of_ble_eq_true rfl, Nat.le_of_ble_eq_true rfl⟩) hK hZ (rR_swap hR) hA (xrecv (ci := 8) hK hR.1 rfl (List.mem_append_left _ (List.mem_append_right _ hm8))) rfl hl.1 rfl (Nat.le_of_ble_eq_true rfl) dL_law_779 ⟨(by show cells + 1 + 0 + 0 ≤ 601024; omega), (by show slots + 6 + 0 + 0 ≤ 7293034; omega)⟩ (fun r8 w8 nw8 H locs h8 hR => ?_)
  obtain ⟨e8, e9, v8, rfl, rfl⟩ := h8
  rw [e8, e9, List.append_nil] at hR
  have hR : rR G (fun q : Nat => s.heap.size ≤ q) s.heap H locs (((X1 ++ [(out, .inl (cJ, 1, .inr (.inl f2)))]) ++ w1) ++ (pl ++ nw)) := rR_swap hR
  refine lv_iload hx hb dL_law_782 (lv_at hl 1 rfl) ?_
  refine nn_eq hx hb dL_law_784 (tgt := 789) (by decide) (by omega) (by omega) (fun c_1 => ?_) (fun c_1 => ?_)
  · refine lv_iload hx hb dL_law_789 (lv_at hl 1 rfl) ?_
    refine nz_ne hx hb dL_law_791 (tgt := 806) (by decide) (by omega) (fun c_2 => ?_) (fun c_2 => ?_)
    · refine lv_goto (tgt := 1010) hx hb dL_law_806 (by decide) ?_
      refine W.widen (k := cells + 4) (n := slots + 3006) (by show cells + 1 + 0 + 0 ≤ cells + 4; omega) (by show slots + 6 + 0 + 0 ≤ slots + 3006; omega) ?_
      exact hback _ _ _ _ _ _ _ _ hS hR (lv_sub hl [2, 3, 4, 5, 6] rfl)
    · refine lv_aload_n hx hb dL_law_794 rfl (lv_at hl 6 rfl) ?_
      refine lv_iconst (v := nI 0) hx hb dL_law_795 rfl ?_
      have hfb : (f2 0).toInt = bb.toInt := by
        rw [hf0 (by omega) bb (hkb (by omega))]; exact i64 rfl
      refine va_lald hx hb hJ9 hR.1 X1.length 0 (by rw [List.append_assoc, List.append_assoc, List.getElem?_append_right (Nat.le_refl _), Nat.sub_self]; rfl) rfl (vp_in_nI (by decide) (by decide)) dL_law_796 ?_
      refine lv_iload hx hb dL_law_797 (lv_at hl 0 rfl) ?_
      refine lv_i2l hx hb dL_law_799 rfl ?_
      refine zl_eq hx hb (show (f2 (nI 0).toNatClampNeg).toInt = bb.toInt from hfb) (i64 rfl) dL_law_800 dL_law_801 (tgt := 806) (by decide) (fun c_3 => ?_) (fun c_3 => ?_)
      · refine lv_goto (tgt := 1010) hx hb dL_law_806 (by decide) ?_
        refine W.widen (k := cells + 4) (n := slots + 3006) (by show cells + 1 + 0 + 0 ≤ cells + 4; omega) (by show slots + 6 + 0 + 0 ≤ slots + 3006; omega) ?_
        exact hback _ _ _ _ _ _ _ _ hS hR (lv_sub hl [2, 3, 4, 5, 6] rfl)
      · exact absurd rfl c_3
  · exact absurd rfl c_1
set_option maxHeartbeats 4000000 in
set_option maxRecDepth 100000 in
theorem O_differ {p : Program} {l : Launch} {e : Env} {s : State} {m : MethodId} {args : Array Value} {below : List Frame} {meth : Method} {c : Code} {b L : Nat} {xs : Nat → Int32} {G : va_G} {tys : List (ClassId × FieldType)} {cB cI cE cS cJ : ClassId} {z q : Nat → Nat} {x out : Nat} {Q : State → Prop} {cells slots : Nat} (C : lwX p l s m args c b L xs G tys cB cI cE cS cJ) {i : Nat} (hi : i + 6 ≤ L) (hcl : cells + 4 ≤ 601024 ∧ slots + 3006 ≤ 7293034) {th : Int32} {X w pl : va_W} {fo : Nat → Int64} {H : Heap} {locs : List Loc} {ls : Array Slot} (hS : Sim cB cI cE cS z q x th X w pl) (hR : rR G (fun q : Nat => s.heap.size ≤ q) s.heap H locs (((X ++ [(out, .inl (cJ, 1, .inr (.inl fo)))]) ++ w) ++ pl)) (hl : lv_has ls 7 [(4, .int (nI i)), (0, .ref b), (1, .ref (z 0)), (2, .ref x), (3, .ref out)]) (hback : ∀ (th : Int32) (X w pl : va_W) (fo : Nat → Int64) (H : Heap) (locs : List Loc) (ls : Array Slot), Sim cB cI cE cS z q x th X w pl → rR G (fun q : Nat => s.heap.size ≤ q) s.heap H locs (((X ++ [(out, .inl (cJ, 1, .inr (.inl fo)))]) ++ w) ++ pl) → lv_has ls 7 [(4, .int (nI i)), (0, .ref b), (1, .ref (z 0)), (2, .ref x), (3, .ref out)] → W p l e room_1 s m args below meth c H locs (cells + 4) (slots + 3006) Q (F0 m 1010 ls [])) : W p l e room_1 s m args below meth c H locs cells slots Q (F0 m 809 ls []) := by
  obtain ⟨hx, hb, hml, hown, hts, hT, hK, hJ9, hZ, hU, hn1, hn2, hX, hbl, hlt, hL⟩ := C
  have hA : ∀ q : Nat, s.heap.size ≤ q → (fun q : Nat => s.heap.size ≤ q) q := fun _ h => h
  have hbA : ¬ (fun q : Nat => s.heap.size ≤ q) b := Nat.not_le.mpr hbl
  have hTi : tys[1]? = some (cI, .int) := by rw [hT]; rfl
  obtain ⟨T, rd, Sn, Cw, C2, tm0, dn, st, Ts, cs, cp, ops, cg, ns, bg, sT, sC, hk, hw, hJ⟩ := id hS
  obtain ⟨⟨⟨hs0, hl0, hc0⟩, hu0⟩, hT3, hT4, hH, ⟨hst, hdn, hcg, hop⟩, hr0, hw0, hnn⟩ := id hJ
  have hbd := hw.bd
  have hb1 := (hbd.1 1 (by decide)).1
  have hns := hH.2.1
  have hopc : ops ≤ 2 * cg + 3 := by
    by_cases h0 : st = 0
    · have := (hr0 h0).1; omega
    · exact (hw0 h0).2.2.2.2.1
  obtain ⟨fs, hm⟩ := hk.mem
  obtain ⟨fs9, hm9⟩ := hw.mem
  refine lv_aload_n hx hb dL_law_809 rfl (lv_at hl 2 rfl) ?_
  have hR1 : rR G (fun q : Nat => s.heap.size ≤ q) s.heap H locs ((X ++ ([(out, .inl (cJ, 1, .inr (.inl fo)))] ++ w)) ++ pl) := by rw [← List.append_assoc]; exact hR
  refine xl_callV (C := RX8) (As := []) (rest := []) (cx := X) (wr := [(out, .inl (cJ, 1, .inr (.inl fo)))] ++ w) (K_differ l hT hk (by omega)) ⟨hx, hb, hml, hown, hts⟩ (cwV 0 hts gL_law_X8_differ rfl rfl rfl (by decide +kernel) ⟨Nat.le_of_ble_eq_true rfl, Nat.le_of_ble_eq_true rfl⟩) hK hZ hR1 hA (xrecv (ci := 7) hK hR1.1 rfl (List.mem_append_left _ (List.mem_append_left _ hm))) rfl hl.1 rfl (Nat.le_of_ble_eq_true rfl) dL_law_810 ⟨(by show cells + 0 ≤ 601024; omega), (by show slots + 0 ≤ 7293034; omega)⟩ (fun o9 X1 nw H locs h1 hR => ?_)
  have hR : rR G (fun q : Nat => s.heap.size ≤ q) s.heap H locs (((X1 ++ [(out, .inl (cJ, 1, .inr (.inl fo)))]) ++ w) ++ (pl ++ nw)) := by rw [List.append_assoc X1]; exact hR
  obtain ⟨v1, rfl⟩ : ∃ v, o9 = some (.int v) := by obtain ⟨rfl, -⟩ := h1; exact ⟨_, rfl⟩
  refine lv_aload_n hx hb dL_law_813 rfl (lv_at hl 3 rfl) ?_
  refine xl_callV (C := RX9) (As := []) (rest := [.int v1]) (cx := w) (wr := X1 ++ [(out, .inl (cJ, 1, .inr (.inl fo)))]) (r2c (F_differ l hTi hw )) ⟨hx, hb, hml, hown, hts⟩ (cwV 0 hts gL_law_X9_differ rfl rfl rfl (by decide +kernel) ⟨Nat.le_of_ble_eq_true rfl, Nat.le_of_ble_eq_true rfl⟩) hK hZ (rR_swap hR) hA (xrecv (ci := 8) hK hR.1 rfl (List.mem_append_left _ (List.mem_append_right _ hm9))) rfl hl.1 rfl (Nat.le_of_ble_eq_true rfl) dL_law_814 ⟨(by show cells + 0 + 0 ≤ 601024; omega), (by show slots + 0 + 0 ≤ 7293034; omega)⟩ (fun r w1 nw1 H locs h2 hR => ?_)
  obtain ⟨rfl, h2⟩ := h2
  rw [List.append_nil] at hR
  have hR : rR G (fun q : Nat => s.heap.size ≤ q) s.heap H locs (((X1 ++ [(out, .inl (cJ, 1, .inr (.inl fo)))]) ++ w1) ++ (pl ++ nw)) := rR_swap hR
  obtain ⟨v, e1, rfl, hS⟩ := J_differ (C2 := C2) hJ h1 h2
  cases e1
  refine lv_icmp_eq (tgt := 1010) hx hb dL_law_817 (by decide) (fun c_1 => ?_) (fun c_1 => ?_)
  · refine W.widen (k := cells + 4) (n := slots + 3006) (by show cells + 0 + 0 ≤ cells + 4; omega) (by show slots + 0 + 0 ≤ slots + 3006; omega) ?_
    exact hback _ _ _ _ _ _ _ _ hS hR (lv_sub hl [0, 1, 2, 3, 4] rfl)
  · exact absurd rfl c_1
set_option maxHeartbeats 4000000 in
set_option maxRecDepth 100000 in
theorem O_entry {p : Program} {l : Launch} {e : Env} {s : State} {m : MethodId} {args : Array Value} {below : List Frame} {meth : Method} {c : Code} {b L : Nat} {xs : Nat → Int32} {G : va_G} {tys : List (ClassId × FieldType)} {cB cI cE cS cJ : ClassId} {z q : Nat → Nat} {x out : Nat} {Q : State → Prop} {cells slots : Nat} (C : lwX p l s m args c b L xs G tys cB cI cE cS cJ) {i : Nat} (hi : i + 6 ≤ L) (hcl : cells + 4 ≤ 601024 ∧ slots + 3006 ≤ 7293034) {th : Int32} {X w pl : va_W} {fo : Nat → Int64} {H : Heap} {locs : List Loc} {ls : Array Slot} (hS : Sim cB cI cE cS z q x th X w pl) (hR : rR G (fun q : Nat => s.heap.size ≤ q) s.heap H locs (((X ++ [(out, .inl (cJ, 1, .inr (.inl fo)))]) ++ w) ++ pl)) (hl : lv_has ls 7 [(4, .int (nI i)), (0, .ref b), (1, .ref (z 0)), (2, .ref x), (3, .ref out)]) (hback : ∀ (th : Int32) (X w pl : va_W) (fo : Nat → Int64) (H : Heap) (locs : List Loc) (ls : Array Slot), Sim cB cI cE cS z q x th X w pl → rR G (fun q : Nat => s.heap.size ≤ q) s.heap H locs (((X ++ [(out, .inl (cJ, 1, .inr (.inl fo)))]) ++ w) ++ pl) → lv_has ls 7 [(4, .int (nI i)), (0, .ref b), (1, .ref (z 0)), (2, .ref x), (3, .ref out)] → W p l e room_1 s m args below meth c H locs (cells + 4) (slots + 3006) Q (F0 m 1010 ls [])) : W p l e room_1 s m args below meth c H locs cells slots Q (F0 m 822 ls []) := by
  obtain ⟨hx, hb, hml, hown, hts, hT, hK, hJ9, hZ, hU, hn1, hn2, hX, hbl, hlt, hL⟩ := C
  have hA : ∀ q : Nat, s.heap.size ≤ q → (fun q : Nat => s.heap.size ≤ q) q := fun _ h => h
  have hbA : ¬ (fun q : Nat => s.heap.size ≤ q) b := Nat.not_le.mpr hbl
  have hTi : tys[1]? = some (cI, .int) := by rw [hT]; rfl
  obtain ⟨T, rd, Sn, Cw, C2, tm0, dn, st, Ts, cs, cp, ops, cg, ns, bg, sT, sC, hk, hw, hJ⟩ := id hS
  obtain ⟨⟨⟨hs0, hl0, hc0⟩, hu0⟩, hT3, hT4, hH, ⟨hst, hdn, hcg, hop⟩, hr0, hw0, hnn⟩ := id hJ
  have hbd := hw.bd
  have hb1 := (hbd.1 1 (by decide)).1
  have hns := hH.2.1
  have hopc : ops ≤ 2 * cg + 3 := by
    by_cases h0 : st = 0
    · have := (hr0 h0).1; omega
    · exact (hw0 h0).2.2.2.2.1
  obtain ⟨fs, hm⟩ := hk.mem
  obtain ⟨fs9, hm9⟩ := hw.mem
  refine lv_aload_n hx hb dL_law_822 rfl (lv_at hl 2 rfl) ?_
  refine lv_aload_n hx hb dL_law_823 rfl (lv_at hl 1 rfl) ?_
  refine lv_iload hx hb dL_law_824 (lv_at hl 0 rfl) ?_
  refine lv_iconst (v := nI 1) hx hb dL_law_826 rfl ?_
  refine nn_add hx hb dL_law_827 ?_
  refine va_sld hx hb hX hbl hbA hR.2.2 (vp_in_nI (by omega) (by omega)) dL_law_828 ?_
  refine nn_eqi (y := xs (i + 1)) (by rw [nI_clamp (by omega)]) ?_
  refine lv_aload_n hx hb dL_law_829 rfl (lv_at hl 1 rfl) ?_
  refine lv_iload hx hb dL_law_830 (lv_at hl 0 rfl) ?_
  refine lv_iconst (v := nI 2) hx hb dL_law_832 rfl ?_
  refine nn_add hx hb dL_law_833 ?_
  refine va_sld hx hb hX hbl hbA hR.2.2 (vp_in_nI (by omega) (by omega)) dL_law_834 ?_
  refine nn_eqi (y := xs (i + 2)) (by rw [nI_clamp (by omega)]) ?_
  refine lv_aload_n hx hb dL_law_835 rfl (lv_at hl 1 rfl) ?_
  refine lv_iload hx hb dL_law_836 (lv_at hl 0 rfl) ?_
  refine lv_iconst (v := nI 3) hx hb dL_law_838 rfl ?_
  refine nn_add hx hb dL_law_839 ?_
  refine va_sld hx hb hX hbl hbA hR.2.2 (vp_in_nI (by omega) (by omega)) dL_law_840 ?_
  refine nn_eqi (y := xs (i + 3)) (by rw [nI_clamp (by omega)]) ?_
  have hR1 : rR G (fun q : Nat => s.heap.size ≤ q) s.heap H locs ((X ++ ([(out, .inl (cJ, 1, .inr (.inl fo)))] ++ w)) ++ pl) := by rw [← List.append_assoc]; exact hR
  refine xl_callV (C := RX8) (As := [.int (xs (i + 1)), .int (xs (i + 2)), .int (xs (i + 3))]) (rest := []) (cx := X) (wr := [(out, .inl (cJ, 1, .inr (.inl fo)))] ++ w) (K_entry l hT hk (xs (i + 1)) (xs (i + 2)) (xs (i + 3))) ⟨hx, hb, hml, hown, hts⟩ (cwV 3 hts gL_law_X8_entry rfl rfl rfl (by decide +kernel) ⟨Nat.le_of_ble_eq_true rfl, Nat.le_of_ble_eq_true rfl⟩) hK hZ hR1 hA (xrecv (ci := 7) hK hR1.1 rfl (List.mem_append_left _ (List.mem_append_left _ hm))) rfl hl.1 rfl (Nat.le_of_ble_eq_true rfl) dL_law_841 ⟨(by show cells + 0 ≤ 601024; omega), (by show slots + 0 ≤ 7293034; omega)⟩ (fun o9 X1 nw H locs h1 hR => ?_)
  have hR : rR G (fun q : Nat => s.heap.size ≤ q) s.heap H locs (((X1 ++ [(out, .inl (cJ, 1, .inr (.inl fo)))]) ++ w) ++ (pl ++ nw)) := by rw [List.append_assoc X1]; exact hR
  obtain ⟨v1, rfl⟩ : ∃ v, o9 = some (.int v) := by obtain ⟨rfl, -⟩ := h1; exact ⟨_, rfl⟩
  refine lv_aload_n hx hb dL_law_844 rfl (lv_at hl 3 rfl) ?_
  refine lv_aload_n hx hb dL_law_845 rfl (lv_at hl 1 rfl) ?_
  refine lv_iload hx hb dL_law_846 (lv_at hl 0 rfl) ?_
  refine lv_iconst (v := nI 1) hx hb dL_law_848 rfl ?_
  refine nn_add hx hb dL_law_849 ?_
  refine va_sld hx hb hX hbl hbA hR.2.2 (vp_in_nI (by omega) (by omega)) dL_law_850 ?_
  refine nn_eqi (y := xs (i + 1)) (by rw [nI_clamp (by omega)]) ?_
  refine lv_aload_n hx hb dL_law_851 rfl (lv_at hl 1 rfl) ?_
  refine lv_iload hx hb dL_law_852 (lv_at hl 0 rfl) ?_
  refine lv_iconst (v := nI 2) hx hb dL_law_854 rfl ?_
  refine nn_add hx hb dL_law_855 ?_
  refine va_sld hx hb hX hbl hbA hR.2.2 (vp_in_nI (by omega) (by omega)) dL_law_856 ?_
  refine nn_eqi (y := xs (i + 2)) (by rw [nI_clamp (by omega)]) ?_
  refine lv_aload_n hx hb dL_law_857 rfl (lv_at hl 1 rfl) ?_
  refine lv_iload hx hb dL_law_858 (lv_at hl 0 rfl) ?_
  refine lv_iconst (v := nI 3) hx hb dL_law_860 rfl ?_
  refine nn_add hx hb dL_law_861 ?_
  refine va_sld hx hb hX hbl hbA hR.2.2 (vp_in_nI (by omega) (by omega)) dL_law_862 ?_
  refine nn_eqi (y := xs (i + 3)) (by rw [nI_clamp (by omega)]) ?_
  refine xl_callV (C := RX9) (As := [.int (xs (i + 1)), .int (xs (i + 2)), .int (xs (i + 3))]) (rest := [.int v1]) (cx := w) (wr := X1 ++ [(out, .inl (cJ, 1, .inr (.inl fo)))]) (r2c (F_entry l hTi hw (xs (i + 1)) (xs (i + 2)) (xs (i + 3)))) ⟨hx, hb, hml, hown, hts⟩ (cwV 3 hts gL_law_X9_entry rfl rfl rfl (by decide +kernel) ⟨Nat.le_of_ble_eq_true rfl, Nat.le_of_ble_eq_true rfl⟩) hK hZ (rR_swap hR) hA (xrecv (ci := 8) hK hR.1 rfl (List.mem_append_left _ (List.mem_append_right _ hm9))) rfl hl.1 rfl (Nat.le_of_ble_eq_true rfl) dL_law_863 ⟨(by show cells + 0 + 0 ≤ 601024; omega), (by show slots + 0 + 0 ≤ 7293034; omega)⟩ (fun r w1 nw1 H locs h2 hR => ?_)
  obtain ⟨rfl, h2⟩ := h2
  rw [List.append_nil] at hR
  have hR : rR G (fun q : Nat => s.heap.size ≤ q) s.heap H locs (((X1 ++ [(out, .inl (cJ, 1, .inr (.inl fo)))]) ++ w1) ++ (pl ++ nw)) := rR_swap hR
  obtain ⟨v, e1, rfl, hS⟩ := J_entry hJ h1 h2
  cases e1
  refine lv_icmp_eq (tgt := 1010) hx hb dL_law_866 (by decide) (fun c_1 => ?_) (fun c_1 => ?_)
  · refine W.widen (k := cells + 4) (n := slots + 3006) (by show cells + 0 + 0 ≤ cells + 4; omega) (by show slots + 0 + 0 ≤ slots + 3006; omega) ?_
    exact hback _ _ _ _ _ _ _ _ hS hR (lv_sub hl [0, 1, 2, 3, 4] rfl)
  · exact absurd rfl c_1
set_option maxHeartbeats 4000000 in
set_option maxRecDepth 100000 in
theorem O_at {p : Program} {l : Launch} {e : Env} {s : State} {m : MethodId} {args : Array Value} {below : List Frame} {meth : Method} {c : Code} {b L : Nat} {xs : Nat → Int32} {G : va_G} {tys : List (ClassId × FieldType)} {cB cI cE cS cJ : ClassId} {z q : Nat → Nat} {x out : Nat} {Q : State → Prop} {cells slots : Nat} (C : lwX p l s m args c b L xs G tys cB cI cE cS cJ) {i : Nat} (hi : i + 6 ≤ L) (hcl : cells + 4 ≤ 601024 ∧ slots + 3006 ≤ 7293034) {th : Int32} {X w pl : va_W} {fo : Nat → Int64} {H : Heap} {locs : List Loc} {ls : Array Slot} (hS : Sim cB cI cE cS z q x th X w pl) (hR : rR G (fun q : Nat => s.heap.size ≤ q) s.heap H locs (((X ++ [(out, .inl (cJ, 1, .inr (.inl fo)))]) ++ w) ++ pl)) (hl : lv_has ls 7 [(4, .int (nI i)), (0, .ref b), (1, .ref (z 0)), (2, .ref x), (3, .ref out)]) (hback : ∀ (th : Int32) (X w pl : va_W) (fo : Nat → Int64) (H : Heap) (locs : List Loc) (ls : Array Slot), Sim cB cI cE cS z q x th X w pl → rR G (fun q : Nat => s.heap.size ≤ q) s.heap H locs (((X ++ [(out, .inl (cJ, 1, .inr (.inl fo)))]) ++ w) ++ pl) → lv_has ls 7 [(4, .int (nI i)), (0, .ref b), (1, .ref (z 0)), (2, .ref x), (3, .ref out)] → W p l e room_1 s m args below meth c H locs (cells + 4) (slots + 3006) Q (F0 m 1010 ls [])) : W p l e room_1 s m args below meth c H locs cells slots Q (F0 m 871 ls []) := by
  obtain ⟨hx, hb, hml, hown, hts, hT, hK, hJ9, hZ, hU, hn1, hn2, hX, hbl, hlt, hL⟩ := C
  have hA : ∀ q : Nat, s.heap.size ≤ q → (fun q : Nat => s.heap.size ≤ q) q := fun _ h => h
  have hbA : ¬ (fun q : Nat => s.heap.size ≤ q) b := Nat.not_le.mpr hbl
  have hTi : tys[1]? = some (cI, .int) := by rw [hT]; rfl
  obtain ⟨T, rd, Sn, Cw, C2, tm0, dn, st, Ts, cs, cp, ops, cg, ns, bg, sT, sC, hk, hw, hJ⟩ := id hS
  obtain ⟨⟨⟨hs0, hl0, hc0⟩, hu0⟩, hT3, hT4, hH, ⟨hst, hdn, hcg, hop⟩, hr0, hw0, hnn⟩ := id hJ
  have hbd := hw.bd
  have hb1 := (hbd.1 1 (by decide)).1
  have hns := hH.2.1
  have hopc : ops ≤ 2 * cg + 3 := by
    by_cases h0 : st = 0
    · have := (hr0 h0).1; omega
    · exact (hw0 h0).2.2.2.2.1
  obtain ⟨fs, hm⟩ := hk.mem
  obtain ⟨fs9, hm9⟩ := hw.mem
  refine lv_aload_n hx hb dL_law_871 rfl (lv_at hl 2 rfl) ?_
  refine lv_aload_n hx hb dL_law_872 rfl (lv_at hl 1 rfl) ?_
  refine lv_iload hx hb dL_law_873 (lv_at hl 0 rfl) ?_
  refine lv_iconst (v := nI 1) hx hb dL_law_875 rfl ?_
  refine nn_add hx hb dL_law_876 ?_
  refine va_sld hx hb hX hbl hbA hR.2.2 (vp_in_nI (by omega) (by omega)) dL_law_877 ?_
  refine nn_eqi (y := xs (i + 1)) (by rw [nI_clamp (by omega)]) ?_
  refine lv_aload_n hx hb dL_law_878 rfl (lv_at hl 1 rfl) ?_
  refine lv_iload hx hb dL_law_879 (lv_at hl 0 rfl) ?_
  refine lv_iconst (v := nI 2) hx hb dL_law_881 rfl ?_
  refine nn_add hx hb dL_law_882 ?_
  refine va_sld hx hb hX hbl hbA hR.2.2 (vp_in_nI (by omega) (by omega)) dL_law_883 ?_
  refine nn_eqi (y := xs (i + 2)) (by rw [nI_clamp (by omega)]) ?_
  refine lv_aload_n hx hb dL_law_884 rfl (lv_at hl 1 rfl) ?_
  refine lv_iload hx hb dL_law_885 (lv_at hl 0 rfl) ?_
  refine lv_iconst (v := nI 3) hx hb dL_law_887 rfl ?_
  refine nn_add hx hb dL_law_888 ?_
  refine va_sld hx hb hX hbl hbA hR.2.2 (vp_in_nI (by omega) (by omega)) dL_law_889 ?_
  refine nn_eqi (y := xs (i + 3)) (by rw [nI_clamp (by omega)]) ?_
  refine zi_eq hx hb rfl dL_law_890 (tgt := 897) (by decide) (fun c_1 => ?_) (fun c_1 => ?_)
  · refine lv_iconst (v := bI false) hx hb dL_law_897 rfl ?_
    refine lv_aload_n hx hb dL_law_898 rfl (lv_at hl 1 rfl) ?_
    refine lv_iload hx hb dL_law_899 (lv_at hl 0 rfl) ?_
    refine lv_iconst (v := nI 4) hx hb dL_law_901 rfl ?_
    refine nn_add hx hb dL_law_902 ?_
    refine va_sld hx hb hX hbl hbA hR.2.2 (vp_in_nI (by omega) (by omega)) dL_law_903 ?_
    refine nn_eqi (y := xs (i + 4)) (by rw [nI_clamp (by omega)]) ?_
    have hR1 : rR G (fun q : Nat => s.heap.size ≤ q) s.heap H locs ((X ++ ([(out, .inl (cJ, 1, .inr (.inl fo)))] ++ w)) ++ pl) := by rw [← List.append_assoc]; exact hR
    refine xl_callV (C := RX8) (As := [.int (xs (i + 1)), .int (xs (i + 2)), .int (bI false), .int (xs (i + 4))]) (rest := []) (cx := X) (wr := [(out, .inl (cJ, 1, .inr (.inl fo)))] ++ w) (K_at l hT hk (xs (i + 1)) (xs (i + 2)) (xs (i + 4)) false) ⟨hx, hb, hml, hown, hts⟩ (cwV 4 hts gL_law_X8_at rfl rfl rfl (by decide +kernel) ⟨Nat.le_of_ble_eq_true rfl, Nat.le_of_ble_eq_true rfl⟩) hK hZ hR1 hA (xrecv (ci := 7) hK hR1.1 rfl (List.mem_append_left _ (List.mem_append_left _ hm))) rfl hl.1 rfl (Nat.le_of_ble_eq_true rfl) dL_law_904 ⟨(by show cells + 0 ≤ 601024; omega), (by show slots + 0 ≤ 7293034; omega)⟩ (fun o9 X1 nw H locs h1 hR => ?_)
    have hR : rR G (fun q : Nat => s.heap.size ≤ q) s.heap H locs (((X1 ++ [(out, .inl (cJ, 1, .inr (.inl fo)))]) ++ w) ++ (pl ++ nw)) := by rw [List.append_assoc X1]; exact hR
    obtain ⟨v1, rfl⟩ : ∃ v, o9 = some (.int v) := by obtain ⟨rfl, -⟩ := h1; exact ⟨_, rfl⟩
    refine lv_aload_n hx hb dL_law_907 rfl (lv_at hl 3 rfl) ?_
    refine lv_aload_n hx hb dL_law_908 rfl (lv_at hl 1 rfl) ?_
    refine lv_iload hx hb dL_law_909 (lv_at hl 0 rfl) ?_
    refine lv_iconst (v := nI 1) hx hb dL_law_911 rfl ?_
    refine nn_add hx hb dL_law_912 ?_
    refine va_sld hx hb hX hbl hbA hR.2.2 (vp_in_nI (by omega) (by omega)) dL_law_913 ?_
    refine nn_eqi (y := xs (i + 1)) (by rw [nI_clamp (by omega)]) ?_
    refine lv_aload_n hx hb dL_law_914 rfl (lv_at hl 1 rfl) ?_
    refine lv_iload hx hb dL_law_915 (lv_at hl 0 rfl) ?_
    refine lv_iconst (v := nI 2) hx hb dL_law_917 rfl ?_
    refine nn_add hx hb dL_law_918 ?_
    refine va_sld hx hb hX hbl hbA hR.2.2 (vp_in_nI (by omega) (by omega)) dL_law_919 ?_
    refine nn_eqi (y := xs (i + 2)) (by rw [nI_clamp (by omega)]) ?_
    refine lv_aload_n hx hb dL_law_920 rfl (lv_at hl 1 rfl) ?_
    refine lv_iload hx hb dL_law_921 (lv_at hl 0 rfl) ?_
    refine lv_iconst (v := nI 3) hx hb dL_law_923 rfl ?_
    refine nn_add hx hb dL_law_924 ?_
    refine va_sld hx hb hX hbl hbA hR.2.2 (vp_in_nI (by omega) (by omega)) dL_law_925 ?_
    refine nn_eqi (y := xs (i + 3)) (by rw [nI_clamp (by omega)]) ?_
    refine zi_eq hx hb rfl dL_law_926 (tgt := 933) (by decide) (fun c_2 => ?_) (fun c_2 => ?_)
    · refine lv_iconst (v := bI false) hx hb dL_law_933 rfl ?_
      refine lv_aload_n hx hb dL_law_934 rfl (lv_at hl 1 rfl) ?_
      refine lv_iload hx hb dL_law_935 (lv_at hl 0 rfl) ?_
      refine lv_iconst (v := nI 4) hx hb dL_law_937 rfl ?_
      refine nn_add hx hb dL_law_938 ?_
      refine va_sld hx hb hX hbl hbA hR.2.2 (vp_in_nI (by omega) (by omega)) dL_law_939 ?_
      refine nn_eqi (y := xs (i + 4)) (by rw [nI_clamp (by omega)]) ?_
      refine xl_callV (C := RX9) (As := [.int (xs (i + 1)), .int (xs (i + 2)), .int (bI false), .int (xs (i + 4))]) (rest := [.int v1]) (cx := w) (wr := X1 ++ [(out, .inl (cJ, 1, .inr (.inl fo)))]) (r2c (F_at l hTi hw (xs (i + 1)) (xs (i + 2)) (xs (i + 4)) false)) ⟨hx, hb, hml, hown, hts⟩ (cwV 4 hts gL_law_X9_at rfl rfl rfl (by decide +kernel) ⟨Nat.le_of_ble_eq_true rfl, Nat.le_of_ble_eq_true rfl⟩) hK hZ (rR_swap hR) hA (xrecv (ci := 8) hK hR.1 rfl (List.mem_append_left _ (List.mem_append_right _ hm9))) rfl hl.1 rfl (Nat.le_of_ble_eq_true rfl) dL_law_940 ⟨(by show cells + 0 + 0 ≤ 601024; omega), (by show slots + 0 + 0 ≤ 7293034; omega)⟩ (fun r w1 nw1 H locs h2 hR => ?_)
      obtain ⟨rfl, h2⟩ := h2
      rw [List.append_nil] at hR
      have hR : rR G (fun q : Nat => s.heap.size ≤ q) s.heap H locs (((X1 ++ [(out, .inl (cJ, 1, .inr (.inl fo)))]) ++ w1) ++ (pl ++ nw)) := rR_swap hR
      obtain ⟨v, e1, rfl, hS⟩ := J_at hJ h1 h2
      cases e1
      refine lv_icmp_eq (tgt := 1010) hx hb dL_law_943 (by decide) (fun c_3 => ?_) (fun c_3 => ?_)
      · refine W.widen (k := cells + 4) (n := slots + 3006) (by show cells + 0 + 0 ≤ cells + 4; omega) (by show slots + 0 + 0 ≤ slots + 3006; omega) ?_
        exact hback _ _ _ _ _ _ _ _ hS hR (lv_sub hl [0, 1, 2, 3, 4] rfl)
      · exact absurd rfl c_3
    · exact absurd c_2 (by omega)
  · refine lv_iconst (v := bI true) hx hb dL_law_893 rfl ?_
    refine lv_goto (tgt := 898) hx hb dL_law_894 (by decide) ?_
    refine lv_aload_n hx hb dL_law_898 rfl (lv_at hl 1 rfl) ?_
    refine lv_iload hx hb dL_law_899 (lv_at hl 0 rfl) ?_
    refine lv_iconst (v := nI 4) hx hb dL_law_901 rfl ?_
    refine nn_add hx hb dL_law_902 ?_
    refine va_sld hx hb hX hbl hbA hR.2.2 (vp_in_nI (by omega) (by omega)) dL_law_903 ?_
    refine nn_eqi (y := xs (i + 4)) (by rw [nI_clamp (by omega)]) ?_
    have hR1 : rR G (fun q : Nat => s.heap.size ≤ q) s.heap H locs ((X ++ ([(out, .inl (cJ, 1, .inr (.inl fo)))] ++ w)) ++ pl) := by rw [← List.append_assoc]; exact hR
    refine xl_callV (C := RX8) (As := [.int (xs (i + 1)), .int (xs (i + 2)), .int (bI true), .int (xs (i + 4))]) (rest := []) (cx := X) (wr := [(out, .inl (cJ, 1, .inr (.inl fo)))] ++ w) (K_at l hT hk (xs (i + 1)) (xs (i + 2)) (xs (i + 4)) true) ⟨hx, hb, hml, hown, hts⟩ (cwV 4 hts gL_law_X8_at rfl rfl rfl (by decide +kernel) ⟨Nat.le_of_ble_eq_true rfl, Nat.le_of_ble_eq_true rfl⟩) hK hZ hR1 hA (xrecv (ci := 7) hK hR1.1 rfl (List.mem_append_left _ (List.mem_append_left _ hm))) rfl hl.1 rfl (Nat.le_of_ble_eq_true rfl) dL_law_904 ⟨(by show cells + 0 ≤ 601024; omega), (by show slots + 0 ≤ 7293034; omega)⟩ (fun o9 X1 nw H locs h1 hR => ?_)
    have hR : rR G (fun q : Nat => s.heap.size ≤ q) s.heap H locs (((X1 ++ [(out, .inl (cJ, 1, .inr (.inl fo)))]) ++ w) ++ (pl ++ nw)) := by rw [List.append_assoc X1]; exact hR
    obtain ⟨v1, rfl⟩ : ∃ v, o9 = some (.int v) := by obtain ⟨rfl, -⟩ := h1; exact ⟨_, rfl⟩
    refine lv_aload_n hx hb dL_law_907 rfl (lv_at hl 3 rfl) ?_
    refine lv_aload_n hx hb dL_law_908 rfl (lv_at hl 1 rfl) ?_
    refine lv_iload hx hb dL_law_909 (lv_at hl 0 rfl) ?_
    refine lv_iconst (v := nI 1) hx hb dL_law_911 rfl ?_
    refine nn_add hx hb dL_law_912 ?_
    refine va_sld hx hb hX hbl hbA hR.2.2 (vp_in_nI (by omega) (by omega)) dL_law_913 ?_
    refine nn_eqi (y := xs (i + 1)) (by rw [nI_clamp (by omega)]) ?_
    refine lv_aload_n hx hb dL_law_914 rfl (lv_at hl 1 rfl) ?_
    refine lv_iload hx hb dL_law_915 (lv_at hl 0 rfl) ?_
    refine lv_iconst (v := nI 2) hx hb dL_law_917 rfl ?_
    refine nn_add hx hb dL_law_918 ?_
    refine va_sld hx hb hX hbl hbA hR.2.2 (vp_in_nI (by omega) (by omega)) dL_law_919 ?_
    refine nn_eqi (y := xs (i + 2)) (by rw [nI_clamp (by omega)]) ?_
    refine lv_aload_n hx hb dL_law_920 rfl (lv_at hl 1 rfl) ?_
    refine lv_iload hx hb dL_law_921 (lv_at hl 0 rfl) ?_
    refine lv_iconst (v := nI 3) hx hb dL_law_923 rfl ?_
    refine nn_add hx hb dL_law_924 ?_
    refine va_sld hx hb hX hbl hbA hR.2.2 (vp_in_nI (by omega) (by omega)) dL_law_925 ?_
    refine nn_eqi (y := xs (i + 3)) (by rw [nI_clamp (by omega)]) ?_
    refine zi_eq hx hb rfl dL_law_926 (tgt := 933) (by decide) (fun c_4 => ?_) (fun c_4 => ?_)
    · exact absurd c_4 (by omega)
    · refine lv_iconst (v := bI true) hx hb dL_law_929 rfl ?_
      refine lv_goto (tgt := 934) hx hb dL_law_930 (by decide) ?_
      refine lv_aload_n hx hb dL_law_934 rfl (lv_at hl 1 rfl) ?_
      refine lv_iload hx hb dL_law_935 (lv_at hl 0 rfl) ?_
      refine lv_iconst (v := nI 4) hx hb dL_law_937 rfl ?_
      refine nn_add hx hb dL_law_938 ?_
      refine va_sld hx hb hX hbl hbA hR.2.2 (vp_in_nI (by omega) (by omega)) dL_law_939 ?_
      refine nn_eqi (y := xs (i + 4)) (by rw [nI_clamp (by omega)]) ?_
      refine xl_callV (C := RX9) (As := [.int (xs (i + 1)), .int (xs (i + 2)), .int (bI true), .int (xs (i + 4))]) (rest := [.int v1]) (cx := w) (wr := X1 ++ [(out, .inl (cJ, 1, .inr (.inl fo)))]) (r2c (F_at l hTi hw (xs (i + 1)) (xs (i + 2)) (xs (i + 4)) true)) ⟨hx, hb, hml, hown, hts⟩ (cwV 4 hts gL_law_X9_at rfl rfl rfl (by decide +kernel) ⟨Nat.le_of_ble_eq_true rfl, Nat.le_of_ble_eq_true rfl⟩) hK hZ (rR_swap hR) hA (xrecv (ci := 8) hK hR.1 rfl (List.mem_append_left _ (List.mem_append_right _ hm9))) rfl hl.1 rfl (Nat.le_of_ble_eq_true rfl) dL_law_940 ⟨(by show cells + 0 + 0 ≤ 601024; omega), (by show slots + 0 + 0 ≤ 7293034; omega)⟩ (fun r w1 nw1 H locs h2 hR => ?_)
      obtain ⟨rfl, h2⟩ := h2
      rw [List.append_nil] at hR
      have hR : rR G (fun q : Nat => s.heap.size ≤ q) s.heap H locs (((X1 ++ [(out, .inl (cJ, 1, .inr (.inl fo)))]) ++ w1) ++ (pl ++ nw)) := rR_swap hR
      obtain ⟨v, e1, rfl, hS⟩ := J_at hJ h1 h2
      cases e1
      refine lv_icmp_eq (tgt := 1010) hx hb dL_law_943 (by decide) (fun c_5 => ?_) (fun c_5 => ?_)
      · refine W.widen (k := cells + 4) (n := slots + 3006) (by show cells + 0 + 0 ≤ cells + 4; omega) (by show slots + 0 + 0 ≤ slots + 3006; omega) ?_
        exact hback _ _ _ _ _ _ _ _ hS hR (lv_sub hl [0, 1, 2, 3, 4] rfl)
      · exact absurd rfl c_5
set_option maxHeartbeats 4000000 in
set_option maxRecDepth 100000 in
theorem O_about {p : Program} {l : Launch} {e : Env} {s : State} {m : MethodId} {args : Array Value} {below : List Frame} {meth : Method} {c : Code} {b L : Nat} {xs : Nat → Int32} {G : va_G} {tys : List (ClassId × FieldType)} {cB cI cE cS cJ : ClassId} {z q : Nat → Nat} {x out : Nat} {Q : State → Prop} {cells slots : Nat} (C : lwX p l s m args c b L xs G tys cB cI cE cS cJ) {i : Nat} (hi : i + 6 ≤ L) (hcl : cells + 4 ≤ 601024 ∧ slots + 3006 ≤ 7293034) {th : Int32} {X w pl : va_W} {fo : Nat → Int64} {H : Heap} {locs : List Loc} {ls : Array Slot} (hS : Sim cB cI cE cS z q x th X w pl) (hR : rR G (fun q : Nat => s.heap.size ≤ q) s.heap H locs (((X ++ [(out, .inl (cJ, 1, .inr (.inl fo)))]) ++ w) ++ pl)) (hl : lv_has ls 7 [(4, .int (nI i)), (0, .ref b), (1, .ref (z 0)), (2, .ref x), (3, .ref out)]) (hback : ∀ (th : Int32) (X w pl : va_W) (fo : Nat → Int64) (H : Heap) (locs : List Loc) (ls : Array Slot), Sim cB cI cE cS z q x th X w pl → rR G (fun q : Nat => s.heap.size ≤ q) s.heap H locs (((X ++ [(out, .inl (cJ, 1, .inr (.inl fo)))]) ++ w) ++ pl) → lv_has ls 7 [(4, .int (nI i)), (0, .ref b), (1, .ref (z 0)), (2, .ref x), (3, .ref out)] → W p l e room_1 s m args below meth c H locs (cells + 4) (slots + 3006) Q (F0 m 1010 ls [])) : W p l e room_1 s m args below meth c H locs cells slots Q (F0 m 948 ls []) := by
  obtain ⟨hx, hb, hml, hown, hts, hT, hK, hJ9, hZ, hU, hn1, hn2, hX, hbl, hlt, hL⟩ := C
  have hA : ∀ q : Nat, s.heap.size ≤ q → (fun q : Nat => s.heap.size ≤ q) q := fun _ h => h
  have hbA : ¬ (fun q : Nat => s.heap.size ≤ q) b := Nat.not_le.mpr hbl
  have hTi : tys[1]? = some (cI, .int) := by rw [hT]; rfl
  obtain ⟨T, rd, Sn, Cw, C2, tm0, dn, st, Ts, cs, cp, ops, cg, ns, bg, sT, sC, hk, hw, hJ⟩ := id hS
  obtain ⟨⟨⟨hs0, hl0, hc0⟩, hu0⟩, hT3, hT4, hH, ⟨hst, hdn, hcg, hop⟩, hr0, hw0, hnn⟩ := id hJ
  have hbd := hw.bd
  have hb1 := (hbd.1 1 (by decide)).1
  have hns := hH.2.1
  have hopc : ops ≤ 2 * cg + 3 := by
    by_cases h0 : st = 0
    · have := (hr0 h0).1; omega
    · exact (hw0 h0).2.2.2.2.1
  obtain ⟨fs, hm⟩ := hk.mem
  obtain ⟨fs9, hm9⟩ := hw.mem
  refine lv_aload_n hx hb dL_law_948 rfl (lv_at hl 2 rfl) ?_
  refine lv_aload_n hx hb dL_law_949 rfl (lv_at hl 1 rfl) ?_
  refine lv_iload hx hb dL_law_950 (lv_at hl 0 rfl) ?_
  refine lv_iconst (v := nI 1) hx hb dL_law_952 rfl ?_
  refine nn_add hx hb dL_law_953 ?_
  refine va_sld hx hb hX hbl hbA hR.2.2 (vp_in_nI (by omega) (by omega)) dL_law_954 ?_
  refine nn_eqi (y := xs (i + 1)) (by rw [nI_clamp (by omega)]) ?_
  have hR1 : rR G (fun q : Nat => s.heap.size ≤ q) s.heap H locs ((X ++ ([(out, .inl (cJ, 1, .inr (.inl fo)))] ++ w)) ++ pl) := by rw [← List.append_assoc]; exact hR
  refine xl_callV (C := RX8) (As := [.int (xs (i + 1))]) (rest := []) (cx := X) (wr := [(out, .inl (cJ, 1, .inr (.inl fo)))] ++ w) (K_about l hT hk (xs (i + 1)) (by omega) hst) ⟨hx, hb, hml, hown, hts⟩ (cwV 1 hts gL_law_X8_about rfl rfl rfl (by decide +kernel) ⟨Nat.le_of_ble_eq_true rfl, Nat.le_of_ble_eq_true rfl⟩) hK hZ hR1 hA (xrecv (ci := 7) hK hR1.1 rfl (List.mem_append_left _ (List.mem_append_left _ hm))) rfl hl.1 rfl (Nat.le_of_ble_eq_true rfl) dL_law_955 ⟨(by show cells + 0 ≤ 601024; omega), (by show slots + 0 ≤ 7293034; omega)⟩ (fun o9 X1 nw H locs h1 hR => ?_)
  have hR : rR G (fun q : Nat => s.heap.size ≤ q) s.heap H locs (((X1 ++ [(out, .inl (cJ, 1, .inr (.inl fo)))]) ++ w) ++ (pl ++ nw)) := by rw [List.append_assoc X1]; exact hR
  obtain ⟨v1, rfl⟩ : ∃ v, o9 = some (.int v) := by obtain ⟨rfl, -⟩ := h1; exact ⟨_, rfl⟩
  refine lv_aload_n hx hb dL_law_958 rfl (lv_at hl 3 rfl) ?_
  refine lv_aload_n hx hb dL_law_959 rfl (lv_at hl 1 rfl) ?_
  refine lv_iload hx hb dL_law_960 (lv_at hl 0 rfl) ?_
  refine lv_iconst (v := nI 1) hx hb dL_law_962 rfl ?_
  refine nn_add hx hb dL_law_963 ?_
  refine va_sld hx hb hX hbl hbA hR.2.2 (vp_in_nI (by omega) (by omega)) dL_law_964 ?_
  refine nn_eqi (y := xs (i + 1)) (by rw [nI_clamp (by omega)]) ?_
  refine xl_callV (C := RX9) (As := [.int (xs (i + 1))]) (rest := [.int v1]) (cx := w) (wr := X1 ++ [(out, .inl (cJ, 1, .inr (.inl fo)))]) (r2c (F_about l hTi hw (xs (i + 1)) (by omega) (by omega) hns hst)) ⟨hx, hb, hml, hown, hts⟩ (cwV 1 hts gL_law_X9_about rfl rfl rfl (by decide +kernel) ⟨Nat.le_of_ble_eq_true rfl, Nat.le_of_ble_eq_true rfl⟩) hK hZ (rR_swap hR) hA (xrecv (ci := 8) hK hR.1 rfl (List.mem_append_left _ (List.mem_append_right _ hm9))) rfl hl.1 rfl (Nat.le_of_ble_eq_true rfl) dL_law_965 ⟨(by show cells + 0 + 0 ≤ 601024; omega), (by show slots + 0 + 0 ≤ 7293034; omega)⟩ (fun r w1 nw1 H locs h2 hR => ?_)
  obtain ⟨rfl, h2⟩ := h2
  rw [List.append_nil] at hR
  have hR : rR G (fun q : Nat => s.heap.size ≤ q) s.heap H locs (((X1 ++ [(out, .inl (cJ, 1, .inr (.inl fo)))]) ++ w1) ++ (pl ++ nw)) := rR_swap hR
  obtain ⟨v, e1, rfl, hS⟩ := J_about hJ h1 h2
  cases e1
  refine lv_icmp_eq (tgt := 1010) hx hb dL_law_968 (by decide) (fun c_1 => ?_) (fun c_1 => ?_)
  · refine W.widen (k := cells + 4) (n := slots + 3006) (by show cells + 0 + 0 ≤ cells + 4; omega) (by show slots + 0 + 0 ≤ slots + 3006; omega) ?_
    exact hback _ _ _ _ _ _ _ _ hS hR (lv_sub hl [0, 1, 2, 3, 4] rfl)
  · exact absurd rfl c_1
set_option maxHeartbeats 4000000 in
set_option maxRecDepth 100000 in
theorem O_session {p : Program} {l : Launch} {e : Env} {s : State} {m : MethodId} {args : Array Value} {below : List Frame} {meth : Method} {c : Code} {b L : Nat} {xs : Nat → Int32} {G : va_G} {tys : List (ClassId × FieldType)} {cB cI cE cS cJ : ClassId} {z q : Nat → Nat} {x out : Nat} {Q : State → Prop} {cells slots : Nat} (C : lwX p l s m args c b L xs G tys cB cI cE cS cJ) {i : Nat} (hi : i + 6 ≤ L) (hcl : cells + 4 ≤ 601024 ∧ slots + 3006 ≤ 7293034) {th : Int32} {X w pl : va_W} {fo : Nat → Int64} {H : Heap} {locs : List Loc} {ls : Array Slot} (hS : Sim cB cI cE cS z q x th X w pl) (hR : rR G (fun q : Nat => s.heap.size ≤ q) s.heap H locs (((X ++ [(out, .inl (cJ, 1, .inr (.inl fo)))]) ++ w) ++ pl)) (hl : lv_has ls 7 [(4, .int (nI i)), (0, .ref b), (1, .ref (z 0)), (2, .ref x), (3, .ref out)]) (hback : ∀ (th : Int32) (X w pl : va_W) (fo : Nat → Int64) (H : Heap) (locs : List Loc) (ls : Array Slot), Sim cB cI cE cS z q x th X w pl → rR G (fun q : Nat => s.heap.size ≤ q) s.heap H locs (((X ++ [(out, .inl (cJ, 1, .inr (.inl fo)))]) ++ w) ++ pl) → lv_has ls 7 [(4, .int (nI i)), (0, .ref b), (1, .ref (z 0)), (2, .ref x), (3, .ref out)] → W p l e room_1 s m args below meth c H locs (cells + 4) (slots + 3006) Q (F0 m 1010 ls [])) : W p l e room_1 s m args below meth c H locs cells slots Q (F0 m 973 ls []) := by
  obtain ⟨hx, hb, hml, hown, hts, hT, hK, hJ9, hZ, hU, hn1, hn2, hX, hbl, hlt, hL⟩ := C
  have hA : ∀ q : Nat, s.heap.size ≤ q → (fun q : Nat => s.heap.size ≤ q) q := fun _ h => h
  have hbA : ¬ (fun q : Nat => s.heap.size ≤ q) b := Nat.not_le.mpr hbl
  have hTi : tys[1]? = some (cI, .int) := by rw [hT]; rfl
  obtain ⟨T, rd, Sn, Cw, C2, tm0, dn, st, Ts, cs, cp, ops, cg, ns, bg, sT, sC, hk, hw, hJ⟩ := id hS
  obtain ⟨⟨⟨hs0, hl0, hc0⟩, hu0⟩, hT3, hT4, hH, ⟨hst, hdn, hcg, hop⟩, hr0, hw0, hnn⟩ := id hJ
  have hbd := hw.bd
  have hb1 := (hbd.1 1 (by decide)).1
  have hns := hH.2.1
  have hopc : ops ≤ 2 * cg + 3 := by
    by_cases h0 : st = 0
    · have := (hr0 h0).1; omega
    · exact (hw0 h0).2.2.2.2.1
  obtain ⟨fs, hm⟩ := hk.mem
  obtain ⟨fs9, hm9⟩ := hw.mem
  refine lv_aload_n hx hb dL_law_973 rfl (lv_at hl 2 rfl) ?_
  refine lv_aload_n hx hb dL_law_974 rfl (lv_at hl 1 rfl) ?_
  refine lv_iload hx hb dL_law_975 (lv_at hl 0 rfl) ?_
  refine lv_iconst (v := nI 1) hx hb dL_law_977 rfl ?_
  refine nn_add hx hb dL_law_978 ?_
  refine va_sld hx hb hX hbl hbA hR.2.2 (vp_in_nI (by omega) (by omega)) dL_law_979 ?_
  refine nn_eqi (y := xs (i + 1)) (by rw [nI_clamp (by omega)]) ?_
  refine lv_aload_n hx hb dL_law_980 rfl (lv_at hl 1 rfl) ?_
  refine lv_iload hx hb dL_law_981 (lv_at hl 0 rfl) ?_
  refine lv_iconst (v := nI 2) hx hb dL_law_983 rfl ?_
  refine nn_add hx hb dL_law_984 ?_
  refine va_sld hx hb hX hbl hbA hR.2.2 (vp_in_nI (by omega) (by omega)) dL_law_985 ?_
  refine nn_eqi (y := xs (i + 2)) (by rw [nI_clamp (by omega)]) ?_
  have hR1 : rR G (fun q : Nat => s.heap.size ≤ q) s.heap H locs ((X ++ ([(out, .inl (cJ, 1, .inr (.inl fo)))] ++ w)) ++ pl) := by rw [← List.append_assoc]; exact hR
  refine xl_callV (C := RX8) (As := [.int (xs (i + 1)), .int (xs (i + 2))]) (rest := []) (cx := X) (wr := [(out, .inl (cJ, 1, .inr (.inl fo)))] ++ w) (K_session l hT hk (xs (i + 1)) (xs (i + 2))) ⟨hx, hb, hml, hown, hts⟩ (cwV 2 hts gL_law_X8_session rfl rfl rfl (by decide +kernel) ⟨Nat.le_of_ble_eq_true rfl, Nat.le_of_ble_eq_true rfl⟩) hK hZ hR1 hA (xrecv (ci := 7) hK hR1.1 rfl (List.mem_append_left _ (List.mem_append_left _ hm))) rfl hl.1 rfl (Nat.le_of_ble_eq_true rfl) dL_law_986 ⟨(by show cells + 0 ≤ 601024; omega), (by show slots + 0 ≤ 7293034; omega)⟩ (fun o9 X1 nw H locs h1 hR => ?_)
  have hR : rR G (fun q : Nat => s.heap.size ≤ q) s.heap H locs (((X1 ++ [(out, .inl (cJ, 1, .inr (.inl fo)))]) ++ w) ++ (pl ++ nw)) := by rw [List.append_assoc X1]; exact hR
  obtain ⟨v1, rfl⟩ : ∃ v, o9 = some (.int v) := by obtain ⟨rfl, -⟩ := h1; exact ⟨_, rfl⟩
  refine lv_aload_n hx hb dL_law_989 rfl (lv_at hl 3 rfl) ?_
  refine lv_aload_n hx hb dL_law_990 rfl (lv_at hl 1 rfl) ?_
  refine lv_iload hx hb dL_law_991 (lv_at hl 0 rfl) ?_
  refine lv_iconst (v := nI 1) hx hb dL_law_993 rfl ?_
  refine nn_add hx hb dL_law_994 ?_
  refine va_sld hx hb hX hbl hbA hR.2.2 (vp_in_nI (by omega) (by omega)) dL_law_995 ?_
  refine nn_eqi (y := xs (i + 1)) (by rw [nI_clamp (by omega)]) ?_
  refine lv_aload_n hx hb dL_law_996 rfl (lv_at hl 1 rfl) ?_
  refine lv_iload hx hb dL_law_997 (lv_at hl 0 rfl) ?_
  refine lv_iconst (v := nI 2) hx hb dL_law_999 rfl ?_
  refine nn_add hx hb dL_law_1000 ?_
  refine va_sld hx hb hX hbl hbA hR.2.2 (vp_in_nI (by omega) (by omega)) dL_law_1001 ?_
  refine nn_eqi (y := xs (i + 2)) (by rw [nI_clamp (by omega)]) ?_
  refine xl_callV (C := RX9) (As := [.int (xs (i + 1)), .int (xs (i + 2))]) (rest := [.int v1]) (cx := w) (wr := X1 ++ [(out, .inl (cJ, 1, .inr (.inl fo)))]) (r2c (F_session l hTi hw (xs (i + 1)) (xs (i + 2)) hns)) ⟨hx, hb, hml, hown, hts⟩ (cwV 2 hts gL_law_X9_session rfl rfl rfl (by decide +kernel) ⟨Nat.le_of_ble_eq_true rfl, Nat.le_of_ble_eq_true rfl⟩) hK hZ (rR_swap hR) hA (xrecv (ci := 8) hK hR.1 rfl (List.mem_append_left _ (List.mem_append_right _ hm9))) rfl hl.1 rfl (Nat.le_of_ble_eq_true rfl) dL_law_1002 ⟨(by show cells + 0 + 0 ≤ 601024; omega), (by show slots + 0 + 0 ≤ 7293034; omega)⟩ (fun r w1 nw1 H locs h2 hR => ?_)
  obtain ⟨rfl, h2⟩ := h2
  rw [List.append_nil] at hR
  have hR : rR G (fun q : Nat => s.heap.size ≤ q) s.heap H locs (((X1 ++ [(out, .inl (cJ, 1, .inr (.inl fo)))]) ++ w1) ++ (pl ++ nw)) := rR_swap hR
  obtain ⟨v, e1, rfl, hS⟩ := J_session hJ h1 h2
  cases e1
  refine lv_icmp_eq (tgt := 1010) hx hb dL_law_1005 (by decide) (fun c_1 => ?_) (fun c_1 => ?_)
  · refine W.widen (k := cells + 4) (n := slots + 3006) (by show cells + 0 + 0 ≤ cells + 4; omega) (by show slots + 0 + 0 ≤ slots + 3006; omega) ?_
    exact hback _ _ _ _ _ _ _ _ hS hR (lv_sub hl [0, 1, 2, 3, 4] rfl)
  · exact absurd rfl c_1
