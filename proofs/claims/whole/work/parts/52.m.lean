set_option maxHeartbeats 4000000 in
set_option maxRecDepth 100000 in
theorem p_entryOf (l : Launch) {G : va_G} {tys : List (ClassId × FieldType)} {cB cI cE cS : ClassId} (hT : tys = [(cB, .byte), (cI, .int), (cE, .object RX1), (cS, .object RX4)]) {w : va_W} {mk tp t1 t2 t3 h wk ch2 r1 r2 r3 : Nat} {cho st9 : Int32} {f1 f2 f3 : Nat → Option Nat} {L1 L2 L3 : List En} (hmk : (mk, .inr (7, [.ref tp, .ref t1, .ref t2, .ref t3, .ref h, .ref wk, .ref ch2, .int cho, .int st9])) ∈ w) (h1 : tRep w cB cE t1 r1 f1 L1) (h2 : tRep w cB cE t2 r2 f2 L2) (h3 : tRep w cB cE t3 r3 f3 L3) (tr ix : Int32) : pMet l yX8_entryOf wsX8_entryOf ({ frames := 1, cells := 0, slots := 0, locals := 21 } : Room) G tys [.ref mk, .int tr, .int ix] w (fun r => (¬ (0 ≤ ix.toInt ∧ ix.toInt < (trS L1 L2 L3 tr).length) ∧ r = .null) ∨ ∃ k a, ix = nI k ∧ k < (trS L1 L2 L3 tr).length ∧ r = .ref a ∧ pEnt w cB a ((trS L1 L2 L3 tr).getD k e0)) := by
  have hT0 : tys[0]? = some (cB, .byte) := by rw [hT]; rfl
  refine Met.ofW (cc := cX8_entryOf) (maxL := 3) (ret := (some (.object "MirrorKeep$Entry"))) (by decide) rfl ?_
  intro p e s m args below meth c s₁ B hml hv
  obtain ⟨hargs, hP, hK⟩ := hv
  have hx := B.exec
  have hb := B.bytes
  have hr := B.returns
  have hts := atoms_spec (ws := wsX8_entryOf) B.pre
  have hown : s.vm.findClass RX8 = some m.cls := findClass_of_methodNamed B.named
  have hlocks := B.notSynchronized
  have inX8 : ∀ w ∈ wsX80, w ∈ wsX8_entryOf := by decide +kernel
  have k_19 := hts (.fieldLink RX8 19 "MirrorKeep" "source" "LMirrorKeep$Tree;") (by decide +kernel)
  have k_23 := hts (.fieldLink RX8 23 "MirrorKeep" "mirror" "LMirrorKeep$Tree;") (by decide +kernel)
  have k_26 := hts (.fieldLink RX8 26 "MirrorKeep" "result" "LMirrorKeep$Tree;") (by decide +kernel)
  obtain ⟨Q, hQ⟩ : ∃ Q : State → Prop, Q = MQ below (pQ (fun r => (¬ (0 ≤ ix.toInt ∧ ix.toInt < (trS L1 L2 L3 tr).length) ∧ r = .null) ∨ ∃ k a, ix = nI k ∧ k < (trS L1 L2 L3 tr).length ∧ r = .ref a ∧ pEnt w cB a ((trS L1 L2 L3 tr).getD k e0))) args s 0 0 (fun _ => False) := ⟨_, rfl⟩
  change W p l e ({ frames := 1, cells := 0, slots := 0, locals := 21 } : Room) s m args below meth c s.heap [] 0 0 (MQ below (pQ (fun r => (¬ (0 ≤ ix.toInt ∧ ix.toInt < (trS L1 L2 L3 tr).length) ∧ r = .null) ∨ ∃ k a, ix = nI k ∧ k < (trS L1 L2 L3 tr).length ∧ r = .ref a ∧ pEnt w cB a ((trS L1 L2 L3 tr).getD k e0))) args s 0 0 (fun _ => False)) (entryFrame m args 3)
  rw [← hQ]
  refine nn_entry hargs (Nat.le_of_ble_eq_true rfl) (lv := [(0, .ref mk), (1, .int tr), (2, .int ix)]) rfl (fun ls hl => ?_)
  refine lv_iload_n hx hb dX8_entryOf_0 rfl (lv_at hl 1 rfl) ?_
  rcases (show tr.toInt = 0 ∨ tr.toInt = 1 ∨ tr.toInt = 2 ∨ (tr.toInt < 0 ∨ 2 < tr.toInt) by omega) with hsw | hsw | hsw | hsw
  · refine lv_tableIn (tgt := 28) hx hb dX8_entryOf_1 (by omega) (by omega) (by rw [hsw]; rfl) (by decide) ?_
    refine lv_aload_n hx hb dX8_entryOf_28 rfl (lv_at hl 0 rfl) ?_
    refine xg (ci := 7) (C := RX8) (T := TX8) (N := 9) (v := .ref t1) hx hb hts inX8 hown hK hP hmk rfl 1 (by decide) k_19 (fun _ h => h) rfl dX8_entryOf_29 ?_
    refine lv_iload_n hx hb dX8_entryOf_32 rfl (lv_at hl 2 rfl) ?_
    refine pf_callV (C := RX6) (As := [.int ix]) (rest := []) (p_tget l hT h1 ix) ⟨hx, hb, hml, hown, hts⟩ (cwV 1 hts gX8_entryOf_X6_get rfl rfl rfl (by decide +kernel) ⟨Nat.le_of_ble_eq_true rfl, Nat.le_of_ble_eq_true rfl⟩) hK hP (xrecv (ci := 5) hK hP rfl h1.1) rfl hl.1 rfl (Nat.le_of_ble_eq_true rfl) dX8_entryOf_33 ⟨Nat.le_of_ble_eq_true rfl, Nat.le_of_ble_eq_true rfl⟩ (fun r_1 hr_1 => ?_)
    rcases hr_1 with ⟨hr_1, rfl⟩ | ⟨k_2, a_3, hk_2, jk_2, rfl, ha_3, ga_3⟩
    · rw [hQ]
      exact pf_aret hx hb hr (Or.inl ⟨_, rfl⟩) (Or.inl rfl) hlocks (by rw [trS_0 hsw]; exact Or.inl ⟨by assumption, rfl⟩) dX8_entryOf_36
    · obtain ⟨pae_5, cae_5, hme_5, hpae_5, hcae_5⟩ := id ga_3
      rw [hQ]
      exact pf_aret hx hb hr (Or.inl ⟨_, rfl⟩) (Or.inr ⟨_, rfl⟩) hlocks (by rw [trS_0 hsw]; exact Or.inr ⟨k_2, a_3, hk_2, jk_2, rfl, ga_3⟩) dX8_entryOf_36
  · refine lv_tableIn (tgt := 37) hx hb dX8_entryOf_1 (by omega) (by omega) (by rw [hsw]; rfl) (by decide) ?_
    refine lv_aload_n hx hb dX8_entryOf_37 rfl (lv_at hl 0 rfl) ?_
    refine xg (ci := 7) (C := RX8) (T := TX8) (N := 9) (v := .ref t2) hx hb hts inX8 hown hK hP hmk rfl 2 (by decide) k_23 (fun _ h => h) rfl dX8_entryOf_38 ?_
    refine lv_iload_n hx hb dX8_entryOf_41 rfl (lv_at hl 2 rfl) ?_
    refine pf_callV (C := RX6) (As := [.int ix]) (rest := []) (p_tget l hT h2 ix) ⟨hx, hb, hml, hown, hts⟩ (cwV 1 hts gX8_entryOf_X6_get rfl rfl rfl (by decide +kernel) ⟨Nat.le_of_ble_eq_true rfl, Nat.le_of_ble_eq_true rfl⟩) hK hP (xrecv (ci := 5) hK hP rfl h2.1) rfl hl.1 rfl (Nat.le_of_ble_eq_true rfl) dX8_entryOf_42 ⟨Nat.le_of_ble_eq_true rfl, Nat.le_of_ble_eq_true rfl⟩ (fun r_6 hr_6 => ?_)
    rcases hr_6 with ⟨hr_6, rfl⟩ | ⟨k_7, a_8, hk_7, jk_7, rfl, ha_8, ga_8⟩
    · rw [hQ]
      exact pf_aret hx hb hr (Or.inl ⟨_, rfl⟩) (Or.inl rfl) hlocks (by rw [trS_1 hsw]; exact Or.inl ⟨by assumption, rfl⟩) dX8_entryOf_45
    · obtain ⟨pae_10, cae_10, hme_10, hpae_10, hcae_10⟩ := id ga_8
      rw [hQ]
      exact pf_aret hx hb hr (Or.inl ⟨_, rfl⟩) (Or.inr ⟨_, rfl⟩) hlocks (by rw [trS_1 hsw]; exact Or.inr ⟨k_7, a_8, hk_7, jk_7, rfl, ga_8⟩) dX8_entryOf_45
  · refine lv_tableIn (tgt := 46) hx hb dX8_entryOf_1 (by omega) (by omega) (by rw [hsw]; rfl) (by decide) ?_
    refine lv_aload_n hx hb dX8_entryOf_46 rfl (lv_at hl 0 rfl) ?_
    refine xg (ci := 7) (C := RX8) (T := TX8) (N := 9) (v := .ref t3) hx hb hts inX8 hown hK hP hmk rfl 3 (by decide) k_26 (fun _ h => h) rfl dX8_entryOf_47 ?_
    refine lv_iload_n hx hb dX8_entryOf_50 rfl (lv_at hl 2 rfl) ?_
    refine pf_callV (C := RX6) (As := [.int ix]) (rest := []) (p_tget l hT h3 ix) ⟨hx, hb, hml, hown, hts⟩ (cwV 1 hts gX8_entryOf_X6_get rfl rfl rfl (by decide +kernel) ⟨Nat.le_of_ble_eq_true rfl, Nat.le_of_ble_eq_true rfl⟩) hK hP (xrecv (ci := 5) hK hP rfl h3.1) rfl hl.1 rfl (Nat.le_of_ble_eq_true rfl) dX8_entryOf_51 ⟨Nat.le_of_ble_eq_true rfl, Nat.le_of_ble_eq_true rfl⟩ (fun r_11 hr_11 => ?_)
    rcases hr_11 with ⟨hr_11, rfl⟩ | ⟨k_12, a_13, hk_12, jk_12, rfl, ha_13, ga_13⟩
    · rw [hQ]
      exact pf_aret hx hb hr (Or.inl ⟨_, rfl⟩) (Or.inl rfl) hlocks (by rw [trS_2 hsw]; exact Or.inl ⟨by assumption, rfl⟩) dX8_entryOf_54
    · obtain ⟨pae_15, cae_15, hme_15, hpae_15, hcae_15⟩ := id ga_13
      rw [hQ]
      exact pf_aret hx hb hr (Or.inl ⟨_, rfl⟩) (Or.inr ⟨_, rfl⟩) hlocks (by rw [trS_2 hsw]; exact Or.inr ⟨k_12, a_13, hk_12, jk_12, rfl, ga_13⟩) dX8_entryOf_54
  · refine lv_tableOut (tgt := 55) hx hb dX8_entryOf_1 hsw (by decide) ?_
    refine lv_null hx hb dX8_entryOf_55 ?_
    rw [hQ]
    exact pf_aret hx hb hr (Or.inl ⟨_, rfl⟩) (Or.inl rfl) hlocks (Or.inl ⟨by rw [trS_d hsw]; intro h9; exact absurd h9.2 (by simp; omega), rfl⟩) dX8_entryOf_56
set_option maxHeartbeats 4000000 in
set_option maxRecDepth 100000 in
theorem K_entry (l : Launch) {G : va_G} {tys : List (ClassId × FieldType)} {cB cI cE cS : ClassId} (hT : tys = [(cB, .byte), (cI, .int), (cE, .object RX1), (cS, .object RX4)]) {pl : va_W} {sz : Nat} {z : Nat → Nat} {X : va_W} {T rd : List Nat} {Ls Lm Lr : List En} {Sn : List Se} {Cw C2 : List Cg} {tm0 : Int32} {dn : Nat} {cho : Int32} {st : Nat} (hk : kRep cB cI cE cS z X pl T rd Ls Lm Lr Sn Cw C2 tm0 dn cho st) (tr ix w0 : Int32) : cMet l yX8_entry wsX8_entry ({ frames := 2, cells := 0, slots := 0, locals := 43 } : Room) G tys [.ref (z 0), .int tr, .int ix, .int w0] X pl sz 0 0 (fun o9 X1 nw => o9 = some (.int (enK (trS Ls Lm Lr tr) ix w0)) ∧ kRep cB cI cE cS z X1 (pl ++ nw) T rd Ls Lm Lr Sn Cw C2 tm0 dn cho st) := by
  obtain ⟨g, fb, f1, f2, f3, fh, c1, c2, c3, c4, rfl, hrd, htp, hr1, hr2, hr3, hhr, hcr, hcr2⟩ := hk
  have hT0 : tys[0]? = some (cB, .byte) := by rw [hT]; rfl
  have hT1 : tys[1]? = some (cI, .int) := by rw [hT]; rfl
  have hT2 : tys[2]? = some (cE, .object RX1) := by rw [hT]; rfl
  have hT3 : tys[3]? = some (cS, .object RX4) := by rw [hT]; rfl
  refine Met.ofW (cc := cX8_entry) (maxL := 5) (ret := (some .int)) (by decide) rfl ?_
  intro p e s m args below meth c s₁ B hml hv
  obtain ⟨hargs, hsz, hP, hK, hD0, hZ⟩ := hv
  have hx := B.exec
  have hb := B.bytes
  have hr := B.returns
  have hts := atoms_spec (ws := wsX8_entry) B.pre
  have hown : s.vm.findClass RX8 = some m.cls := findClass_of_methodNamed B.named
  have hlocks := B.notSynchronized
  subst hsz
  have hD := hD0.self (sz := s.heap.size)
  obtain ⟨A, hAe⟩ : ∃ A : Nat → Prop, A = va_A ((kX cB cI cE cS z T.length g fb Ls.length f1 Lm.length f2 Lr.length f3 Sn.length fh tm0 dn Cw.length c1 c2 C2.length c3 c4 cho st) ++ pl) s.heap.size := ⟨_, rfl⟩
  rw [← hAe] at hD
  have hA : ∀ q : Nat, s.heap.size ≤ q → A q := fun q h => by rw [hAe]; exact Or.inr h
  have inX1 : ∀ w ∈ wsX10, w ∈ wsX8_entry := by decide +kernel
  have k_123 := hts (.fieldLink RX8 123 "MirrorKeep$Entry" "kind" "I") (by decide +kernel)
  have k_128 := hts (.fieldLink RX8 128 "MirrorKeep$Entry" "content" "[B") (by decide +kernel)
  have k_259 := hts (.fieldLink RX8 259 "MirrorKeep$Entry" "mode" "I") (by decide +kernel)
  have k_262 := hts (.fieldLink RX8 262 "MirrorKeep$Entry" "time" "I") (by decide +kernel)
  have k_265 := hts (.fieldLink RX8 265 "MirrorKeep$Entry" "path" "[B") (by decide +kernel)
  have hR : rR G A s.heap s.heap [] ((kX cB cI cE cS z T.length g fb Ls.length f1 Lm.length f2 Lr.length f3 Sn.length fh tm0 dn Cw.length c1 c2 C2.length c3 c4 cho st) ++ pl) := ⟨hP, hD, va_S.rf⟩
  obtain ⟨Q, hQ⟩ : ∃ Q : State → Prop, Q = MQ below (cQ G A pl (fun o9 X1 nw => o9 = some (.int (enK (trS Ls Lm Lr tr) ix w0)) ∧ kRep cB cI cE cS z X1 (pl ++ nw) T rd Ls Lm Lr Sn Cw C2 tm0 dn cho st)) args s 0 0 A := ⟨_, rfl⟩
  change W p l e ({ frames := 2, cells := 0, slots := 0, locals := 43 } : Room) s m args below meth c s.heap [] 0 0 (MQ below (cQ G (va_A ((kX cB cI cE cS z T.length g fb Ls.length f1 Lm.length f2 Lr.length f3 Sn.length fh tm0 dn Cw.length c1 c2 C2.length c3 c4 cho st) ++ pl) s.heap.size) pl (fun o9 X1 nw => o9 = some (.int (enK (trS Ls Lm Lr tr) ix w0)) ∧ kRep cB cI cE cS z X1 (pl ++ nw) T rd Ls Lm Lr Sn Cw C2 tm0 dn cho st)) args s 0 0 (va_A ((kX cB cI cE cS z T.length g fb Ls.length f1 Lm.length f2 Lr.length f3 Sn.length fh tm0 dn Cw.length c1 c2 C2.length c3 c4 cho st) ++ pl) s.heap.size)) (entryFrame m args 5)
  rw [← hAe]
  rw [← hQ]
  refine nn_entry hargs (Nat.le_of_ble_eq_true rfl) (lv := [(0, .ref (z 0)), (1, .int tr), (2, .int ix), (3, .int w0)]) rfl (fun ls hl => ?_)
  have htr3 : (trS Ls Lm Lr tr).length < 2 ^ 31 := by unfold trS; have h1 := hr1.1; have h2 := hr2.1; have h3 := hr3.1; split; omega; split; omega; split; omega; simp
  refine lv_aload_n hx hb dX8_entry_0 rfl (lv_at hl 0 rfl) ?_
  refine lv_iload_n hx hb dX8_entry_1 rfl (lv_at hl 1 rfl) ?_
  refine lv_iload_n hx hb dX8_entry_2 rfl (lv_at hl 2 rfl) ?_
  refine pf_callV (C := RX8) (As := [.int tr, .int ix]) (rest := []) (p_entryOf l hT (List.mem_of_getElem? (i := 0) rfl) (⟨(List.mem_of_getElem? (i := 4) rfl), (List.mem_of_getElem? (i := 5) rfl), (hr1.mono xpm)⟩ : tRep ((kX cB cI cE cS z T.length g fb Ls.length f1 Lm.length f2 Lr.length f3 Sn.length fh tm0 dn Cw.length c1 c2 C2.length c3 c4 cho st) ++ pl) cB cE (z 4) (z 5) f1 Ls) (⟨(List.mem_of_getElem? (i := 6) rfl), (List.mem_of_getElem? (i := 7) rfl), (hr2.mono xpm)⟩ : tRep ((kX cB cI cE cS z T.length g fb Ls.length f1 Lm.length f2 Lr.length f3 Sn.length fh tm0 dn Cw.length c1 c2 C2.length c3 c4 cho st) ++ pl) cB cE (z 6) (z 7) f2 Lm) (⟨(List.mem_of_getElem? (i := 8) rfl), (List.mem_of_getElem? (i := 9) rfl), (hr3.mono xpm)⟩ : tRep ((kX cB cI cE cS z T.length g fb Ls.length f1 Lm.length f2 Lr.length f3 Sn.length fh tm0 dn Cw.length c1 c2 C2.length c3 c4 cho st) ++ pl) cB cE (z 8) (z 9) f3 Lr) tr ix) ⟨hx, hb, hml, hown, hts⟩ (cwV 2 hts gX8_entry_X8_entryOf rfl rfl rfl (by decide +kernel) ⟨Nat.le_of_ble_eq_true rfl, Nat.le_of_ble_eq_true rfl⟩) hK hR.1 (xrecv (ci := 7) hK hR.1 rfl (List.mem_of_getElem? (i := 0) rfl)) rfl hl.1 rfl (Nat.le_of_ble_eq_true rfl) dX8_entry_3 ⟨Nat.le_of_ble_eq_true rfl, Nat.le_of_ble_eq_true rfl⟩ (fun r_1 hr_1 => ?_)
  rcases hr_1 with ⟨hn9, rfl⟩ | ⟨k9, a9, hk9, jk9, rfl, ga9⟩
  · refine lv_astoreN (lv' := [(4, .null), (0, .ref (z 0)), (1, .int tr), (2, .int ix), (3, .int w0)]) hx hb dX8_entry_6 hl (by decide) rfl (fun ls hl => ?_)
    refine lv_aloadN hx hb dX8_entry_8 (lv_at hl 0 rfl) ?_
    refine lv_ifnonnullN hx hb dX8_entry_10 ?_
    refine lv_iconst (v := (-1)) hx hb dX8_entry_13 rfl ?_
    rw [hQ]
    refine xc_iret (X1 := (kX cB cI cE cS z T.length g fb Ls.length f1 Lm.length f2 Lr.length f3 Sn.length fh tm0 dn Cw.length c1 c2 C2.length c3 c4 cho st)) (nw := []) hx hb hr hlocks ?_ ?_ dX8_entry_14
    · rw [List.append_nil]; exact hR
    · try rw [List.append_nil]
      exact ⟨by rw [enK_out hn9], ⟨_, _, _, _, _, _, _, _, _, _, rfl, hrd, htp, hr1, hr2, hr3, hhr, hcr, hcr2⟩⟩
  · obtain ⟨pa9, ca9, hm9, hpa9, hca9⟩ := id ga9
    have hpl9 := bArr.len hpa9
    have hcl9 := bArr.len hca9
    refine lv_astore (lv' := [(4, .ref a9), (0, .ref (z 0)), (1, .int tr), (2, .int ix), (3, .int w0)]) hx hb dX8_entry_6 hl (by decide) rfl (fun ls hl => ?_)
    refine lv_aload hx hb dX8_entry_8 (lv_at hl 0 rfl) ?_
    refine lv_ifnonnull hx hb dX8_entry_10 (tgt := 15) (by decide) ?_
    refine lv_iload_n hx hb dX8_entry_15 rfl (lv_at hl 4 rfl) ?_
    rcases (show w0.toInt = 0 ∨ w0.toInt = 1 ∨ w0.toInt = 2 ∨ w0.toInt = 3 ∨ w0.toInt = 4 ∨ (w0.toInt < 0 ∨ 4 < w0.toInt) by omega) with hsw | hsw | hsw | hsw | hsw | hsw
    · refine lv_tableIn (tgt := 52) hx hb dX8_entry_16 (by omega) (by omega) (by rw [hsw]; rfl) (by decide) ?_
      refine lv_aload hx hb dX8_entry_52 (lv_at hl 0 rfl) ?_
      refine xg (ci := 1) (C := RX1) (T := TX1) (N := 5) (v := .int (((trS Ls Lm Lr tr).getD k9 e0).2.1)) hx hb hts inX1 hown hK hR.1 hm9 rfl 1 (by decide) k_123 (fun _ h => h) rfl dX8_entry_54 ?_
      rw [hQ]
      refine xc_iret (X1 := (kX cB cI cE cS z T.length g fb Ls.length f1 Lm.length f2 Lr.length f3 Sn.length fh tm0 dn Cw.length c1 c2 C2.length c3 c4 cho st)) (nw := []) hx hb hr hlocks ?_ ?_ dX8_entry_57
      · rw [List.append_nil]; exact hR
      · try rw [List.append_nil]
        exact ⟨by rw [enK_in hk9 jk9 htr3]; simp only [enE, hsw]; rfl, ⟨_, _, _, _, _, _, _, _, _, _, rfl, hrd, htp, hr1, hr2, hr3, hhr, hcr, hcr2⟩⟩
    · refine lv_tableIn (tgt := 58) hx hb dX8_entry_16 (by omega) (by omega) (by rw [hsw]; rfl) (by decide) ?_
      refine lv_aload hx hb dX8_entry_58 (lv_at hl 0 rfl) ?_
      refine xg (ci := 1) (C := RX1) (T := TX1) (N := 5) (v := .int (((trS Ls Lm Lr tr).getD k9 e0).2.2.1)) hx hb hts inX1 hown hK hR.1 hm9 rfl 2 (by decide) k_259 (fun _ h => h) rfl dX8_entry_60 ?_
      rw [hQ]
      refine xc_iret (X1 := (kX cB cI cE cS z T.length g fb Ls.length f1 Lm.length f2 Lr.length f3 Sn.length fh tm0 dn Cw.length c1 c2 C2.length c3 c4 cho st)) (nw := []) hx hb hr hlocks ?_ ?_ dX8_entry_63
      · rw [List.append_nil]; exact hR
      · try rw [List.append_nil]
        exact ⟨by rw [enK_in hk9 jk9 htr3]; simp only [enE, hsw]; rfl, ⟨_, _, _, _, _, _, _, _, _, _, rfl, hrd, htp, hr1, hr2, hr3, hhr, hcr, hcr2⟩⟩
    · refine lv_tableIn (tgt := 64) hx hb dX8_entry_16 (by omega) (by omega) (by rw [hsw]; rfl) (by decide) ?_
      refine lv_aload hx hb dX8_entry_64 (lv_at hl 0 rfl) ?_
      refine xg (ci := 1) (C := RX1) (T := TX1) (N := 5) (v := .int (((trS Ls Lm Lr tr).getD k9 e0).2.2.2.1)) hx hb hts inX1 hown hK hR.1 hm9 rfl 3 (by decide) k_262 (fun _ h => h) rfl dX8_entry_66 ?_
      rw [hQ]
      refine xc_iret (X1 := (kX cB cI cE cS z T.length g fb Ls.length f1 Lm.length f2 Lr.length f3 Sn.length fh tm0 dn Cw.length c1 c2 C2.length c3 c4 cho st)) (nw := []) hx hb hr hlocks ?_ ?_ dX8_entry_69
      · rw [List.append_nil]; exact hR
      · try rw [List.append_nil]
        exact ⟨by rw [enK_in hk9 jk9 htr3]; simp only [enE, hsw]; rfl, ⟨_, _, _, _, _, _, _, _, _, _, rfl, hrd, htp, hr1, hr2, hr3, hhr, hcr, hcr2⟩⟩
    · refine lv_tableIn (tgt := 70) hx hb dX8_entry_16 (by omega) (by omega) (by rw [hsw]; rfl) (by decide) ?_
      refine lv_aload hx hb dX8_entry_70 (lv_at hl 0 rfl) ?_
      refine xg (ci := 1) (C := RX1) (T := TX1) (N := 5) (v := .ref ca9) hx hb hts inX1 hown hK hR.1 hm9 rfl 4 (by decide) k_128 (fun _ h => h) rfl dX8_entry_72 ?_
      refine xb_len hx hb hK hT0 hR.1 hca9 dX8_entry_75 ?_
      rw [hQ]
      refine xc_iret (X1 := (kX cB cI cE cS z T.length g fb Ls.length f1 Lm.length f2 Lr.length f3 Sn.length fh tm0 dn Cw.length c1 c2 C2.length c3 c4 cho st)) (nw := []) hx hb hr hlocks ?_ ?_ dX8_entry_76
      · rw [List.append_nil]; exact hR
      · try rw [List.append_nil]
        exact ⟨by rw [enK_in hk9 jk9 htr3]; simp only [enE, hsw]; rfl, ⟨_, _, _, _, _, _, _, _, _, _, rfl, hrd, htp, hr1, hr2, hr3, hhr, hcr, hcr2⟩⟩
    · refine lv_tableIn (tgt := 77) hx hb dX8_entry_16 (by omega) (by omega) (by rw [hsw]; rfl) (by decide) ?_
      refine lv_aload hx hb dX8_entry_77 (lv_at hl 0 rfl) ?_
      refine xg (ci := 1) (C := RX1) (T := TX1) (N := 5) (v := .ref pa9) hx hb hts inX1 hown hK hR.1 hm9 rfl 0 (by decide) k_265 (fun _ h => h) rfl dX8_entry_79 ?_
      refine xb_len hx hb hK hT0 hR.1 hpa9 dX8_entry_82 ?_
      rw [hQ]
      refine xc_iret (X1 := (kX cB cI cE cS z T.length g fb Ls.length f1 Lm.length f2 Lr.length f3 Sn.length fh tm0 dn Cw.length c1 c2 C2.length c3 c4 cho st)) (nw := []) hx hb hr hlocks ?_ ?_ dX8_entry_83
      · rw [List.append_nil]; exact hR
      · try rw [List.append_nil]
        exact ⟨by rw [enK_in hk9 jk9 htr3]; simp only [enE, hsw]; rfl, ⟨_, _, _, _, _, _, _, _, _, _, rfl, hrd, htp, hr1, hr2, hr3, hhr, hcr, hcr2⟩⟩
    · refine lv_tableOut (tgt := 84) hx hb dX8_entry_16 hsw (by decide) ?_
      refine lv_iconst (v := (-1)) hx hb dX8_entry_84 rfl ?_
      rw [hQ]
      refine xc_iret (X1 := (kX cB cI cE cS z T.length g fb Ls.length f1 Lm.length f2 Lr.length f3 Sn.length fh tm0 dn Cw.length c1 c2 C2.length c3 c4 cho st)) (nw := []) hx hb hr hlocks ?_ ?_ dX8_entry_85
      · rw [List.append_nil]; exact hR
      · try rw [List.append_nil]
        exact ⟨by rw [enK_in hk9 jk9 htr3]; unfold enE; rw [if_neg (by omega), if_neg (by omega), if_neg (by omega), if_neg (by omega), if_neg (by omega)], ⟨_, _, _, _, _, _, _, _, _, _, rfl, hrd, htp, hr1, hr2, hr3, hhr, hcr, hcr2⟩⟩
set_option maxHeartbeats 4000000 in
set_option maxRecDepth 100000 in
theorem K_at (l : Launch) {G : va_G} {tys : List (ClassId × FieldType)} {cB cI cE cS : ClassId} (hT : tys = [(cB, .byte), (cI, .int), (cE, .object RX1), (cS, .object RX4)]) {pl : va_W} {sz : Nat} {z : Nat → Nat} {X : va_W} {T rd : List Nat} {Ls Lm Lr : List En} {Sn : List Se} {Cw C2 : List Cg} {tm0 : Int32} {dn : Nat} {cho : Int32} {st : Nat} (hk : kRep cB cI cE cS z X pl T rd Ls Lm Lr Sn Cw C2 tm0 dn cho st) (tr ix k0 : Int32) (pb : Bool) : cMet l yX8_at wsX8_at ({ frames := 2, cells := 0, slots := 0, locals := 43 } : Room) G tys [.ref (z 0), .int tr, .int ix, .int (bI pb), .int k0] X pl sz 0 0 (fun o9 X1 nw => o9 = some (.int (atK (trS Ls Lm Lr tr) ix pb k0)) ∧ kRep cB cI cE cS z X1 (pl ++ nw) T rd Ls Lm Lr Sn Cw C2 tm0 dn cho st) := by
  obtain ⟨g, fb, f1, f2, f3, fh, c1, c2, c3, c4, rfl, hrd, htp, hr1, hr2, hr3, hhr, hcr, hcr2⟩ := hk
  have hT0 : tys[0]? = some (cB, .byte) := by rw [hT]; rfl
  have hT1 : tys[1]? = some (cI, .int) := by rw [hT]; rfl
  have hT2 : tys[2]? = some (cE, .object RX1) := by rw [hT]; rfl
  have hT3 : tys[3]? = some (cS, .object RX4) := by rw [hT]; rfl
  refine Met.ofW (cc := cX8_at) (maxL := 7) (ret := (some .int)) (by decide) rfl ?_
  intro p e s m args below meth c s₁ B hml hv
  obtain ⟨hargs, hsz, hP, hK, hD0, hZ⟩ := hv
  have hx := B.exec
  have hb := B.bytes
  have hr := B.returns
  have hts := atoms_spec (ws := wsX8_at) B.pre
  have hown : s.vm.findClass RX8 = some m.cls := findClass_of_methodNamed B.named
  have hlocks := B.notSynchronized
  subst hsz
  have hD := hD0.self (sz := s.heap.size)
  obtain ⟨A, hAe⟩ : ∃ A : Nat → Prop, A = va_A ((kX cB cI cE cS z T.length g fb Ls.length f1 Lm.length f2 Lr.length f3 Sn.length fh tm0 dn Cw.length c1 c2 C2.length c3 c4 cho st) ++ pl) s.heap.size := ⟨_, rfl⟩
  rw [← hAe] at hD
  have hA : ∀ q : Nat, s.heap.size ≤ q → A q := fun q h => by rw [hAe]; exact Or.inr h
  have inX1 : ∀ w ∈ wsX10, w ∈ wsX8_at := by decide +kernel
  have k_128 := hts (.fieldLink RX8 128 "MirrorKeep$Entry" "content" "[B") (by decide +kernel)
  have k_265 := hts (.fieldLink RX8 265 "MirrorKeep$Entry" "path" "[B") (by decide +kernel)
  have hR : rR G A s.heap s.heap [] ((kX cB cI cE cS z T.length g fb Ls.length f1 Lm.length f2 Lr.length f3 Sn.length fh tm0 dn Cw.length c1 c2 C2.length c3 c4 cho st) ++ pl) := ⟨hP, hD, va_S.rf⟩
  obtain ⟨Q, hQ⟩ : ∃ Q : State → Prop, Q = MQ below (cQ G A pl (fun o9 X1 nw => o9 = some (.int (atK (trS Ls Lm Lr tr) ix pb k0)) ∧ kRep cB cI cE cS z X1 (pl ++ nw) T rd Ls Lm Lr Sn Cw C2 tm0 dn cho st)) args s 0 0 A := ⟨_, rfl⟩
  change W p l e ({ frames := 2, cells := 0, slots := 0, locals := 43 } : Room) s m args below meth c s.heap [] 0 0 (MQ below (cQ G (va_A ((kX cB cI cE cS z T.length g fb Ls.length f1 Lm.length f2 Lr.length f3 Sn.length fh tm0 dn Cw.length c1 c2 C2.length c3 c4 cho st) ++ pl) s.heap.size) pl (fun o9 X1 nw => o9 = some (.int (atK (trS Ls Lm Lr tr) ix pb k0)) ∧ kRep cB cI cE cS z X1 (pl ++ nw) T rd Ls Lm Lr Sn Cw C2 tm0 dn cho st)) args s 0 0 (va_A ((kX cB cI cE cS z T.length g fb Ls.length f1 Lm.length f2 Lr.length f3 Sn.length fh tm0 dn Cw.length c1 c2 C2.length c3 c4 cho st) ++ pl) s.heap.size)) (entryFrame m args 7)
  rw [← hAe]
  rw [← hQ]
  refine nn_entry hargs (Nat.le_of_ble_eq_true rfl) (lv := [(0, .ref (z 0)), (1, .int tr), (2, .int ix), (3, .int (bI pb)), (4, .int k0)]) rfl (fun ls hl => ?_)
  have htr3 : (trS Ls Lm Lr tr).length < 2 ^ 31 := by unfold trS; have h1 := hr1.1; have h2 := hr2.1; have h3 := hr3.1; split; omega; split; omega; split; omega; simp
  refine lv_aload_n hx hb dX8_at_0 rfl (lv_at hl 0 rfl) ?_
  refine lv_iload_n hx hb dX8_at_1 rfl (lv_at hl 1 rfl) ?_
  refine lv_iload_n hx hb dX8_at_2 rfl (lv_at hl 2 rfl) ?_
  refine pf_callV (C := RX8) (As := [.int tr, .int ix]) (rest := []) (p_entryOf l hT (List.mem_of_getElem? (i := 0) rfl) (⟨(List.mem_of_getElem? (i := 4) rfl), (List.mem_of_getElem? (i := 5) rfl), (hr1.mono xpm)⟩ : tRep ((kX cB cI cE cS z T.length g fb Ls.length f1 Lm.length f2 Lr.length f3 Sn.length fh tm0 dn Cw.length c1 c2 C2.length c3 c4 cho st) ++ pl) cB cE (z 4) (z 5) f1 Ls) (⟨(List.mem_of_getElem? (i := 6) rfl), (List.mem_of_getElem? (i := 7) rfl), (hr2.mono xpm)⟩ : tRep ((kX cB cI cE cS z T.length g fb Ls.length f1 Lm.length f2 Lr.length f3 Sn.length fh tm0 dn Cw.length c1 c2 C2.length c3 c4 cho st) ++ pl) cB cE (z 6) (z 7) f2 Lm) (⟨(List.mem_of_getElem? (i := 8) rfl), (List.mem_of_getElem? (i := 9) rfl), (hr3.mono xpm)⟩ : tRep ((kX cB cI cE cS z T.length g fb Ls.length f1 Lm.length f2 Lr.length f3 Sn.length fh tm0 dn Cw.length c1 c2 C2.length c3 c4 cho st) ++ pl) cB cE (z 8) (z 9) f3 Lr) tr ix) ⟨hx, hb, hml, hown, hts⟩ (cwV 2 hts gX8_at_X8_entryOf rfl rfl rfl (by decide +kernel) ⟨Nat.le_of_ble_eq_true rfl, Nat.le_of_ble_eq_true rfl⟩) hK hR.1 (xrecv (ci := 7) hK hR.1 rfl (List.mem_of_getElem? (i := 0) rfl)) rfl hl.1 rfl (Nat.le_of_ble_eq_true rfl) dX8_at_3 ⟨Nat.le_of_ble_eq_true rfl, Nat.le_of_ble_eq_true rfl⟩ (fun r_1 hr_1 => ?_)
  rcases hr_1 with ⟨hn9, rfl⟩ | ⟨k9, a9, hk9, jk9, rfl, ga9⟩
  · refine lv_astoreN (lv' := [(5, .null), (0, .ref (z 0)), (1, .int tr), (2, .int ix), (3, .int (bI pb)), (4, .int k0)]) hx hb dX8_at_6 hl (by decide) rfl (fun ls hl => ?_)
    refine lv_aloadN hx hb dX8_at_8 (lv_at hl 0 rfl) ?_
    refine lv_ifnonnullN hx hb dX8_at_10 ?_
    refine lv_iconst (v := (-1)) hx hb dX8_at_13 rfl ?_
    rw [hQ]
    refine xc_iret (X1 := (kX cB cI cE cS z T.length g fb Ls.length f1 Lm.length f2 Lr.length f3 Sn.length fh tm0 dn Cw.length c1 c2 C2.length c3 c4 cho st)) (nw := []) hx hb hr hlocks ?_ ?_ dX8_at_14
    · rw [List.append_nil]; exact hR
    · try rw [List.append_nil]
      exact ⟨by rw [atK_out hn9], ⟨_, _, _, _, _, _, _, _, _, _, rfl, hrd, htp, hr1, hr2, hr3, hhr, hcr, hcr2⟩⟩
  · obtain ⟨pa9, ca9, hm9, hpa9, hca9⟩ := id ga9
    have hpl9 := bArr.len hpa9
    have hcl9 := bArr.len hca9
    refine lv_astore (lv' := [(5, .ref a9), (0, .ref (z 0)), (1, .int tr), (2, .int ix), (3, .int (bI pb)), (4, .int k0)]) hx hb dX8_at_6 hl (by decide) rfl (fun ls hl => ?_)
    refine lv_aload hx hb dX8_at_8 (lv_at hl 0 rfl) ?_
    refine lv_ifnonnull hx hb dX8_at_10 (tgt := 15) (by decide) ?_
    refine lv_iload_n hx hb dX8_at_15 rfl (lv_at hl 4 rfl) ?_
    refine nb_ifeq hx hb dX8_at_16 (tgt := 27) (by decide) (fun c_3 => ?_) (fun c_3 => ?_)
    · refine lv_aload hx hb dX8_at_27 (lv_at hl 0 rfl) ?_
      refine xg (ci := 1) (C := RX1) (T := TX1) (N := 5) (v := .ref ca9) hx hb hts inX1 hown hK hR.1 hm9 rfl 4 (by decide) k_128 (fun _ h => h) rfl dX8_at_29 ?_
      refine lv_astore (lv' := [(6, .ref ca9), (5, .ref a9), (0, .ref (z 0)), (1, .int tr), (2, .int ix), (3, .int (bI pb)), (4, .int k0)]) hx hb dX8_at_32 hl (by decide) rfl (fun ls hl => ?_)
      refine lv_iload hx hb dX8_at_34 (lv_at hl 6 rfl) ?_
      refine zi_lt hx hb rfl dX8_at_36 (tgt := 47) (by decide) (fun c_4 => ?_) (fun c_4 => ?_)
      · refine lv_iconst (v := (-1)) hx hb dX8_at_47 rfl ?_
        refine lv_goto (tgt := 60) hx hb dX8_at_48 (by decide) ?_
        rw [hQ]
        refine xc_iret (X1 := (kX cB cI cE cS z T.length g fb Ls.length f1 Lm.length f2 Lr.length f3 Sn.length fh tm0 dn Cw.length c1 c2 C2.length c3 c4 cho st)) (nw := []) hx hb hr hlocks ?_ ?_ dX8_at_60
        · rw [List.append_nil]; exact hR
        · try rw [List.append_nil]
          exact ⟨by rw [atK_in hk9 jk9 htr3, if_neg (by rw [show pb = false by assumption]; decide), atE_out (by omega)], ⟨_, _, _, _, _, _, _, _, _, _, rfl, hrd, htp, hr1, hr2, hr3, hhr, hcr, hcr2⟩⟩
      · refine lv_iload hx hb dX8_at_39 (lv_at hl 6 rfl) ?_
        refine lv_aload hx hb dX8_at_41 (lv_at hl 0 rfl) ?_
        refine xb_len hx hb hK hT0 hR.1 hca9 dX8_at_43 ?_
        refine zc_lt hx hb rfl (nI_toInt (by omega)) dX8_at_44 (tgt := 51) (by decide) (fun c_5 => ?_) (fun c_5 => ?_)
        · obtain ⟨kk, hkk, hkk2, hkk3⟩ := zn_ex (x := k0) (by omega)
          rw [hkk] at hl
          refine lv_aload hx hb dX8_at_51 (lv_at hl 0 rfl) ?_
          refine lv_iload hx hb dX8_at_53 (lv_at hl 6 rfl) ?_
          refine xb_ld hx hb hK hT0 hR.1 hca9 (by omega) dX8_at_55 ?_
          have hb_6 : (ct ((trS Ls Lm Lr tr).getD k9 e0)).getD kk 0 < 256 := bArr.lt hca9 (by omega)
          have gb_6 := sbi_or ((ct ((trS Ls Lm Lr tr).getD k9 e0)).getD kk 0)
          refine lv_sipush (v := nI 255) hx hb dX8_at_56 (by decide) ?_
          refine lv_iand hx hb dX8_at_59 ?_
          refine nn_eqi (y := nI ((ct ((trS Ls Lm Lr tr).getD k9 e0)).getD kk 0)) (sb_byte _ (bArr.lt hca9 (by omega))).1 ?_
          rw [hQ]
          refine xc_iret (X1 := (kX cB cI cE cS z T.length g fb Ls.length f1 Lm.length f2 Lr.length f3 Sn.length fh tm0 dn Cw.length c1 c2 C2.length c3 c4 cho st)) (nw := []) hx hb hr hlocks ?_ ?_ dX8_at_60
          · rw [List.append_nil]; exact hR
          · try rw [List.append_nil]
            exact ⟨by rw [atK_in hk9 jk9 htr3, if_neg (by rw [show pb = false by assumption]; decide), atE_in hkk (by omega) (bArr.len hca9)], ⟨_, _, _, _, _, _, _, _, _, _, rfl, hrd, htp, hr1, hr2, hr3, hhr, hcr, hcr2⟩⟩
        · refine lv_iconst (v := (-1)) hx hb dX8_at_47 rfl ?_
          refine lv_goto (tgt := 60) hx hb dX8_at_48 (by decide) ?_
          rw [hQ]
          refine xc_iret (X1 := (kX cB cI cE cS z T.length g fb Ls.length f1 Lm.length f2 Lr.length f3 Sn.length fh tm0 dn Cw.length c1 c2 C2.length c3 c4 cho st)) (nw := []) hx hb hr hlocks ?_ ?_ dX8_at_60
          · rw [List.append_nil]; exact hR
          · try rw [List.append_nil]
            exact ⟨by rw [atK_in hk9 jk9 htr3, if_neg (by rw [show pb = false by assumption]; decide), atE_out (by omega)], ⟨_, _, _, _, _, _, _, _, _, _, rfl, hrd, htp, hr1, hr2, hr3, hhr, hcr, hcr2⟩⟩
    · refine lv_aload hx hb dX8_at_19 (lv_at hl 0 rfl) ?_
      refine xg (ci := 1) (C := RX1) (T := TX1) (N := 5) (v := .ref pa9) hx hb hts inX1 hown hK hR.1 hm9 rfl 0 (by decide) k_265 (fun _ h => h) rfl dX8_at_21 ?_
      refine lv_goto (tgt := 32) hx hb dX8_at_24 (by decide) ?_
      refine lv_astore (lv' := [(6, .ref pa9), (5, .ref a9), (0, .ref (z 0)), (1, .int tr), (2, .int ix), (3, .int (bI pb)), (4, .int k0)]) hx hb dX8_at_32 hl (by decide) rfl (fun ls hl => ?_)
      refine lv_iload hx hb dX8_at_34 (lv_at hl 6 rfl) ?_
      refine zi_lt hx hb rfl dX8_at_36 (tgt := 47) (by decide) (fun c_7 => ?_) (fun c_7 => ?_)
      · refine lv_iconst (v := (-1)) hx hb dX8_at_47 rfl ?_
        refine lv_goto (tgt := 60) hx hb dX8_at_48 (by decide) ?_
        rw [hQ]
        refine xc_iret (X1 := (kX cB cI cE cS z T.length g fb Ls.length f1 Lm.length f2 Lr.length f3 Sn.length fh tm0 dn Cw.length c1 c2 C2.length c3 c4 cho st)) (nw := []) hx hb hr hlocks ?_ ?_ dX8_at_60
        · rw [List.append_nil]; exact hR
        · try rw [List.append_nil]
          exact ⟨by rw [atK_in hk9 jk9 htr3, if_pos (by assumption), atE_out (by omega)], ⟨_, _, _, _, _, _, _, _, _, _, rfl, hrd, htp, hr1, hr2, hr3, hhr, hcr, hcr2⟩⟩
      · refine lv_iload hx hb dX8_at_39 (lv_at hl 6 rfl) ?_
        refine lv_aload hx hb dX8_at_41 (lv_at hl 0 rfl) ?_
        refine xb_len hx hb hK hT0 hR.1 hpa9 dX8_at_43 ?_
        refine zc_lt hx hb rfl (nI_toInt (by omega)) dX8_at_44 (tgt := 51) (by decide) (fun c_8 => ?_) (fun c_8 => ?_)
        · obtain ⟨kk, hkk, hkk2, hkk3⟩ := zn_ex (x := k0) (by omega)
          rw [hkk] at hl
          refine lv_aload hx hb dX8_at_51 (lv_at hl 0 rfl) ?_
          refine lv_iload hx hb dX8_at_53 (lv_at hl 6 rfl) ?_
          refine xb_ld hx hb hK hT0 hR.1 hpa9 (by omega) dX8_at_55 ?_
          have hb_9 : (((trS Ls Lm Lr tr).getD k9 e0).1).getD kk 0 < 256 := bArr.lt hpa9 (by omega)
          have gb_9 := sbi_or ((((trS Ls Lm Lr tr).getD k9 e0).1).getD kk 0)
          refine lv_sipush (v := nI 255) hx hb dX8_at_56 (by decide) ?_
          refine lv_iand hx hb dX8_at_59 ?_
          refine nn_eqi (y := nI ((((trS Ls Lm Lr tr).getD k9 e0).1).getD kk 0)) (sb_byte _ (bArr.lt hpa9 (by omega))).1 ?_
          rw [hQ]
          refine xc_iret (X1 := (kX cB cI cE cS z T.length g fb Ls.length f1 Lm.length f2 Lr.length f3 Sn.length fh tm0 dn Cw.length c1 c2 C2.length c3 c4 cho st)) (nw := []) hx hb hr hlocks ?_ ?_ dX8_at_60
          · rw [List.append_nil]; exact hR
          · try rw [List.append_nil]
            exact ⟨by rw [atK_in hk9 jk9 htr3, if_pos (by assumption), atE_in hkk (by omega) (bArr.len hpa9)], ⟨_, _, _, _, _, _, _, _, _, _, rfl, hrd, htp, hr1, hr2, hr3, hhr, hcr, hcr2⟩⟩
        · refine lv_iconst (v := (-1)) hx hb dX8_at_47 rfl ?_
          refine lv_goto (tgt := 60) hx hb dX8_at_48 (by decide) ?_
          rw [hQ]
          refine xc_iret (X1 := (kX cB cI cE cS z T.length g fb Ls.length f1 Lm.length f2 Lr.length f3 Sn.length fh tm0 dn Cw.length c1 c2 C2.length c3 c4 cho st)) (nw := []) hx hb hr hlocks ?_ ?_ dX8_at_60
          · rw [List.append_nil]; exact hR
          · try rw [List.append_nil]
            exact ⟨by rw [atK_in hk9 jk9 htr3, if_pos (by assumption), atE_out (by omega)], ⟨_, _, _, _, _, _, _, _, _, _, rfl, hrd, htp, hr1, hr2, hr3, hhr, hcr, hcr2⟩⟩
set_option maxHeartbeats 4000000 in
set_option maxRecDepth 100000 in
theorem K_about (l : Launch) {G : va_G} {tys : List (ClassId × FieldType)} {cB cI cE cS : ClassId} (hT : tys = [(cB, .byte), (cI, .int), (cE, .object RX1), (cS, .object RX4)]) {pl : va_W} {sz : Nat} {z : Nat → Nat} {X : va_W} {T rd : List Nat} {Ls Lm Lr : List En} {Sn : List Se} {Cw C2 : List Cg} {tm0 : Int32} {dn : Nat} {cho : Int32} {st : Nat} (hk : kRep cB cI cE cS z X pl T rd Ls Lm Lr Sn Cw C2 tm0 dn cho st) (w0 : Int32) (hdn : dn ≤ 1000) (hst9 : st ≤ 2) : cMet l yX8_about wsX8_about ({ frames := 2, cells := 0, slots := 0, locals := 52 } : Room) G tys [.ref (z 0), .int w0] X pl sz 0 0 (fun o9 X1 nw => o9 = some (.int (abK T Ls Lm Lr Sn Cw.length dn st w0)) ∧ kRep cB cI cE cS z X1 (pl ++ nw) T rd Ls Lm Lr Sn Cw C2 tm0 dn cho st) := by
  obtain ⟨g, fb, f1, f2, f3, fh, c1, c2, c3, c4, rfl, hrd, htp, hr1, hr2, hr3, hhr, hcr, hcr2⟩ := hk
  have hT0 : tys[0]? = some (cB, .byte) := by rw [hT]; rfl
  have hT1 : tys[1]? = some (cI, .int) := by rw [hT]; rfl
  have hT2 : tys[2]? = some (cE, .object RX1) := by rw [hT]; rfl
  have hT3 : tys[3]? = some (cS, .object RX4) := by rw [hT]; rfl
  refine Met.ofW (cc := cX8_about) (maxL := 2) (ret := (some .int)) (by decide) rfl ?_
  intro p e s m args below meth c s₁ B hml hv
  obtain ⟨hargs, hsz, hP, hK, hD0, hZ⟩ := hv
  have hx := B.exec
  have hb := B.bytes
  have hr := B.returns
  have hts := atoms_spec (ws := wsX8_about) B.pre
  have hown : s.vm.findClass RX8 = some m.cls := findClass_of_methodNamed B.named
  have hlocks := B.notSynchronized
  subst hsz
  have hD := hD0.self (sz := s.heap.size)
  obtain ⟨A, hAe⟩ : ∃ A : Nat → Prop, A = va_A ((kX cB cI cE cS z T.length g fb Ls.length f1 Lm.length f2 Lr.length f3 Sn.length fh tm0 dn Cw.length c1 c2 C2.length c3 c4 cho st) ++ pl) s.heap.size := ⟨_, rfl⟩
  rw [← hAe] at hD
  have hA : ∀ q : Nat, s.heap.size ≤ q → A q := fun q h => by rw [hAe]; exact Or.inr h
  have inX7 : ∀ w ∈ wsX70, w ∈ wsX8_about := by decide +kernel
  have inX8 : ∀ w ∈ wsX80, w ∈ wsX8_about := by decide +kernel
  have k_10 := hts (.fieldLink RX8 10 "MirrorKeep" "tape" "LMirrorKeep$Tape;") (by decide +kernel)
  have k_19 := hts (.fieldLink RX8 19 "MirrorKeep" "source" "LMirrorKeep$Tree;") (by decide +kernel)
  have k_23 := hts (.fieldLink RX8 23 "MirrorKeep" "mirror" "LMirrorKeep$Tree;") (by decide +kernel)
  have k_26 := hts (.fieldLink RX8 26 "MirrorKeep" "result" "LMirrorKeep$Tree;") (by decide +kernel)
  have k_32 := hts (.fieldLink RX8 32 "MirrorKeep" "history" "LMirrorKeep$History;") (by decide +kernel)
  have k_39 := hts (.fieldLink RX8 39 "MirrorKeep" "work" "LMirrorKeep$Work;") (by decide +kernel)
  have k_54 := hts (.fieldLink RX8 54 "MirrorKeep" "state" "I") (by decide +kernel)
  have k_212 := hts (.fieldLink RX8 212 "MirrorKeep$Work" "done" "I") (by decide +kernel)
  have hR : rR G A s.heap s.heap [] ((kX cB cI cE cS z T.length g fb Ls.length f1 Lm.length f2 Lr.length f3 Sn.length fh tm0 dn Cw.length c1 c2 C2.length c3 c4 cho st) ++ pl) := ⟨hP, hD, va_S.rf⟩
  obtain ⟨Q, hQ⟩ : ∃ Q : State → Prop, Q = MQ below (cQ G A pl (fun o9 X1 nw => o9 = some (.int (abK T Ls Lm Lr Sn Cw.length dn st w0)) ∧ kRep cB cI cE cS z X1 (pl ++ nw) T rd Ls Lm Lr Sn Cw C2 tm0 dn cho st)) args s 0 0 A := ⟨_, rfl⟩
  change W p l e ({ frames := 2, cells := 0, slots := 0, locals := 52 } : Room) s m args below meth c s.heap [] 0 0 (MQ below (cQ G (va_A ((kX cB cI cE cS z T.length g fb Ls.length f1 Lm.length f2 Lr.length f3 Sn.length fh tm0 dn Cw.length c1 c2 C2.length c3 c4 cho st) ++ pl) s.heap.size) pl (fun o9 X1 nw => o9 = some (.int (abK T Ls Lm Lr Sn Cw.length dn st w0)) ∧ kRep cB cI cE cS z X1 (pl ++ nw) T rd Ls Lm Lr Sn Cw C2 tm0 dn cho st)) args s 0 0 (va_A ((kX cB cI cE cS z T.length g fb Ls.length f1 Lm.length f2 Lr.length f3 Sn.length fh tm0 dn Cw.length c1 c2 C2.length c3 c4 cho st) ++ pl) s.heap.size)) (entryFrame m args 2)
  rw [← hAe]
  rw [← hQ]
  refine nn_entry hargs (Nat.le_of_ble_eq_true rfl) (lv := [(0, .ref (z 0)), (1, .int w0)]) rfl (fun ls hl => ?_)
  refine lv_iload_n hx hb dX8_about_0 rfl (lv_at hl 1 rfl) ?_
  rcases (show w0.toInt = 0 ∨ w0.toInt = 1 ∨ w0.toInt = 2 ∨ w0.toInt = 3 ∨ w0.toInt = 4 ∨ w0.toInt = 5 ∨ w0.toInt = 6 ∨ w0.toInt = 7 ∨ w0.toInt = 8 ∨ (w0.toInt < 0 ∨ 8 < w0.toInt) by omega) with hsw | hsw | hsw | hsw | hsw | hsw | hsw | hsw | hsw | hsw
  · refine lv_tableIn (tgt := 52) hx hb dX8_about_1 (by omega) (by omega) (by rw [hsw]; rfl) (by decide) ?_
    refine lv_aload_n hx hb dX8_about_52 rfl (lv_at hl 0 rfl) ?_
    refine xg (ci := 7) (C := RX8) (T := TX8) (N := 9) (v := .int (nI st)) hx hb hts inX8 hown hK hR.1 (List.mem_of_getElem? (i := 0) rfl) rfl 8 (by decide) k_54 (fun _ h => h) rfl dX8_about_53 ?_
    rw [hQ]
    refine xc_iret (X1 := (kX cB cI cE cS z T.length g fb Ls.length f1 Lm.length f2 Lr.length f3 Sn.length fh tm0 dn Cw.length c1 c2 C2.length c3 c4 cho st)) (nw := []) hx hb hr hlocks ?_ ?_ dX8_about_56
    · rw [List.append_nil]; exact hR
    · try rw [List.append_nil]
      exact ⟨by unfold abK; rw [if_pos hsw], ⟨_, _, _, _, _, _, _, _, _, _, rfl, hrd, htp, hr1, hr2, hr3, hhr, hcr, hcr2⟩⟩
  · refine lv_tableIn (tgt := 57) hx hb dX8_about_1 (by omega) (by omega) (by rw [hsw]; rfl) (by decide) ?_
    refine lv_aload_n hx hb dX8_about_57 rfl (lv_at hl 0 rfl) ?_
    refine xg (ci := 7) (C := RX8) (T := TX8) (N := 9) (v := .ref (z 10)) hx hb hts inX8 hown hK hR.1 (List.mem_of_getElem? (i := 0) rfl) rfl 4 (by decide) k_32 (fun _ h => h) rfl dX8_about_58 ?_
    refine pf_callV (C := RX2) (As := []) (rest := []) (p_hsize l hT (hRows.rep hhr (List.mem_of_getElem? (i := 10) rfl) (List.mem_of_getElem? (i := 11) rfl))) ⟨hx, hb, hml, hown, hts⟩ (cwV 0 hts gX8_about_X2_size rfl rfl rfl (by decide +kernel) ⟨Nat.le_of_ble_eq_true rfl, Nat.le_of_ble_eq_true rfl⟩) hK hR.1 (xrecv (ci := 2) hK hR.1 rfl (List.mem_of_getElem? (i := 10) rfl)) rfl hl.1 rfl (Nat.le_of_ble_eq_true rfl) dX8_about_61 ⟨Nat.le_of_ble_eq_true rfl, Nat.le_of_ble_eq_true rfl⟩ (fun r_1 hr_1 => ?_)
    subst hr_1
    rw [hQ]
    refine xc_iret (X1 := (kX cB cI cE cS z T.length g fb Ls.length f1 Lm.length f2 Lr.length f3 Sn.length fh tm0 dn Cw.length c1 c2 C2.length c3 c4 cho st)) (nw := []) hx hb hr hlocks ?_ ?_ dX8_about_64
    · rw [List.append_nil]; exact hR
    · try rw [List.append_nil]
      exact ⟨by unfold abK; rw [if_neg (by omega), if_pos hsw], ⟨_, _, _, _, _, _, _, _, _, _, rfl, hrd, htp, hr1, hr2, hr3, hhr, hcr, hcr2⟩⟩
  · refine lv_tableIn (tgt := 65) hx hb dX8_about_1 (by omega) (by omega) (by rw [hsw]; rfl) (by decide) ?_
    refine lv_aload_n hx hb dX8_about_65 rfl (lv_at hl 0 rfl) ?_
    refine xg (ci := 7) (C := RX8) (T := TX8) (N := 9) (v := .int (nI st)) hx hb hts inX8 hown hK hR.1 (List.mem_of_getElem? (i := 0) rfl) rfl 8 (by decide) k_54 (fun _ h => h) rfl dX8_about_66 ?_
    refine nz_ne hx hb dX8_about_69 (tgt := 76) (by decide) (by omega) (fun c_2 => ?_) (fun c_2 => ?_)
    · refine lv_aload_n hx hb dX8_about_76 rfl (lv_at hl 0 rfl) ?_
      refine xg (ci := 7) (C := RX8) (T := TX8) (N := 9) (v := .ref (z 12)) hx hb hts inX8 hown hK hR.1 (List.mem_of_getElem? (i := 0) rfl) rfl 5 (by decide) k_39 (fun _ h => h) rfl dX8_about_77 ?_
      refine xg (ci := 6) (C := RX7) (T := TX7) (N := 3) (v := .int (nI dn)) hx hb hts inX7 hown hK hR.1 (List.mem_of_getElem? (i := 12) rfl) rfl 2 (by decide) k_212 (fun _ h => h) rfl dX8_about_80 ?_
      rw [hQ]
      refine xc_iret (X1 := (kX cB cI cE cS z T.length g fb Ls.length f1 Lm.length f2 Lr.length f3 Sn.length fh tm0 dn Cw.length c1 c2 C2.length c3 c4 cho st)) (nw := []) hx hb hr hlocks ?_ ?_ dX8_about_83
      · rw [List.append_nil]; exact hR
      · try rw [List.append_nil]
        exact ⟨by unfold abK; rw [if_neg (by omega), if_neg (by omega), if_pos hsw, if_neg (by omega)], ⟨_, _, _, _, _, _, _, _, _, _, rfl, hrd, htp, hr1, hr2, hr3, hhr, hcr, hcr2⟩⟩
    · refine lv_iconst (v := nI 0) hx hb dX8_about_72 rfl ?_
      refine lv_goto (tgt := 83) hx hb dX8_about_73 (by decide) ?_
      rw [hQ]
      refine xc_iret (X1 := (kX cB cI cE cS z T.length g fb Ls.length f1 Lm.length f2 Lr.length f3 Sn.length fh tm0 dn Cw.length c1 c2 C2.length c3 c4 cho st)) (nw := []) hx hb hr hlocks ?_ ?_ dX8_about_83
      · rw [List.append_nil]; exact hR
      · try rw [List.append_nil]
        exact ⟨by unfold abK; rw [if_neg (by omega), if_neg (by omega), if_pos hsw, if_pos (by omega)], ⟨_, _, _, _, _, _, _, _, _, _, rfl, hrd, htp, hr1, hr2, hr3, hhr, hcr, hcr2⟩⟩
  · refine lv_tableIn (tgt := 84) hx hb dX8_about_1 (by omega) (by omega) (by rw [hsw]; rfl) (by decide) ?_
    refine lv_aload_n hx hb dX8_about_84 rfl (lv_at hl 0 rfl) ?_
    refine xg (ci := 7) (C := RX8) (T := TX8) (N := 9) (v := .ref (z 4)) hx hb hts inX8 hown hK hR.1 (List.mem_of_getElem? (i := 0) rfl) rfl 1 (by decide) k_19 (fun _ h => h) rfl dX8_about_85 ?_
    refine pf_callV (C := RX6) (As := []) (rest := []) (p_tsize l hT (⟨(List.mem_of_getElem? (i := 4) rfl), (List.mem_of_getElem? (i := 5) rfl), (hr1.mono xpm)⟩ : tRep ((kX cB cI cE cS z T.length g fb Ls.length f1 Lm.length f2 Lr.length f3 Sn.length fh tm0 dn Cw.length c1 c2 C2.length c3 c4 cho st) ++ pl) cB cE (z 4) (z 5) f1 Ls)) ⟨hx, hb, hml, hown, hts⟩ (cwV 0 hts gX8_about_X6_size rfl rfl rfl (by decide +kernel) ⟨Nat.le_of_ble_eq_true rfl, Nat.le_of_ble_eq_true rfl⟩) hK hR.1 (xrecv (ci := 5) hK hR.1 rfl (List.mem_of_getElem? (i := 4) rfl)) rfl hl.1 rfl (Nat.le_of_ble_eq_true rfl) dX8_about_88 ⟨Nat.le_of_ble_eq_true rfl, Nat.le_of_ble_eq_true rfl⟩ (fun r_3 hr_3 => ?_)
    subst hr_3
    rw [hQ]
    refine xc_iret (X1 := (kX cB cI cE cS z T.length g fb Ls.length f1 Lm.length f2 Lr.length f3 Sn.length fh tm0 dn Cw.length c1 c2 C2.length c3 c4 cho st)) (nw := []) hx hb hr hlocks ?_ ?_ dX8_about_91
    · rw [List.append_nil]; exact hR
    · try rw [List.append_nil]
      exact ⟨by unfold abK; rw [if_neg (by omega), if_neg (by omega), if_neg (by omega), if_pos hsw], ⟨_, _, _, _, _, _, _, _, _, _, rfl, hrd, htp, hr1, hr2, hr3, hhr, hcr, hcr2⟩⟩
  · refine lv_tableIn (tgt := 92) hx hb dX8_about_1 (by omega) (by omega) (by rw [hsw]; rfl) (by decide) ?_
    refine lv_aload_n hx hb dX8_about_92 rfl (lv_at hl 0 rfl) ?_
    refine xg (ci := 7) (C := RX8) (T := TX8) (N := 9) (v := .ref (z 6)) hx hb hts inX8 hown hK hR.1 (List.mem_of_getElem? (i := 0) rfl) rfl 2 (by decide) k_23 (fun _ h => h) rfl dX8_about_93 ?_
    refine pf_callV (C := RX6) (As := []) (rest := []) (p_tsize l hT (⟨(List.mem_of_getElem? (i := 6) rfl), (List.mem_of_getElem? (i := 7) rfl), (hr2.mono xpm)⟩ : tRep ((kX cB cI cE cS z T.length g fb Ls.length f1 Lm.length f2 Lr.length f3 Sn.length fh tm0 dn Cw.length c1 c2 C2.length c3 c4 cho st) ++ pl) cB cE (z 6) (z 7) f2 Lm)) ⟨hx, hb, hml, hown, hts⟩ (cwV 0 hts gX8_about_X6_size rfl rfl rfl (by decide +kernel) ⟨Nat.le_of_ble_eq_true rfl, Nat.le_of_ble_eq_true rfl⟩) hK hR.1 (xrecv (ci := 5) hK hR.1 rfl (List.mem_of_getElem? (i := 6) rfl)) rfl hl.1 rfl (Nat.le_of_ble_eq_true rfl) dX8_about_96 ⟨Nat.le_of_ble_eq_true rfl, Nat.le_of_ble_eq_true rfl⟩ (fun r_4 hr_4 => ?_)
    subst hr_4
    rw [hQ]
    refine xc_iret (X1 := (kX cB cI cE cS z T.length g fb Ls.length f1 Lm.length f2 Lr.length f3 Sn.length fh tm0 dn Cw.length c1 c2 C2.length c3 c4 cho st)) (nw := []) hx hb hr hlocks ?_ ?_ dX8_about_99
    · rw [List.append_nil]; exact hR
    · try rw [List.append_nil]
      exact ⟨by unfold abK; rw [if_neg (by omega), if_neg (by omega), if_neg (by omega), if_neg (by omega), if_pos hsw], ⟨_, _, _, _, _, _, _, _, _, _, rfl, hrd, htp, hr1, hr2, hr3, hhr, hcr, hcr2⟩⟩
  · refine lv_tableIn (tgt := 100) hx hb dX8_about_1 (by omega) (by omega) (by rw [hsw]; rfl) (by decide) ?_
    refine lv_aload_n hx hb dX8_about_100 rfl (lv_at hl 0 rfl) ?_
    refine xg (ci := 7) (C := RX8) (T := TX8) (N := 9) (v := .ref (z 8)) hx hb hts inX8 hown hK hR.1 (List.mem_of_getElem? (i := 0) rfl) rfl 3 (by decide) k_26 (fun _ h => h) rfl dX8_about_101 ?_
    refine pf_callV (C := RX6) (As := []) (rest := []) (p_tsize l hT (⟨(List.mem_of_getElem? (i := 8) rfl), (List.mem_of_getElem? (i := 9) rfl), (hr3.mono xpm)⟩ : tRep ((kX cB cI cE cS z T.length g fb Ls.length f1 Lm.length f2 Lr.length f3 Sn.length fh tm0 dn Cw.length c1 c2 C2.length c3 c4 cho st) ++ pl) cB cE (z 8) (z 9) f3 Lr)) ⟨hx, hb, hml, hown, hts⟩ (cwV 0 hts gX8_about_X6_size rfl rfl rfl (by decide +kernel) ⟨Nat.le_of_ble_eq_true rfl, Nat.le_of_ble_eq_true rfl⟩) hK hR.1 (xrecv (ci := 5) hK hR.1 rfl (List.mem_of_getElem? (i := 8) rfl)) rfl hl.1 rfl (Nat.le_of_ble_eq_true rfl) dX8_about_104 ⟨Nat.le_of_ble_eq_true rfl, Nat.le_of_ble_eq_true rfl⟩ (fun r_5 hr_5 => ?_)
    subst hr_5
    rw [hQ]
    refine xc_iret (X1 := (kX cB cI cE cS z T.length g fb Ls.length f1 Lm.length f2 Lr.length f3 Sn.length fh tm0 dn Cw.length c1 c2 C2.length c3 c4 cho st)) (nw := []) hx hb hr hlocks ?_ ?_ dX8_about_107
    · rw [List.append_nil]; exact hR
    · try rw [List.append_nil]
      exact ⟨by unfold abK; rw [if_neg (by omega), if_neg (by omega), if_neg (by omega), if_neg (by omega), if_neg (by omega), if_pos hsw], ⟨_, _, _, _, _, _, _, _, _, _, rfl, hrd, htp, hr1, hr2, hr3, hhr, hcr, hcr2⟩⟩
  · refine lv_tableIn (tgt := 108) hx hb dX8_about_1 (by omega) (by omega) (by rw [hsw]; rfl) (by decide) ?_
    refine lv_aload_n hx hb dX8_about_108 rfl (lv_at hl 0 rfl) ?_
    refine xg (ci := 7) (C := RX8) (T := TX8) (N := 9) (v := .ref (z 4)) hx hb hts inX8 hown hK hR.1 (List.mem_of_getElem? (i := 0) rfl) rfl 1 (by decide) k_19 (fun _ h => h) rfl dX8_about_109 ?_
    refine pf_callV (C := RX6) (As := []) (rest := []) (p_cbytes l hT (⟨(List.mem_of_getElem? (i := 4) rfl), (List.mem_of_getElem? (i := 5) rfl), (hr1.mono xpm)⟩ : tRep ((kX cB cI cE cS z T.length g fb Ls.length f1 Lm.length f2 Lr.length f3 Sn.length fh tm0 dn Cw.length c1 c2 C2.length c3 c4 cho st) ++ pl) cB cE (z 4) (z 5) f1 Ls)) ⟨hx, hb, hml, hown, hts⟩ (cwV 0 hts gX8_about_X6_contentBytes rfl rfl rfl (by decide +kernel) ⟨Nat.le_of_ble_eq_true rfl, Nat.le_of_ble_eq_true rfl⟩) hK hR.1 (xrecv (ci := 5) hK hR.1 rfl (List.mem_of_getElem? (i := 4) rfl)) rfl hl.1 rfl (Nat.le_of_ble_eq_true rfl) dX8_about_112 ⟨Nat.le_of_ble_eq_true rfl, Nat.le_of_ble_eq_true rfl⟩ (fun r_6 hr_6 => ?_)
    subst hr_6
    rw [hQ]
    refine xc_iret (X1 := (kX cB cI cE cS z T.length g fb Ls.length f1 Lm.length f2 Lr.length f3 Sn.length fh tm0 dn Cw.length c1 c2 C2.length c3 c4 cho st)) (nw := []) hx hb hr hlocks ?_ ?_ dX8_about_115
    · rw [List.append_nil]; exact hR
    · try rw [List.append_nil]
      exact ⟨by unfold abK; rw [if_neg (by omega), if_neg (by omega), if_neg (by omega), if_neg (by omega), if_neg (by omega), if_neg (by omega), if_pos hsw], ⟨_, _, _, _, _, _, _, _, _, _, rfl, hrd, htp, hr1, hr2, hr3, hhr, hcr, hcr2⟩⟩
  · refine lv_tableIn (tgt := 116) hx hb dX8_about_1 (by omega) (by omega) (by rw [hsw]; rfl) (by decide) ?_
    refine lv_aload_n hx hb dX8_about_116 rfl (lv_at hl 0 rfl) ?_
    refine xg (ci := 7) (C := RX8) (T := TX8) (N := 9) (v := .ref (z 10)) hx hb hts inX8 hown hK hR.1 (List.mem_of_getElem? (i := 0) rfl) rfl 4 (by decide) k_32 (fun _ h => h) rfl dX8_about_117 ?_
    refine pf_callV (C := RX2) (As := []) (rest := []) (p_hinc l hT (hRows.rep hhr (List.mem_of_getElem? (i := 10) rfl) (List.mem_of_getElem? (i := 11) rfl))) ⟨hx, hb, hml, hown, hts⟩ (cwV 0 hts gX8_about_X2_increments rfl rfl rfl (by decide +kernel) ⟨Nat.le_of_ble_eq_true rfl, Nat.le_of_ble_eq_true rfl⟩) hK hR.1 (xrecv (ci := 2) hK hR.1 rfl (List.mem_of_getElem? (i := 10) rfl)) rfl hl.1 rfl (Nat.le_of_ble_eq_true rfl) dX8_about_120 ⟨Nat.le_of_ble_eq_true rfl, Nat.le_of_ble_eq_true rfl⟩ (fun r_7 hr_7 => ?_)
    subst hr_7
    refine lv_aload_n hx hb dX8_about_123 rfl (lv_at hl 0 rfl) ?_
    refine xg (ci := 7) (C := RX8) (T := TX8) (N := 9) (v := .int (nI st)) hx hb hts inX8 hown hK hR.1 (List.mem_of_getElem? (i := 0) rfl) rfl 8 (by decide) k_54 (fun _ h => h) rfl dX8_about_124 ?_
    refine nz_ne hx hb dX8_about_127 (tgt := 134) (by decide) (by omega) (fun c_8 => ?_) (fun c_8 => ?_)
    · refine lv_aload_n hx hb dX8_about_134 rfl (lv_at hl 0 rfl) ?_
      refine xg (ci := 7) (C := RX8) (T := TX8) (N := 9) (v := .ref (z 12)) hx hb hts inX8 hown hK hR.1 (List.mem_of_getElem? (i := 0) rfl) rfl 5 (by decide) k_39 (fun _ h => h) rfl dX8_about_135 ?_
      refine pf_callV (C := RX7) (As := []) (rest := [.int (ssm (fun k => nI (Sn.getD k s0).2.1) 0 Sn.length)]) (p_winc l hT (cRows.rep hcr (List.mem_of_getElem? (i := 13) rfl) (List.mem_of_getElem? (i := 14) rfl) (List.mem_of_getElem? (i := 15) rfl)) (List.mem_of_getElem? (i := 12) rfl) hdn) ⟨hx, hb, hml, hown, hts⟩ (cwV 0 hts gX8_about_X7_increments rfl rfl rfl (by decide +kernel) ⟨Nat.le_of_ble_eq_true rfl, Nat.le_of_ble_eq_true rfl⟩) hK hR.1 (xrecv (ci := 6) hK hR.1 rfl (List.mem_of_getElem? (i := 12) rfl)) rfl hl.1 rfl (Nat.le_of_ble_eq_true rfl) dX8_about_138 ⟨Nat.le_of_ble_eq_true rfl, Nat.le_of_ble_eq_true rfl⟩ (fun r_9 hr_9 => ?_)
      subst hr_9
      refine lv_iadd hx hb dX8_about_141 ?_
      rw [hQ]
      refine xc_iret (X1 := (kX cB cI cE cS z T.length g fb Ls.length f1 Lm.length f2 Lr.length f3 Sn.length fh tm0 dn Cw.length c1 c2 C2.length c3 c4 cho st)) (nw := []) hx hb hr hlocks ?_ ?_ dX8_about_142
      · rw [List.append_nil]; exact hR
      · try rw [List.append_nil]
        exact ⟨by unfold abK; rw [if_neg (by omega), if_neg (by omega), if_neg (by omega), if_neg (by omega), if_neg (by omega), if_neg (by omega), if_neg (by omega), if_pos hsw, if_neg (by omega)], ⟨_, _, _, _, _, _, _, _, _, _, rfl, hrd, htp, hr1, hr2, hr3, hhr, hcr, hcr2⟩⟩
    · refine lv_iconst (v := nI 0) hx hb dX8_about_130 rfl ?_
      refine lv_goto (tgt := 141) hx hb dX8_about_131 (by decide) ?_
      refine lv_iadd hx hb dX8_about_141 ?_
      rw [hQ]
      refine xc_iret (X1 := (kX cB cI cE cS z T.length g fb Ls.length f1 Lm.length f2 Lr.length f3 Sn.length fh tm0 dn Cw.length c1 c2 C2.length c3 c4 cho st)) (nw := []) hx hb hr hlocks ?_ ?_ dX8_about_142
      · rw [List.append_nil]; exact hR
      · try rw [List.append_nil]
        exact ⟨by unfold abK; rw [if_neg (by omega), if_neg (by omega), if_neg (by omega), if_neg (by omega), if_neg (by omega), if_neg (by omega), if_neg (by omega), if_pos hsw, if_pos (by omega)], ⟨_, _, _, _, _, _, _, _, _, _, rfl, hrd, htp, hr1, hr2, hr3, hhr, hcr, hcr2⟩⟩
  · refine lv_tableIn (tgt := 143) hx hb dX8_about_1 (by omega) (by omega) (by rw [hsw]; rfl) (by decide) ?_
    refine lv_aload_n hx hb dX8_about_143 rfl (lv_at hl 0 rfl) ?_
    refine xg (ci := 7) (C := RX8) (T := TX8) (N := 9) (v := .ref (z 1)) hx hb hts inX8 hown hK hR.1 (List.mem_of_getElem? (i := 0) rfl) rfl 0 (by decide) k_10 (fun _ h => h) rfl dX8_about_144 ?_
    refine pf_callV (C := RX5) (As := []) (rest := []) (p_tpsize l hT (T := T) (List.mem_of_getElem? (i := 1) rfl) (List.mem_of_getElem? (i := 2) rfl)) ⟨hx, hb, hml, hown, hts⟩ (cwV 0 hts gX8_about_X5_size rfl rfl rfl (by decide +kernel) ⟨Nat.le_of_ble_eq_true rfl, Nat.le_of_ble_eq_true rfl⟩) hK hR.1 (xrecv (ci := 4) hK hR.1 rfl (List.mem_of_getElem? (i := 1) rfl)) rfl hl.1 rfl (Nat.le_of_ble_eq_true rfl) dX8_about_147 ⟨Nat.le_of_ble_eq_true rfl, Nat.le_of_ble_eq_true rfl⟩ (fun r_10 hr_10 => ?_)
    subst hr_10
    rw [hQ]
    refine xc_iret (X1 := (kX cB cI cE cS z T.length g fb Ls.length f1 Lm.length f2 Lr.length f3 Sn.length fh tm0 dn Cw.length c1 c2 C2.length c3 c4 cho st)) (nw := []) hx hb hr hlocks ?_ ?_ dX8_about_150
    · rw [List.append_nil]; exact hR
    · try rw [List.append_nil]
      exact ⟨by unfold abK; rw [if_neg (by omega), if_neg (by omega), if_neg (by omega), if_neg (by omega), if_neg (by omega), if_neg (by omega), if_neg (by omega), if_neg (by omega), if_pos hsw], ⟨_, _, _, _, _, _, _, _, _, _, rfl, hrd, htp, hr1, hr2, hr3, hhr, hcr, hcr2⟩⟩
  · refine lv_tableOut (tgt := 151) hx hb dX8_about_1 hsw (by decide) ?_
    refine lv_iconst (v := (-1)) hx hb dX8_about_151 rfl ?_
    rw [hQ]
    refine xc_iret (X1 := (kX cB cI cE cS z T.length g fb Ls.length f1 Lm.length f2 Lr.length f3 Sn.length fh tm0 dn Cw.length c1 c2 C2.length c3 c4 cho st)) (nw := []) hx hb hr hlocks ?_ ?_ dX8_about_152
    · rw [List.append_nil]; exact hR
    · try rw [List.append_nil]
      exact ⟨by unfold abK; rw [if_neg (by omega), if_neg (by omega), if_neg (by omega), if_neg (by omega), if_neg (by omega), if_neg (by omega), if_neg (by omega), if_neg (by omega), if_neg (by omega)], ⟨_, _, _, _, _, _, _, _, _, _, rfl, hrd, htp, hr1, hr2, hr3, hhr, hcr, hcr2⟩⟩
set_option maxHeartbeats 4000000 in
set_option maxRecDepth 100000 in
theorem K_session (l : Launch) {G : va_G} {tys : List (ClassId × FieldType)} {cB cI cE cS : ClassId} (hT : tys = [(cB, .byte), (cI, .int), (cE, .object RX1), (cS, .object RX4)]) {pl : va_W} {sz : Nat} {z : Nat → Nat} {X : va_W} {T rd : List Nat} {Ls Lm Lr : List En} {Sn : List Se} {Cw C2 : List Cg} {tm0 : Int32} {dn : Nat} {cho : Int32} {st : Nat} (hk : kRep cB cI cE cS z X pl T rd Ls Lm Lr Sn Cw C2 tm0 dn cho st) (ix w0 : Int32) : cMet l yX8_session wsX8_session ({ frames := 1, cells := 0, slots := 0, locals := 21 } : Room) G tys [.ref (z 0), .int ix, .int w0] X pl sz 0 0 (fun o9 X1 nw => o9 = some (.int (seK Sn ix w0)) ∧ kRep cB cI cE cS z X1 (pl ++ nw) T rd Ls Lm Lr Sn Cw C2 tm0 dn cho st) := by
  obtain ⟨g, fb, f1, f2, f3, fh, c1, c2, c3, c4, rfl, hrd, htp, hr1, hr2, hr3, hhr, hcr, hcr2⟩ := hk
  have hT0 : tys[0]? = some (cB, .byte) := by rw [hT]; rfl
  have hT1 : tys[1]? = some (cI, .int) := by rw [hT]; rfl
  have hT2 : tys[2]? = some (cE, .object RX1) := by rw [hT]; rfl
  have hT3 : tys[3]? = some (cS, .object RX4) := by rw [hT]; rfl
  refine Met.ofW (cc := cX8_session) (maxL := 4) (ret := (some .int)) (by decide) rfl ?_
  intro p e s m args below meth c s₁ B hml hv
  obtain ⟨hargs, hsz, hP, hK, hD0, hZ⟩ := hv
  have hx := B.exec
  have hb := B.bytes
  have hr := B.returns
  have hts := atoms_spec (ws := wsX8_session) B.pre
  have hown : s.vm.findClass RX8 = some m.cls := findClass_of_methodNamed B.named
  have hlocks := B.notSynchronized
  subst hsz
  have hD := hD0.self (sz := s.heap.size)
  obtain ⟨A, hAe⟩ : ∃ A : Nat → Prop, A = va_A ((kX cB cI cE cS z T.length g fb Ls.length f1 Lm.length f2 Lr.length f3 Sn.length fh tm0 dn Cw.length c1 c2 C2.length c3 c4 cho st) ++ pl) s.heap.size := ⟨_, rfl⟩
  rw [← hAe] at hD
  have hA : ∀ q : Nat, s.heap.size ≤ q → A q := fun q h => by rw [hAe]; exact Or.inr h
  have inX4 : ∀ w ∈ wsX40, w ∈ wsX8_session := by decide +kernel
  have inX8 : ∀ w ∈ wsX80, w ∈ wsX8_session := by decide +kernel
  have k_32 := hts (.fieldLink RX8 32 "MirrorKeep" "history" "LMirrorKeep$History;") (by decide +kernel)
  have k_274 := hts (.fieldLink RX8 274 "MirrorKeep$Session" "time" "I") (by decide +kernel)
  have k_275 := hts (.fieldLink RX8 275 "MirrorKeep$Session" "changes" "I") (by decide +kernel)
  have hR : rR G A s.heap s.heap [] ((kX cB cI cE cS z T.length g fb Ls.length f1 Lm.length f2 Lr.length f3 Sn.length fh tm0 dn Cw.length c1 c2 C2.length c3 c4 cho st) ++ pl) := ⟨hP, hD, va_S.rf⟩
  obtain ⟨Q, hQ⟩ : ∃ Q : State → Prop, Q = MQ below (cQ G A pl (fun o9 X1 nw => o9 = some (.int (seK Sn ix w0)) ∧ kRep cB cI cE cS z X1 (pl ++ nw) T rd Ls Lm Lr Sn Cw C2 tm0 dn cho st)) args s 0 0 A := ⟨_, rfl⟩
  change W p l e ({ frames := 1, cells := 0, slots := 0, locals := 21 } : Room) s m args below meth c s.heap [] 0 0 (MQ below (cQ G (va_A ((kX cB cI cE cS z T.length g fb Ls.length f1 Lm.length f2 Lr.length f3 Sn.length fh tm0 dn Cw.length c1 c2 C2.length c3 c4 cho st) ++ pl) s.heap.size) pl (fun o9 X1 nw => o9 = some (.int (seK Sn ix w0)) ∧ kRep cB cI cE cS z X1 (pl ++ nw) T rd Ls Lm Lr Sn Cw C2 tm0 dn cho st)) args s 0 0 (va_A ((kX cB cI cE cS z T.length g fb Ls.length f1 Lm.length f2 Lr.length f3 Sn.length fh tm0 dn Cw.length c1 c2 C2.length c3 c4 cho st) ++ pl) s.heap.size)) (entryFrame m args 4)
  rw [← hAe]
  rw [← hQ]
  refine nn_entry hargs (Nat.le_of_ble_eq_true rfl) (lv := [(0, .ref (z 0)), (1, .int ix), (2, .int w0)]) rfl (fun ls hl => ?_)
  refine lv_aload_n hx hb dX8_session_0 rfl (lv_at hl 0 rfl) ?_
  refine xg (ci := 7) (C := RX8) (T := TX8) (N := 9) (v := .ref (z 10)) hx hb hts inX8 hown hK hR.1 (List.mem_of_getElem? (i := 0) rfl) rfl 4 (by decide) k_32 (fun _ h => h) rfl dX8_session_1 ?_
  refine lv_iload_n hx hb dX8_session_4 rfl (lv_at hl 1 rfl) ?_
  refine pf_callV (C := RX2) (As := [.int ix]) (rest := []) (p_hget l hT (hRows.rep hhr (List.mem_of_getElem? (i := 10) rfl) (List.mem_of_getElem? (i := 11) rfl)) ix) ⟨hx, hb, hml, hown, hts⟩ (cwV 1 hts gX8_session_X2_get rfl rfl rfl (by decide +kernel) ⟨Nat.le_of_ble_eq_true rfl, Nat.le_of_ble_eq_true rfl⟩) hK hR.1 (xrecv (ci := 2) hK hR.1 rfl (List.mem_of_getElem? (i := 10) rfl)) rfl hl.1 rfl (Nat.le_of_ble_eq_true rfl) dX8_session_5 ⟨Nat.le_of_ble_eq_true rfl, Nat.le_of_ble_eq_true rfl⟩ (fun r_1 hr_1 => ?_)
  rcases hr_1 with ⟨hr_1, rfl⟩ | ⟨k9, a9, hk9, jk9, rfl, ha9, -⟩
  · refine lv_astore_nN (lv' := [(3, .null), (0, .ref (z 0)), (1, .int ix), (2, .int w0)]) hx hb dX8_session_8 rfl hl (by decide) rfl (fun ls hl => ?_)
    refine lv_aload_nN hx hb dX8_session_9 rfl (lv_at hl 0 rfl) ?_
    refine lv_ifnonnullN hx hb dX8_session_10 ?_
    refine lv_iconst (v := (-1)) hx hb dX8_session_13 rfl ?_
    rw [hQ]
    refine xc_iret (X1 := (kX cB cI cE cS z T.length g fb Ls.length f1 Lm.length f2 Lr.length f3 Sn.length fh tm0 dn Cw.length c1 c2 C2.length c3 c4 cho st)) (nw := []) hx hb hr hlocks ?_ ?_ dX8_session_14
    · rw [List.append_nil]; exact hR
    · try rw [List.append_nil]
      exact ⟨by rw [seK_out hr_1], ⟨_, _, _, _, _, _, _, _, _, _, rfl, hrd, htp, hr1, hr2, hr3, hhr, hcr, hcr2⟩⟩
  · have gs9 := se_row hhr (h := ha9) jk9
    obtain ⟨ts9, rs9, fs9, hms9, hts9⟩ := id gs9
    refine lv_astore_n (lv' := [(3, .ref a9), (0, .ref (z 0)), (1, .int ix), (2, .int w0)]) hx hb dX8_session_8 rfl hl (by decide) rfl (fun ls hl => ?_)
    refine lv_aload_n hx hb dX8_session_9 rfl (lv_at hl 0 rfl) ?_
    refine lv_ifnonnull hx hb dX8_session_10 (tgt := 15) (by decide) ?_
    refine lv_iload_n hx hb dX8_session_15 rfl (lv_at hl 3 rfl) ?_
    rcases (show w0.toInt = 0 ∨ w0.toInt = 1 ∨ (w0.toInt ≠ 0 ∧ w0.toInt ≠ 1) by omega) with hsw | hsw | hsw
    · refine lv_lookup (tgt := 44) (off := 28) hx hb dX8_session_16 (by decide) (by rw [hsw]; rfl) (by decide) ?_
      refine lv_aload_n hx hb dX8_session_44 rfl (lv_at hl 0 rfl) ?_
      refine xg (ci := 3) (C := RX4) (T := TX4) (N := 3) (v := .int ((Sn.getD k9 s0).1)) hx hb hts inX4 hown hK hR.1 (List.mem_append_right _ hms9) rfl 0 (by decide) k_274 (fun _ h => h) rfl dX8_session_45 ?_
      rw [hQ]
      refine xc_iret (X1 := (kX cB cI cE cS z T.length g fb Ls.length f1 Lm.length f2 Lr.length f3 Sn.length fh tm0 dn Cw.length c1 c2 C2.length c3 c4 cho st)) (nw := []) hx hb hr hlocks ?_ ?_ dX8_session_48
      · rw [List.append_nil]; exact hR
      · try rw [List.append_nil]
        exact ⟨by rw [seK_in hk9 jk9 (by have := hhr.1; omega), if_pos hsw], ⟨_, _, _, _, _, _, _, _, _, _, rfl, hrd, htp, hr1, hr2, hr3, hhr, hcr, hcr2⟩⟩
    · refine lv_lookup (tgt := 49) (off := 33) hx hb dX8_session_16 (by decide) (by rw [hsw]; rfl) (by decide) ?_
      refine lv_iload_n hx hb dX8_session_49 rfl (lv_at hl 2 rfl) ?_
      refine zi_ne hx hb rfl dX8_session_50 (tgt := 57) (by decide) (fun c_3 => ?_) (fun c_3 => ?_)
      · refine lv_aload_n hx hb dX8_session_57 rfl (lv_at hl 0 rfl) ?_
        refine xg (ci := 3) (C := RX4) (T := TX4) (N := 3) (v := .int (nI ((Sn.getD k9 s0).2.1))) hx hb hts inX4 hown hK hR.1 (List.mem_append_right _ hms9) rfl 1 (by decide) k_275 (fun _ h => h) rfl dX8_session_58 ?_
        rw [hQ]
        refine xc_iret (X1 := (kX cB cI cE cS z T.length g fb Ls.length f1 Lm.length f2 Lr.length f3 Sn.length fh tm0 dn Cw.length c1 c2 C2.length c3 c4 cho st)) (nw := []) hx hb hr hlocks ?_ ?_ dX8_session_61
        · rw [List.append_nil]; exact hR
        · try rw [List.append_nil]
          exact ⟨by rw [seK_in hk9 jk9 (by have := hhr.1; omega), if_neg (by omega), if_pos hsw, if_neg (by omega)], ⟨_, _, _, _, _, _, _, _, _, _, rfl, hrd, htp, hr1, hr2, hr3, hhr, hcr, hcr2⟩⟩
      · refine lv_iconst (v := (-1)) hx hb dX8_session_53 rfl ?_
        refine lv_goto (tgt := 61) hx hb dX8_session_54 (by decide) ?_
        rw [hQ]
        refine xc_iret (X1 := (kX cB cI cE cS z T.length g fb Ls.length f1 Lm.length f2 Lr.length f3 Sn.length fh tm0 dn Cw.length c1 c2 C2.length c3 c4 cho st)) (nw := []) hx hb hr hlocks ?_ ?_ dX8_session_61
        · rw [List.append_nil]; exact hR
        · try rw [List.append_nil]
          exact ⟨by rw [seK_in hk9 jk9 (by have := hhr.1; omega), if_neg (by omega), if_pos hsw, if_pos (by omega)], ⟨_, _, _, _, _, _, _, _, _, _, rfl, hrd, htp, hr1, hr2, hr3, hhr, hcr, hcr2⟩⟩
    · refine lv_lookup (tgt := 62) (off := 46) hx hb dX8_session_16 (by decide) (by refine (if_neg (c := (0 : Int) = w0.toInt) ?_).trans (if_neg (c := (1 : Int) = w0.toInt) ?_) <;> omega) (by decide) ?_
      refine lv_iconst (v := (-1)) hx hb dX8_session_62 rfl ?_
      rw [hQ]
      refine xc_iret (X1 := (kX cB cI cE cS z T.length g fb Ls.length f1 Lm.length f2 Lr.length f3 Sn.length fh tm0 dn Cw.length c1 c2 C2.length c3 c4 cho st)) (nw := []) hx hb hr hlocks ?_ ?_ dX8_session_63
      · rw [List.append_nil]; exact hR
      · try rw [List.append_nil]
        exact ⟨by rw [seK_in hk9 jk9 (by have := hhr.1; omega), if_neg (by omega), if_neg (by omega)], ⟨_, _, _, _, _, _, _, _, _, _, rfl, hrd, htp, hr1, hr2, hr3, hhr, hcr, hcr2⟩⟩
