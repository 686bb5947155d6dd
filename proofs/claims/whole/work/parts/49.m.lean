set_option maxHeartbeats 4000000 in
set_option maxRecDepth 100000 in
theorem c_apply (l : Launch) {G : va_G} {tys : List (ClassId × FieldType)} {cB cI cE cS : ClassId} (hT : tys = [(cB, .byte), (cI, .int), (cE, .object RX1), (cS, .object RX4)]) {pl : va_W} {sz : Nat} {ch b1 b2 : Nat} {f1 f2 : Nat → Option Nat} {C : List Cg} (hcr : cRows pl cB f1 f2 C) {t r : Nat} {f : Nat → Option Nat} {L : List En} (hrw : tRows pl cB f L) (hs : srt L) (i : Nat) (hi : i < C.length) (hex : exOK L (C.getD i c0).1 (C.getD i c0).2) : cMet l yX0_apply wsX0_apply ({ frames := 4, cells := 0, slots := 0, locals := 92 } : Room) G tys [.ref ch, .int (nI i), .ref t] [(ch, .inr (0, [.ref b1, .ref b2, .int (nI C.length)])), (b1, .inl (cE, 180, rfs f1)), (b2, .inl (cE, 180, rfs f2)), (t, .inr (5, [.ref r, .int (nI L.length)])), (r, .inl (cE, 120, rfs f))] pl sz 0 0 (fun o9 X1 nw => o9 = none ∧ nw = [] ∧ ∃ g : Nat → Option Nat, X1 = [(ch, .inr (0, [.ref b1, .ref b2, .int (nI C.length)])), (b1, .inl (cE, 180, rfs f1)), (b2, .inl (cE, 180, rfs f2)), (t, .inr (5, [.ref r, .int (nI ((exL L (C.getD i c0).1 (C.getD i c0).2).length))])), (r, .inl (cE, 120, rfs g))] ∧ tRows pl cB g (exL L (C.getD i c0).1 (C.getD i c0).2)) := by
  have hT0 : tys[0]? = some (cB, .byte) := by rw [hT]; rfl
  have hT1 : tys[1]? = some (cI, .int) := by rw [hT]; rfl
  have hT2 : tys[2]? = some (cE, .object RX1) := by rw [hT]; rfl
  have hT3 : tys[3]? = some (cS, .object RX4) := by rw [hT]; rfl
  refine Met.ofW (cc := cX0_apply) (maxL := 3) (ret := none) (by decide) rfl ?_
  intro p e s m args below meth c s₁ B hml hv
  obtain ⟨hargs, hsz, hP, hK, hD0, hZ⟩ := hv
  have hx := B.exec
  have hb := B.bytes
  have hr := B.returns
  have hts := atoms_spec (ws := wsX0_apply) B.pre
  have hown : s.vm.findClass RX0 = some m.cls := findClass_of_methodNamed B.named
  have hlocks := B.notSynchronized
  subst hsz
  have hD := hD0.self (sz := s.heap.size)
  obtain ⟨A, hAe⟩ : ∃ A : Nat → Prop, A = va_A ([(ch, .inr (0, [.ref b1, .ref b2, .int (nI C.length)])), (b1, .inl (cE, 180, rfs f1)), (b2, .inl (cE, 180, rfs f2)), (t, .inr (5, [.ref r, .int (nI L.length)])), (r, .inl (cE, 120, rfs f))] ++ pl) s.heap.size := ⟨_, rfl⟩
  rw [← hAe] at hD
  have hA : ∀ q : Nat, s.heap.size ≤ q → A q := fun q h => by rw [hAe]; exact Or.inr h
  have inX0 : ∀ w ∈ wsX00, w ∈ wsX0_apply := by decide +kernel
  have k_13 := hts (.fieldLink RX0 13 "MirrorKeep$Changes" "before" "[LMirrorKeep$Entry;") (by decide +kernel)
  have k_17 := hts (.fieldLink RX0 17 "MirrorKeep$Changes" "after" "[LMirrorKeep$Entry;") (by decide +kernel)
  have k_20 := hts (.fieldLink RX0 20 "MirrorKeep$Changes" "count" "I") (by decide +kernel)
  have hR : rR G A s.heap s.heap [] ([(ch, .inr (0, [.ref b1, .ref b2, .int (nI C.length)])), (b1, .inl (cE, 180, rfs f1)), (b2, .inl (cE, 180, rfs f2)), (t, .inr (5, [.ref r, .int (nI L.length)])), (r, .inl (cE, 120, rfs f))] ++ pl) := ⟨hP, hD, va_S.rf⟩
  obtain ⟨Q, hQ⟩ : ∃ Q : State → Prop, Q = MQ below (cQ G A pl (fun o9 X1 nw => o9 = none ∧ nw = [] ∧ ∃ g : Nat → Option Nat, X1 = [(ch, .inr (0, [.ref b1, .ref b2, .int (nI C.length)])), (b1, .inl (cE, 180, rfs f1)), (b2, .inl (cE, 180, rfs f2)), (t, .inr (5, [.ref r, .int (nI ((exL L (C.getD i c0).1 (C.getD i c0).2).length))])), (r, .inl (cE, 120, rfs g))] ∧ tRows pl cB g (exL L (C.getD i c0).1 (C.getD i c0).2))) args s 0 0 A := ⟨_, rfl⟩
  change W p l e ({ frames := 4, cells := 0, slots := 0, locals := 92 } : Room) s m args below meth c s.heap [] 0 0 (MQ below (cQ G (va_A ([(ch, .inr (0, [.ref b1, .ref b2, .int (nI C.length)])), (b1, .inl (cE, 180, rfs f1)), (b2, .inl (cE, 180, rfs f2)), (t, .inr (5, [.ref r, .int (nI L.length)])), (r, .inl (cE, 120, rfs f))] ++ pl) s.heap.size) pl (fun o9 X1 nw => o9 = none ∧ nw = [] ∧ ∃ g : Nat → Option Nat, X1 = [(ch, .inr (0, [.ref b1, .ref b2, .int (nI C.length)])), (b1, .inl (cE, 180, rfs f1)), (b2, .inl (cE, 180, rfs f2)), (t, .inr (5, [.ref r, .int (nI ((exL L (C.getD i c0).1 (C.getD i c0).2).length))])), (r, .inl (cE, 120, rfs g))] ∧ tRows pl cB g (exL L (C.getD i c0).1 (C.getD i c0).2))) args s 0 0 (va_A ([(ch, .inr (0, [.ref b1, .ref b2, .int (nI C.length)])), (b1, .inl (cE, 180, rfs f1)), (b2, .inl (cE, 180, rfs f2)), (t, .inr (5, [.ref r, .int (nI L.length)])), (r, .inl (cE, 120, rfs f))] ++ pl) s.heap.size)) (entryFrame m args 3)
  rw [← hAe]
  rw [← hQ]
  refine nn_entry hargs (Nat.le_of_ble_eq_true rfl) (lv := [(0, .ref ch), (1, .int (nI i)), (2, .ref t)]) rfl (fun ls hl => ?_)
  have hl180 := hcr.1
  refine lv_iload_n hx hb dX0_apply_0 rfl (lv_at hl 1 rfl) ?_
  refine nz_lt hx hb dX0_apply_1 (tgt := 28) (by decide) (by omega) (fun c_1 => ?_) (fun c_1 => ?_)
  · exact absurd c_1 (Nat.not_lt_zero _)
  · refine lv_iload_n hx hb dX0_apply_4 rfl (lv_at hl 1 rfl) ?_
    refine lv_aload_n hx hb dX0_apply_5 rfl (lv_at hl 0 rfl) ?_
    refine xg (ci := 0) (C := RX0) (T := TX0) (N := 3) (v := .int (nI C.length)) hx hb hts inX0 hown hK hR.1 (List.mem_of_getElem? (i := 0) rfl) rfl 2 (by decide) k_20 (fun _ h => h) rfl dX0_apply_6 ?_
    refine nn_ge hx hb dX0_apply_9 (tgt := 28) (by decide) (by omega) (by omega) (fun c_2 => ?_) (fun c_2 => ?_)
    · exact absurd c_2 (by omega)
    · refine lv_aload_n hx hb dX0_apply_12 rfl (lv_at hl 0 rfl) ?_
      refine xg (ci := 0) (C := RX0) (T := TX0) (N := 3) (v := .ref b1) hx hb hts inX0 hown hK hR.1 (List.mem_of_getElem? (i := 0) rfl) rfl 0 (by decide) k_13 (fun _ h => h) rfl dX0_apply_13 ?_
      refine lv_iload_n hx hb dX0_apply_16 rfl (lv_at hl 1 rfl) ?_
      refine xq_ld (t0 := 2) hx hb hK hT2 hR.1 (List.mem_of_getElem? (i := 1) rfl) (by omega) (by decide) dX0_apply_17 ?_
      rcases (hcr.2 i hi).1 with ⟨eo_3, ho_3⟩ | ⟨uo_3, ao_3, eo_3, ho_3, go_3⟩
      · refine nn_eqv (y := .null) (by rw [ho_3]; rfl) ?_
        refine lv_aload_n hx hb dX0_apply_18 rfl (lv_at hl 0 rfl) ?_
        refine xg (ci := 0) (C := RX0) (T := TX0) (N := 3) (v := .ref b2) hx hb hts inX0 hown hK hR.1 (List.mem_of_getElem? (i := 0) rfl) rfl 1 (by decide) k_17 (fun _ h => h) rfl dX0_apply_19 ?_
        refine lv_iload_n hx hb dX0_apply_22 rfl (lv_at hl 1 rfl) ?_
        refine xq_ld (t0 := 2) hx hb hK hT2 hR.1 (List.mem_of_getElem? (i := 2) rfl) (by omega) (by decide) dX0_apply_23 ?_
        rcases (hcr.2 i hi).2 with ⟨eo_5, ho_5⟩ | ⟨uo_5, ao_5, eo_5, ho_5, go_5⟩
        · refine nn_eqv (y := .null) (by rw [ho_5]; rfl) ?_
          refine lv_aload_n hx hb dX0_apply_24 rfl (lv_at hl 2 rfl) ?_
          rw [eo_3, eo_5] at hex
          obtain ⟨u9, hu9, -⟩ := hex
          cases hu9
        · refine nn_eqv (y := .ref ao_5) (by rw [ho_5]; rfl) ?_
          refine lv_aload_n hx hb dX0_apply_24 rfl (lv_at hl 2 rfl) ?_
          rw [eo_3, eo_5] at hex
          refine xc_callS (As := [.null, .ref ao_5, .ref t]) (rest := []) (cx := [(t, .inr (5, [.ref r, .int (nI L.length)])), (r, .inl (cE, 120, rfs f))]) (wr := [(ch, .inr (0, [.ref b1, .ref b2, .int (nI C.length)])), (b1, .inl (cE, 180, rfs f1)), (b2, .inl (cE, 180, rfs f2))]) (c_ex_nr l hT hrw go_5 hs hex.1 hex.2.1 hex.2.2) ⟨hx, hb, hml, hown, hts⟩ (va_cwS 3 hts gX0_apply_X0_exchange rfl rfl rfl (by decide +kernel) ⟨Nat.le_of_ble_eq_true rfl, Nat.le_of_ble_eq_true rfl⟩) hK hZ hR hA [3, 4] [0, 1, 2] rfl rfl (by decide) (by decide) (by decide) rfl hl.1 rfl (Nat.le_of_ble_eq_true rfl) dX0_apply_25 ⟨Nat.le_of_ble_eq_true rfl, Nat.le_of_ble_eq_true rfl⟩ (fun r_7 X_r_7 nw_r_7 H locs hr_7 hR => ?_)
          obtain ⟨rfl, rfl, g, rfl, hg⟩ := hr_7
          have hR : rR G A s.heap _ _ ([(ch, .inr (0, [.ref b1, .ref b2, .int (nI C.length)])), (b1, .inl (cE, 180, rfs f1)), (b2, .inl (cE, 180, rfs f2)), (t, .inr (5, [.ref r, .int (nI ((putL L uo_5).length))])), (r, .inl (cE, 120, rfs g))] ++ pl) := (xc_nil hR)
          rw [hQ]
          exact xc_vret (X1 := [(ch, .inr (0, [.ref b1, .ref b2, .int (nI C.length)])), (b1, .inl (cE, 180, rfs f1)), (b2, .inl (cE, 180, rfs f2)), (t, .inr (5, [.ref r, .int (nI ((putL L uo_5).length))])), (r, .inl (cE, 120, rfs g))]) (nw := []) hx hb hr hlocks (by rw [List.append_nil]; exact hR) ⟨rfl, rfl, g, by rw [eo_3, eo_5]; rfl, by rw [eo_3, eo_5]; exact hg⟩ dX0_apply_28
      · refine nn_eqv (y := .ref ao_3) (by rw [ho_3]; rfl) ?_
        refine lv_aload_n hx hb dX0_apply_18 rfl (lv_at hl 0 rfl) ?_
        refine xg (ci := 0) (C := RX0) (T := TX0) (N := 3) (v := .ref b2) hx hb hts inX0 hown hK hR.1 (List.mem_of_getElem? (i := 0) rfl) rfl 1 (by decide) k_17 (fun _ h => h) rfl dX0_apply_19 ?_
        refine lv_iload_n hx hb dX0_apply_22 rfl (lv_at hl 1 rfl) ?_
        refine xq_ld (t0 := 2) hx hb hK hT2 hR.1 (List.mem_of_getElem? (i := 2) rfl) (by omega) (by decide) dX0_apply_23 ?_
        rcases (hcr.2 i hi).2 with ⟨eo_8, ho_8⟩ | ⟨uo_8, ao_8, eo_8, ho_8, go_8⟩
        · refine nn_eqv (y := .null) (by rw [ho_8]; rfl) ?_
          refine lv_aload_n hx hb dX0_apply_24 rfl (lv_at hl 2 rfl) ?_
          rw [eo_3, eo_8] at hex
          obtain ⟨u9, hu9, hu8⟩ := hex
          cases hu9
          refine xc_callS (As := [.ref ao_3, .null, .ref t]) (rest := []) (cx := [(t, .inr (5, [.ref r, .int (nI L.length)])), (r, .inl (cE, 120, rfs f))]) (wr := [(ch, .inr (0, [.ref b1, .ref b2, .int (nI C.length)])), (b1, .inl (cE, 180, rfs f1)), (b2, .inl (cE, 180, rfs f2))]) (c_ex_rn l hT hrw go_3 hs hu8) ⟨hx, hb, hml, hown, hts⟩ (va_cwS 3 hts gX0_apply_X0_exchange rfl rfl rfl (by decide +kernel) ⟨Nat.le_of_ble_eq_true rfl, Nat.le_of_ble_eq_true rfl⟩) hK hZ hR hA [3, 4] [0, 1, 2] rfl rfl (by decide) (by decide) (by decide) rfl hl.1 rfl (Nat.le_of_ble_eq_true rfl) dX0_apply_25 ⟨Nat.le_of_ble_eq_true rfl, Nat.le_of_ble_eq_true rfl⟩ (fun r_10 X_r_10 nw_r_10 H locs hr_10 hR => ?_)
          obtain ⟨rfl, rfl, g, rfl, hg⟩ := hr_10
          have hR : rR G A s.heap _ _ ([(ch, .inr (0, [.ref b1, .ref b2, .int (nI C.length)])), (b1, .inl (cE, 180, rfs f1)), (b2, .inl (cE, 180, rfs f2)), (t, .inr (5, [.ref r, .int (nI ((drpL L (insI uo_3.1 L) 1).length))])), (r, .inl (cE, 120, rfs g))] ++ pl) := (xc_nil hR)
          rw [hQ]
          exact xc_vret (X1 := [(ch, .inr (0, [.ref b1, .ref b2, .int (nI C.length)])), (b1, .inl (cE, 180, rfs f1)), (b2, .inl (cE, 180, rfs f2)), (t, .inr (5, [.ref r, .int (nI ((drpL L (insI uo_3.1 L) 1).length))])), (r, .inl (cE, 120, rfs g))]) (nw := []) hx hb hr hlocks (by rw [List.append_nil]; exact hR) ⟨rfl, rfl, g, by rw [eo_3, eo_8]; rfl, by rw [eo_3, eo_8]; exact hg⟩ dX0_apply_28
        · refine nn_eqv (y := .ref ao_8) (by rw [ho_8]; rfl) ?_
          refine lv_aload_n hx hb dX0_apply_24 rfl (lv_at hl 2 rfl) ?_
          rw [eo_3, eo_8] at hex
          refine xc_callS (As := [.ref ao_3, .ref ao_8, .ref t]) (rest := []) (cx := [(t, .inr (5, [.ref r, .int (nI L.length)])), (r, .inl (cE, 120, rfs f))]) (wr := [(ch, .inr (0, [.ref b1, .ref b2, .int (nI C.length)])), (b1, .inl (cE, 180, rfs f1)), (b2, .inl (cE, 180, rfs f2))]) (c_ex_rr l hT hrw go_3 go_8 hs hex.1 hex.2.1 hex.2.2) ⟨hx, hb, hml, hown, hts⟩ (va_cwS 3 hts gX0_apply_X0_exchange rfl rfl rfl (by decide +kernel) ⟨Nat.le_of_ble_eq_true rfl, Nat.le_of_ble_eq_true rfl⟩) hK hZ hR hA [3, 4] [0, 1, 2] rfl rfl (by decide) (by decide) (by decide) rfl hl.1 rfl (Nat.le_of_ble_eq_true rfl) dX0_apply_25 ⟨Nat.le_of_ble_eq_true rfl, Nat.le_of_ble_eq_true rfl⟩ (fun r_11 X_r_11 nw_r_11 H locs hr_11 hR => ?_)
          obtain ⟨rfl, rfl, g, rfl, hg⟩ := hr_11
          have hR : rR G A s.heap _ _ ([(ch, .inr (0, [.ref b1, .ref b2, .int (nI C.length)])), (b1, .inl (cE, 180, rfs f1)), (b2, .inl (cE, 180, rfs f2)), (t, .inr (5, [.ref r, .int (nI ((putL L uo_8).length))])), (r, .inl (cE, 120, rfs g))] ++ pl) := (xc_nil hR)
          rw [hQ]
          exact xc_vret (X1 := [(ch, .inr (0, [.ref b1, .ref b2, .int (nI C.length)])), (b1, .inl (cE, 180, rfs f1)), (b2, .inl (cE, 180, rfs f2)), (t, .inr (5, [.ref r, .int (nI ((putL L uo_8).length))])), (r, .inl (cE, 120, rfs g))]) (nw := []) hx hb hr hlocks (by rw [List.append_nil]; exact hR) ⟨rfl, rfl, g, by rw [eo_3, eo_8]; rfl, by rw [eo_3, eo_8]; exact hg⟩ dX0_apply_28
set_option maxHeartbeats 4000000 in
set_option maxRecDepth 100000 in
theorem c_takeBack (l : Launch) {G : va_G} {tys : List (ClassId × FieldType)} {cB cI cE cS : ClassId} (hT : tys = [(cB, .byte), (cI, .int), (cE, .object RX1), (cS, .object RX4)]) {pl : va_W} {sz : Nat} {ch b1 b2 : Nat} {f1 f2 : Nat → Option Nat} {C : List Cg} (hcr : cRows pl cB f1 f2 C) {t r : Nat} {f : Nat → Option Nat} {L : List En} (hrw : tRows pl cB f L) (hs : srt L) (i : Nat) (hi : i < C.length) (hex : exOK L (C.getD i c0).2 (C.getD i c0).1) : cMet l yX0_takeBack wsX0_takeBack ({ frames := 4, cells := 0, slots := 0, locals := 92 } : Room) G tys [.ref ch, .int (nI i), .ref t] [(ch, .inr (0, [.ref b1, .ref b2, .int (nI C.length)])), (b1, .inl (cE, 180, rfs f1)), (b2, .inl (cE, 180, rfs f2)), (t, .inr (5, [.ref r, .int (nI L.length)])), (r, .inl (cE, 120, rfs f))] pl sz 0 0 (fun o9 X1 nw => o9 = none ∧ nw = [] ∧ ∃ g : Nat → Option Nat, X1 = [(ch, .inr (0, [.ref b1, .ref b2, .int (nI C.length)])), (b1, .inl (cE, 180, rfs f1)), (b2, .inl (cE, 180, rfs f2)), (t, .inr (5, [.ref r, .int (nI ((exL L (C.getD i c0).2 (C.getD i c0).1).length))])), (r, .inl (cE, 120, rfs g))] ∧ tRows pl cB g (exL L (C.getD i c0).2 (C.getD i c0).1)) := by
  have hT0 : tys[0]? = some (cB, .byte) := by rw [hT]; rfl
  have hT1 : tys[1]? = some (cI, .int) := by rw [hT]; rfl
  have hT2 : tys[2]? = some (cE, .object RX1) := by rw [hT]; rfl
  have hT3 : tys[3]? = some (cS, .object RX4) := by rw [hT]; rfl
  refine Met.ofW (cc := cX0_takeBack) (maxL := 3) (ret := none) (by decide) rfl ?_
  intro p e s m args below meth c s₁ B hml hv
  obtain ⟨hargs, hsz, hP, hK, hD0, hZ⟩ := hv
  have hx := B.exec
  have hb := B.bytes
  have hr := B.returns
  have hts := atoms_spec (ws := wsX0_takeBack) B.pre
  have hown : s.vm.findClass RX0 = some m.cls := findClass_of_methodNamed B.named
  have hlocks := B.notSynchronized
  subst hsz
  have hD := hD0.self (sz := s.heap.size)
  obtain ⟨A, hAe⟩ : ∃ A : Nat → Prop, A = va_A ([(ch, .inr (0, [.ref b1, .ref b2, .int (nI C.length)])), (b1, .inl (cE, 180, rfs f1)), (b2, .inl (cE, 180, rfs f2)), (t, .inr (5, [.ref r, .int (nI L.length)])), (r, .inl (cE, 120, rfs f))] ++ pl) s.heap.size := ⟨_, rfl⟩
  rw [← hAe] at hD
  have hA : ∀ q : Nat, s.heap.size ≤ q → A q := fun q h => by rw [hAe]; exact Or.inr h
  have inX0 : ∀ w ∈ wsX00, w ∈ wsX0_takeBack := by decide +kernel
  have k_13 := hts (.fieldLink RX0 13 "MirrorKeep$Changes" "before" "[LMirrorKeep$Entry;") (by decide +kernel)
  have k_17 := hts (.fieldLink RX0 17 "MirrorKeep$Changes" "after" "[LMirrorKeep$Entry;") (by decide +kernel)
  have k_20 := hts (.fieldLink RX0 20 "MirrorKeep$Changes" "count" "I") (by decide +kernel)
  have hR : rR G A s.heap s.heap [] ([(ch, .inr (0, [.ref b1, .ref b2, .int (nI C.length)])), (b1, .inl (cE, 180, rfs f1)), (b2, .inl (cE, 180, rfs f2)), (t, .inr (5, [.ref r, .int (nI L.length)])), (r, .inl (cE, 120, rfs f))] ++ pl) := ⟨hP, hD, va_S.rf⟩
  obtain ⟨Q, hQ⟩ : ∃ Q : State → Prop, Q = MQ below (cQ G A pl (fun o9 X1 nw => o9 = none ∧ nw = [] ∧ ∃ g : Nat → Option Nat, X1 = [(ch, .inr (0, [.ref b1, .ref b2, .int (nI C.length)])), (b1, .inl (cE, 180, rfs f1)), (b2, .inl (cE, 180, rfs f2)), (t, .inr (5, [.ref r, .int (nI ((exL L (C.getD i c0).2 (C.getD i c0).1).length))])), (r, .inl (cE, 120, rfs g))] ∧ tRows pl cB g (exL L (C.getD i c0).2 (C.getD i c0).1))) args s 0 0 A := ⟨_, rfl⟩
  change W p l e ({ frames := 4, cells := 0, slots := 0, locals := 92 } : Room) s m args below meth c s.heap [] 0 0 (MQ below (cQ G (va_A ([(ch, .inr (0, [.ref b1, .ref b2, .int (nI C.length)])), (b1, .inl (cE, 180, rfs f1)), (b2, .inl (cE, 180, rfs f2)), (t, .inr (5, [.ref r, .int (nI L.length)])), (r, .inl (cE, 120, rfs f))] ++ pl) s.heap.size) pl (fun o9 X1 nw => o9 = none ∧ nw = [] ∧ ∃ g : Nat → Option Nat, X1 = [(ch, .inr (0, [.ref b1, .ref b2, .int (nI C.length)])), (b1, .inl (cE, 180, rfs f1)), (b2, .inl (cE, 180, rfs f2)), (t, .inr (5, [.ref r, .int (nI ((exL L (C.getD i c0).2 (C.getD i c0).1).length))])), (r, .inl (cE, 120, rfs g))] ∧ tRows pl cB g (exL L (C.getD i c0).2 (C.getD i c0).1))) args s 0 0 (va_A ([(ch, .inr (0, [.ref b1, .ref b2, .int (nI C.length)])), (b1, .inl (cE, 180, rfs f1)), (b2, .inl (cE, 180, rfs f2)), (t, .inr (5, [.ref r, .int (nI L.length)])), (r, .inl (cE, 120, rfs f))] ++ pl) s.heap.size)) (entryFrame m args 3)
  rw [← hAe]
  rw [← hQ]
  refine nn_entry hargs (Nat.le_of_ble_eq_true rfl) (lv := [(0, .ref ch), (1, .int (nI i)), (2, .ref t)]) rfl (fun ls hl => ?_)
  have hl180 := hcr.1
  refine lv_iload_n hx hb dX0_takeBack_0 rfl (lv_at hl 1 rfl) ?_
  refine nz_lt hx hb dX0_takeBack_1 (tgt := 28) (by decide) (by omega) (fun c_1 => ?_) (fun c_1 => ?_)
  · exact absurd c_1 (Nat.not_lt_zero _)
  · refine lv_iload_n hx hb dX0_takeBack_4 rfl (lv_at hl 1 rfl) ?_
    refine lv_aload_n hx hb dX0_takeBack_5 rfl (lv_at hl 0 rfl) ?_
    refine xg (ci := 0) (C := RX0) (T := TX0) (N := 3) (v := .int (nI C.length)) hx hb hts inX0 hown hK hR.1 (List.mem_of_getElem? (i := 0) rfl) rfl 2 (by decide) k_20 (fun _ h => h) rfl dX0_takeBack_6 ?_
    refine nn_ge hx hb dX0_takeBack_9 (tgt := 28) (by decide) (by omega) (by omega) (fun c_2 => ?_) (fun c_2 => ?_)
    · exact absurd c_2 (by omega)
    · refine lv_aload_n hx hb dX0_takeBack_12 rfl (lv_at hl 0 rfl) ?_
      refine xg (ci := 0) (C := RX0) (T := TX0) (N := 3) (v := .ref b2) hx hb hts inX0 hown hK hR.1 (List.mem_of_getElem? (i := 0) rfl) rfl 1 (by decide) k_17 (fun _ h => h) rfl dX0_takeBack_13 ?_
      refine lv_iload_n hx hb dX0_takeBack_16 rfl (lv_at hl 1 rfl) ?_
      refine xq_ld (t0 := 2) hx hb hK hT2 hR.1 (List.mem_of_getElem? (i := 2) rfl) (by omega) (by decide) dX0_takeBack_17 ?_
      rcases (hcr.2 i hi).2 with ⟨eo_3, ho_3⟩ | ⟨uo_3, ao_3, eo_3, ho_3, go_3⟩
      · refine nn_eqv (y := .null) (by rw [ho_3]; rfl) ?_
        refine lv_aload_n hx hb dX0_takeBack_18 rfl (lv_at hl 0 rfl) ?_
        refine xg (ci := 0) (C := RX0) (T := TX0) (N := 3) (v := .ref b1) hx hb hts inX0 hown hK hR.1 (List.mem_of_getElem? (i := 0) rfl) rfl 0 (by decide) k_13 (fun _ h => h) rfl dX0_takeBack_19 ?_
        refine lv_iload_n hx hb dX0_takeBack_22 rfl (lv_at hl 1 rfl) ?_
        refine xq_ld (t0 := 2) hx hb hK hT2 hR.1 (List.mem_of_getElem? (i := 1) rfl) (by omega) (by decide) dX0_takeBack_23 ?_
        rcases (hcr.2 i hi).1 with ⟨eo_5, ho_5⟩ | ⟨uo_5, ao_5, eo_5, ho_5, go_5⟩
        · refine nn_eqv (y := .null) (by rw [ho_5]; rfl) ?_
          refine lv_aload_n hx hb dX0_takeBack_24 rfl (lv_at hl 2 rfl) ?_
          rw [eo_3, eo_5] at hex
          obtain ⟨u9, hu9, -⟩ := hex
          cases hu9
        · refine nn_eqv (y := .ref ao_5) (by rw [ho_5]; rfl) ?_
          refine lv_aload_n hx hb dX0_takeBack_24 rfl (lv_at hl 2 rfl) ?_
          rw [eo_3, eo_5] at hex
          refine xc_callS (As := [.null, .ref ao_5, .ref t]) (rest := []) (cx := [(t, .inr (5, [.ref r, .int (nI L.length)])), (r, .inl (cE, 120, rfs f))]) (wr := [(ch, .inr (0, [.ref b1, .ref b2, .int (nI C.length)])), (b1, .inl (cE, 180, rfs f1)), (b2, .inl (cE, 180, rfs f2))]) (c_ex_nr l hT hrw go_5 hs hex.1 hex.2.1 hex.2.2) ⟨hx, hb, hml, hown, hts⟩ (va_cwS 3 hts gX0_takeBack_X0_exchange rfl rfl rfl (by decide +kernel) ⟨Nat.le_of_ble_eq_true rfl, Nat.le_of_ble_eq_true rfl⟩) hK hZ hR hA [3, 4] [0, 1, 2] rfl rfl (by decide) (by decide) (by decide) rfl hl.1 rfl (Nat.le_of_ble_eq_true rfl) dX0_takeBack_25 ⟨Nat.le_of_ble_eq_true rfl, Nat.le_of_ble_eq_true rfl⟩ (fun r_7 X_r_7 nw_r_7 H locs hr_7 hR => ?_)
          obtain ⟨rfl, rfl, g, rfl, hg⟩ := hr_7
          have hR : rR G A s.heap _ _ ([(ch, .inr (0, [.ref b1, .ref b2, .int (nI C.length)])), (b1, .inl (cE, 180, rfs f1)), (b2, .inl (cE, 180, rfs f2)), (t, .inr (5, [.ref r, .int (nI ((putL L uo_5).length))])), (r, .inl (cE, 120, rfs g))] ++ pl) := (xc_nil hR)
          rw [hQ]
          exact xc_vret (X1 := [(ch, .inr (0, [.ref b1, .ref b2, .int (nI C.length)])), (b1, .inl (cE, 180, rfs f1)), (b2, .inl (cE, 180, rfs f2)), (t, .inr (5, [.ref r, .int (nI ((putL L uo_5).length))])), (r, .inl (cE, 120, rfs g))]) (nw := []) hx hb hr hlocks (by rw [List.append_nil]; exact hR) ⟨rfl, rfl, g, by rw [eo_3, eo_5]; rfl, by rw [eo_3, eo_5]; exact hg⟩ dX0_takeBack_28
      · refine nn_eqv (y := .ref ao_3) (by rw [ho_3]; rfl) ?_
        refine lv_aload_n hx hb dX0_takeBack_18 rfl (lv_at hl 0 rfl) ?_
        refine xg (ci := 0) (C := RX0) (T := TX0) (N := 3) (v := .ref b1) hx hb hts inX0 hown hK hR.1 (List.mem_of_getElem? (i := 0) rfl) rfl 0 (by decide) k_13 (fun _ h => h) rfl dX0_takeBack_19 ?_
        refine lv_iload_n hx hb dX0_takeBack_22 rfl (lv_at hl 1 rfl) ?_
        refine xq_ld (t0 := 2) hx hb hK hT2 hR.1 (List.mem_of_getElem? (i := 1) rfl) (by omega) (by decide) dX0_takeBack_23 ?_
        rcases (hcr.2 i hi).1 with ⟨eo_8, ho_8⟩ | ⟨uo_8, ao_8, eo_8, ho_8, go_8⟩
        · refine nn_eqv (y := .null) (by rw [ho_8]; rfl) ?_
          refine lv_aload_n hx hb dX0_takeBack_24 rfl (lv_at hl 2 rfl) ?_
          rw [eo_3, eo_8] at hex
          obtain ⟨u9, hu9, hu8⟩ := hex
          cases hu9
          refine xc_callS (As := [.ref ao_3, .null, .ref t]) (rest := []) (cx := [(t, .inr (5, [.ref r, .int (nI L.length)])), (r, .inl (cE, 120, rfs f))]) (wr := [(ch, .inr (0, [.ref b1, .ref b2, .int (nI C.length)])), (b1, .inl (cE, 180, rfs f1)), (b2, .inl (cE, 180, rfs f2))]) (c_ex_rn l hT hrw go_3 hs hu8) ⟨hx, hb, hml, hown, hts⟩ (va_cwS 3 hts gX0_takeBack_X0_exchange rfl rfl rfl (by decide +kernel) ⟨Nat.le_of_ble_eq_true rfl, Nat.le_of_ble_eq_true rfl⟩) hK hZ hR hA [3, 4] [0, 1, 2] rfl rfl (by decide) (by decide) (by decide) rfl hl.1 rfl (Nat.le_of_ble_eq_true rfl) dX0_takeBack_25 ⟨Nat.le_of_ble_eq_true rfl, Nat.le_of_ble_eq_true rfl⟩ (fun r_10 X_r_10 nw_r_10 H locs hr_10 hR => ?_)
          obtain ⟨rfl, rfl, g, rfl, hg⟩ := hr_10
          have hR : rR G A s.heap _ _ ([(ch, .inr (0, [.ref b1, .ref b2, .int (nI C.length)])), (b1, .inl (cE, 180, rfs f1)), (b2, .inl (cE, 180, rfs f2)), (t, .inr (5, [.ref r, .int (nI ((drpL L (insI uo_3.1 L) 1).length))])), (r, .inl (cE, 120, rfs g))] ++ pl) := (xc_nil hR)
          rw [hQ]
          exact xc_vret (X1 := [(ch, .inr (0, [.ref b1, .ref b2, .int (nI C.length)])), (b1, .inl (cE, 180, rfs f1)), (b2, .inl (cE, 180, rfs f2)), (t, .inr (5, [.ref r, .int (nI ((drpL L (insI uo_3.1 L) 1).length))])), (r, .inl (cE, 120, rfs g))]) (nw := []) hx hb hr hlocks (by rw [List.append_nil]; exact hR) ⟨rfl, rfl, g, by rw [eo_3, eo_8]; rfl, by rw [eo_3, eo_8]; exact hg⟩ dX0_takeBack_28
        · refine nn_eqv (y := .ref ao_8) (by rw [ho_8]; rfl) ?_
          refine lv_aload_n hx hb dX0_takeBack_24 rfl (lv_at hl 2 rfl) ?_
          rw [eo_3, eo_8] at hex
          refine xc_callS (As := [.ref ao_3, .ref ao_8, .ref t]) (rest := []) (cx := [(t, .inr (5, [.ref r, .int (nI L.length)])), (r, .inl (cE, 120, rfs f))]) (wr := [(ch, .inr (0, [.ref b1, .ref b2, .int (nI C.length)])), (b1, .inl (cE, 180, rfs f1)), (b2, .inl (cE, 180, rfs f2))]) (c_ex_rr l hT hrw go_3 go_8 hs hex.1 hex.2.1 hex.2.2) ⟨hx, hb, hml, hown, hts⟩ (va_cwS 3 hts gX0_takeBack_X0_exchange rfl rfl rfl (by decide +kernel) ⟨Nat.le_of_ble_eq_true rfl, Nat.le_of_ble_eq_true rfl⟩) hK hZ hR hA [3, 4] [0, 1, 2] rfl rfl (by decide) (by decide) (by decide) rfl hl.1 rfl (Nat.le_of_ble_eq_true rfl) dX0_takeBack_25 ⟨Nat.le_of_ble_eq_true rfl, Nat.le_of_ble_eq_true rfl⟩ (fun r_11 X_r_11 nw_r_11 H locs hr_11 hR => ?_)
          obtain ⟨rfl, rfl, g, rfl, hg⟩ := hr_11
          have hR : rR G A s.heap _ _ ([(ch, .inr (0, [.ref b1, .ref b2, .int (nI C.length)])), (b1, .inl (cE, 180, rfs f1)), (b2, .inl (cE, 180, rfs f2)), (t, .inr (5, [.ref r, .int (nI ((putL L uo_8).length))])), (r, .inl (cE, 120, rfs g))] ++ pl) := (xc_nil hR)
          rw [hQ]
          exact xc_vret (X1 := [(ch, .inr (0, [.ref b1, .ref b2, .int (nI C.length)])), (b1, .inl (cE, 180, rfs f1)), (b2, .inl (cE, 180, rfs f2)), (t, .inr (5, [.ref r, .int (nI ((putL L uo_8).length))])), (r, .inl (cE, 120, rfs g))]) (nw := []) hx hb hr hlocks (by rw [List.append_nil]; exact hR) ⟨rfl, rfl, g, by rw [eo_3, eo_8]; rfl, by rw [eo_3, eo_8]; exact hg⟩ dX0_takeBack_28
set_option maxHeartbeats 4000000 in
set_option maxRecDepth 100000 in
theorem c_doNext (l : Launch) {G : va_G} {tys : List (ClassId × FieldType)} {cB cI cE cS : ClassId} (hT : tys = [(cB, .byte), (cI, .int), (cE, .object RX1), (cS, .object RX4)]) {pl : va_W} {sz : Nat} {ch b1 b2 : Nat} {f1 f2 : Nat → Option Nat} {C : List Cg} (hcr : cRows pl cB f1 f2 C) {t r : Nat} {f : Nat → Option Nat} {L : List En} (hrw : tRows pl cB f L) {wk : Nat} {tm : Int32} (dn : Nat) (hdn : dn ≤ 900) (hs : srt L) (hex : 2 ≤ dn ∧ dn ≤ 2 * C.length ∧ dn % 2 = 0 → exOK L (C.getD (dn / 2 - 1) c0).1 (C.getD (dn / 2 - 1) c0).2) : cMet l yX7_doNext wsX7_doNext ({ frames := 5, cells := 0, slots := 0, locals := 114 } : Room) G tys [.ref wk, .ref t] [(wk, .inr (6, [.ref ch, .int tm, .int (nI dn)])), (ch, .inr (0, [.ref b1, .ref b2, .int (nI C.length)])), (b1, .inl (cE, 180, rfs f1)), (b2, .inl (cE, 180, rfs f2)), (t, .inr (5, [.ref r, .int (nI L.length)])), (r, .inl (cE, 120, rfs f))] pl sz 0 0 (fun o9 X1 nw => o9 = none ∧ nw = [] ∧ ∃ g : Nat → Option Nat, X1 = [(wk, .inr (6, [.ref ch, .int tm, .int (nI (dn + 1))])), (ch, .inr (0, [.ref b1, .ref b2, .int (nI C.length)])), (b1, .inl (cE, 180, rfs f1)), (b2, .inl (cE, 180, rfs f2)), (t, .inr (5, [.ref r, .int (nI ((doL C dn L).length))])), (r, .inl (cE, 120, rfs g))] ∧ tRows pl cB g (doL C dn L)) := by
  have hT0 : tys[0]? = some (cB, .byte) := by rw [hT]; rfl
  have hT1 : tys[1]? = some (cI, .int) := by rw [hT]; rfl
  have hT2 : tys[2]? = some (cE, .object RX1) := by rw [hT]; rfl
  have hT3 : tys[3]? = some (cS, .object RX4) := by rw [hT]; rfl
  refine Met.ofW (cc := cX7_doNext) (maxL := 2) (ret := none) (by decide) rfl ?_
  intro p e s m args below meth c s₁ B hml hv
  obtain ⟨hargs, hsz, hP, hK, hD0, hZ⟩ := hv
  have hx := B.exec
  have hb := B.bytes
  have hr := B.returns
  have hts := atoms_spec (ws := wsX7_doNext) B.pre
  have hown : s.vm.findClass RX7 = some m.cls := findClass_of_methodNamed B.named
  have hlocks := B.notSynchronized
  subst hsz
  have hD := hD0.self (sz := s.heap.size)
  obtain ⟨A, hAe⟩ : ∃ A : Nat → Prop, A = va_A ([(wk, .inr (6, [.ref ch, .int tm, .int (nI dn)])), (ch, .inr (0, [.ref b1, .ref b2, .int (nI C.length)])), (b1, .inl (cE, 180, rfs f1)), (b2, .inl (cE, 180, rfs f2)), (t, .inr (5, [.ref r, .int (nI L.length)])), (r, .inl (cE, 120, rfs f))] ++ pl) s.heap.size := ⟨_, rfl⟩
  rw [← hAe] at hD
  have hA : ∀ q : Nat, s.heap.size ≤ q → A q := fun q h => by rw [hAe]; exact Or.inr h
  have inX7 : ∀ w ∈ wsX70, w ∈ wsX7_doNext := by decide +kernel
  have k_10 := hts (.fieldLink RX7 10 "MirrorKeep$Work" "changes" "LMirrorKeep$Changes;") (by decide +kernel)
  have k_20 := hts (.fieldLink RX7 20 "MirrorKeep$Work" "done" "I") (by decide +kernel)
  have hR : rR G A s.heap s.heap [] ([(wk, .inr (6, [.ref ch, .int tm, .int (nI dn)])), (ch, .inr (0, [.ref b1, .ref b2, .int (nI C.length)])), (b1, .inl (cE, 180, rfs f1)), (b2, .inl (cE, 180, rfs f2)), (t, .inr (5, [.ref r, .int (nI L.length)])), (r, .inl (cE, 120, rfs f))] ++ pl) := ⟨hP, hD, va_S.rf⟩
  obtain ⟨Q, hQ⟩ : ∃ Q : State → Prop, Q = MQ below (cQ G A pl (fun o9 X1 nw => o9 = none ∧ nw = [] ∧ ∃ g : Nat → Option Nat, X1 = [(wk, .inr (6, [.ref ch, .int tm, .int (nI (dn + 1))])), (ch, .inr (0, [.ref b1, .ref b2, .int (nI C.length)])), (b1, .inl (cE, 180, rfs f1)), (b2, .inl (cE, 180, rfs f2)), (t, .inr (5, [.ref r, .int (nI ((doL C dn L).length))])), (r, .inl (cE, 120, rfs g))] ∧ tRows pl cB g (doL C dn L))) args s 0 0 A := ⟨_, rfl⟩
  change W p l e ({ frames := 5, cells := 0, slots := 0, locals := 114 } : Room) s m args below meth c s.heap [] 0 0 (MQ below (cQ G (va_A ([(wk, .inr (6, [.ref ch, .int tm, .int (nI dn)])), (ch, .inr (0, [.ref b1, .ref b2, .int (nI C.length)])), (b1, .inl (cE, 180, rfs f1)), (b2, .inl (cE, 180, rfs f2)), (t, .inr (5, [.ref r, .int (nI L.length)])), (r, .inl (cE, 120, rfs f))] ++ pl) s.heap.size) pl (fun o9 X1 nw => o9 = none ∧ nw = [] ∧ ∃ g : Nat → Option Nat, X1 = [(wk, .inr (6, [.ref ch, .int tm, .int (nI (dn + 1))])), (ch, .inr (0, [.ref b1, .ref b2, .int (nI C.length)])), (b1, .inl (cE, 180, rfs f1)), (b2, .inl (cE, 180, rfs f2)), (t, .inr (5, [.ref r, .int (nI ((doL C dn L).length))])), (r, .inl (cE, 120, rfs g))] ∧ tRows pl cB g (doL C dn L))) args s 0 0 (va_A ([(wk, .inr (6, [.ref ch, .int tm, .int (nI dn)])), (ch, .inr (0, [.ref b1, .ref b2, .int (nI C.length)])), (b1, .inl (cE, 180, rfs f1)), (b2, .inl (cE, 180, rfs f2)), (t, .inr (5, [.ref r, .int (nI L.length)])), (r, .inl (cE, 120, rfs f))] ++ pl) s.heap.size)) (entryFrame m args 2)
  rw [← hAe]
  rw [← hQ]
  refine nn_entry hargs (Nat.le_of_ble_eq_true rfl) (lv := [(0, .ref wk), (1, .ref t)]) rfl (fun ls hl => ?_)
  refine lv_aload_n hx hb dX7_doNext_0 rfl (lv_at hl 0 rfl) ?_
  refine lv_aload_n hx hb dX7_doNext_1 rfl (lv_at hl 0 rfl) ?_
  refine xg (ci := 6) (C := RX7) (T := TX7) (N := 3) (v := .int (nI dn)) hx hb hts inX7 hown hK hR.1 (List.mem_of_getElem? (i := 0) rfl) rfl 2 (by decide) k_20 (fun _ h => h) rfl dX7_doNext_2 ?_
  refine pf_callV (C := RX7) (As := [.int (nI dn)]) (rest := []) (p_wupd l hT (cRows.rep hcr (List.mem_of_getElem? (i := 1) rfl) (List.mem_of_getElem? (i := 2) rfl) (List.mem_of_getElem? (i := 3) rfl)) (List.mem_of_getElem? (i := 0) rfl) (by omega) (dn) (by omega)) ⟨hx, hb, hml, hown, hts⟩ (cwV 1 hts gX7_doNext_X7_isUpdate rfl rfl rfl (by decide +kernel) ⟨Nat.le_of_ble_eq_true rfl, Nat.le_of_ble_eq_true rfl⟩) hK hR.1 (xrecv (ci := 6) hK hR.1 rfl (List.mem_of_getElem? (i := 0) rfl)) rfl hl.1 rfl (Nat.le_of_ble_eq_true rfl) dX7_doNext_5 ⟨Nat.le_of_ble_eq_true rfl, Nat.le_of_ble_eq_true rfl⟩ (fun r_1 hr_1 => ?_)
  subst hr_1
  refine nb_ifeq hx hb dX7_doNext_8 (tgt := 26) (by decide) (fun c_2 => ?_) (fun c_2 => ?_)
  · refine lv_aload_n hx hb dX7_doNext_26 rfl (lv_at hl 0 rfl) ?_
    refine lv_dup hx hb dX7_doNext_27 rfl ?_
    refine xg (ci := 6) (C := RX7) (T := TX7) (N := 3) (v := .int (nI dn)) hx hb hts inX7 hown hK hR.1 (List.mem_of_getElem? (i := 0) rfl) rfl 2 (by decide) k_20 (fun _ h => h) rfl dX7_doNext_28 ?_
    refine lv_iconst (v := nI 1) hx hb dX7_doNext_31 rfl ?_
    refine nn_add hx hb dX7_doNext_32 ?_
    refine va_put (D := G) (ci := 6) (v := .int (nI (dn + 1))) (ty := .int) (C := RX7) (T := TX7) (N := 3) hx hb hts inX7 tyX7 tyX7_ok nmX7 hown hK hR.1 hR.2.1 hR.2.2 0 rfl rfl 2 (by decide) k_20 (fun _ h => h) rfl (by decide +kernel) rfl rfl (Nat.le_of_ble_eq_true rfl) dX7_doNext_33 (fun H locs hP hD hS => ?_)
    have hR : rR G A s.heap _ _ ([(wk, .inr (6, [.ref ch, .int tm, .int (nI (dn + 1))])), (ch, .inr (0, [.ref b1, .ref b2, .int (nI C.length)])), (b1, .inl (cE, 180, rfs f1)), (b2, .inl (cE, 180, rfs f2)), (t, .inr (5, [.ref r, .int (nI L.length)])), (r, .inl (cE, 120, rfs f))] ++ pl) := ⟨hP, hD, hS⟩
    rw [hQ]
    exact xc_vret (X1 := [(wk, .inr (6, [.ref ch, .int tm, .int (nI (dn + 1))])), (ch, .inr (0, [.ref b1, .ref b2, .int (nI C.length)])), (b1, .inl (cE, 180, rfs f1)), (b2, .inl (cE, 180, rfs f2)), (t, .inr (5, [.ref r, .int (nI L.length)])), (r, .inl (cE, 120, rfs f))]) (nw := []) hx hb hr hlocks (by rw [List.append_nil]; exact hR) ⟨rfl, rfl, f, by rw [doL, if_neg (of_decide_eq_false (by assumption))], by rw [doL, if_neg (of_decide_eq_false (by assumption))]; exact hrw⟩ dX7_doNext_36
  · refine lv_aload_n hx hb dX7_doNext_11 rfl (lv_at hl 0 rfl) ?_
    refine xg (ci := 6) (C := RX7) (T := TX7) (N := 3) (v := .ref ch) hx hb hts inX7 hown hK hR.1 (List.mem_of_getElem? (i := 0) rfl) rfl 0 (by decide) k_10 (fun _ h => h) rfl dX7_doNext_12 ?_
    refine lv_aload_n hx hb dX7_doNext_15 rfl (lv_at hl 0 rfl) ?_
    refine xg (ci := 6) (C := RX7) (T := TX7) (N := 3) (v := .int (nI dn)) hx hb hts inX7 hown hK hR.1 (List.mem_of_getElem? (i := 0) rfl) rfl 2 (by decide) k_20 (fun _ h => h) rfl dX7_doNext_16 ?_
    have hup := of_decide_eq_true (by assumption : decide (2 ≤ dn ∧ dn ≤ 2 * C.length ∧ (dn) % 2 = 0) = true)
    refine pf_callS (As := [.int (nI dn)]) (rest := [.ref ch]) (p_chgOf l hT (w := ([(wk, .inr (6, [.ref ch, .int tm, .int (nI dn)])), (ch, .inr (0, [.ref b1, .ref b2, .int (nI C.length)])), (b1, .inl (cE, 180, rfs f1)), (b2, .inl (cE, 180, rfs f2)), (t, .inr (5, [.ref r, .int (nI L.length)])), (r, .inl (cE, 120, rfs f))] ++ pl)) (dn) (by omega) hup.1) ⟨hx, hb, hml, hown, hts⟩ (va_cwS 1 hts gX7_doNext_X7_changeOf rfl rfl rfl (by decide +kernel) ⟨Nat.le_of_ble_eq_true rfl, Nat.le_of_ble_eq_true rfl⟩) hK hR.1 rfl hl.1 rfl (Nat.le_of_ble_eq_true rfl) dX7_doNext_19 ⟨Nat.le_of_ble_eq_true rfl, Nat.le_of_ble_eq_true rfl⟩ (fun r_3 hr_3 => ?_)
    subst hr_3
    refine lv_aload_n hx hb dX7_doNext_22 rfl (lv_at hl 1 rfl) ?_
    refine xc_callV (C := RX0) (As := [.int (nI ((dn) / 2 - 1)), .ref t]) (rest := []) (cx := [(ch, .inr (0, [.ref b1, .ref b2, .int (nI C.length)])), (b1, .inl (cE, 180, rfs f1)), (b2, .inl (cE, 180, rfs f2)), (t, .inr (5, [.ref r, .int (nI L.length)])), (r, .inl (cE, 120, rfs f))]) (wr := [(wk, .inr (6, [.ref ch, .int tm, .int (nI dn)]))]) (c_apply l hT hcr hrw hs ((dn) / 2 - 1) (by omega) (hex hup)) ⟨hx, hb, hml, hown, hts⟩ (cwV 2 hts gX7_doNext_X0_apply rfl rfl rfl (by decide +kernel) ⟨Nat.le_of_ble_eq_true rfl, Nat.le_of_ble_eq_true rfl⟩) hK hZ hR hA (xrecv (ci := 0) hK hR.1 rfl (List.mem_of_getElem? (i := 1) rfl)) [1, 2, 3, 4, 5] [0] rfl rfl (by decide) (by decide) (by decide) rfl hl.1 rfl (Nat.le_of_ble_eq_true rfl) dX7_doNext_23 ⟨Nat.le_of_ble_eq_true rfl, Nat.le_of_ble_eq_true rfl⟩ (fun r_4 X_r_4 nw_r_4 H locs hr_4 hR => ?_)
    obtain ⟨rfl, rfl, g, rfl, hg⟩ := hr_4
    have hR : rR G A s.heap _ _ ([(wk, .inr (6, [.ref ch, .int tm, .int (nI dn)])), (ch, .inr (0, [.ref b1, .ref b2, .int (nI C.length)])), (b1, .inl (cE, 180, rfs f1)), (b2, .inl (cE, 180, rfs f2)), (t, .inr (5, [.ref r, .int (nI ((exL L (C.getD ((dn) / 2 - 1) c0).1 (C.getD ((dn) / 2 - 1) c0).2).length))])), (r, .inl (cE, 120, rfs g))] ++ pl) := (xc_nil hR)
    refine lv_aload_n hx hb dX7_doNext_26 rfl (lv_at hl 0 rfl) ?_
    refine lv_dup hx hb dX7_doNext_27 rfl ?_
    refine xg (ci := 6) (C := RX7) (T := TX7) (N := 3) (v := .int (nI dn)) hx hb hts inX7 hown hK hR.1 (List.mem_of_getElem? (i := 0) rfl) rfl 2 (by decide) k_20 (fun _ h => h) rfl dX7_doNext_28 ?_
    refine lv_iconst (v := nI 1) hx hb dX7_doNext_31 rfl ?_
    refine nn_add hx hb dX7_doNext_32 ?_
    refine va_put (D := G) (ci := 6) (v := .int (nI (dn + 1))) (ty := .int) (C := RX7) (T := TX7) (N := 3) hx hb hts inX7 tyX7 tyX7_ok nmX7 hown hK hR.1 hR.2.1 hR.2.2 0 rfl rfl 2 (by decide) k_20 (fun _ h => h) rfl (by decide +kernel) rfl rfl (Nat.le_of_ble_eq_true rfl) dX7_doNext_33 (fun H locs hP hD hS => ?_)
    have hR : rR G A s.heap _ _ ([(wk, .inr (6, [.ref ch, .int tm, .int (nI (dn + 1))])), (ch, .inr (0, [.ref b1, .ref b2, .int (nI C.length)])), (b1, .inl (cE, 180, rfs f1)), (b2, .inl (cE, 180, rfs f2)), (t, .inr (5, [.ref r, .int (nI ((exL L (C.getD ((dn) / 2 - 1) c0).1 (C.getD ((dn) / 2 - 1) c0).2).length))])), (r, .inl (cE, 120, rfs g))] ++ pl) := ⟨hP, hD, hS⟩
    rw [hQ]
    exact xc_vret (X1 := [(wk, .inr (6, [.ref ch, .int tm, .int (nI (dn + 1))])), (ch, .inr (0, [.ref b1, .ref b2, .int (nI C.length)])), (b1, .inl (cE, 180, rfs f1)), (b2, .inl (cE, 180, rfs f2)), (t, .inr (5, [.ref r, .int (nI ((exL L (C.getD ((dn) / 2 - 1) c0).1 (C.getD ((dn) / 2 - 1) c0).2).length))])), (r, .inl (cE, 120, rfs g))]) (nw := []) hx hb hr hlocks (by rw [List.append_nil]; exact hR) ⟨rfl, rfl, g, by rw [doL, if_pos hup], by rw [doL, if_pos hup]; exact hg⟩ dX7_doNext_36
set_option maxHeartbeats 4000000 in
set_option maxRecDepth 100000 in
theorem c_takeBackLast (l : Launch) {G : va_G} {tys : List (ClassId × FieldType)} {cB cI cE cS : ClassId} (hT : tys = [(cB, .byte), (cI, .int), (cE, .object RX1), (cS, .object RX4)]) {pl : va_W} {sz : Nat} {ch b1 b2 : Nat} {f1 f2 : Nat → Option Nat} {C : List Cg} (hcr : cRows pl cB f1 f2 C) {t r : Nat} {f : Nat → Option Nat} {L : List En} (hrw : tRows pl cB f L) {wk : Nat} {tm : Int32} (dn : Nat) (hdn : dn ≤ 900) (hs : srt L) (hd1 : 1 ≤ dn) (hex : 2 ≤ dn - 1 ∧ dn - 1 ≤ 2 * C.length ∧ (dn - 1) % 2 = 0 → exOK L (C.getD ((dn - 1) / 2 - 1) c0).2 (C.getD ((dn - 1) / 2 - 1) c0).1) : cMet l yX7_takeBackLast wsX7_takeBackLast ({ frames := 5, cells := 0, slots := 0, locals := 114 } : Room) G tys [.ref wk, .ref t] [(wk, .inr (6, [.ref ch, .int tm, .int (nI dn)])), (ch, .inr (0, [.ref b1, .ref b2, .int (nI C.length)])), (b1, .inl (cE, 180, rfs f1)), (b2, .inl (cE, 180, rfs f2)), (t, .inr (5, [.ref r, .int (nI L.length)])), (r, .inl (cE, 120, rfs f))] pl sz 0 0 (fun o9 X1 nw => o9 = none ∧ nw = [] ∧ ∃ g : Nat → Option Nat, X1 = [(wk, .inr (6, [.ref ch, .int tm, .int (nI (dn - 1))])), (ch, .inr (0, [.ref b1, .ref b2, .int (nI C.length)])), (b1, .inl (cE, 180, rfs f1)), (b2, .inl (cE, 180, rfs f2)), (t, .inr (5, [.ref r, .int (nI ((bkL C (dn - 1) L).length))])), (r, .inl (cE, 120, rfs g))] ∧ tRows pl cB g (bkL C (dn - 1) L)) := by
  have hT0 : tys[0]? = some (cB, .byte) := by rw [hT]; rfl
  have hT1 : tys[1]? = some (cI, .int) := by rw [hT]; rfl
  have hT2 : tys[2]? = some (cE, .object RX1) := by rw [hT]; rfl
  have hT3 : tys[3]? = some (cS, .object RX4) := by rw [hT]; rfl
  refine Met.ofW (cc := cX7_takeBackLast) (maxL := 2) (ret := none) (by decide) rfl ?_
  intro p e s m args below meth c s₁ B hml hv
  obtain ⟨hargs, hsz, hP, hK, hD0, hZ⟩ := hv
  have hx := B.exec
  have hb := B.bytes
  have hr := B.returns
  have hts := atoms_spec (ws := wsX7_takeBackLast) B.pre
  have hown : s.vm.findClass RX7 = some m.cls := findClass_of_methodNamed B.named
  have hlocks := B.notSynchronized
  subst hsz
  have hD := hD0.self (sz := s.heap.size)
  obtain ⟨A, hAe⟩ : ∃ A : Nat → Prop, A = va_A ([(wk, .inr (6, [.ref ch, .int tm, .int (nI dn)])), (ch, .inr (0, [.ref b1, .ref b2, .int (nI C.length)])), (b1, .inl (cE, 180, rfs f1)), (b2, .inl (cE, 180, rfs f2)), (t, .inr (5, [.ref r, .int (nI L.length)])), (r, .inl (cE, 120, rfs f))] ++ pl) s.heap.size := ⟨_, rfl⟩
  rw [← hAe] at hD
  have hA : ∀ q : Nat, s.heap.size ≤ q → A q := fun q h => by rw [hAe]; exact Or.inr h
  have inX7 : ∀ w ∈ wsX70, w ∈ wsX7_takeBackLast := by decide +kernel
  have k_10 := hts (.fieldLink RX7 10 "MirrorKeep$Work" "changes" "LMirrorKeep$Changes;") (by decide +kernel)
  have k_20 := hts (.fieldLink RX7 20 "MirrorKeep$Work" "done" "I") (by decide +kernel)
  have hR : rR G A s.heap s.heap [] ([(wk, .inr (6, [.ref ch, .int tm, .int (nI dn)])), (ch, .inr (0, [.ref b1, .ref b2, .int (nI C.length)])), (b1, .inl (cE, 180, rfs f1)), (b2, .inl (cE, 180, rfs f2)), (t, .inr (5, [.ref r, .int (nI L.length)])), (r, .inl (cE, 120, rfs f))] ++ pl) := ⟨hP, hD, va_S.rf⟩
  obtain ⟨Q, hQ⟩ : ∃ Q : State → Prop, Q = MQ below (cQ G A pl (fun o9 X1 nw => o9 = none ∧ nw = [] ∧ ∃ g : Nat → Option Nat, X1 = [(wk, .inr (6, [.ref ch, .int tm, .int (nI (dn - 1))])), (ch, .inr (0, [.ref b1, .ref b2, .int (nI C.length)])), (b1, .inl (cE, 180, rfs f1)), (b2, .inl (cE, 180, rfs f2)), (t, .inr (5, [.ref r, .int (nI ((bkL C (dn - 1) L).length))])), (r, .inl (cE, 120, rfs g))] ∧ tRows pl cB g (bkL C (dn - 1) L))) args s 0 0 A := ⟨_, rfl⟩
  change W p l e ({ frames := 5, cells := 0, slots := 0, locals := 114 } : Room) s m args below meth c s.heap [] 0 0 (MQ below (cQ G (va_A ([(wk, .inr (6, [.ref ch, .int tm, .int (nI dn)])), (ch, .inr (0, [.ref b1, .ref b2, .int (nI C.length)])), (b1, .inl (cE, 180, rfs f1)), (b2, .inl (cE, 180, rfs f2)), (t, .inr (5, [.ref r, .int (nI L.length)])), (r, .inl (cE, 120, rfs f))] ++ pl) s.heap.size) pl (fun o9 X1 nw => o9 = none ∧ nw = [] ∧ ∃ g : Nat → Option Nat, X1 = [(wk, .inr (6, [.ref ch, .int tm, .int (nI (dn - 1))])), (ch, .inr (0, [.ref b1, .ref b2, .int (nI C.length)])), (b1, .inl (cE, 180, rfs f1)), (b2, .inl (cE, 180, rfs f2)), (t, .inr (5, [.ref r, .int (nI ((bkL C (dn - 1) L).length))])), (r, .inl (cE, 120, rfs g))] ∧ tRows pl cB g (bkL C (dn - 1) L))) args s 0 0 (va_A ([(wk, .inr (6, [.ref ch, .int tm, .int (nI dn)])), (ch, .inr (0, [.ref b1, .ref b2, .int (nI C.length)])), (b1, .inl (cE, 180, rfs f1)), (b2, .inl (cE, 180, rfs f2)), (t, .inr (5, [.ref r, .int (nI L.length)])), (r, .inl (cE, 120, rfs f))] ++ pl) s.heap.size)) (entryFrame m args 2)
  rw [← hAe]
  rw [← hQ]
  refine nn_entry hargs (Nat.le_of_ble_eq_true rfl) (lv := [(0, .ref wk), (1, .ref t)]) rfl (fun ls hl => ?_)
  refine lv_aload_n hx hb dX7_takeBackLast_0 rfl (lv_at hl 0 rfl) ?_
  refine lv_dup hx hb dX7_takeBackLast_1 rfl ?_
  refine xg (ci := 6) (C := RX7) (T := TX7) (N := 3) (v := .int (nI dn)) hx hb hts inX7 hown hK hR.1 (List.mem_of_getElem? (i := 0) rfl) rfl 2 (by decide) k_20 (fun _ h => h) rfl dX7_takeBackLast_2 ?_
  refine lv_iconst (v := nI 1) hx hb dX7_takeBackLast_5 rfl ?_
  refine nn_sub hx hb (by omega) dX7_takeBackLast_6 ?_
  refine va_put (D := G) (ci := 6) (v := .int (nI (dn - 1))) (ty := .int) (C := RX7) (T := TX7) (N := 3) hx hb hts inX7 tyX7 tyX7_ok nmX7 hown hK hR.1 hR.2.1 hR.2.2 0 rfl rfl 2 (by decide) k_20 (fun _ h => h) rfl (by decide +kernel) rfl rfl (Nat.le_of_ble_eq_true rfl) dX7_takeBackLast_7 (fun H locs hP hD hS => ?_)
  have hR : rR G A s.heap _ _ ([(wk, .inr (6, [.ref ch, .int tm, .int (nI (dn - 1))])), (ch, .inr (0, [.ref b1, .ref b2, .int (nI C.length)])), (b1, .inl (cE, 180, rfs f1)), (b2, .inl (cE, 180, rfs f2)), (t, .inr (5, [.ref r, .int (nI L.length)])), (r, .inl (cE, 120, rfs f))] ++ pl) := ⟨hP, hD, hS⟩
  refine lv_aload_n hx hb dX7_takeBackLast_10 rfl (lv_at hl 0 rfl) ?_
  refine lv_aload_n hx hb dX7_takeBackLast_11 rfl (lv_at hl 0 rfl) ?_
  refine xg (ci := 6) (C := RX7) (T := TX7) (N := 3) (v := .int (nI (dn - 1))) hx hb hts inX7 hown hK hR.1 (List.mem_of_getElem? (i := 0) rfl) rfl 2 (by decide) k_20 (fun _ h => h) rfl dX7_takeBackLast_12 ?_
  refine pf_callV (C := RX7) (As := [.int (nI (dn - 1))]) (rest := []) (p_wupd l hT (cRows.rep hcr (List.mem_of_getElem? (i := 1) rfl) (List.mem_of_getElem? (i := 2) rfl) (List.mem_of_getElem? (i := 3) rfl)) (List.mem_of_getElem? (i := 0) rfl) (by omega) (dn - 1) (by omega)) ⟨hx, hb, hml, hown, hts⟩ (cwV 1 hts gX7_takeBackLast_X7_isUpdate rfl rfl rfl (by decide +kernel) ⟨Nat.le_of_ble_eq_true rfl, Nat.le_of_ble_eq_true rfl⟩) hK hR.1 (xrecv (ci := 6) hK hR.1 rfl (List.mem_of_getElem? (i := 0) rfl)) rfl hl.1 rfl (Nat.le_of_ble_eq_true rfl) dX7_takeBackLast_15 ⟨Nat.le_of_ble_eq_true rfl, Nat.le_of_ble_eq_true rfl⟩ (fun r_1 hr_1 => ?_)
  subst hr_1
  refine nb_ifeq hx hb dX7_takeBackLast_18 (tgt := 36) (by decide) (fun c_2 => ?_) (fun c_2 => ?_)
  · rw [hQ]
    exact xc_vret (X1 := [(wk, .inr (6, [.ref ch, .int tm, .int (nI (dn - 1))])), (ch, .inr (0, [.ref b1, .ref b2, .int (nI C.length)])), (b1, .inl (cE, 180, rfs f1)), (b2, .inl (cE, 180, rfs f2)), (t, .inr (5, [.ref r, .int (nI L.length)])), (r, .inl (cE, 120, rfs f))]) (nw := []) hx hb hr hlocks (by rw [List.append_nil]; exact hR) ⟨rfl, rfl, f, by rw [bkL, if_neg (of_decide_eq_false (by assumption))], by rw [bkL, if_neg (of_decide_eq_false (by assumption))]; exact hrw⟩ dX7_takeBackLast_36
  · refine lv_aload_n hx hb dX7_takeBackLast_21 rfl (lv_at hl 0 rfl) ?_
    refine xg (ci := 6) (C := RX7) (T := TX7) (N := 3) (v := .ref ch) hx hb hts inX7 hown hK hR.1 (List.mem_of_getElem? (i := 0) rfl) rfl 0 (by decide) k_10 (fun _ h => h) rfl dX7_takeBackLast_22 ?_
    refine lv_aload_n hx hb dX7_takeBackLast_25 rfl (lv_at hl 0 rfl) ?_
    refine xg (ci := 6) (C := RX7) (T := TX7) (N := 3) (v := .int (nI (dn - 1))) hx hb hts inX7 hown hK hR.1 (List.mem_of_getElem? (i := 0) rfl) rfl 2 (by decide) k_20 (fun _ h => h) rfl dX7_takeBackLast_26 ?_
    have hup := of_decide_eq_true (by assumption : decide (2 ≤ dn - 1 ∧ dn - 1 ≤ 2 * C.length ∧ (dn - 1) % 2 = 0) = true)
    refine pf_callS (As := [.int (nI (dn - 1))]) (rest := [.ref ch]) (p_chgOf l hT (w := ([(wk, .inr (6, [.ref ch, .int tm, .int (nI (dn - 1))])), (ch, .inr (0, [.ref b1, .ref b2, .int (nI C.length)])), (b1, .inl (cE, 180, rfs f1)), (b2, .inl (cE, 180, rfs f2)), (t, .inr (5, [.ref r, .int (nI L.length)])), (r, .inl (cE, 120, rfs f))] ++ pl)) (dn - 1) (by omega) hup.1) ⟨hx, hb, hml, hown, hts⟩ (va_cwS 1 hts gX7_takeBackLast_X7_changeOf rfl rfl rfl (by decide +kernel) ⟨Nat.le_of_ble_eq_true rfl, Nat.le_of_ble_eq_true rfl⟩) hK hR.1 rfl hl.1 rfl (Nat.le_of_ble_eq_true rfl) dX7_takeBackLast_29 ⟨Nat.le_of_ble_eq_true rfl, Nat.le_of_ble_eq_true rfl⟩ (fun r_3 hr_3 => ?_)
    subst hr_3
    refine lv_aload_n hx hb dX7_takeBackLast_32 rfl (lv_at hl 1 rfl) ?_
    refine xc_callV (C := RX0) (As := [.int (nI ((dn - 1) / 2 - 1)), .ref t]) (rest := []) (cx := [(ch, .inr (0, [.ref b1, .ref b2, .int (nI C.length)])), (b1, .inl (cE, 180, rfs f1)), (b2, .inl (cE, 180, rfs f2)), (t, .inr (5, [.ref r, .int (nI L.length)])), (r, .inl (cE, 120, rfs f))]) (wr := [(wk, .inr (6, [.ref ch, .int tm, .int (nI (dn - 1))]))]) (c_takeBack l hT hcr hrw hs ((dn - 1) / 2 - 1) (by omega) (hex hup)) ⟨hx, hb, hml, hown, hts⟩ (cwV 2 hts gX7_takeBackLast_X0_takeBack rfl rfl rfl (by decide +kernel) ⟨Nat.le_of_ble_eq_true rfl, Nat.le_of_ble_eq_true rfl⟩) hK hZ hR hA (xrecv (ci := 0) hK hR.1 rfl (List.mem_of_getElem? (i := 1) rfl)) [1, 2, 3, 4, 5] [0] rfl rfl (by decide) (by decide) (by decide) rfl hl.1 rfl (Nat.le_of_ble_eq_true rfl) dX7_takeBackLast_33 ⟨Nat.le_of_ble_eq_true rfl, Nat.le_of_ble_eq_true rfl⟩ (fun r_4 X_r_4 nw_r_4 H locs hr_4 hR => ?_)
    obtain ⟨rfl, rfl, g, rfl, hg⟩ := hr_4
    have hR : rR G A s.heap _ _ ([(wk, .inr (6, [.ref ch, .int tm, .int (nI (dn - 1))])), (ch, .inr (0, [.ref b1, .ref b2, .int (nI C.length)])), (b1, .inl (cE, 180, rfs f1)), (b2, .inl (cE, 180, rfs f2)), (t, .inr (5, [.ref r, .int (nI ((exL L (C.getD ((dn - 1) / 2 - 1) c0).2 (C.getD ((dn - 1) / 2 - 1) c0).1).length))])), (r, .inl (cE, 120, rfs g))] ++ pl) := (xc_nil hR)
    rw [hQ]
    exact xc_vret (X1 := [(wk, .inr (6, [.ref ch, .int tm, .int (nI (dn - 1))])), (ch, .inr (0, [.ref b1, .ref b2, .int (nI C.length)])), (b1, .inl (cE, 180, rfs f1)), (b2, .inl (cE, 180, rfs f2)), (t, .inr (5, [.ref r, .int (nI ((exL L (C.getD ((dn - 1) / 2 - 1) c0).2 (C.getD ((dn - 1) / 2 - 1) c0).1).length))])), (r, .inl (cE, 120, rfs g))]) (nw := []) hx hb hr hlocks (by rw [List.append_nil]; exact hR) ⟨rfl, rfl, g, by rw [bkL, if_pos hup], by rw [bkL, if_pos hup]; exact hg⟩ dX7_takeBackLast_36
set_option maxHeartbeats 4000000 in
set_option maxRecDepth 100000 in
theorem c_start (l : Launch) {G : va_G} {tys : List (ClassId × FieldType)} {cB cI cE cS : ClassId} (hT : tys = [(cB, .byte), (cI, .int), (cE, .object RX1), (cS, .object RX4)]) {pl : va_W} {sz : Nat} {ch b1 b2 : Nat} {f1 f2 : Nat → Option Nat} {C : List Cg} (hcr : cRows pl cB f1 f2 C) {t1 r1 t2 r2 : Nat} {h1 h2 : Nat → Option Nat} {S T : List En} (hS9 : tRows pl cB h1 S) (hT9 : tRows pl cB h2 T) (hlen : S.length + T.length ≤ 180) {wk : Nat} {tm : Int32} {dn : Nat} (tm2 : Int32) : cMet l yX7_start wsX7_start ({ frames := 3, cells := 0, slots := 0, locals := 72 } : Room) G tys [.ref wk, .int tm2, .ref t1, .ref t2] [(wk, .inr (6, [.ref ch, .int tm, .int (nI dn)])), (ch, .inr (0, [.ref b1, .ref b2, .int (nI C.length)])), (b1, .inl (cE, 180, rfs f1)), (b2, .inl (cE, 180, rfs f2)), (t1, .inr (5, [.ref r1, .int (nI S.length)])), (r1, .inl (cE, 120, rfs h1)), (t2, .inr (5, [.ref r2, .int (nI T.length)])), (r2, .inl (cE, 120, rfs h2))] pl sz 0 0 (fun o9 X1 nw => o9 = none ∧ nw = [] ∧ ∃ g1 g2 : Nat → Option Nat, X1 = [(wk, .inr (6, [.ref ch, .int tm2, .int (nI 0)])), (ch, .inr (0, [.ref b1, .ref b2, .int (nI ((chg S T).length))])), (b1, .inl (cE, 180, rfs g1)), (b2, .inl (cE, 180, rfs g2)), (t1, .inr (5, [.ref r1, .int (nI S.length)])), (r1, .inl (cE, 120, rfs h1)), (t2, .inr (5, [.ref r2, .int (nI T.length)])), (r2, .inl (cE, 120, rfs h2))] ∧ cRows pl cB g1 g2 (chg S T)) := by
  have hT0 : tys[0]? = some (cB, .byte) := by rw [hT]; rfl
  have hT1 : tys[1]? = some (cI, .int) := by rw [hT]; rfl
  have hT2 : tys[2]? = some (cE, .object RX1) := by rw [hT]; rfl
  have hT3 : tys[3]? = some (cS, .object RX4) := by rw [hT]; rfl
  refine Met.ofW (cc := cX7_start) (maxL := 4) (ret := none) (by decide) rfl ?_
  intro p e s m args below meth c s₁ B hml hv
  obtain ⟨hargs, hsz, hP, hK, hD0, hZ⟩ := hv
  have hx := B.exec
  have hb := B.bytes
  have hr := B.returns
  have hts := atoms_spec (ws := wsX7_start) B.pre
  have hown : s.vm.findClass RX7 = some m.cls := findClass_of_methodNamed B.named
  have hlocks := B.notSynchronized
  subst hsz
  have hD := hD0.self (sz := s.heap.size)
  obtain ⟨A, hAe⟩ : ∃ A : Nat → Prop, A = va_A ([(wk, .inr (6, [.ref ch, .int tm, .int (nI dn)])), (ch, .inr (0, [.ref b1, .ref b2, .int (nI C.length)])), (b1, .inl (cE, 180, rfs f1)), (b2, .inl (cE, 180, rfs f2)), (t1, .inr (5, [.ref r1, .int (nI S.length)])), (r1, .inl (cE, 120, rfs h1)), (t2, .inr (5, [.ref r2, .int (nI T.length)])), (r2, .inl (cE, 120, rfs h2))] ++ pl) s.heap.size := ⟨_, rfl⟩
  rw [← hAe] at hD
  have hA : ∀ q : Nat, s.heap.size ≤ q → A q := fun q h => by rw [hAe]; exact Or.inr h
  have inX7 : ∀ w ∈ wsX70, w ∈ wsX7_start := by decide +kernel
  have k_10 := hts (.fieldLink RX7 10 "MirrorKeep$Work" "changes" "LMirrorKeep$Changes;") (by decide +kernel)
  have k_16 := hts (.fieldLink RX7 16 "MirrorKeep$Work" "time" "I") (by decide +kernel)
  have k_20 := hts (.fieldLink RX7 20 "MirrorKeep$Work" "done" "I") (by decide +kernel)
  have hR : rR G A s.heap s.heap [] ([(wk, .inr (6, [.ref ch, .int tm, .int (nI dn)])), (ch, .inr (0, [.ref b1, .ref b2, .int (nI C.length)])), (b1, .inl (cE, 180, rfs f1)), (b2, .inl (cE, 180, rfs f2)), (t1, .inr (5, [.ref r1, .int (nI S.length)])), (r1, .inl (cE, 120, rfs h1)), (t2, .inr (5, [.ref r2, .int (nI T.length)])), (r2, .inl (cE, 120, rfs h2))] ++ pl) := ⟨hP, hD, va_S.rf⟩
  obtain ⟨Q, hQ⟩ : ∃ Q : State → Prop, Q = MQ below (cQ G A pl (fun o9 X1 nw => o9 = none ∧ nw = [] ∧ ∃ g1 g2 : Nat → Option Nat, X1 = [(wk, .inr (6, [.ref ch, .int tm2, .int (nI 0)])), (ch, .inr (0, [.ref b1, .ref b2, .int (nI ((chg S T).length))])), (b1, .inl (cE, 180, rfs g1)), (b2, .inl (cE, 180, rfs g2)), (t1, .inr (5, [.ref r1, .int (nI S.length)])), (r1, .inl (cE, 120, rfs h1)), (t2, .inr (5, [.ref r2, .int (nI T.length)])), (r2, .inl (cE, 120, rfs h2))] ∧ cRows pl cB g1 g2 (chg S T))) args s 0 0 A := ⟨_, rfl⟩
  change W p l e ({ frames := 3, cells := 0, slots := 0, locals := 72 } : Room) s m args below meth c s.heap [] 0 0 (MQ below (cQ G (va_A ([(wk, .inr (6, [.ref ch, .int tm, .int (nI dn)])), (ch, .inr (0, [.ref b1, .ref b2, .int (nI C.length)])), (b1, .inl (cE, 180, rfs f1)), (b2, .inl (cE, 180, rfs f2)), (t1, .inr (5, [.ref r1, .int (nI S.length)])), (r1, .inl (cE, 120, rfs h1)), (t2, .inr (5, [.ref r2, .int (nI T.length)])), (r2, .inl (cE, 120, rfs h2))] ++ pl) s.heap.size) pl (fun o9 X1 nw => o9 = none ∧ nw = [] ∧ ∃ g1 g2 : Nat → Option Nat, X1 = [(wk, .inr (6, [.ref ch, .int tm2, .int (nI 0)])), (ch, .inr (0, [.ref b1, .ref b2, .int (nI ((chg S T).length))])), (b1, .inl (cE, 180, rfs g1)), (b2, .inl (cE, 180, rfs g2)), (t1, .inr (5, [.ref r1, .int (nI S.length)])), (r1, .inl (cE, 120, rfs h1)), (t2, .inr (5, [.ref r2, .int (nI T.length)])), (r2, .inl (cE, 120, rfs h2))] ∧ cRows pl cB g1 g2 (chg S T))) args s 0 0 (va_A ([(wk, .inr (6, [.ref ch, .int tm, .int (nI dn)])), (ch, .inr (0, [.ref b1, .ref b2, .int (nI C.length)])), (b1, .inl (cE, 180, rfs f1)), (b2, .inl (cE, 180, rfs f2)), (t1, .inr (5, [.ref r1, .int (nI S.length)])), (r1, .inl (cE, 120, rfs h1)), (t2, .inr (5, [.ref r2, .int (nI T.length)])), (r2, .inl (cE, 120, rfs h2))] ++ pl) s.heap.size)) (entryFrame m args 4)
  rw [← hAe]
  rw [← hQ]
  refine nn_entry hargs (Nat.le_of_ble_eq_true rfl) (lv := [(0, .ref wk), (1, .int tm2), (2, .ref t1), (3, .ref t2)]) rfl (fun ls hl => ?_)
  refine lv_aload_n hx hb dX7_start_0 rfl (lv_at hl 0 rfl) ?_
  refine xg (ci := 6) (C := RX7) (T := TX7) (N := 3) (v := .ref ch) hx hb hts inX7 hown hK hR.1 (List.mem_of_getElem? (i := 0) rfl) rfl 0 (by decide) k_10 (fun _ h => h) rfl dX7_start_1 ?_
  refine lv_aload_n hx hb dX7_start_4 rfl (lv_at hl 2 rfl) ?_
  refine lv_aload_n hx hb dX7_start_5 rfl (lv_at hl 3 rfl) ?_
  refine xc_callV (C := RX0) (As := [.ref t1, .ref t2]) (rest := []) (cx := [(ch, .inr (0, [.ref b1, .ref b2, .int (nI C.length)])), (b1, .inl (cE, 180, rfs f1)), (b2, .inl (cE, 180, rfs f2)), (t1, .inr (5, [.ref r1, .int (nI S.length)])), (r1, .inl (cE, 120, rfs h1)), (t2, .inr (5, [.ref r2, .int (nI T.length)])), (r2, .inl (cE, 120, rfs h2))]) (wr := [(wk, .inr (6, [.ref ch, .int tm, .int (nI dn)]))]) (c_find l hT hcr hS9 hT9 hlen) ⟨hx, hb, hml, hown, hts⟩ (cwV 2 hts gX7_start_X0_find rfl rfl rfl (by decide +kernel) ⟨Nat.le_of_ble_eq_true rfl, Nat.le_of_ble_eq_true rfl⟩) hK hZ hR hA (xrecv (ci := 0) hK hR.1 rfl (List.mem_of_getElem? (i := 1) rfl)) [1, 2, 3, 4, 5, 6, 7] [0] rfl rfl (by decide) (by decide) (by decide) rfl hl.1 rfl (Nat.le_of_ble_eq_true rfl) dX7_start_6 ⟨Nat.le_of_ble_eq_true rfl, Nat.le_of_ble_eq_true rfl⟩ (fun r_1 X_r_1 nw_r_1 H locs hr_1 hR => ?_)
  obtain ⟨rfl, rfl, g1, g2, rfl, hg⟩ := hr_1
  have hR : rR G A s.heap _ _ ([(wk, .inr (6, [.ref ch, .int tm, .int (nI dn)])), (ch, .inr (0, [.ref b1, .ref b2, .int (nI ((chg S T).length))])), (b1, .inl (cE, 180, rfs g1)), (b2, .inl (cE, 180, rfs g2)), (t1, .inr (5, [.ref r1, .int (nI S.length)])), (r1, .inl (cE, 120, rfs h1)), (t2, .inr (5, [.ref r2, .int (nI T.length)])), (r2, .inl (cE, 120, rfs h2))] ++ pl) := (xc_nil hR)
  refine lv_aload_n hx hb dX7_start_9 rfl (lv_at hl 0 rfl) ?_
  refine lv_iload_n hx hb dX7_start_10 rfl (lv_at hl 1 rfl) ?_
  refine va_put (D := G) (ci := 6) (v := .int tm2) (ty := .int) (C := RX7) (T := TX7) (N := 3) hx hb hts inX7 tyX7 tyX7_ok nmX7 hown hK hR.1 hR.2.1 hR.2.2 0 rfl rfl 1 (by decide) k_16 (fun _ h => h) rfl (by decide +kernel) rfl rfl (Nat.le_of_ble_eq_true rfl) dX7_start_11 (fun H locs hP hD hS => ?_)
  have hR : rR G A s.heap _ _ ([(wk, .inr (6, [.ref ch, .int tm2, .int (nI dn)])), (ch, .inr (0, [.ref b1, .ref b2, .int (nI ((chg S T).length))])), (b1, .inl (cE, 180, rfs g1)), (b2, .inl (cE, 180, rfs g2)), (t1, .inr (5, [.ref r1, .int (nI S.length)])), (r1, .inl (cE, 120, rfs h1)), (t2, .inr (5, [.ref r2, .int (nI T.length)])), (r2, .inl (cE, 120, rfs h2))] ++ pl) := ⟨hP, hD, hS⟩
  refine lv_aload_n hx hb dX7_start_14 rfl (lv_at hl 0 rfl) ?_
  refine lv_iconst (v := nI 0) hx hb dX7_start_15 rfl ?_
  refine va_put (D := G) (ci := 6) (v := .int (nI 0)) (ty := .int) (C := RX7) (T := TX7) (N := 3) hx hb hts inX7 tyX7 tyX7_ok nmX7 hown hK hR.1 hR.2.1 hR.2.2 0 rfl rfl 2 (by decide) k_20 (fun _ h => h) rfl (by decide +kernel) rfl rfl (Nat.le_of_ble_eq_true rfl) dX7_start_16 (fun H locs hP hD hS => ?_)
  have hR : rR G A s.heap _ _ ([(wk, .inr (6, [.ref ch, .int tm2, .int (nI 0)])), (ch, .inr (0, [.ref b1, .ref b2, .int (nI ((chg S T).length))])), (b1, .inl (cE, 180, rfs g1)), (b2, .inl (cE, 180, rfs g2)), (t1, .inr (5, [.ref r1, .int (nI S.length)])), (r1, .inl (cE, 120, rfs h1)), (t2, .inr (5, [.ref r2, .int (nI T.length)])), (r2, .inl (cE, 120, rfs h2))] ++ pl) := ⟨hP, hD, hS⟩
  rw [hQ]
  exact xc_vret (X1 := [(wk, .inr (6, [.ref ch, .int tm2, .int (nI 0)])), (ch, .inr (0, [.ref b1, .ref b2, .int (nI ((chg S T).length))])), (b1, .inl (cE, 180, rfs g1)), (b2, .inl (cE, 180, rfs g2)), (t1, .inr (5, [.ref r1, .int (nI S.length)])), (r1, .inl (cE, 120, rfs h1)), (t2, .inr (5, [.ref r2, .int (nI T.length)])), (r2, .inl (cE, 120, rfs h2))]) (nw := []) hx hb hr hlocks (by rw [List.append_nil]; exact hR) ⟨rfl, rfl, g1, g2, rfl, hg⟩ dX7_start_19
set_option maxHeartbeats 4000000 in
set_option maxRecDepth 100000 in
theorem c_sesInit (l : Launch) {G : va_G} {tys : List (ClassId × FieldType)} {cB cI cE cS : ClassId} (hT : tys = [(cB, .byte), (cI, .int), (cE, .object RX1), (cS, .object RX4)]) {pl : va_W} {sz : Nat} {se t2 r2 : Nat} {f2 : Nat → Option Nat} {L2 : List En} (hrw2 : tRows pl cB f2 L2) (tm : Int32) (cg : Nat) : cMet l yX4_init wsX4_init ({ frames := 2, cells := 2, slots := 122, locals := 32 } : Room) G tys [.ref se, .int tm, .int (nI cg), .ref t2] [(se, .inr (3, [.int 0, .int 0, .null])), (t2, .inr (5, [.ref r2, .int (nI L2.length)])), (r2, .inl (cE, 120, rfs f2))] pl sz 2 122 (fun o9 X1 nw => o9 = none ∧ nw = [] ∧ ∃ (t r : Nat) (g : Nat → Option Nat), X1 = [(se, .inr (3, [.int tm, .int (nI cg), .ref t])), (t2, .inr (5, [.ref r2, .int (nI L2.length)])), (r2, .inl (cE, 120, rfs f2)), (t, .inr (5, [.ref r, .int (nI L2.length)])), (r, .inl (cE, 120, rfs g))] ∧ tRows pl cB g L2) := by
  have hT0 : tys[0]? = some (cB, .byte) := by rw [hT]; rfl
  have hT1 : tys[1]? = some (cI, .int) := by rw [hT]; rfl
  have hT2 : tys[2]? = some (cE, .object RX1) := by rw [hT]; rfl
  have hT3 : tys[3]? = some (cS, .object RX4) := by rw [hT]; rfl
  refine Met.ofW (cc := cX4_init) (maxL := 4) (ret := none) (by decide) rfl ?_
  intro p e s m args below meth c s₁ B hml hv
  obtain ⟨hargs, hsz, hP, hK, hD0, hZ⟩ := hv
  have hx := B.exec
  have hb := B.bytes
  have hr := B.returns
  have hts := atoms_spec (ws := wsX4_init) B.pre
  have hown : s.vm.findClass RX4 = some m.cls := findClass_of_methodNamed B.named
  have hlocks := B.notSynchronized
  have hin : meth.name = "<init>" := (name_of_methodNamed B.named B.method).1
  subst hsz
  have hD := hD0.self (sz := s.heap.size)
  obtain ⟨A, hAe⟩ : ∃ A : Nat → Prop, A = va_A ([(se, .inr (3, [.int 0, .int 0, .null])), (t2, .inr (5, [.ref r2, .int (nI L2.length)])), (r2, .inl (cE, 120, rfs f2))] ++ pl) s.heap.size := ⟨_, rfl⟩
  rw [← hAe] at hD
  have hA : ∀ q : Nat, s.heap.size ≤ q → A q := fun q h => by rw [hAe]; exact Or.inr h
  have inX4 : ∀ w ∈ wsX40, w ∈ wsX4_init := by decide +kernel
  have inX6 : ∀ w ∈ wsX60, w ∈ wsX4_init := by decide +kernel
  have k_7 := hts (.fieldLink RX4 7 "MirrorKeep$Session" "time" "I") (by decide +kernel)
  have k_13 := hts (.fieldLink RX4 13 "MirrorKeep$Session" "changes" "I") (by decide +kernel)
  have k_19 := hts (.fieldLink RX4 19 "MirrorKeep$Session" "tree" "LMirrorKeep$Tree;") (by decide +kernel)
  have hR : rR G A s.heap s.heap [] ([(se, .inr (3, [.int 0, .int 0, .null])), (t2, .inr (5, [.ref r2, .int (nI L2.length)])), (r2, .inl (cE, 120, rfs f2))] ++ pl) := ⟨hP, hD, va_S.rf⟩
  obtain ⟨Q, hQ⟩ : ∃ Q : State → Prop, Q = MQ below (cQ G A pl (fun o9 X1 nw => o9 = none ∧ nw = [] ∧ ∃ (t r : Nat) (g : Nat → Option Nat), X1 = [(se, .inr (3, [.int tm, .int (nI cg), .ref t])), (t2, .inr (5, [.ref r2, .int (nI L2.length)])), (r2, .inl (cE, 120, rfs f2)), (t, .inr (5, [.ref r, .int (nI L2.length)])), (r, .inl (cE, 120, rfs g))] ∧ tRows pl cB g L2)) args s 2 122 A := ⟨_, rfl⟩
  change W p l e ({ frames := 2, cells := 2, slots := 122, locals := 32 } : Room) s m args below meth c s.heap [] 0 0 (MQ below (cQ G (va_A ([(se, .inr (3, [.int 0, .int 0, .null])), (t2, .inr (5, [.ref r2, .int (nI L2.length)])), (r2, .inl (cE, 120, rfs f2))] ++ pl) s.heap.size) pl (fun o9 X1 nw => o9 = none ∧ nw = [] ∧ ∃ (t r : Nat) (g : Nat → Option Nat), X1 = [(se, .inr (3, [.int tm, .int (nI cg), .ref t])), (t2, .inr (5, [.ref r2, .int (nI L2.length)])), (r2, .inl (cE, 120, rfs f2)), (t, .inr (5, [.ref r, .int (nI L2.length)])), (r, .inl (cE, 120, rfs g))] ∧ tRows pl cB g L2)) args s 2 122 (va_A ([(se, .inr (3, [.int 0, .int 0, .null])), (t2, .inr (5, [.ref r2, .int (nI L2.length)])), (r2, .inl (cE, 120, rfs f2))] ++ pl) s.heap.size)) (entryFrame m args 4)
  rw [← hAe]
  rw [← hQ]
  refine nn_entry hargs (Nat.le_of_ble_eq_true rfl) (lv := [(0, .ref se), (1, .int tm), (2, .int (nI cg)), (3, .ref t2)]) rfl (fun ls hl => ?_)
  refine lv_aload_n hx hb dX4_init_0 rfl (lv_at hl 0 rfl) ?_
  refine W.objInit hx hb hown (hts (.methodLink RX4 1 objectInit) (by decide +kernel)) (hts (.instanceMethod objectInit) (by decide +kernel)) (hts (.code objectInit ⟨#[0xb1]⟩ 1 none) (by decide +kernel)) rfl (by rw [hml]; exact hl.1) rfl dX4_init_1 (Nat.le_of_ble_eq_true rfl) (Nat.le_of_ble_eq_true rfl) ?_
  refine W.eq (g2 := F0 m 4 ls []) rfl ?_
  refine lv_aload_n hx hb dX4_init_4 rfl (lv_at hl 0 rfl) ?_
  refine lv_iload_n hx hb dX4_init_5 rfl (lv_at hl 1 rfl) ?_
  refine va_putF (D := G) (ci := 3) (v := .int tm) (ty := .int) (C := RX4) (T := TX4) (N := 3) hx hb hts inX4 tyX4 tyX4_ok nmX4 hown hK hR.1 hR.2.1 hR.2.2 0 rfl rfl 0 (by decide) k_7 (fun _ h => h) rfl hin rfl (by decide +kernel) rfl rfl (Nat.le_of_ble_eq_true rfl) dX4_init_6 (fun H locs hP hD hS => ?_)
  have hR : rR G A s.heap _ _ ([(se, .inr (3, [.int tm, .int 0, .null])), (t2, .inr (5, [.ref r2, .int (nI L2.length)])), (r2, .inl (cE, 120, rfs f2))] ++ pl) := ⟨hP, hD, hS⟩
  refine lv_aload_n hx hb dX4_init_9 rfl (lv_at hl 0 rfl) ?_
  refine lv_iload_n hx hb dX4_init_10 rfl (lv_at hl 2 rfl) ?_
  refine va_putF (D := G) (ci := 3) (v := .int (nI cg)) (ty := .int) (C := RX4) (T := TX4) (N := 3) hx hb hts inX4 tyX4 tyX4_ok nmX4 hown hK hR.1 hR.2.1 hR.2.2 0 rfl rfl 1 (by decide) k_13 (fun _ h => h) rfl hin rfl (by decide +kernel) rfl rfl (Nat.le_of_ble_eq_true rfl) dX4_init_11 (fun H locs hP hD hS => ?_)
  have hR : rR G A s.heap _ _ ([(se, .inr (3, [.int tm, .int (nI cg), .null])), (t2, .inr (5, [.ref r2, .int (nI L2.length)])), (r2, .inl (cE, 120, rfs f2))] ++ pl) := ⟨hP, hD, hS⟩
  refine lv_aload_n hx hb dX4_init_14 rfl (lv_at hl 0 rfl) ?_
  refine va_new (D := G) (ci := 5) (C := RX6) (T := TX6) (N := 2) (fs := [.null, .int 0]) hx hb hts inX6 tyX6 tyX6_ok hown (hts (.classLink RX4 16 RX6) (by decide +kernel)) (hts (.instantiable RX6 2) (by decide +kernel)) (hts (.initialized RX6) (by decide +kernel)) hK hR.1 hR.2.1 hR.2.2 hA rfl (by decide) (Nat.le_of_ble_eq_true rfl) (Nat.le_of_ble_eq_true rfl) dX4_init_15 (fun q_1 H hP hD hS => ?_)
  have hR : rR G A s.heap _ _ ([(se, .inr (3, [.int tm, .int (nI cg), .null])), (t2, .inr (5, [.ref r2, .int (nI L2.length)])), (r2, .inl (cE, 120, rfs f2)), (q_1, .inr (5, [.null, .int 0]))] ++ pl) := ⟨hP.swap, hD.swap, hS⟩
  refine lv_dup hx hb dX4_init_18 rfl ?_
  refine xc_callIN (As := []) (rest := [.ref q_1, .ref se]) (cx := [(q_1, .inr (5, [.null, .int 0]))]) (wr := [(se, .inr (3, [.int tm, .int (nI cg), .null])), (t2, .inr (5, [.ref r2, .int (nI L2.length)])), (r2, .inl (cE, 120, rfs f2))]) (c_treeInit l hT) ⟨hx, hb, hml, hown, hts⟩ ⟨va_cnB 0 hts gX4_init_X6_init_n18 rfl rfl rfl (hZ.2.2.1 (.methodLinkNest RX4 18 yX6_init "MirrorKeep") (by decide +kernel)) (hts (.initialized RX6) (by decide +kernel)) (by decide +kernel) ⟨Nat.le_of_ble_eq_true rfl, Nat.le_of_ble_eq_true rfl⟩, rfl, hts (.instanceMethod yX6_init) (by decide +kernel)⟩ hK hZ hR hA [3] [0, 1, 2] rfl rfl (by decide) (by decide) (by decide) rfl hl.1 rfl (Nat.le_of_ble_eq_true rfl) dX4_init_19 ⟨Nat.le_of_ble_eq_true rfl, Nat.le_of_ble_eq_true rfl⟩ (fun r_2 X_r_2 nw_r_2 H locs hr_2 hR => ?_)
  obtain ⟨rfl, rfl, r9, rfl⟩ := hr_2
  have hR : rR G A s.heap _ _ ([(se, .inr (3, [.int tm, .int (nI cg), .null])), (t2, .inr (5, [.ref r2, .int (nI L2.length)])), (r2, .inl (cE, 120, rfs f2)), (q_1, .inr (5, [.ref r9, .int (nI 0)])), (r9, .inl (cE, 120, rfs (fun _ => none)))] ++ pl) := (xc_nil hR)
  refine va_putF (D := G) (ci := 3) (v := .ref q_1) (ty := .object "MirrorKeep$Tree") (C := RX4) (T := TX4) (N := 3) hx hb hts inX4 tyX4 tyX4_ok nmX4 hown hK hR.1 hR.2.1 hR.2.2 0 rfl rfl 2 (by decide) k_19 (fun _ h => h) rfl hin rfl (by decide +kernel) rfl rfl (Nat.le_of_ble_eq_true rfl) dX4_init_22 (fun H locs hP hD hS => ?_)
  have hR : rR G A s.heap _ _ ([(se, .inr (3, [.int tm, .int (nI cg), .ref q_1])), (t2, .inr (5, [.ref r2, .int (nI L2.length)])), (r2, .inl (cE, 120, rfs f2)), (q_1, .inr (5, [.ref r9, .int (nI 0)])), (r9, .inl (cE, 120, rfs (fun _ => none)))] ++ pl) := ⟨hP, hD, hS⟩
  refine lv_aload_n hx hb dX4_init_25 rfl (lv_at hl 0 rfl) ?_
  refine xg (ci := 3) (C := RX4) (T := TX4) (N := 3) (v := .ref q_1) hx hb hts inX4 hown hK hR.1 (List.mem_of_getElem? (i := 0) rfl) rfl 2 (by decide) k_19 (fun _ h => h) rfl dX4_init_26 ?_
  refine lv_aload_n hx hb dX4_init_29 rfl (lv_at hl 3 rfl) ?_
  refine xc_callV (C := RX6) (As := [.ref t2]) (rest := []) (cx := [(q_1, .inr (5, [.ref r9, .int (nI 0)])), (r9, .inl (cE, 120, rfs (fun _ => none))), (t2, .inr (5, [.ref r2, .int (nI L2.length)])), (r2, .inl (cE, 120, rfs f2))]) (wr := [(se, .inr (3, [.int tm, .int (nI cg), .ref q_1]))]) (c_copyFromX l hT (n := 0) (f := fun _ => none) hrw2) ⟨hx, hb, hml, hown, hts⟩ (cwV 1 hts gX4_init_X6_copyFrom rfl rfl rfl (by decide +kernel) ⟨Nat.le_of_ble_eq_true rfl, Nat.le_of_ble_eq_true rfl⟩) hK hZ hR hA (xrecv (ci := 5) hK hR.1 rfl (List.mem_of_getElem? (i := 3) rfl)) [3, 4, 1, 2] [0] rfl rfl (by decide) (by decide) (by decide) rfl hl.1 rfl (Nat.le_of_ble_eq_true rfl) dX4_init_30 ⟨Nat.le_of_ble_eq_true rfl, Nat.le_of_ble_eq_true rfl⟩ (fun r_3 X_r_3 nw_r_3 H locs hr_3 hR => ?_)
  obtain ⟨rfl, rfl, g, rfl, hg⟩ := hr_3
  have hR : rR G A s.heap _ _ ([(se, .inr (3, [.int tm, .int (nI cg), .ref q_1])), (t2, .inr (5, [.ref r2, .int (nI L2.length)])), (r2, .inl (cE, 120, rfs f2)), (q_1, .inr (5, [.ref r9, .int (nI L2.length)])), (r9, .inl (cE, 120, rfs g))] ++ pl) := xc_perm (xc_nil hR) [0, 3, 4, 1, 2] rfl (by decide)
  rw [hQ]
  refine W.widen (k := 2) (n := 122) (by omega) (by omega) ?_
  exact xc_vret (X1 := [(se, .inr (3, [.int tm, .int (nI cg), .ref q_1])), (t2, .inr (5, [.ref r2, .int (nI L2.length)])), (r2, .inl (cE, 120, rfs f2)), (q_1, .inr (5, [.ref r9, .int (nI L2.length)])), (r9, .inl (cE, 120, rfs g))]) (nw := []) hx hb hr hlocks (by rw [List.append_nil]; exact hR) ⟨rfl, rfl, _, _, g, rfl, hg⟩ dX4_init_33
set_option maxHeartbeats 4000000 in
set_option maxRecDepth 100000 in
theorem c_hadd (l : Launch) {G : va_G} {tys : List (ClassId × FieldType)} {cB cI cE cS : ClassId} (hT : tys = [(cB, .byte), (cI, .int), (cE, .object RX1), (cS, .object RX4)]) {pl : va_W} {sz : Nat} {h r : Nat} {f : Nat → Option Nat} {S : List Se} (hhr : hRows pl cB cE f S) {se : Nat} {u : Se} (hse : sEnt pl cB cE se u) (hl : S.length < 40) : cMet l yX2_add wsX2_add ({ frames := 0, cells := 0, slots := 0, locals := 0 } : Room) G tys [.ref h, .ref se] [(h, .inr (2, [.ref r, .int (nI S.length)])), (r, .inl (cS, 40, rfs f))] pl sz 0 0 (fun o9 X1 nw => o9 = none ∧ nw = [] ∧ ∃ g : Nat → Option Nat, X1 = [(h, .inr (2, [.ref r, .int (nI ((S ++ [u]).length))])), (r, .inl (cS, 40, rfs g))] ∧ hRows pl cB cE g (S ++ [u])) := by
  have hT0 : tys[0]? = some (cB, .byte) := by rw [hT]; rfl
  have hT1 : tys[1]? = some (cI, .int) := by rw [hT]; rfl
  have hT2 : tys[2]? = some (cE, .object RX1) := by rw [hT]; rfl
  have hT3 : tys[3]? = some (cS, .object RX4) := by rw [hT]; rfl
  refine Met.ofW (cc := cX2_add) (maxL := 2) (ret := none) (by decide) rfl ?_
  intro p e s m args below meth c s₁ B hml hv
  obtain ⟨hargs, hsz, hP, hK, hD0, hZ⟩ := hv
  have hx := B.exec
  have hb := B.bytes
  have hr := B.returns
  have hts := atoms_spec (ws := wsX2_add) B.pre
  have hown : s.vm.findClass RX2 = some m.cls := findClass_of_methodNamed B.named
  have hlocks := B.notSynchronized
  subst hsz
  have hD := hD0.self (sz := s.heap.size)
  obtain ⟨A, hAe⟩ : ∃ A : Nat → Prop, A = va_A ([(h, .inr (2, [.ref r, .int (nI S.length)])), (r, .inl (cS, 40, rfs f))] ++ pl) s.heap.size := ⟨_, rfl⟩
  rw [← hAe] at hD
  have hA : ∀ q : Nat, s.heap.size ≤ q → A q := fun q h => by rw [hAe]; exact Or.inr h
  have inX2 : ∀ w ∈ wsX20, w ∈ wsX2_add := by decide +kernel
  have k_13 := hts (.fieldLink RX2 13 "MirrorKeep$History" "rows" "[LMirrorKeep$Session;") (by decide +kernel)
  have k_17 := hts (.fieldLink RX2 17 "MirrorKeep$History" "count" "I") (by decide +kernel)
  have hR : rR G A s.heap s.heap [] ([(h, .inr (2, [.ref r, .int (nI S.length)])), (r, .inl (cS, 40, rfs f))] ++ pl) := ⟨hP, hD, va_S.rf⟩
  obtain ⟨Q, hQ⟩ : ∃ Q : State → Prop, Q = MQ below (cQ G A pl (fun o9 X1 nw => o9 = none ∧ nw = [] ∧ ∃ g : Nat → Option Nat, X1 = [(h, .inr (2, [.ref r, .int (nI ((S ++ [u]).length))])), (r, .inl (cS, 40, rfs g))] ∧ hRows pl cB cE g (S ++ [u]))) args s 0 0 A := ⟨_, rfl⟩
  change W p l e ({ frames := 0, cells := 0, slots := 0, locals := 0 } : Room) s m args below meth c s.heap [] 0 0 (MQ below (cQ G (va_A ([(h, .inr (2, [.ref r, .int (nI S.length)])), (r, .inl (cS, 40, rfs f))] ++ pl) s.heap.size) pl (fun o9 X1 nw => o9 = none ∧ nw = [] ∧ ∃ g : Nat → Option Nat, X1 = [(h, .inr (2, [.ref r, .int (nI ((S ++ [u]).length))])), (r, .inl (cS, 40, rfs g))] ∧ hRows pl cB cE g (S ++ [u]))) args s 0 0 (va_A ([(h, .inr (2, [.ref r, .int (nI S.length)])), (r, .inl (cS, 40, rfs f))] ++ pl) s.heap.size)) (entryFrame m args 2)
  rw [← hAe]
  rw [← hQ]
  refine nn_entry hargs (Nat.le_of_ble_eq_true rfl) (lv := [(0, .ref h), (1, .ref se)]) rfl (fun ls hl => ?_)
  obtain ⟨t9, r9, f9, hm9, ht9⟩ := id hse
  have hl4 := hl
  refine lv_aload_n hx hb dX2_add_0 rfl (lv_at hl 0 rfl) ?_
  refine xg (ci := 2) (C := RX2) (T := TX2) (N := 2) (v := .int (nI S.length)) hx hb hts inX2 hown hK hR.1 (List.mem_of_getElem? (i := 0) rfl) rfl 1 (by decide) k_17 (fun _ h => h) rfl dX2_add_1 ?_
  refine lv_bipush (v := nI 40) hx hb dX2_add_4 (by decide) ?_
  refine nn_ge hx hb dX2_add_6 (tgt := 29) (by decide) (by omega) (by omega) (fun c_1 => ?_) (fun c_1 => ?_)
  · exact absurd c_1 (by omega)
  · refine lv_aload_n hx hb dX2_add_9 rfl (lv_at hl 0 rfl) ?_
    refine xg (ci := 2) (C := RX2) (T := TX2) (N := 2) (v := .ref r) hx hb hts inX2 hown hK hR.1 (List.mem_of_getElem? (i := 0) rfl) rfl 0 (by decide) k_13 (fun _ h => h) rfl dX2_add_10 ?_
    refine lv_aload_n hx hb dX2_add_13 rfl (lv_at hl 0 rfl) ?_
    refine xg (ci := 2) (C := RX2) (T := TX2) (N := 2) (v := .int (nI S.length)) hx hb hts inX2 hown hK hR.1 (List.mem_of_getElem? (i := 0) rfl) rfl 1 (by decide) k_17 (fun _ h => h) rfl dX2_add_14 ?_
    refine lv_aload_n hx hb dX2_add_17 rfl (lv_at hl 1 rfl) ?_
    refine xc_ast (ci := 3) (t0 := 3) hx hb hK hT3 rfl hR 1 rfl (List.mem_append_right _ hm9) (by omega) (by decide) dX2_add_18 (fun H locs hR => ?_)
    have hR : rR G A s.heap _ _ ([(h, .inr (2, [.ref r, .int (nI S.length)])), (r, .inl (cS, 40, rfs (va_up f S.length (some se))))] ++ pl) := hR
    refine lv_aload_n hx hb dX2_add_19 rfl (lv_at hl 0 rfl) ?_
    refine lv_dup hx hb dX2_add_20 rfl ?_
    refine xg (ci := 2) (C := RX2) (T := TX2) (N := 2) (v := .int (nI S.length)) hx hb hts inX2 hown hK hR.1 (List.mem_of_getElem? (i := 0) rfl) rfl 1 (by decide) k_17 (fun _ h => h) rfl dX2_add_21 ?_
    refine lv_iconst (v := nI 1) hx hb dX2_add_24 rfl ?_
    refine nn_add hx hb dX2_add_25 ?_
    refine va_put (D := G) (ci := 2) (v := .int (nI (S.length + 1))) (ty := .int) (C := RX2) (T := TX2) (N := 2) hx hb hts inX2 tyX2 tyX2_ok nmX2 hown hK hR.1 hR.2.1 hR.2.2 0 rfl rfl 1 (by decide) k_17 (fun _ h => h) rfl (by decide +kernel) rfl rfl (Nat.le_of_ble_eq_true rfl) dX2_add_26 (fun H locs hP hD hS => ?_)
    have hR : rR G A s.heap _ _ ([(h, .inr (2, [.ref r, .int (nI (S.length + 1))])), (r, .inl (cS, 40, rfs (va_up f S.length (some se))))] ++ pl) := ⟨hP, hD, hS⟩
    rw [hQ]
    exact xc_vret (X1 := [(h, .inr (2, [.ref r, .int (nI (S.length + 1))])), (r, .inl (cS, 40, rfs (va_up f S.length (some se))))]) (nw := []) hx hb hr hlocks (by rw [List.append_nil]; exact hR) ⟨rfl, rfl, _, by rw [List.length_append]; rfl, hRows_app hhr (by omega) hse⟩ dX2_add_29
set_option maxHeartbeats 4000000 in
set_option maxRecDepth 100000 in
theorem c_forget (l : Launch) {G : va_G} {tys : List (ClassId × FieldType)} {cB cI cE cS : ClassId} (hT : tys = [(cB, .byte), (cI, .int), (cE, .object RX1), (cS, .object RX4)]) {pl : va_W} {sz : Nat} {h r : Nat} {f : Nat → Option Nat} {S : List Se} (hhr : hRows pl cB cE f S) (z0 : Int32) : cMet l yX2_forgetAheadOf wsX2_forgetAheadOf ({ frames := 0, cells := 0, slots := 0, locals := 0 } : Room) G tys [.ref h, .int z0] [(h, .inr (2, [.ref r, .int (nI S.length)])), (r, .inl (cS, 40, rfs f))] pl sz 0 0 (fun o9 X1 nw => (¬ (0 < z0.toInt ∧ z0.toInt < S.length) ∧ o9 = some (.int (nI 0)) ∧ nw = [] ∧ X1 = [(h, .inr (2, [.ref r, .int (nI S.length)])), (r, .inl (cS, 40, rfs f))]) ∨ ∃ (k : Nat) (g : Nat → Option Nat), z0 = nI k ∧ 0 < k ∧ k < S.length ∧ o9 = some (.int (nI k)) ∧ nw = [] ∧ X1 = [(h, .inr (2, [.ref r, .int (nI ((S.drop k).length))])), (r, .inl (cS, 40, rfs g))] ∧ hRows pl cB cE g (S.drop k)) := by
  have hT0 : tys[0]? = some (cB, .byte) := by rw [hT]; rfl
  have hT1 : tys[1]? = some (cI, .int) := by rw [hT]; rfl
  have hT2 : tys[2]? = some (cE, .object RX1) := by rw [hT]; rfl
  have hT3 : tys[3]? = some (cS, .object RX4) := by rw [hT]; rfl
  refine Met.ofW (cc := cX2_forgetAheadOf) (maxL := 3) (ret := (some .int)) (by decide) rfl ?_
  intro p e s m args below meth c s₁ B hml hv
  obtain ⟨hargs, hsz, hP, hK, hD0, hZ⟩ := hv
  have hx := B.exec
  have hb := B.bytes
  have hr := B.returns
  have hts := atoms_spec (ws := wsX2_forgetAheadOf) B.pre
  have hown : s.vm.findClass RX2 = some m.cls := findClass_of_methodNamed B.named
  have hlocks := B.notSynchronized
  subst hsz
  have hD := hD0.self (sz := s.heap.size)
  obtain ⟨A, hAe⟩ : ∃ A : Nat → Prop, A = va_A ([(h, .inr (2, [.ref r, .int (nI S.length)])), (r, .inl (cS, 40, rfs f))] ++ pl) s.heap.size := ⟨_, rfl⟩
  rw [← hAe] at hD
  have hA : ∀ q : Nat, s.heap.size ≤ q → A q := fun q h => by rw [hAe]; exact Or.inr h
  have inX2 : ∀ w ∈ wsX20, w ∈ wsX2_forgetAheadOf := by decide +kernel
  have k_13 := hts (.fieldLink RX2 13 "MirrorKeep$History" "rows" "[LMirrorKeep$Session;") (by decide +kernel)
  have k_17 := hts (.fieldLink RX2 17 "MirrorKeep$History" "count" "I") (by decide +kernel)
  have hR : rR G A s.heap s.heap [] ([(h, .inr (2, [.ref r, .int (nI S.length)])), (r, .inl (cS, 40, rfs f))] ++ pl) := ⟨hP, hD, va_S.rf⟩
  obtain ⟨Q, hQ⟩ : ∃ Q : State → Prop, Q = MQ below (cQ G A pl (fun o9 X1 nw => (¬ (0 < z0.toInt ∧ z0.toInt < S.length) ∧ o9 = some (.int (nI 0)) ∧ nw = [] ∧ X1 = [(h, .inr (2, [.ref r, .int (nI S.length)])), (r, .inl (cS, 40, rfs f))]) ∨ ∃ (k : Nat) (g : Nat → Option Nat), z0 = nI k ∧ 0 < k ∧ k < S.length ∧ o9 = some (.int (nI k)) ∧ nw = [] ∧ X1 = [(h, .inr (2, [.ref r, .int (nI ((S.drop k).length))])), (r, .inl (cS, 40, rfs g))] ∧ hRows pl cB cE g (S.drop k))) args s 0 0 A := ⟨_, rfl⟩
  change W p l e ({ frames := 0, cells := 0, slots := 0, locals := 0 } : Room) s m args below meth c s.heap [] 0 0 (MQ below (cQ G (va_A ([(h, .inr (2, [.ref r, .int (nI S.length)])), (r, .inl (cS, 40, rfs f))] ++ pl) s.heap.size) pl (fun o9 X1 nw => (¬ (0 < z0.toInt ∧ z0.toInt < S.length) ∧ o9 = some (.int (nI 0)) ∧ nw = [] ∧ X1 = [(h, .inr (2, [.ref r, .int (nI S.length)])), (r, .inl (cS, 40, rfs f))]) ∨ ∃ (k : Nat) (g : Nat → Option Nat), z0 = nI k ∧ 0 < k ∧ k < S.length ∧ o9 = some (.int (nI k)) ∧ nw = [] ∧ X1 = [(h, .inr (2, [.ref r, .int (nI ((S.drop k).length))])), (r, .inl (cS, 40, rfs g))] ∧ hRows pl cB cE g (S.drop k))) args s 0 0 (va_A ([(h, .inr (2, [.ref r, .int (nI S.length)])), (r, .inl (cS, 40, rfs f))] ++ pl) s.heap.size)) (entryFrame m args 3)
  rw [← hAe]
  rw [← hQ]
  refine nn_entry hargs (Nat.le_of_ble_eq_true rfl) (lv := [(0, .ref h), (1, .int z0)]) rfl (fun ls hl => ?_)
  have hl40 := hhr.1
  refine lv_iload_n hx hb dX2_forgetAheadOf_0 rfl (lv_at hl 1 rfl) ?_
  refine zi_le hx hb rfl dX2_forgetAheadOf_1 (tgt := 12) (by decide) (fun c_1 => ?_) (fun c_1 => ?_)
  · refine lv_iconst (v := nI 0) hx hb dX2_forgetAheadOf_12 rfl ?_
    rw [hQ]
    exact xc_iret (X1 := [(h, .inr (2, [.ref r, .int (nI S.length)])), (r, .inl (cS, 40, rfs f))]) (nw := []) hx hb hr hlocks (by rw [List.append_nil]; exact hR) (Or.inl ⟨by omega, rfl, rfl, rfl⟩) dX2_forgetAheadOf_13
  · refine lv_iload_n hx hb dX2_forgetAheadOf_4 rfl (lv_at hl 1 rfl) ?_
    refine lv_aload_n hx hb dX2_forgetAheadOf_5 rfl (lv_at hl 0 rfl) ?_
    refine xg (ci := 2) (C := RX2) (T := TX2) (N := 2) (v := .int (nI S.length)) hx hb hts inX2 hown hK hR.1 (List.mem_of_getElem? (i := 0) rfl) rfl 1 (by decide) k_17 (fun _ h => h) rfl dX2_forgetAheadOf_6 ?_
    refine zc_lt hx hb rfl (nI_toInt (by omega)) dX2_forgetAheadOf_9 (tgt := 14) (by decide) (fun c_2 => ?_) (fun c_2 => ?_)
    · obtain ⟨k, hk, hk2, hk3⟩ := zn_ex (x := z0) (by omega)
      rw [hk] at hl
      refine lv_iload_n hx hb dX2_forgetAheadOf_14 rfl (lv_at hl 1 rfl) ?_
      refine lv_istore_n (lv' := [(2, .int (nI k)), (0, .ref h), (1, .int (nI k))]) hx hb dX2_forgetAheadOf_15 rfl hl (by decide) rfl (fun ls hl => ?_)
      have lp_16 : ∀ (n_16 : Nat) (j : Nat) (g : Nat → Option Nat) (H : Heap) (locs : List Loc) (ls : Array Slot), (S.length - j) < n_16 → (k ≤ j) → (j ≤ S.length) → (∀ i, i + k < j → g i = f (i + k)) → (∀ i, j ≤ i → g i = f i) → rR G A s.heap H locs ([(h, .inr (2, [.ref r, .int (nI S.length)])), (r, .inl (cS, 40, rfs g))] ++ pl) → lv_has ls 3 [(2, .int (nI j)), (0, .ref h), (1, .int (nI k))] → W p l e ({ frames := 0, cells := 0, slots := 0, locals := 0 } : Room) s m args below meth c H locs 0 0 Q (F0 m 16 ls []) := by
        intro n_16
        induction n_16 with
        | zero => intro j g H locs ls h0; exact absurd h0 (Nat.not_lt_zero _)
        | succ n_16 ih_16 =>
          intro j g H locs ls hm_16 hj hj2 hg1 hg2 hR hl
          refine lv_iload_n hx hb dX2_forgetAheadOf_16 rfl (lv_at hl 0 rfl) ?_
          refine lv_aload_n hx hb dX2_forgetAheadOf_17 rfl (lv_at hl 1 rfl) ?_
          refine xg (ci := 2) (C := RX2) (T := TX2) (N := 2) (v := .int (nI S.length)) hx hb hts inX2 hown hK hR.1 (List.mem_of_getElem? (i := 0) rfl) rfl 1 (by decide) k_17 (fun _ h => h) rfl dX2_forgetAheadOf_18 ?_
          refine nn_ge hx hb dX2_forgetAheadOf_21 (tgt := 44) (by decide) (by omega) (by omega) (fun c_3 => ?_) (fun c_3 => ?_)
          · refine lv_aload_n hx hb dX2_forgetAheadOf_44 rfl (lv_at hl 1 rfl) ?_
            refine lv_dup hx hb dX2_forgetAheadOf_45 rfl ?_
            refine xg (ci := 2) (C := RX2) (T := TX2) (N := 2) (v := .int (nI S.length)) hx hb hts inX2 hown hK hR.1 (List.mem_of_getElem? (i := 0) rfl) rfl 1 (by decide) k_17 (fun _ h => h) rfl dX2_forgetAheadOf_46 ?_
            refine lv_iload_n hx hb dX2_forgetAheadOf_49 rfl (lv_at hl 2 rfl) ?_
            refine nn_sub hx hb (by omega) dX2_forgetAheadOf_50 ?_
            refine va_put (D := G) (ci := 2) (v := .int (nI (S.length - k))) (ty := .int) (C := RX2) (T := TX2) (N := 2) hx hb hts inX2 tyX2 tyX2_ok nmX2 hown hK hR.1 hR.2.1 hR.2.2 0 rfl rfl 1 (by decide) k_17 (fun _ h => h) rfl (by decide +kernel) rfl rfl (Nat.le_of_ble_eq_true rfl) dX2_forgetAheadOf_51 (fun H locs hP hD hS => ?_)
            have hR : rR G A s.heap _ _ ([(h, .inr (2, [.ref r, .int (nI (S.length - k))])), (r, .inl (cS, 40, rfs g))] ++ pl) := ⟨hP, hD, hS⟩
            refine lv_iload_n hx hb dX2_forgetAheadOf_54 rfl (lv_at hl 2 rfl) ?_
            rw [hQ]
            exact xc_iret (X1 := [(h, .inr (2, [.ref r, .int (nI (S.length - k))])), (r, .inl (cS, 40, rfs g))]) (nw := []) hx hb hr hlocks (by rw [List.append_nil]; exact hR) (Or.inr ⟨k, g, hk, by omega, by omega, rfl, rfl, by rw [List.length_drop], hRows_drop hhr (fun j hj => hg1 j (by omega))⟩) dX2_forgetAheadOf_55
          · refine lv_aload_n hx hb dX2_forgetAheadOf_24 rfl (lv_at hl 1 rfl) ?_
            refine xg (ci := 2) (C := RX2) (T := TX2) (N := 2) (v := .ref r) hx hb hts inX2 hown hK hR.1 (List.mem_of_getElem? (i := 0) rfl) rfl 0 (by decide) k_13 (fun _ h => h) rfl dX2_forgetAheadOf_25 ?_
            refine lv_iload_n hx hb dX2_forgetAheadOf_28 rfl (lv_at hl 0 rfl) ?_
            refine lv_iload_n hx hb dX2_forgetAheadOf_29 rfl (lv_at hl 2 rfl) ?_
            refine nn_sub hx hb (by omega) dX2_forgetAheadOf_30 ?_
            refine lv_aload_n hx hb dX2_forgetAheadOf_31 rfl (lv_at hl 1 rfl) ?_
            refine xg (ci := 2) (C := RX2) (T := TX2) (N := 2) (v := .ref r) hx hb hts inX2 hown hK hR.1 (List.mem_of_getElem? (i := 0) rfl) rfl 0 (by decide) k_13 (fun _ h => h) rfl dX2_forgetAheadOf_32 ?_
            refine lv_iload_n hx hb dX2_forgetAheadOf_35 rfl (lv_at hl 0 rfl) ?_
            refine xq_ld (t0 := 3) hx hb hK hT3 hR.1 (List.mem_of_getElem? (i := 1) rfl) (by omega) (by decide) dX2_forgetAheadOf_36 ?_
            obtain ⟨a_4, ha_4, ga_4⟩ := hhr.2 j (by omega)
            obtain ⟨ta_4, ra_4, fa_4, hma_4, hta_4⟩ := id ga_4
            refine nn_eqv (y := .ref a_4) (by rw [hg2 j (by omega), ha_4]; rfl) ?_
            refine xc_ast (ci := 3) (t0 := 3) hx hb hK hT3 rfl hR 1 rfl (List.mem_append_right _ hma_4) (by omega) (by decide) dX2_forgetAheadOf_37 (fun H locs hR => ?_)
            have hR : rR G A s.heap _ _ ([(h, .inr (2, [.ref r, .int (nI S.length)])), (r, .inl (cS, 40, rfs (va_up g (j - k) (some a_4))))] ++ pl) := hR
            refine lv_iinc (v := nI (j + 1)) (lv' := [(2, .int (nI (j + 1))), (0, .ref h), (1, .int (nI k))]) hx hb dX2_forgetAheadOf_38 hl (k := 0) rfl (nI_add j 1) (by decide) rfl (fun ls hl => ?_)
            refine lv_goto (tgt := 16) hx hb dX2_forgetAheadOf_41 (by decide) ?_
            exact ih_16 (j + 1) (va_up g (j - k) (some a_4)) _ _ _ (by omega) (by omega) (by omega) (fun i h9 => by by_cases e9 : i = j - k; (rw [e9, va_up_self, show j - k + k = j by omega, ha_4]); (rw [va_up_ne _ _ e9]; exact hg1 i (by omega))) (fun i h9 => by rw [va_up_ne _ _ (by omega)]; exact hg2 i (by omega)) hR (lv_sub hl [0, 1, 2] rfl)
      exact lp_16 (((S.length - k)) + 1) k f _ _ _ (Nat.lt_succ_self _) (Nat.le_refl _) (by omega) (fun i h => absurd h (by omega)) (fun _ _ => rfl) hR (lv_sub hl [0, 1, 2] rfl)
    · refine lv_iconst (v := nI 0) hx hb dX2_forgetAheadOf_12 rfl ?_
      rw [hQ]
      exact xc_iret (X1 := [(h, .inr (2, [.ref r, .int (nI S.length)])), (r, .inl (cS, 40, rfs f))]) (nw := []) hx hb hr hlocks (by rw [List.append_nil]; exact hR) (Or.inl ⟨by omega, rfl, rfl, rfl⟩) dX2_forgetAheadOf_13
set_option maxHeartbeats 4000000 in
set_option maxRecDepth 100000 in
theorem c_overlaid (l : Launch) {G : va_G} {tys : List (ClassId × FieldType)} {cB cI cE cS : ClassId} (hT : tys = [(cB, .byte), (cI, .int), (cE, .object RX1), (cS, .object RX4)]) {pl : va_W} {sz : Nat} {ca ta at0 : Nat} {C0 T0 : List Nat} (hc0 : bArr pl cB ca C0) (ht0 : bArr pl cB ta T0) (ha0 : at0 ≤ C0.length) (hcl : C0.length ≤ 1500) (htl : at0 + T0.length ≤ 1500) : cMet l yX8_overlaid wsX8_overlaid ({ frames := 2, cells := 1, slots := 1500, locals := 82 } : Room) G tys [.ref ca, .int (nI at0), .ref ta] [] pl sz 1 1500 (fun o9 X1 nw => ∃ q, o9 = some (.ref q) ∧ X1 = [] ∧ bArr (pl ++ nw) cB q (ovl C0 at0 T0)) := by
  have hT0 : tys[0]? = some (cB, .byte) := by rw [hT]; rfl
  have hT1 : tys[1]? = some (cI, .int) := by rw [hT]; rfl
  have hT2 : tys[2]? = some (cE, .object RX1) := by rw [hT]; rfl
  have hT3 : tys[3]? = some (cS, .object RX4) := by rw [hT]; rfl
  refine Met.ofW (cc := cX8_overlaid) (maxL := 6) (ret := (some (.array .byte))) (by decide) rfl ?_
  intro p e s m args below meth c s₁ B hml hv
  obtain ⟨hargs, hsz, hP, hK, hD0, hZ⟩ := hv
  have hx := B.exec
  have hb := B.bytes
  have hr := B.returns
  have hts := atoms_spec (ws := wsX8_overlaid) B.pre
  have hown : s.vm.findClass RX8 = some m.cls := findClass_of_methodNamed B.named
  have hlocks := B.notSynchronized
  subst hsz
  have hD := hD0.self (sz := s.heap.size)
  obtain ⟨A, hAe⟩ : ∃ A : Nat → Prop, A = va_A ([] ++ pl) s.heap.size := ⟨_, rfl⟩
  rw [← hAe] at hD
  have hA : ∀ q : Nat, s.heap.size ≤ q → A q := fun q h => by rw [hAe]; exact Or.inr h
  have hR : rR G A s.heap s.heap [] ([] ++ pl) := ⟨hP, hD, va_S.rf⟩
  obtain ⟨Q, hQ⟩ : ∃ Q : State → Prop, Q = MQ below (cQ G A pl (fun o9 X1 nw => ∃ q, o9 = some (.ref q) ∧ X1 = [] ∧ bArr (pl ++ nw) cB q (ovl C0 at0 T0))) args s 1 1500 A := ⟨_, rfl⟩
  change W p l e ({ frames := 2, cells := 1, slots := 1500, locals := 82 } : Room) s m args below meth c s.heap [] 0 0 (MQ below (cQ G (va_A ([] ++ pl) s.heap.size) pl (fun o9 X1 nw => ∃ q, o9 = some (.ref q) ∧ X1 = [] ∧ bArr (pl ++ nw) cB q (ovl C0 at0 T0))) args s 1 1500 (va_A ([] ++ pl) s.heap.size)) (entryFrame m args 6)
  rw [← hAe]
  rw [← hQ]
  refine nn_entry hargs (Nat.le_of_ble_eq_true rfl) (lv := [(0, .ref ca), (1, .int (nI at0)), (2, .ref ta)]) rfl (fun ls hl => ?_)
  refine lv_aload_n hx hb dX8_overlaid_0 rfl (lv_at hl 0 rfl) ?_
  refine lv_aload_n hx hb dX8_overlaid_1 rfl (lv_at hl 0 rfl) ?_
  refine xb_len hx hb hK hT0 hR.1 (hc0.mono xpm) dX8_overlaid_2 ?_
  refine lv_iload_n hx hb dX8_overlaid_3 rfl (lv_at hl 1 rfl) ?_
  refine lv_aload_n hx hb dX8_overlaid_4 rfl (lv_at hl 2 rfl) ?_
  refine xb_len hx hb hK hT0 hR.1 (ht0.mono xpm) dX8_overlaid_5 ?_
  refine nn_add hx hb dX8_overlaid_6 ?_
  refine va_mmax hx hb (hml.trans hl.1.symm) hown (hts (.methodLink RX8 291 Lib.Math.max.name) (by decide +kernel)) (hts (.static Lib.Math.max.name) (by decide +kernel)) (hts (.initialized "java/lang/Math") (by decide +kernel)) (hts (.code Lib.Math.max.name Lib.Math.max.code 2 (some .int)) (by decide +kernel)) (Nat.le_of_ble_eq_true rfl) (Nat.le_of_ble_eq_true rfl) (Nat.le_of_ble_eq_true rfl) (Nat.le_of_ble_eq_true rfl) dX8_overlaid_7 ?_
  refine nn_eqi (y := nI (if C0.length < at0 + T0.length then at0 + T0.length else C0.length)) (max_nI (by omega) (by omega)) ?_
  obtain ⟨mx, hmx⟩ : ∃ mx, mx = (if C0.length < at0 + T0.length then at0 + T0.length else C0.length) := ⟨_, rfl⟩
  have hmx2 : C0.length ≤ mx ∧ at0 + T0.length ≤ mx ∧ mx ≤ 1500 := by rw [hmx]; split <;> omega
  rw [← hmx]
  refine xc_callS (As := [.ref ca, .int (nI mx)]) (rest := []) (cx := []) (wr := []) (c_copyOf l hT (X := []) (hc0.mono xpm) (by omega) (by omega)) ⟨hx, hb, hml, hown, hts⟩ (va_cwS 2 hts gX8_overlaid_J7_copyOf_9075b rfl rfl rfl (by decide +kernel) ⟨Nat.le_of_ble_eq_true rfl, Nat.le_of_ble_eq_true rfl⟩) hK hZ hR hA [] [] rfl rfl (by decide) (by decide) (by decide) rfl hl.1 rfl (Nat.le_of_ble_eq_true rfl) dX8_overlaid_10 ⟨Nat.le_of_ble_eq_true rfl, Nat.le_of_ble_eq_true rfl⟩ (fun r_1 X_r_1 nw_r_1 H locs hr_1 hR => ?_)
  obtain ⟨rfl, q, gq, rfl, rfl, hen, hq⟩ := hr_1
  have hqb := hq.mem
  have hR : rR G A s.heap _ _ ([(q, .inl (cB, mx, .inl gq))] ++ pl) := (xc_unpool hR)
  refine lv_astore_n (lv' := [(3, .ref q), (0, .ref ca), (1, .int (nI at0)), (2, .ref ta)]) hx hb dX8_overlaid_13 rfl hl (by decide) rfl (fun ls hl => ?_)
  refine lv_iconst (v := nI 0) hx hb dX8_overlaid_14 rfl ?_
  refine lv_istore (lv' := [(4, .int (nI 0)), (3, .ref q), (0, .ref ca), (1, .int (nI at0)), (2, .ref ta)]) hx hb dX8_overlaid_15 hl (by decide) rfl (fun ls hl => ?_)
  have lp_17 : ∀ (n_17 : Nat) (i : Nat) (g2 : Nat → Int32) (H : Heap) (locs : List Loc) (ls : Array Slot), (T0.length - i) < n_17 → (i ≤ T0.length) → (∀ k, k < i → g2 (at0 + k) = sb_b (T0.getD k 0)) → (∀ k, k < at0 ∨ at0 + i ≤ k → g2 k = gq k) → rR G A s.heap H locs ([(q, .inl (cB, mx, .inl g2))] ++ pl) → lv_has ls 6 [(0, .ref ca), (1, .int (nI at0)), (2, .ref ta), (3, .ref q), (4, .int (nI i))] → W p l e ({ frames := 2, cells := 1, slots := 1500, locals := 82 } : Room) s m args below meth c H locs 1 1500 Q (F0 m 17 ls []) := by
    intro n_17
    induction n_17 with
    | zero => intro i g2 H locs ls h0; exact absurd h0 (Nat.not_lt_zero _)
    | succ n_17 ih_17 =>
      intro i g2 H locs ls hm_17 hi hg1 hg2 hR hl
      refine lv_iload hx hb dX8_overlaid_17 (lv_at hl 4 rfl) ?_
      refine lv_aload_n hx hb dX8_overlaid_19 rfl (lv_at hl 2 rfl) ?_
      refine xb_len hx hb hK hT0 hR.1 (ht0.mono xpm) dX8_overlaid_20 ?_
      refine nn_ge hx hb dX8_overlaid_21 (tgt := 56) (by decide) (by omega) (by omega) (fun c_2 => ?_) (fun c_2 => ?_)
      · obtain ⟨ho9, hen2⟩ := ovl_enb (T := T0) ha0 hmx hen (fun k hk => hg1 k (by omega)) (fun k hk => hg2 k (by omega))
        have hR : rR G A s.heap _ _ ([] ++ (pl ++ [(q, .inl (cB, mx, .inl g2))])) := xc_pool (X := []) (q := (q, .inl (cB, mx, .inl g2))) hR
        obtain ⟨pl1, e_pl1, sb_pl_pl1⟩ : ∃ z : va_W, z = pl ++ [(q, .inl (cB, mx, .inl g2))] ∧ ∀ q, q ∈ pl → q ∈ z := ⟨_, rfl, plm⟩
        rw [← e_pl1] at hR
        have t_pl1 : pl1 = pl ++ [(q, .inl (cB, mx, .inl g2))] := e_pl1
        have hm_q : (q, .inl (cB, mx, .inl g2)) ∈ pl1 := by rw [e_pl1]; exact List.mem_append_right _ List.mem_cons_self
        refine lv_aload_n hx hb dX8_overlaid_56 rfl (lv_at hl 3 rfl) ?_
        rw [hQ]
        refine W.widen (k := 1) (n := 1500) (by omega) (by omega) ?_
        refine xc_aret (X1 := []) (nw := [(q, .inl (cB, mx, .inl g2))]) hx hb hr (Or.inr ⟨_, rfl⟩) (Or.inr ⟨_, rfl⟩) hlocks ?_ ?_ dX8_overlaid_57
        · rw [← t_pl1]; exact hR
        · try rw [← t_pl1]
          exact ⟨q, rfl, rfl, g2, by rw [ho9]; exact hm_q, hen2, ovl_mem hc0.mem ht0.mem, by omega⟩
      · refine lv_iload_n hx hb dX8_overlaid_24 rfl (lv_at hl 1 rfl) ?_
        refine lv_iload hx hb dX8_overlaid_25 (lv_at hl 4 rfl) ?_
        refine nn_add hx hb dX8_overlaid_27 ?_
        refine lv_istore (lv' := [(5, .int (nI (at0 + i))), (0, .ref ca), (1, .int (nI at0)), (2, .ref ta), (3, .ref q), (4, .int (nI i))]) hx hb dX8_overlaid_28 hl (by decide) rfl (fun ls hl => ?_)
        refine lv_iload hx hb dX8_overlaid_30 (lv_at hl 0 rfl) ?_
        refine nz_lt hx hb dX8_overlaid_32 (tgt := 50) (by decide) (by omega) (fun c_3 => ?_) (fun c_3 => ?_)
        · exact absurd c_3 (Nat.not_lt_zero _)
        · refine lv_iload hx hb dX8_overlaid_35 (lv_at hl 0 rfl) ?_
          refine lv_aload_n hx hb dX8_overlaid_37 rfl (lv_at hl 4 rfl) ?_
          refine va_alen (v := nI mx) hx hb hK hR.1 0 0 rfl hT0 rfl dX8_overlaid_38 ?_
          refine nn_ge hx hb dX8_overlaid_39 (tgt := 50) (by decide) (by omega) (by omega) (fun c_4 => ?_) (fun c_4 => ?_)
          · exact absurd c_4 (by omega)
          · refine lv_aload_n hx hb dX8_overlaid_42 rfl (lv_at hl 4 rfl) ?_
            refine lv_iload hx hb dX8_overlaid_43 (lv_at hl 0 rfl) ?_
            refine lv_aload_n hx hb dX8_overlaid_45 rfl (lv_at hl 3 rfl) ?_
            refine lv_iload hx hb dX8_overlaid_46 (lv_at hl 5 rfl) ?_
            refine xb_ld hx hb hK hT0 hR.1 (ht0.mono xpm) (by omega) dX8_overlaid_48 ?_
            have hb_5 : T0.getD i 0 < 256 := bArr.lt ht0 (by omega)
            have gb_5 := sbi_or (T0.getD i 0)
            refine xc_bst hx hb hK hT0 hR 0 rfl (by omega) (by omega) (sb_vnar (bArr.lt ht0 (by omega))) dX8_overlaid_49 (fun H locs hR => ?_)
            have hR : rR G A s.heap _ _ ([(q, .inl (cB, mx, .inl (upd g2 (at0 + i) (sb_b (T0.getD i 0)))))] ++ pl) := hR
            refine lv_iinc (v := nI (i + 1)) (lv' := [(4, .int (nI (i + 1))), (5, .int (nI (at0 + i))), (0, .ref ca), (1, .int (nI at0)), (2, .ref ta), (3, .ref q)]) hx hb dX8_overlaid_50 hl (k := 5) rfl (nI_add i 1) (by decide) rfl (fun ls hl => ?_)
            refine lv_goto (tgt := 17) hx hb dX8_overlaid_53 (by decide) ?_
            exact ih_17 (i + 1) (upd g2 (at0 + i) (sb_b (T0.getD i 0))) _ _ _ (by omega) (by omega) (fun k hk => by by_cases e9 : k = i; (rw [e9, pk_us]); (rw [pk_un (by omega)]; exact hg1 k (by omega))) (fun k hk => by rw [pk_un (by omega)]; exact hg2 k (by omega)) hR (lv_sub hl [2, 3, 4, 5, 0] rfl)
  exact lp_17 (((T0.length - 0)) + 1) 0 gq _ _ _ (Nat.lt_succ_self _) (Nat.zero_le _) (fun j h => absurd h (Nat.not_lt_zero _)) (fun _ _ => rfl) hR (lv_sub hl [2, 3, 4, 1, 0] rfl)
