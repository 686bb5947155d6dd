set_option maxHeartbeats 4000000 in
set_option maxRecDepth 100000 in
theorem c_add_rn (l : Launch) {G : va_G} {tys : List (ClassId × FieldType)} {cB cI cE cS : ClassId} (hT : tys = [(cB, .byte), (cI, .int), (cE, .object RX1), (cS, .object RX4)]) {pl : va_W} {sz : Nat} {ch b1 b2 : Nat} {f1 f2 : Nat → Option Nat} {C : List Cg} (hcr : cRows pl cB f1 f2 C) (hcl : C.length < 180) {a : Nat} {u : En} (he : pEnt pl cB a u) : cMet l yX0_add wsX0_add ({ frames := 0, cells := 0, slots := 0, locals := 0 } : Room) G tys [.ref ch, .ref a, .null] [(ch, .inr (0, [.ref b1, .ref b2, .int (nI C.length)])), (b1, .inl (cE, 180, rfs f1)), (b2, .inl (cE, 180, rfs f2))] pl sz 0 0 (fun o9 X1 nw => o9 = none ∧ nw = [] ∧ ∃ g1 g2 : Nat → Option Nat, X1 = [(ch, .inr (0, [.ref b1, .ref b2, .int (nI ((C ++ [((some u), none)]).length))])), (b1, .inl (cE, 180, rfs g1)), (b2, .inl (cE, 180, rfs g2))] ∧ cRows pl cB g1 g2 (C ++ [((some u), none)])) := by
  have hT0 : tys[0]? = some (cB, .byte) := by rw [hT]; rfl
  have hT1 : tys[1]? = some (cI, .int) := by rw [hT]; rfl
  have hT2 : tys[2]? = some (cE, .object RX1) := by rw [hT]; rfl
  have hT3 : tys[3]? = some (cS, .object RX4) := by rw [hT]; rfl
  refine Met.ofW (cc := cX0_add) (maxL := 3) (ret := none) (by decide) rfl ?_
  intro p e s m args below meth c s₁ B hml hv
  obtain ⟨hargs, hsz, hP, hK, hD0, hZ⟩ := hv
  have hx := B.exec
  have hb := B.bytes
  have hr := B.returns
  have hts := atoms_spec (ws := wsX0_add) B.pre
  have hown : s.vm.findClass RX0 = some m.cls := findClass_of_methodNamed B.named
  have hlocks := B.notSynchronized
  subst hsz
  have hD := hD0.self (sz := s.heap.size)
  obtain ⟨A, hAe⟩ : ∃ A : Nat → Prop, A = va_A ([(ch, .inr (0, [.ref b1, .ref b2, .int (nI C.length)])), (b1, .inl (cE, 180, rfs f1)), (b2, .inl (cE, 180, rfs f2))] ++ pl) s.heap.size := ⟨_, rfl⟩
  rw [← hAe] at hD
  have hA : ∀ q : Nat, s.heap.size ≤ q → A q := fun q h => by rw [hAe]; exact Or.inr h
  have inX0 : ∀ w ∈ wsX00, w ∈ wsX0_add := by decide +kernel
  have k_13 := hts (.fieldLink RX0 13 "MirrorKeep$Changes" "before" "[LMirrorKeep$Entry;") (by decide +kernel)
  have k_17 := hts (.fieldLink RX0 17 "MirrorKeep$Changes" "after" "[LMirrorKeep$Entry;") (by decide +kernel)
  have k_20 := hts (.fieldLink RX0 20 "MirrorKeep$Changes" "count" "I") (by decide +kernel)
  have hR : rR G A s.heap s.heap [] ([(ch, .inr (0, [.ref b1, .ref b2, .int (nI C.length)])), (b1, .inl (cE, 180, rfs f1)), (b2, .inl (cE, 180, rfs f2))] ++ pl) := ⟨hP, hD, va_S.rf⟩
  obtain ⟨Q, hQ⟩ : ∃ Q : State → Prop, Q = MQ below (cQ G A pl (fun o9 X1 nw => o9 = none ∧ nw = [] ∧ ∃ g1 g2 : Nat → Option Nat, X1 = [(ch, .inr (0, [.ref b1, .ref b2, .int (nI ((C ++ [((some u), none)]).length))])), (b1, .inl (cE, 180, rfs g1)), (b2, .inl (cE, 180, rfs g2))] ∧ cRows pl cB g1 g2 (C ++ [((some u), none)]))) args s 0 0 A := ⟨_, rfl⟩
  change W p l e ({ frames := 0, cells := 0, slots := 0, locals := 0 } : Room) s m args below meth c s.heap [] 0 0 (MQ below (cQ G (va_A ([(ch, .inr (0, [.ref b1, .ref b2, .int (nI C.length)])), (b1, .inl (cE, 180, rfs f1)), (b2, .inl (cE, 180, rfs f2))] ++ pl) s.heap.size) pl (fun o9 X1 nw => o9 = none ∧ nw = [] ∧ ∃ g1 g2 : Nat → Option Nat, X1 = [(ch, .inr (0, [.ref b1, .ref b2, .int (nI ((C ++ [((some u), none)]).length))])), (b1, .inl (cE, 180, rfs g1)), (b2, .inl (cE, 180, rfs g2))] ∧ cRows pl cB g1 g2 (C ++ [((some u), none)]))) args s 0 0 (va_A ([(ch, .inr (0, [.ref b1, .ref b2, .int (nI C.length)])), (b1, .inl (cE, 180, rfs f1)), (b2, .inl (cE, 180, rfs f2))] ++ pl) s.heap.size)) (entryFrame m args 3)
  rw [← hAe]
  rw [← hQ]
  refine nn_entry hargs (Nat.le_of_ble_eq_true rfl) (lv := [(0, .ref ch), (1, .ref a), (2, .null)]) rfl (fun ls hl => ?_)
  obtain ⟨pae_1, cae_1, hme_1, hpae_1, hcae_1⟩ := id he
  refine lv_aload_n hx hb dX0_add_0 rfl (lv_at hl 0 rfl) ?_
  refine xg (ci := 0) (C := RX0) (T := TX0) (N := 3) (v := .int (nI C.length)) hx hb hts inX0 hown hK hR.1 (List.mem_of_getElem? (i := 0) rfl) rfl 2 (by decide) k_20 (fun _ h => h) rfl dX0_add_1 ?_
  refine lv_sipush (v := nI 180) hx hb dX0_add_4 (by decide) ?_
  refine nn_ge hx hb dX0_add_7 (tgt := 40) (by decide) (by omega) (by omega) (fun c_2 => ?_) (fun c_2 => ?_)
  · exact absurd c_2 (by omega)
  · refine lv_aload_n hx hb dX0_add_10 rfl (lv_at hl 0 rfl) ?_
    refine xg (ci := 0) (C := RX0) (T := TX0) (N := 3) (v := .ref b1) hx hb hts inX0 hown hK hR.1 (List.mem_of_getElem? (i := 0) rfl) rfl 0 (by decide) k_13 (fun _ h => h) rfl dX0_add_11 ?_
    refine lv_aload_n hx hb dX0_add_14 rfl (lv_at hl 0 rfl) ?_
    refine xg (ci := 0) (C := RX0) (T := TX0) (N := 3) (v := .int (nI C.length)) hx hb hts inX0 hown hK hR.1 (List.mem_of_getElem? (i := 0) rfl) rfl 2 (by decide) k_20 (fun _ h => h) rfl dX0_add_15 ?_
    refine lv_aload_n hx hb dX0_add_18 rfl (lv_at hl 1 rfl) ?_
    refine xc_ast (ci := 1) (t0 := 2) hx hb hK hT2 rfl hR 1 rfl (List.mem_append_right _ hme_1) (by omega) (by decide) dX0_add_19 (fun H locs hR => ?_)
    have hR : rR G A s.heap _ _ ([(ch, .inr (0, [.ref b1, .ref b2, .int (nI C.length)])), (b1, .inl (cE, 180, rfs (va_up f1 C.length (some a)))), (b2, .inl (cE, 180, rfs f2))] ++ pl) := hR
    refine lv_aload_n hx hb dX0_add_20 rfl (lv_at hl 0 rfl) ?_
    refine xg (ci := 0) (C := RX0) (T := TX0) (N := 3) (v := .ref b2) hx hb hts inX0 hown hK hR.1 (List.mem_of_getElem? (i := 0) rfl) rfl 1 (by decide) k_17 (fun _ h => h) rfl dX0_add_21 ?_
    refine lv_aload_n hx hb dX0_add_24 rfl (lv_at hl 0 rfl) ?_
    refine xg (ci := 0) (C := RX0) (T := TX0) (N := 3) (v := .int (nI C.length)) hx hb hts inX0 hown hK hR.1 (List.mem_of_getElem? (i := 0) rfl) rfl 2 (by decide) k_20 (fun _ h => h) rfl dX0_add_25 ?_
    refine lv_aload_nN hx hb dX0_add_28 rfl (lv_at hl 2 rfl) ?_
    refine xc_astN (t0 := 2) hx hb hK hT2 hR 2 rfl (by omega) (by decide) dX0_add_29 (fun H locs hR => ?_)
    have hR : rR G A s.heap _ _ ([(ch, .inr (0, [.ref b1, .ref b2, .int (nI C.length)])), (b1, .inl (cE, 180, rfs (va_up f1 C.length (some a)))), (b2, .inl (cE, 180, rfs (va_up f2 C.length none)))] ++ pl) := hR
    refine lv_aload_n hx hb dX0_add_30 rfl (lv_at hl 0 rfl) ?_
    refine lv_dup hx hb dX0_add_31 rfl ?_
    refine xg (ci := 0) (C := RX0) (T := TX0) (N := 3) (v := .int (nI C.length)) hx hb hts inX0 hown hK hR.1 (List.mem_of_getElem? (i := 0) rfl) rfl 2 (by decide) k_20 (fun _ h => h) rfl dX0_add_32 ?_
    refine lv_iconst (v := nI 1) hx hb dX0_add_35 rfl ?_
    refine nn_add hx hb dX0_add_36 ?_
    refine va_put (D := G) (ci := 0) (v := .int (nI (C.length + 1))) (ty := .int) (C := RX0) (T := TX0) (N := 3) hx hb hts inX0 tyX0 tyX0_ok nmX0 hown hK hR.1 hR.2.1 hR.2.2 0 rfl rfl 2 (by decide) k_20 (fun _ h => h) rfl (by decide +kernel) rfl rfl (Nat.le_of_ble_eq_true rfl) dX0_add_37 (fun H locs hP hD hS => ?_)
    have hR : rR G A s.heap _ _ ([(ch, .inr (0, [.ref b1, .ref b2, .int (nI (C.length + 1))])), (b1, .inl (cE, 180, rfs (va_up f1 C.length (some a)))), (b2, .inl (cE, 180, rfs (va_up f2 C.length none)))] ++ pl) := ⟨hP, hD, hS⟩
    rw [hQ]
    exact xc_vret (X1 := [(ch, .inr (0, [.ref b1, .ref b2, .int (nI (C.length + 1))])), (b1, .inl (cE, 180, rfs (va_up f1 C.length (some a)))), (b2, .inl (cE, 180, rfs (va_up f2 C.length none)))]) (nw := []) hx hb hr hlocks (by rw [List.append_nil]; exact hR) ⟨rfl, rfl, _, _, by rw [List.length_append]; rfl, cRows_app hcr hcl (Or.inr ⟨u, a, rfl, rfl, he⟩) (Or.inl ⟨rfl, rfl⟩)⟩ dX0_add_40
set_option maxHeartbeats 4000000 in
set_option maxRecDepth 100000 in
theorem c_add_nr (l : Launch) {G : va_G} {tys : List (ClassId × FieldType)} {cB cI cE cS : ClassId} (hT : tys = [(cB, .byte), (cI, .int), (cE, .object RX1), (cS, .object RX4)]) {pl : va_W} {sz : Nat} {ch b1 b2 : Nat} {f1 f2 : Nat → Option Nat} {C : List Cg} (hcr : cRows pl cB f1 f2 C) (hcl : C.length < 180) {b : Nat} {v : En} (he2 : pEnt pl cB b v) : cMet l yX0_add wsX0_add ({ frames := 0, cells := 0, slots := 0, locals := 0 } : Room) G tys [.ref ch, .null, .ref b] [(ch, .inr (0, [.ref b1, .ref b2, .int (nI C.length)])), (b1, .inl (cE, 180, rfs f1)), (b2, .inl (cE, 180, rfs f2))] pl sz 0 0 (fun o9 X1 nw => o9 = none ∧ nw = [] ∧ ∃ g1 g2 : Nat → Option Nat, X1 = [(ch, .inr (0, [.ref b1, .ref b2, .int (nI ((C ++ [(none, (some v))]).length))])), (b1, .inl (cE, 180, rfs g1)), (b2, .inl (cE, 180, rfs g2))] ∧ cRows pl cB g1 g2 (C ++ [(none, (some v))])) := by
  have hT0 : tys[0]? = some (cB, .byte) := by rw [hT]; rfl
  have hT1 : tys[1]? = some (cI, .int) := by rw [hT]; rfl
  have hT2 : tys[2]? = some (cE, .object RX1) := by rw [hT]; rfl
  have hT3 : tys[3]? = some (cS, .object RX4) := by rw [hT]; rfl
  refine Met.ofW (cc := cX0_add) (maxL := 3) (ret := none) (by decide) rfl ?_
  intro p e s m args below meth c s₁ B hml hv
  obtain ⟨hargs, hsz, hP, hK, hD0, hZ⟩ := hv
  have hx := B.exec
  have hb := B.bytes
  have hr := B.returns
  have hts := atoms_spec (ws := wsX0_add) B.pre
  have hown : s.vm.findClass RX0 = some m.cls := findClass_of_methodNamed B.named
  have hlocks := B.notSynchronized
  subst hsz
  have hD := hD0.self (sz := s.heap.size)
  obtain ⟨A, hAe⟩ : ∃ A : Nat → Prop, A = va_A ([(ch, .inr (0, [.ref b1, .ref b2, .int (nI C.length)])), (b1, .inl (cE, 180, rfs f1)), (b2, .inl (cE, 180, rfs f2))] ++ pl) s.heap.size := ⟨_, rfl⟩
  rw [← hAe] at hD
  have hA : ∀ q : Nat, s.heap.size ≤ q → A q := fun q h => by rw [hAe]; exact Or.inr h
  have inX0 : ∀ w ∈ wsX00, w ∈ wsX0_add := by decide +kernel
  have k_13 := hts (.fieldLink RX0 13 "MirrorKeep$Changes" "before" "[LMirrorKeep$Entry;") (by decide +kernel)
  have k_17 := hts (.fieldLink RX0 17 "MirrorKeep$Changes" "after" "[LMirrorKeep$Entry;") (by decide +kernel)
  have k_20 := hts (.fieldLink RX0 20 "MirrorKeep$Changes" "count" "I") (by decide +kernel)
  have hR : rR G A s.heap s.heap [] ([(ch, .inr (0, [.ref b1, .ref b2, .int (nI C.length)])), (b1, .inl (cE, 180, rfs f1)), (b2, .inl (cE, 180, rfs f2))] ++ pl) := ⟨hP, hD, va_S.rf⟩
  obtain ⟨Q, hQ⟩ : ∃ Q : State → Prop, Q = MQ below (cQ G A pl (fun o9 X1 nw => o9 = none ∧ nw = [] ∧ ∃ g1 g2 : Nat → Option Nat, X1 = [(ch, .inr (0, [.ref b1, .ref b2, .int (nI ((C ++ [(none, (some v))]).length))])), (b1, .inl (cE, 180, rfs g1)), (b2, .inl (cE, 180, rfs g2))] ∧ cRows pl cB g1 g2 (C ++ [(none, (some v))]))) args s 0 0 A := ⟨_, rfl⟩
  change W p l e ({ frames := 0, cells := 0, slots := 0, locals := 0 } : Room) s m args below meth c s.heap [] 0 0 (MQ below (cQ G (va_A ([(ch, .inr (0, [.ref b1, .ref b2, .int (nI C.length)])), (b1, .inl (cE, 180, rfs f1)), (b2, .inl (cE, 180, rfs f2))] ++ pl) s.heap.size) pl (fun o9 X1 nw => o9 = none ∧ nw = [] ∧ ∃ g1 g2 : Nat → Option Nat, X1 = [(ch, .inr (0, [.ref b1, .ref b2, .int (nI ((C ++ [(none, (some v))]).length))])), (b1, .inl (cE, 180, rfs g1)), (b2, .inl (cE, 180, rfs g2))] ∧ cRows pl cB g1 g2 (C ++ [(none, (some v))]))) args s 0 0 (va_A ([(ch, .inr (0, [.ref b1, .ref b2, .int (nI C.length)])), (b1, .inl (cE, 180, rfs f1)), (b2, .inl (cE, 180, rfs f2))] ++ pl) s.heap.size)) (entryFrame m args 3)
  rw [← hAe]
  rw [← hQ]
  refine nn_entry hargs (Nat.le_of_ble_eq_true rfl) (lv := [(0, .ref ch), (1, .null), (2, .ref b)]) rfl (fun ls hl => ?_)
  obtain ⟨pae_1, cae_1, hme_1, hpae_1, hcae_1⟩ := id he2
  refine lv_aload_n hx hb dX0_add_0 rfl (lv_at hl 0 rfl) ?_
  refine xg (ci := 0) (C := RX0) (T := TX0) (N := 3) (v := .int (nI C.length)) hx hb hts inX0 hown hK hR.1 (List.mem_of_getElem? (i := 0) rfl) rfl 2 (by decide) k_20 (fun _ h => h) rfl dX0_add_1 ?_
  refine lv_sipush (v := nI 180) hx hb dX0_add_4 (by decide) ?_
  refine nn_ge hx hb dX0_add_7 (tgt := 40) (by decide) (by omega) (by omega) (fun c_2 => ?_) (fun c_2 => ?_)
  · exact absurd c_2 (by omega)
  · refine lv_aload_n hx hb dX0_add_10 rfl (lv_at hl 0 rfl) ?_
    refine xg (ci := 0) (C := RX0) (T := TX0) (N := 3) (v := .ref b1) hx hb hts inX0 hown hK hR.1 (List.mem_of_getElem? (i := 0) rfl) rfl 0 (by decide) k_13 (fun _ h => h) rfl dX0_add_11 ?_
    refine lv_aload_n hx hb dX0_add_14 rfl (lv_at hl 0 rfl) ?_
    refine xg (ci := 0) (C := RX0) (T := TX0) (N := 3) (v := .int (nI C.length)) hx hb hts inX0 hown hK hR.1 (List.mem_of_getElem? (i := 0) rfl) rfl 2 (by decide) k_20 (fun _ h => h) rfl dX0_add_15 ?_
    refine lv_aload_nN hx hb dX0_add_18 rfl (lv_at hl 1 rfl) ?_
    refine xc_astN (t0 := 2) hx hb hK hT2 hR 1 rfl (by omega) (by decide) dX0_add_19 (fun H locs hR => ?_)
    have hR : rR G A s.heap _ _ ([(ch, .inr (0, [.ref b1, .ref b2, .int (nI C.length)])), (b1, .inl (cE, 180, rfs (va_up f1 C.length none))), (b2, .inl (cE, 180, rfs f2))] ++ pl) := hR
    refine lv_aload_n hx hb dX0_add_20 rfl (lv_at hl 0 rfl) ?_
    refine xg (ci := 0) (C := RX0) (T := TX0) (N := 3) (v := .ref b2) hx hb hts inX0 hown hK hR.1 (List.mem_of_getElem? (i := 0) rfl) rfl 1 (by decide) k_17 (fun _ h => h) rfl dX0_add_21 ?_
    refine lv_aload_n hx hb dX0_add_24 rfl (lv_at hl 0 rfl) ?_
    refine xg (ci := 0) (C := RX0) (T := TX0) (N := 3) (v := .int (nI C.length)) hx hb hts inX0 hown hK hR.1 (List.mem_of_getElem? (i := 0) rfl) rfl 2 (by decide) k_20 (fun _ h => h) rfl dX0_add_25 ?_
    refine lv_aload_n hx hb dX0_add_28 rfl (lv_at hl 2 rfl) ?_
    refine xc_ast (ci := 1) (t0 := 2) hx hb hK hT2 rfl hR 2 rfl (List.mem_append_right _ hme_1) (by omega) (by decide) dX0_add_29 (fun H locs hR => ?_)
    have hR : rR G A s.heap _ _ ([(ch, .inr (0, [.ref b1, .ref b2, .int (nI C.length)])), (b1, .inl (cE, 180, rfs (va_up f1 C.length none))), (b2, .inl (cE, 180, rfs (va_up f2 C.length (some b))))] ++ pl) := hR
    refine lv_aload_n hx hb dX0_add_30 rfl (lv_at hl 0 rfl) ?_
    refine lv_dup hx hb dX0_add_31 rfl ?_
    refine xg (ci := 0) (C := RX0) (T := TX0) (N := 3) (v := .int (nI C.length)) hx hb hts inX0 hown hK hR.1 (List.mem_of_getElem? (i := 0) rfl) rfl 2 (by decide) k_20 (fun _ h => h) rfl dX0_add_32 ?_
    refine lv_iconst (v := nI 1) hx hb dX0_add_35 rfl ?_
    refine nn_add hx hb dX0_add_36 ?_
    refine va_put (D := G) (ci := 0) (v := .int (nI (C.length + 1))) (ty := .int) (C := RX0) (T := TX0) (N := 3) hx hb hts inX0 tyX0 tyX0_ok nmX0 hown hK hR.1 hR.2.1 hR.2.2 0 rfl rfl 2 (by decide) k_20 (fun _ h => h) rfl (by decide +kernel) rfl rfl (Nat.le_of_ble_eq_true rfl) dX0_add_37 (fun H locs hP hD hS => ?_)
    have hR : rR G A s.heap _ _ ([(ch, .inr (0, [.ref b1, .ref b2, .int (nI (C.length + 1))])), (b1, .inl (cE, 180, rfs (va_up f1 C.length none))), (b2, .inl (cE, 180, rfs (va_up f2 C.length (some b))))] ++ pl) := ⟨hP, hD, hS⟩
    rw [hQ]
    exact xc_vret (X1 := [(ch, .inr (0, [.ref b1, .ref b2, .int (nI (C.length + 1))])), (b1, .inl (cE, 180, rfs (va_up f1 C.length none))), (b2, .inl (cE, 180, rfs (va_up f2 C.length (some b))))]) (nw := []) hx hb hr hlocks (by rw [List.append_nil]; exact hR) ⟨rfl, rfl, _, _, by rw [List.length_append]; rfl, cRows_app hcr hcl (Or.inl ⟨rfl, rfl⟩) (Or.inr ⟨v, b, rfl, rfl, he2⟩)⟩ dX0_add_40
set_option maxHeartbeats 4000000 in
set_option maxRecDepth 100000 in
theorem c_add_rr (l : Launch) {G : va_G} {tys : List (ClassId × FieldType)} {cB cI cE cS : ClassId} (hT : tys = [(cB, .byte), (cI, .int), (cE, .object RX1), (cS, .object RX4)]) {pl : va_W} {sz : Nat} {ch b1 b2 : Nat} {f1 f2 : Nat → Option Nat} {C : List Cg} (hcr : cRows pl cB f1 f2 C) (hcl : C.length < 180) {a : Nat} {u : En} (he : pEnt pl cB a u) {b : Nat} {v : En} (he2 : pEnt pl cB b v) : cMet l yX0_add wsX0_add ({ frames := 0, cells := 0, slots := 0, locals := 0 } : Room) G tys [.ref ch, .ref a, .ref b] [(ch, .inr (0, [.ref b1, .ref b2, .int (nI C.length)])), (b1, .inl (cE, 180, rfs f1)), (b2, .inl (cE, 180, rfs f2))] pl sz 0 0 (fun o9 X1 nw => o9 = none ∧ nw = [] ∧ ∃ g1 g2 : Nat → Option Nat, X1 = [(ch, .inr (0, [.ref b1, .ref b2, .int (nI ((C ++ [((some u), (some v))]).length))])), (b1, .inl (cE, 180, rfs g1)), (b2, .inl (cE, 180, rfs g2))] ∧ cRows pl cB g1 g2 (C ++ [((some u), (some v))])) := by
  have hT0 : tys[0]? = some (cB, .byte) := by rw [hT]; rfl
  have hT1 : tys[1]? = some (cI, .int) := by rw [hT]; rfl
  have hT2 : tys[2]? = some (cE, .object RX1) := by rw [hT]; rfl
  have hT3 : tys[3]? = some (cS, .object RX4) := by rw [hT]; rfl
  refine Met.ofW (cc := cX0_add) (maxL := 3) (ret := none) (by decide) rfl ?_
  intro p e s m args below meth c s₁ B hml hv
  obtain ⟨hargs, hsz, hP, hK, hD0, hZ⟩ := hv
  have hx := B.exec
  have hb := B.bytes
  have hr := B.returns
  have hts := atoms_spec (ws := wsX0_add) B.pre
  have hown : s.vm.findClass RX0 = some m.cls := findClass_of_methodNamed B.named
  have hlocks := B.notSynchronized
  subst hsz
  have hD := hD0.self (sz := s.heap.size)
  obtain ⟨A, hAe⟩ : ∃ A : Nat → Prop, A = va_A ([(ch, .inr (0, [.ref b1, .ref b2, .int (nI C.length)])), (b1, .inl (cE, 180, rfs f1)), (b2, .inl (cE, 180, rfs f2))] ++ pl) s.heap.size := ⟨_, rfl⟩
  rw [← hAe] at hD
  have hA : ∀ q : Nat, s.heap.size ≤ q → A q := fun q h => by rw [hAe]; exact Or.inr h
  have inX0 : ∀ w ∈ wsX00, w ∈ wsX0_add := by decide +kernel
  have k_13 := hts (.fieldLink RX0 13 "MirrorKeep$Changes" "before" "[LMirrorKeep$Entry;") (by decide +kernel)
  have k_17 := hts (.fieldLink RX0 17 "MirrorKeep$Changes" "after" "[LMirrorKeep$Entry;") (by decide +kernel)
  have k_20 := hts (.fieldLink RX0 20 "MirrorKeep$Changes" "count" "I") (by decide +kernel)
  have hR : rR G A s.heap s.heap [] ([(ch, .inr (0, [.ref b1, .ref b2, .int (nI C.length)])), (b1, .inl (cE, 180, rfs f1)), (b2, .inl (cE, 180, rfs f2))] ++ pl) := ⟨hP, hD, va_S.rf⟩
  obtain ⟨Q, hQ⟩ : ∃ Q : State → Prop, Q = MQ below (cQ G A pl (fun o9 X1 nw => o9 = none ∧ nw = [] ∧ ∃ g1 g2 : Nat → Option Nat, X1 = [(ch, .inr (0, [.ref b1, .ref b2, .int (nI ((C ++ [((some u), (some v))]).length))])), (b1, .inl (cE, 180, rfs g1)), (b2, .inl (cE, 180, rfs g2))] ∧ cRows pl cB g1 g2 (C ++ [((some u), (some v))]))) args s 0 0 A := ⟨_, rfl⟩
  change W p l e ({ frames := 0, cells := 0, slots := 0, locals := 0 } : Room) s m args below meth c s.heap [] 0 0 (MQ below (cQ G (va_A ([(ch, .inr (0, [.ref b1, .ref b2, .int (nI C.length)])), (b1, .inl (cE, 180, rfs f1)), (b2, .inl (cE, 180, rfs f2))] ++ pl) s.heap.size) pl (fun o9 X1 nw => o9 = none ∧ nw = [] ∧ ∃ g1 g2 : Nat → Option Nat, X1 = [(ch, .inr (0, [.ref b1, .ref b2, .int (nI ((C ++ [((some u), (some v))]).length))])), (b1, .inl (cE, 180, rfs g1)), (b2, .inl (cE, 180, rfs g2))] ∧ cRows pl cB g1 g2 (C ++ [((some u), (some v))]))) args s 0 0 (va_A ([(ch, .inr (0, [.ref b1, .ref b2, .int (nI C.length)])), (b1, .inl (cE, 180, rfs f1)), (b2, .inl (cE, 180, rfs f2))] ++ pl) s.heap.size)) (entryFrame m args 3)
  rw [← hAe]
  rw [← hQ]
  refine nn_entry hargs (Nat.le_of_ble_eq_true rfl) (lv := [(0, .ref ch), (1, .ref a), (2, .ref b)]) rfl (fun ls hl => ?_)
  obtain ⟨pae_1, cae_1, hme_1, hpae_1, hcae_1⟩ := id he
  obtain ⟨pae_2, cae_2, hme_2, hpae_2, hcae_2⟩ := id he2
  refine lv_aload_n hx hb dX0_add_0 rfl (lv_at hl 0 rfl) ?_
  refine xg (ci := 0) (C := RX0) (T := TX0) (N := 3) (v := .int (nI C.length)) hx hb hts inX0 hown hK hR.1 (List.mem_of_getElem? (i := 0) rfl) rfl 2 (by decide) k_20 (fun _ h => h) rfl dX0_add_1 ?_
  refine lv_sipush (v := nI 180) hx hb dX0_add_4 (by decide) ?_
  refine nn_ge hx hb dX0_add_7 (tgt := 40) (by decide) (by omega) (by omega) (fun c_3 => ?_) (fun c_3 => ?_)
  · exact absurd c_3 (by omega)
  · refine lv_aload_n hx hb dX0_add_10 rfl (lv_at hl 0 rfl) ?_
    refine xg (ci := 0) (C := RX0) (T := TX0) (N := 3) (v := .ref b1) hx hb hts inX0 hown hK hR.1 (List.mem_of_getElem? (i := 0) rfl) rfl 0 (by decide) k_13 (fun _ h => h) rfl dX0_add_11 ?_
    refine lv_aload_n hx hb dX0_add_14 rfl (lv_at hl 0 rfl) ?_
    refine xg (ci := 0) (C := RX0) (T := TX0) (N := 3) (v := .int (nI C.length)) hx hb hts inX0 hown hK hR.1 (List.mem_of_getElem? (i := 0) rfl) rfl 2 (by decide) k_20 (fun _ h => h) rfl dX0_add_15 ?_
    refine lv_aload_n hx hb dX0_add_18 rfl (lv_at hl 1 rfl) ?_
    refine xc_ast (ci := 1) (t0 := 2) hx hb hK hT2 rfl hR 1 rfl (List.mem_append_right _ hme_1) (by omega) (by decide) dX0_add_19 (fun H locs hR => ?_)
    have hR : rR G A s.heap _ _ ([(ch, .inr (0, [.ref b1, .ref b2, .int (nI C.length)])), (b1, .inl (cE, 180, rfs (va_up f1 C.length (some a)))), (b2, .inl (cE, 180, rfs f2))] ++ pl) := hR
    refine lv_aload_n hx hb dX0_add_20 rfl (lv_at hl 0 rfl) ?_
    refine xg (ci := 0) (C := RX0) (T := TX0) (N := 3) (v := .ref b2) hx hb hts inX0 hown hK hR.1 (List.mem_of_getElem? (i := 0) rfl) rfl 1 (by decide) k_17 (fun _ h => h) rfl dX0_add_21 ?_
    refine lv_aload_n hx hb dX0_add_24 rfl (lv_at hl 0 rfl) ?_
    refine xg (ci := 0) (C := RX0) (T := TX0) (N := 3) (v := .int (nI C.length)) hx hb hts inX0 hown hK hR.1 (List.mem_of_getElem? (i := 0) rfl) rfl 2 (by decide) k_20 (fun _ h => h) rfl dX0_add_25 ?_
    refine lv_aload_n hx hb dX0_add_28 rfl (lv_at hl 2 rfl) ?_
    refine xc_ast (ci := 1) (t0 := 2) hx hb hK hT2 rfl hR 2 rfl (List.mem_append_right _ hme_2) (by omega) (by decide) dX0_add_29 (fun H locs hR => ?_)
    have hR : rR G A s.heap _ _ ([(ch, .inr (0, [.ref b1, .ref b2, .int (nI C.length)])), (b1, .inl (cE, 180, rfs (va_up f1 C.length (some a)))), (b2, .inl (cE, 180, rfs (va_up f2 C.length (some b))))] ++ pl) := hR
    refine lv_aload_n hx hb dX0_add_30 rfl (lv_at hl 0 rfl) ?_
    refine lv_dup hx hb dX0_add_31 rfl ?_
    refine xg (ci := 0) (C := RX0) (T := TX0) (N := 3) (v := .int (nI C.length)) hx hb hts inX0 hown hK hR.1 (List.mem_of_getElem? (i := 0) rfl) rfl 2 (by decide) k_20 (fun _ h => h) rfl dX0_add_32 ?_
    refine lv_iconst (v := nI 1) hx hb dX0_add_35 rfl ?_
    refine nn_add hx hb dX0_add_36 ?_
    refine va_put (D := G) (ci := 0) (v := .int (nI (C.length + 1))) (ty := .int) (C := RX0) (T := TX0) (N := 3) hx hb hts inX0 tyX0 tyX0_ok nmX0 hown hK hR.1 hR.2.1 hR.2.2 0 rfl rfl 2 (by decide) k_20 (fun _ h => h) rfl (by decide +kernel) rfl rfl (Nat.le_of_ble_eq_true rfl) dX0_add_37 (fun H locs hP hD hS => ?_)
    have hR : rR G A s.heap _ _ ([(ch, .inr (0, [.ref b1, .ref b2, .int (nI (C.length + 1))])), (b1, .inl (cE, 180, rfs (va_up f1 C.length (some a)))), (b2, .inl (cE, 180, rfs (va_up f2 C.length (some b))))] ++ pl) := ⟨hP, hD, hS⟩
    rw [hQ]
    exact xc_vret (X1 := [(ch, .inr (0, [.ref b1, .ref b2, .int (nI (C.length + 1))])), (b1, .inl (cE, 180, rfs (va_up f1 C.length (some a)))), (b2, .inl (cE, 180, rfs (va_up f2 C.length (some b))))]) (nw := []) hx hb hr hlocks (by rw [List.append_nil]; exact hR) ⟨rfl, rfl, _, _, by rw [List.length_append]; rfl, cRows_app hcr hcl (Or.inr ⟨u, a, rfl, rfl, he⟩) (Or.inr ⟨v, b, rfl, rfl, he2⟩)⟩ dX0_add_40
set_option maxHeartbeats 4000000 in
set_option maxRecDepth 100000 in
theorem c_find (l : Launch) {G : va_G} {tys : List (ClassId × FieldType)} {cB cI cE cS : ClassId} (hT : tys = [(cB, .byte), (cI, .int), (cE, .object RX1), (cS, .object RX4)]) {pl : va_W} {sz : Nat} {ch b1 b2 : Nat} {f1 f2 : Nat → Option Nat} {C : List Cg} (hcr : cRows pl cB f1 f2 C) {t1 r1 t2 r2 : Nat} {h1 h2 : Nat → Option Nat} {S T : List En} (hS9 : tRows pl cB h1 S) (hT9 : tRows pl cB h2 T) (hlen : S.length + T.length ≤ 180) : cMet l yX0_find wsX0_find ({ frames := 2, cells := 0, slots := 0, locals := 43 } : Room) G tys [.ref ch, .ref t1, .ref t2] [(ch, .inr (0, [.ref b1, .ref b2, .int (nI C.length)])), (b1, .inl (cE, 180, rfs f1)), (b2, .inl (cE, 180, rfs f2)), (t1, .inr (5, [.ref r1, .int (nI S.length)])), (r1, .inl (cE, 120, rfs h1)), (t2, .inr (5, [.ref r2, .int (nI T.length)])), (r2, .inl (cE, 120, rfs h2))] pl sz 0 0 (fun o9 X1 nw => o9 = none ∧ nw = [] ∧ ∃ g1 g2 : Nat → Option Nat, X1 = [(ch, .inr (0, [.ref b1, .ref b2, .int (nI ((chg S T).length))])), (b1, .inl (cE, 180, rfs g1)), (b2, .inl (cE, 180, rfs g2)), (t1, .inr (5, [.ref r1, .int (nI S.length)])), (r1, .inl (cE, 120, rfs h1)), (t2, .inr (5, [.ref r2, .int (nI T.length)])), (r2, .inl (cE, 120, rfs h2))] ∧ cRows pl cB g1 g2 (chg S T)) := by
  have hT0 : tys[0]? = some (cB, .byte) := by rw [hT]; rfl
  have hT1 : tys[1]? = some (cI, .int) := by rw [hT]; rfl
  have hT2 : tys[2]? = some (cE, .object RX1) := by rw [hT]; rfl
  have hT3 : tys[3]? = some (cS, .object RX4) := by rw [hT]; rfl
  refine Met.ofW (cc := cX0_find) (maxL := 10) (ret := none) (by decide) rfl ?_
  intro p e s m args below meth c s₁ B hml hv
  obtain ⟨hargs, hsz, hP, hK, hD0, hZ⟩ := hv
  have hx := B.exec
  have hb := B.bytes
  have hr := B.returns
  have hts := atoms_spec (ws := wsX0_find) B.pre
  have hown : s.vm.findClass RX0 = some m.cls := findClass_of_methodNamed B.named
  have hlocks := B.notSynchronized
  subst hsz
  have hD := hD0.self (sz := s.heap.size)
  obtain ⟨A, hAe⟩ : ∃ A : Nat → Prop, A = va_A ([(ch, .inr (0, [.ref b1, .ref b2, .int (nI C.length)])), (b1, .inl (cE, 180, rfs f1)), (b2, .inl (cE, 180, rfs f2)), (t1, .inr (5, [.ref r1, .int (nI S.length)])), (r1, .inl (cE, 120, rfs h1)), (t2, .inr (5, [.ref r2, .int (nI T.length)])), (r2, .inl (cE, 120, rfs h2))] ++ pl) s.heap.size := ⟨_, rfl⟩
  rw [← hAe] at hD
  have hA : ∀ q : Nat, s.heap.size ≤ q → A q := fun q h => by rw [hAe]; exact Or.inr h
  have inX0 : ∀ w ∈ wsX00, w ∈ wsX0_find := by decide +kernel
  have k_20 := hts (.fieldLink RX0 20 "MirrorKeep$Changes" "count" "I") (by decide +kernel)
  have hR : rR G A s.heap s.heap [] ([(ch, .inr (0, [.ref b1, .ref b2, .int (nI C.length)])), (b1, .inl (cE, 180, rfs f1)), (b2, .inl (cE, 180, rfs f2)), (t1, .inr (5, [.ref r1, .int (nI S.length)])), (r1, .inl (cE, 120, rfs h1)), (t2, .inr (5, [.ref r2, .int (nI T.length)])), (r2, .inl (cE, 120, rfs h2))] ++ pl) := ⟨hP, hD, va_S.rf⟩
  obtain ⟨Q, hQ⟩ : ∃ Q : State → Prop, Q = MQ below (cQ G A pl (fun o9 X1 nw => o9 = none ∧ nw = [] ∧ ∃ g1 g2 : Nat → Option Nat, X1 = [(ch, .inr (0, [.ref b1, .ref b2, .int (nI ((chg S T).length))])), (b1, .inl (cE, 180, rfs g1)), (b2, .inl (cE, 180, rfs g2)), (t1, .inr (5, [.ref r1, .int (nI S.length)])), (r1, .inl (cE, 120, rfs h1)), (t2, .inr (5, [.ref r2, .int (nI T.length)])), (r2, .inl (cE, 120, rfs h2))] ∧ cRows pl cB g1 g2 (chg S T))) args s 0 0 A := ⟨_, rfl⟩
  change W p l e ({ frames := 2, cells := 0, slots := 0, locals := 43 } : Room) s m args below meth c s.heap [] 0 0 (MQ below (cQ G (va_A ([(ch, .inr (0, [.ref b1, .ref b2, .int (nI C.length)])), (b1, .inl (cE, 180, rfs f1)), (b2, .inl (cE, 180, rfs f2)), (t1, .inr (5, [.ref r1, .int (nI S.length)])), (r1, .inl (cE, 120, rfs h1)), (t2, .inr (5, [.ref r2, .int (nI T.length)])), (r2, .inl (cE, 120, rfs h2))] ++ pl) s.heap.size) pl (fun o9 X1 nw => o9 = none ∧ nw = [] ∧ ∃ g1 g2 : Nat → Option Nat, X1 = [(ch, .inr (0, [.ref b1, .ref b2, .int (nI ((chg S T).length))])), (b1, .inl (cE, 180, rfs g1)), (b2, .inl (cE, 180, rfs g2)), (t1, .inr (5, [.ref r1, .int (nI S.length)])), (r1, .inl (cE, 120, rfs h1)), (t2, .inr (5, [.ref r2, .int (nI T.length)])), (r2, .inl (cE, 120, rfs h2))] ∧ cRows pl cB g1 g2 (chg S T))) args s 0 0 (va_A ([(ch, .inr (0, [.ref b1, .ref b2, .int (nI C.length)])), (b1, .inl (cE, 180, rfs f1)), (b2, .inl (cE, 180, rfs f2)), (t1, .inr (5, [.ref r1, .int (nI S.length)])), (r1, .inl (cE, 120, rfs h1)), (t2, .inr (5, [.ref r2, .int (nI T.length)])), (r2, .inl (cE, 120, rfs h2))] ++ pl) s.heap.size)) (entryFrame m args 10)
  rw [← hAe]
  rw [← hQ]
  refine nn_entry hargs (Nat.le_of_ble_eq_true rfl) (lv := [(0, .ref ch), (1, .ref t1), (2, .ref t2)]) rfl (fun ls hl => ?_)
  have hl1 := hS9.1
  have hl2 := hT9.1
  refine lv_aload_n hx hb dX0_find_0 rfl (lv_at hl 0 rfl) ?_
  refine lv_iconst (v := nI 0) hx hb dX0_find_1 rfl ?_
  refine va_put (D := G) (ci := 0) (v := .int (nI 0)) (ty := .int) (C := RX0) (T := TX0) (N := 3) hx hb hts inX0 tyX0 tyX0_ok nmX0 hown hK hR.1 hR.2.1 hR.2.2 0 rfl rfl 2 (by decide) k_20 (fun _ h => h) rfl (by decide +kernel) rfl rfl (Nat.le_of_ble_eq_true rfl) dX0_find_2 (fun H locs hP hD hS => ?_)
  have hR : rR G A s.heap _ _ ([(ch, .inr (0, [.ref b1, .ref b2, .int (nI 0)])), (b1, .inl (cE, 180, rfs f1)), (b2, .inl (cE, 180, rfs f2)), (t1, .inr (5, [.ref r1, .int (nI S.length)])), (r1, .inl (cE, 120, rfs h1)), (t2, .inr (5, [.ref r2, .int (nI T.length)])), (r2, .inl (cE, 120, rfs h2))] ++ pl) := ⟨hP, hD, hS⟩
  refine lv_iconst (v := nI 0) hx hb dX0_find_5 rfl ?_
  refine lv_istore_n (lv' := [(3, .int (nI 0)), (0, .ref ch), (1, .ref t1), (2, .ref t2)]) hx hb dX0_find_6 rfl hl (by decide) rfl (fun ls hl => ?_)
  refine lv_iconst (v := nI 0) hx hb dX0_find_7 rfl ?_
  refine lv_istore (lv' := [(4, .int (nI 0)), (3, .int (nI 0)), (0, .ref ch), (1, .ref t1), (2, .ref t2)]) hx hb dX0_find_8 hl (by decide) rfl (fun ls hl => ?_)
  refine lv_aload_n hx hb dX0_find_10 rfl (lv_at hl 3 rfl) ?_
  refine pf_callV (C := RX6) (As := []) (rest := []) (p_tsize l hT (⟨(List.mem_of_getElem? (i := 3) rfl), (List.mem_of_getElem? (i := 4) rfl), (hS9.mono xpm)⟩ : tRep ([(ch, .inr (0, [.ref b1, .ref b2, .int (nI 0)])), (b1, .inl (cE, 180, rfs f1)), (b2, .inl (cE, 180, rfs f2)), (t1, .inr (5, [.ref r1, .int (nI S.length)])), (r1, .inl (cE, 120, rfs h1)), (t2, .inr (5, [.ref r2, .int (nI T.length)])), (r2, .inl (cE, 120, rfs h2))] ++ pl) cB cE t1 r1 h1 S)) ⟨hx, hb, hml, hown, hts⟩ (cwV 0 hts gX0_find_X6_size rfl rfl rfl (by decide +kernel) ⟨Nat.le_of_ble_eq_true rfl, Nat.le_of_ble_eq_true rfl⟩) hK hR.1 (xrecv (ci := 5) hK hR.1 rfl (List.mem_of_getElem? (i := 3) rfl)) rfl hl.1 rfl (Nat.le_of_ble_eq_true rfl) dX0_find_11 ⟨Nat.le_of_ble_eq_true rfl, Nat.le_of_ble_eq_true rfl⟩ (fun r_1 hr_1 => ?_)
  subst hr_1
  refine lv_aload_n hx hb dX0_find_14 rfl (lv_at hl 4 rfl) ?_
  refine pf_callV (C := RX6) (As := []) (rest := [.int (nI S.length)]) (p_tsize l hT (⟨(List.mem_of_getElem? (i := 5) rfl), (List.mem_of_getElem? (i := 6) rfl), (hT9.mono xpm)⟩ : tRep ([(ch, .inr (0, [.ref b1, .ref b2, .int (nI 0)])), (b1, .inl (cE, 180, rfs f1)), (b2, .inl (cE, 180, rfs f2)), (t1, .inr (5, [.ref r1, .int (nI S.length)])), (r1, .inl (cE, 120, rfs h1)), (t2, .inr (5, [.ref r2, .int (nI T.length)])), (r2, .inl (cE, 120, rfs h2))] ++ pl) cB cE t2 r2 h2 T)) ⟨hx, hb, hml, hown, hts⟩ (cwV 0 hts gX0_find_X6_size rfl rfl rfl (by decide +kernel) ⟨Nat.le_of_ble_eq_true rfl, Nat.le_of_ble_eq_true rfl⟩) hK hR.1 (xrecv (ci := 5) hK hR.1 rfl (List.mem_of_getElem? (i := 5) rfl)) rfl hl.1 rfl (Nat.le_of_ble_eq_true rfl) dX0_find_15 ⟨Nat.le_of_ble_eq_true rfl, Nat.le_of_ble_eq_true rfl⟩ (fun r_2 hr_2 => ?_)
  subst hr_2
  refine nn_add hx hb dX0_find_18 ?_
  refine lv_istore (lv' := [(5, .int (nI (S.length + T.length))), (4, .int (nI 0)), (3, .int (nI 0)), (0, .ref ch), (1, .ref t1), (2, .ref t2)]) hx hb dX0_find_19 hl (by decide) rfl (fun ls hl => ?_)
  refine lv_iconst (v := nI 0) hx hb dX0_find_21 rfl ?_
  refine lv_istore (lv' := [(6, .int (nI 0)), (5, .int (nI (S.length + T.length))), (4, .int (nI 0)), (3, .int (nI 0)), (0, .ref ch), (1, .ref t1), (2, .ref t2)]) hx hb dX0_find_22 hl (by decide) rfl (fun ls hl => ?_)
  have lp_24 : ∀ (n_24 : Nat) (rd : Nat) (i : Nat) (j : Nat) (C : List Cg) (f1 : Nat → Option Nat) (f2 : Nat → Option Nat) (H : Heap) (locs : List Loc) (ls : Array Slot), (S.length + T.length - rd) < n_24 → (i ≤ S.length) → (j ≤ T.length) → (rd ≤ i + j) → (C.length ≤ i + j) → (cRows pl cB f1 f2 C) → (C ++ chg (S.drop i) (T.drop j) = chg S T) → rR G A s.heap H locs ([(ch, .inr (0, [.ref b1, .ref b2, .int (nI C.length)])), (b1, .inl (cE, 180, rfs f1)), (b2, .inl (cE, 180, rfs f2)), (t1, .inr (5, [.ref r1, .int (nI S.length)])), (r1, .inl (cE, 120, rfs h1)), (t2, .inr (5, [.ref r2, .int (nI T.length)])), (r2, .inl (cE, 120, rfs h2))] ++ pl) → lv_has ls 10 [(0, .ref ch), (1, .ref t1), (2, .ref t2), (3, .int (nI i)), (4, .int (nI j)), (5, .int (nI (S.length + T.length))), (6, .int (nI rd))] → W p l e ({ frames := 2, cells := 0, slots := 0, locals := 43 } : Room) s m args below meth c H locs 0 0 Q (F0 m 24 ls []) := by
    intro n_24
    induction n_24 with
    | zero => intro rd i j C f1 f2 H locs ls h0; exact absurd h0 (Nat.not_lt_zero _)
    | succ n_24 ih_24 =>
      intro rd i j C f1 f2 H locs ls hm_24 hi hj hrd hcl hcr hch hR hl
      refine lv_iload hx hb dX0_find_24 (lv_at hl 6 rfl) ?_
      refine lv_iload hx hb dX0_find_26 (lv_at hl 5 rfl) ?_
      refine nn_ge hx hb dX0_find_28 (tgt := 158) (by decide) (by omega) (by omega) (fun c_3 => ?_) (fun c_3 => ?_)
      · rw [hQ]
        exact xc_vret (X1 := [(ch, .inr (0, [.ref b1, .ref b2, .int (nI C.length)])), (b1, .inl (cE, 180, rfs f1)), (b2, .inl (cE, 180, rfs f2)), (t1, .inr (5, [.ref r1, .int (nI S.length)])), (r1, .inl (cE, 120, rfs h1)), (t2, .inr (5, [.ref r2, .int (nI T.length)])), (r2, .inl (cE, 120, rfs h2))]) (nw := []) hx hb hr hlocks (by rw [List.append_nil]; exact hR) ⟨rfl, rfl, f1, f2, by rw [← hch, chg_end (by omega) (by omega), List.append_nil], by rw [← hch, chg_end (by omega) (by omega), List.append_nil]; exact hcr⟩ dX0_find_158
      · refine lv_aload_n hx hb dX0_find_31 rfl (lv_at hl 1 rfl) ?_
        refine lv_iload_n hx hb dX0_find_32 rfl (lv_at hl 3 rfl) ?_
        refine pf_callV (C := RX6) (As := [.int (nI i)]) (rest := []) (p_tget l hT (⟨(List.mem_of_getElem? (i := 3) rfl), (List.mem_of_getElem? (i := 4) rfl), (hS9.mono xpm)⟩ : tRep ([(ch, .inr (0, [.ref b1, .ref b2, .int (nI C.length)])), (b1, .inl (cE, 180, rfs f1)), (b2, .inl (cE, 180, rfs f2)), (t1, .inr (5, [.ref r1, .int (nI S.length)])), (r1, .inl (cE, 120, rfs h1)), (t2, .inr (5, [.ref r2, .int (nI T.length)])), (r2, .inl (cE, 120, rfs h2))] ++ pl) cB cE t1 r1 h1 S) (nI i)) ⟨hx, hb, hml, hown, hts⟩ (cwV 1 hts gX0_find_X6_get rfl rfl rfl (by decide +kernel) ⟨Nat.le_of_ble_eq_true rfl, Nat.le_of_ble_eq_true rfl⟩) hK hR.1 (xrecv (ci := 5) hK hR.1 rfl (List.mem_of_getElem? (i := 3) rfl)) rfl hl.1 rfl (Nat.le_of_ble_eq_true rfl) dX0_find_33 ⟨Nat.le_of_ble_eq_true rfl, Nat.le_of_ble_eq_true rfl⟩ (fun r_4 hr_4 => ?_)
        rcases hr_4 with ⟨hr_4, rfl⟩ | ⟨k_5, a_6, hk_5, jk_5, rfl, ha_6, -⟩
        · have hna_6 : S.length ≤ i := by rw [nI_toInt (by omega)] at hr_4; omega
          refine lv_astoreN (lv' := [(7, .null), (0, .ref ch), (1, .ref t1), (2, .ref t2), (3, .int (nI i)), (4, .int (nI j)), (5, .int (nI (S.length + T.length))), (6, .int (nI rd))]) hx hb dX0_find_36 hl (by decide) rfl (fun ls hl => ?_)
          refine lv_aload_n hx hb dX0_find_38 rfl (lv_at hl 3 rfl) ?_
          refine lv_iload hx hb dX0_find_39 (lv_at hl 5 rfl) ?_
          refine pf_callV (C := RX6) (As := [.int (nI j)]) (rest := []) (p_tget l hT (⟨(List.mem_of_getElem? (i := 5) rfl), (List.mem_of_getElem? (i := 6) rfl), (hT9.mono xpm)⟩ : tRep ([(ch, .inr (0, [.ref b1, .ref b2, .int (nI C.length)])), (b1, .inl (cE, 180, rfs f1)), (b2, .inl (cE, 180, rfs f2)), (t1, .inr (5, [.ref r1, .int (nI S.length)])), (r1, .inl (cE, 120, rfs h1)), (t2, .inr (5, [.ref r2, .int (nI T.length)])), (r2, .inl (cE, 120, rfs h2))] ++ pl) cB cE t2 r2 h2 T) (nI j)) ⟨hx, hb, hml, hown, hts⟩ (cwV 1 hts gX0_find_X6_get rfl rfl rfl (by decide +kernel) ⟨Nat.le_of_ble_eq_true rfl, Nat.le_of_ble_eq_true rfl⟩) hK hR.1 (xrecv (ci := 5) hK hR.1 rfl (List.mem_of_getElem? (i := 5) rfl)) rfl hl.1 rfl (Nat.le_of_ble_eq_true rfl) dX0_find_41 ⟨Nat.le_of_ble_eq_true rfl, Nat.le_of_ble_eq_true rfl⟩ (fun r_8 hr_8 => ?_)
          rcases hr_8 with ⟨hr_8, rfl⟩ | ⟨k_9, a_10, hk_9, jk_9, rfl, ha_10, -⟩
          · have hna_10 : T.length ≤ j := by rw [nI_toInt (by omega)] at hr_8; omega
            refine lv_astoreN (lv' := [(8, .null), (7, .null), (0, .ref ch), (1, .ref t1), (2, .ref t2), (3, .int (nI i)), (4, .int (nI j)), (5, .int (nI (S.length + T.length))), (6, .int (nI rd))]) hx hb dX0_find_44 hl (by decide) rfl (fun ls hl => ?_)
            refine lv_aloadN hx hb dX0_find_46 (lv_at hl 1 rfl) ?_
            refine lv_ifnonnullN hx hb dX0_find_48 ?_
            refine lv_aloadN hx hb dX0_find_51 (lv_at hl 0 rfl) ?_
            refine lv_ifnonnullN hx hb dX0_find_53 ?_
            rw [hQ]
            exact xc_vret (X1 := [(ch, .inr (0, [.ref b1, .ref b2, .int (nI C.length)])), (b1, .inl (cE, 180, rfs f1)), (b2, .inl (cE, 180, rfs f2)), (t1, .inr (5, [.ref r1, .int (nI S.length)])), (r1, .inl (cE, 120, rfs h1)), (t2, .inr (5, [.ref r2, .int (nI T.length)])), (r2, .inl (cE, 120, rfs h2))]) (nw := []) hx hb hr hlocks (by rw [List.append_nil]; exact hR) ⟨rfl, rfl, f1, f2, by rw [← hch, chg_end (by omega) (by omega), List.append_nil], by rw [← hch, chg_end (by omega) (by omega), List.append_nil]; exact hcr⟩ dX0_find_56
          · have ek_9 : k_9 = j := ((nI_eq (by omega) (by omega)).mp hk_9).symm
            rw [ek_9] at jk_9 ha_10
            have ga_10 := pe_row hT9 (h := ha_10) jk_9
            obtain ⟨pae_12, cae_12, hme_12, hpae_12, hcae_12⟩ := id ga_10
            have qa_10 := hT9.2.2.1 j jk_9
            refine lv_astore (lv' := [(8, .ref a_10), (7, .null), (0, .ref ch), (1, .ref t1), (2, .ref t2), (3, .int (nI i)), (4, .int (nI j)), (5, .int (nI (S.length + T.length))), (6, .int (nI rd))]) hx hb dX0_find_44 hl (by decide) rfl (fun ls hl => ?_)
            refine lv_aloadN hx hb dX0_find_46 (lv_at hl 1 rfl) ?_
            refine lv_ifnonnullN hx hb dX0_find_48 ?_
            refine lv_aload hx hb dX0_find_51 (lv_at hl 0 rfl) ?_
            refine lv_ifnonnull hx hb dX0_find_53 (tgt := 57) (by decide) ?_
            refine lv_aloadN hx hb dX0_find_57 (lv_at hl 1 rfl) ?_
            refine lv_aload hx hb dX0_find_59 (lv_at hl 0 rfl) ?_
            refine pf_callS (As := [.null, .ref a_10]) (rest := []) (p_order_n l hT (w := ([(ch, .inr (0, [.ref b1, .ref b2, .int (nI C.length)])), (b1, .inl (cE, 180, rfs f1)), (b2, .inl (cE, 180, rfs f2)), (t1, .inr (5, [.ref r1, .int (nI S.length)])), (r1, .inl (cE, 120, rfs h1)), (t2, .inr (5, [.ref r2, .int (nI T.length)])), (r2, .inl (cE, 120, rfs h2))] ++ pl)) a_10) ⟨hx, hb, hml, hown, hts⟩ (va_cwS 2 hts gX0_find_X0_order rfl rfl rfl (by decide +kernel) ⟨Nat.le_of_ble_eq_true rfl, Nat.le_of_ble_eq_true rfl⟩) hK hR.1 rfl hl.1 rfl (Nat.le_of_ble_eq_true rfl) dX0_find_61 ⟨Nat.le_of_ble_eq_true rfl, Nat.le_of_ble_eq_true rfl⟩ (fun r_13 hr_13 => ?_)
            subst hr_13
            refine lv_istore (lv' := [(9, .int (nI 1)), (8, .ref a_10), (7, .null), (0, .ref ch), (1, .ref t1), (2, .ref t2), (3, .int (nI i)), (4, .int (nI j)), (5, .int (nI (S.length + T.length))), (6, .int (nI rd))]) hx hb dX0_find_64 hl (by decide) rfl (fun ls hl => ?_)
            refine lv_iload hx hb dX0_find_66 (lv_at hl 0 rfl) ?_
            refine zi_ge hx hb (show (nI 1).toInt = 1 from rfl) dX0_find_68 (tgt := 81) (by decide) (fun c_14 => ?_) (fun c_14 => ?_)
            · refine lv_iload hx hb dX0_find_81 (lv_at hl 0 rfl) ?_
              refine zi_le hx hb (show (nI 1).toInt = 1 from rfl) dX0_find_83 (tgt := 96) (by decide) (fun c_15 => ?_) (fun c_15 => ?_)
              · exact absurd c_15 (by omega)
              · refine lv_aload_n hx hb dX0_find_86 rfl (lv_at hl 3 rfl) ?_
                refine lv_null hx hb dX0_find_87 ?_
                refine lv_aload hx hb dX0_find_88 (lv_at hl 1 rfl) ?_
                refine xc_callV (C := RX0) (As := [.null, .ref a_10]) (rest := []) (cx := [(ch, .inr (0, [.ref b1, .ref b2, .int (nI C.length)])), (b1, .inl (cE, 180, rfs f1)), (b2, .inl (cE, 180, rfs f2))]) (wr := [(t1, .inr (5, [.ref r1, .int (nI S.length)])), (r1, .inl (cE, 120, rfs h1)), (t2, .inr (5, [.ref r2, .int (nI T.length)])), (r2, .inl (cE, 120, rfs h2))]) (c_add_nr l hT hcr (by omega) ga_10) ⟨hx, hb, hml, hown, hts⟩ (cwV 2 hts gX0_find_X0_add rfl rfl rfl (by decide +kernel) ⟨Nat.le_of_ble_eq_true rfl, Nat.le_of_ble_eq_true rfl⟩) hK hZ hR hA (xrecv (ci := 0) hK hR.1 rfl (List.mem_of_getElem? (i := 0) rfl)) [0, 1, 2] [3, 4, 5, 6] rfl rfl (by decide) (by decide) (by decide) rfl hl.1 rfl (Nat.le_of_ble_eq_true rfl) dX0_find_90 ⟨Nat.le_of_ble_eq_true rfl, Nat.le_of_ble_eq_true rfl⟩ (fun r_18 X_r_18 nw_r_18 H locs hr_18 hR => ?_)
                obtain ⟨rfl, rfl, g_16, g_17, rfl, hcr2⟩ := hr_18
                have hR : rR G A s.heap _ _ ([(ch, .inr (0, [.ref b1, .ref b2, .int (nI ((C ++ [(none, (some (T.getD j e0)))]).length))])), (b1, .inl (cE, 180, rfs g_16)), (b2, .inl (cE, 180, rfs g_17)), (t1, .inr (5, [.ref r1, .int (nI S.length)])), (r1, .inl (cE, 120, rfs h1)), (t2, .inr (5, [.ref r2, .int (nI T.length)])), (r2, .inl (cE, 120, rfs h2))] ++ pl) := xc_perm (xc_nil hR) [4, 5, 6, 0, 1, 2, 3] rfl (by decide)
                refine lv_goto (tgt := 124) hx hb dX0_find_93 (by decide) ?_
                refine lv_iload_n hx hb dX0_find_124 rfl (lv_at hl 6 rfl) ?_
                refine lv_iload hx hb dX0_find_125 (lv_at hl 0 rfl) ?_
                refine zi_gt hx hb (show (nI 1).toInt = 1 from rfl) dX0_find_127 (tgt := 134) (by decide) (fun c_19 => ?_) (fun c_19 => ?_)
                · refine lv_iconst (v := nI 0) hx hb dX0_find_134 rfl ?_
                  refine nn_add0 hx hb dX0_find_135 ?_
                  refine lv_istore_n (lv' := [(3, .int (nI i)), (9, .int (nI 1)), (8, .ref a_10), (7, .null), (0, .ref ch), (1, .ref t1), (2, .ref t2), (4, .int (nI j)), (5, .int (nI (S.length + T.length))), (6, .int (nI rd))]) hx hb dX0_find_136 rfl hl (by decide) rfl (fun ls hl => ?_)
                  refine lv_iload hx hb dX0_find_137 (lv_at hl 7 rfl) ?_
                  refine lv_iload hx hb dX0_find_139 (lv_at hl 1 rfl) ?_
                  refine zi_lt hx hb (show (nI 1).toInt = 1 from rfl) dX0_find_141 (tgt := 148) (by decide) (fun c_20 => ?_) (fun c_20 => ?_)
                  · exact absurd c_20 (by omega)
                  · refine lv_iconst (v := nI 1) hx hb dX0_find_144 rfl ?_
                    refine lv_goto (tgt := 149) hx hb dX0_find_145 (by decide) ?_
                    refine nn_add hx hb dX0_find_149 ?_
                    refine lv_istore (lv' := [(4, .int (nI (j + 1))), (3, .int (nI i)), (9, .int (nI 1)), (8, .ref a_10), (7, .null), (0, .ref ch), (1, .ref t1), (2, .ref t2), (5, .int (nI (S.length + T.length))), (6, .int (nI rd))]) hx hb dX0_find_150 hl (by decide) rfl (fun ls hl => ?_)
                    refine lv_iinc (v := nI (rd + 1)) (lv' := [(6, .int (nI (rd + 1))), (4, .int (nI (j + 1))), (3, .int (nI i)), (9, .int (nI 1)), (8, .ref a_10), (7, .null), (0, .ref ch), (1, .ref t1), (2, .ref t2), (5, .int (nI (S.length + T.length)))]) hx hb dX0_find_152 hl (k := 9) rfl (nI_add rd 1) (by decide) rfl (fun ls hl => ?_)
                    refine lv_goto (tgt := 24) hx hb dX0_find_155 (by decide) ?_
                    have hch2 := chg_app hch (chg_T (by omega) (by omega))
                    have hl9 : (C ++ [(none, (some (T.getD j e0)))]).length = C.length + 1 := by rw [List.length_append]; rfl
                    exact ih_24 (rd + 1) i (j + 1) (C ++ [(none, (some (T.getD j e0)))]) g_16 g_17 _ _ _ (by omega) (by omega) (by omega) (by omega) (by rw [hl9]; omega) hcr2 hch2 hR (lv_sub hl [6, 7, 8, 2, 1, 9, 0] rfl)
                · exact absurd c_19 (by omega)
            · exact absurd c_14 (by omega)
        · have ek_5 : k_5 = i := ((nI_eq (by omega) (by omega)).mp hk_5).symm
          rw [ek_5] at jk_5 ha_6
          have ga_6 := pe_row hS9 (h := ha_6) jk_5
          obtain ⟨pae_21, cae_21, hme_21, hpae_21, hcae_21⟩ := id ga_6
          have qa_6 := hS9.2.2.1 i jk_5
          refine lv_astore (lv' := [(7, .ref a_6), (0, .ref ch), (1, .ref t1), (2, .ref t2), (3, .int (nI i)), (4, .int (nI j)), (5, .int (nI (S.length + T.length))), (6, .int (nI rd))]) hx hb dX0_find_36 hl (by decide) rfl (fun ls hl => ?_)
          refine lv_aload_n hx hb dX0_find_38 rfl (lv_at hl 3 rfl) ?_
          refine lv_iload hx hb dX0_find_39 (lv_at hl 5 rfl) ?_
          refine pf_callV (C := RX6) (As := [.int (nI j)]) (rest := []) (p_tget l hT (⟨(List.mem_of_getElem? (i := 5) rfl), (List.mem_of_getElem? (i := 6) rfl), (hT9.mono xpm)⟩ : tRep ([(ch, .inr (0, [.ref b1, .ref b2, .int (nI C.length)])), (b1, .inl (cE, 180, rfs f1)), (b2, .inl (cE, 180, rfs f2)), (t1, .inr (5, [.ref r1, .int (nI S.length)])), (r1, .inl (cE, 120, rfs h1)), (t2, .inr (5, [.ref r2, .int (nI T.length)])), (r2, .inl (cE, 120, rfs h2))] ++ pl) cB cE t2 r2 h2 T) (nI j)) ⟨hx, hb, hml, hown, hts⟩ (cwV 1 hts gX0_find_X6_get rfl rfl rfl (by decide +kernel) ⟨Nat.le_of_ble_eq_true rfl, Nat.le_of_ble_eq_true rfl⟩) hK hR.1 (xrecv (ci := 5) hK hR.1 rfl (List.mem_of_getElem? (i := 5) rfl)) rfl hl.1 rfl (Nat.le_of_ble_eq_true rfl) dX0_find_41 ⟨Nat.le_of_ble_eq_true rfl, Nat.le_of_ble_eq_true rfl⟩ (fun r_22 hr_22 => ?_)
          rcases hr_22 with ⟨hr_22, rfl⟩ | ⟨k_23, a_24, hk_23, jk_23, rfl, ha_24, -⟩
          · have hna_24 : T.length ≤ j := by rw [nI_toInt (by omega)] at hr_22; omega
            refine lv_astoreN (lv' := [(8, .null), (7, .ref a_6), (0, .ref ch), (1, .ref t1), (2, .ref t2), (3, .int (nI i)), (4, .int (nI j)), (5, .int (nI (S.length + T.length))), (6, .int (nI rd))]) hx hb dX0_find_44 hl (by decide) rfl (fun ls hl => ?_)
            refine lv_aload hx hb dX0_find_46 (lv_at hl 1 rfl) ?_
            refine lv_ifnonnull hx hb dX0_find_48 (tgt := 57) (by decide) ?_
            refine lv_aload hx hb dX0_find_57 (lv_at hl 1 rfl) ?_
            refine lv_aloadN hx hb dX0_find_59 (lv_at hl 0 rfl) ?_
            refine pf_callS (As := [.ref a_6, .null]) (rest := []) (p_order_f l hT (ga_6.mono xpm)) ⟨hx, hb, hml, hown, hts⟩ (va_cwS 2 hts gX0_find_X0_order rfl rfl rfl (by decide +kernel) ⟨Nat.le_of_ble_eq_true rfl, Nat.le_of_ble_eq_true rfl⟩) hK hR.1 rfl hl.1 rfl (Nat.le_of_ble_eq_true rfl) dX0_find_61 ⟨Nat.le_of_ble_eq_true rfl, Nat.le_of_ble_eq_true rfl⟩ (fun r_26 hr_26 => ?_)
            subst hr_26
            refine lv_istore (lv' := [(9, .int (-1)), (8, .null), (7, .ref a_6), (0, .ref ch), (1, .ref t1), (2, .ref t2), (3, .int (nI i)), (4, .int (nI j)), (5, .int (nI (S.length + T.length))), (6, .int (nI rd))]) hx hb dX0_find_64 hl (by decide) rfl (fun ls hl => ?_)
            refine lv_iload hx hb dX0_find_66 (lv_at hl 0 rfl) ?_
            refine zi_ge hx hb (show (-1 : Int32).toInt = -1 from rfl) dX0_find_68 (tgt := 81) (by decide) (fun c_27 => ?_) (fun c_27 => ?_)
            · exact absurd c_27 (by omega)
            · refine lv_aload_n hx hb dX0_find_71 rfl (lv_at hl 3 rfl) ?_
              refine lv_aload hx hb dX0_find_72 (lv_at hl 2 rfl) ?_
              refine lv_null hx hb dX0_find_74 ?_
              refine xc_callV (C := RX0) (As := [.ref a_6, .null]) (rest := []) (cx := [(ch, .inr (0, [.ref b1, .ref b2, .int (nI C.length)])), (b1, .inl (cE, 180, rfs f1)), (b2, .inl (cE, 180, rfs f2))]) (wr := [(t1, .inr (5, [.ref r1, .int (nI S.length)])), (r1, .inl (cE, 120, rfs h1)), (t2, .inr (5, [.ref r2, .int (nI T.length)])), (r2, .inl (cE, 120, rfs h2))]) (c_add_rn l hT hcr (by omega) ga_6) ⟨hx, hb, hml, hown, hts⟩ (cwV 2 hts gX0_find_X0_add rfl rfl rfl (by decide +kernel) ⟨Nat.le_of_ble_eq_true rfl, Nat.le_of_ble_eq_true rfl⟩) hK hZ hR hA (xrecv (ci := 0) hK hR.1 rfl (List.mem_of_getElem? (i := 0) rfl)) [0, 1, 2] [3, 4, 5, 6] rfl rfl (by decide) (by decide) (by decide) rfl hl.1 rfl (Nat.le_of_ble_eq_true rfl) dX0_find_75 ⟨Nat.le_of_ble_eq_true rfl, Nat.le_of_ble_eq_true rfl⟩ (fun r_30 X_r_30 nw_r_30 H locs hr_30 hR => ?_)
              obtain ⟨rfl, rfl, g_28, g_29, rfl, hcr2⟩ := hr_30
              have hR : rR G A s.heap _ _ ([(ch, .inr (0, [.ref b1, .ref b2, .int (nI ((C ++ [((some (S.getD i e0)), none)]).length))])), (b1, .inl (cE, 180, rfs g_28)), (b2, .inl (cE, 180, rfs g_29)), (t1, .inr (5, [.ref r1, .int (nI S.length)])), (r1, .inl (cE, 120, rfs h1)), (t2, .inr (5, [.ref r2, .int (nI T.length)])), (r2, .inl (cE, 120, rfs h2))] ++ pl) := xc_perm (xc_nil hR) [4, 5, 6, 0, 1, 2, 3] rfl (by decide)
              refine lv_goto (tgt := 124) hx hb dX0_find_78 (by decide) ?_
              refine lv_iload_n hx hb dX0_find_124 rfl (lv_at hl 6 rfl) ?_
              refine lv_iload hx hb dX0_find_125 (lv_at hl 0 rfl) ?_
              refine zi_gt hx hb (show (-1 : Int32).toInt = -1 from rfl) dX0_find_127 (tgt := 134) (by decide) (fun c_31 => ?_) (fun c_31 => ?_)
              · exact absurd c_31 (by omega)
              · refine lv_iconst (v := nI 1) hx hb dX0_find_130 rfl ?_
                refine lv_goto (tgt := 135) hx hb dX0_find_131 (by decide) ?_
                refine nn_add hx hb dX0_find_135 ?_
                refine lv_istore_n (lv' := [(3, .int (nI (i + 1))), (9, .int (-1)), (8, .null), (7, .ref a_6), (0, .ref ch), (1, .ref t1), (2, .ref t2), (4, .int (nI j)), (5, .int (nI (S.length + T.length))), (6, .int (nI rd))]) hx hb dX0_find_136 rfl hl (by decide) rfl (fun ls hl => ?_)
                refine lv_iload hx hb dX0_find_137 (lv_at hl 7 rfl) ?_
                refine lv_iload hx hb dX0_find_139 (lv_at hl 1 rfl) ?_
                refine zi_lt hx hb (show (-1 : Int32).toInt = -1 from rfl) dX0_find_141 (tgt := 148) (by decide) (fun c_32 => ?_) (fun c_32 => ?_)
                · refine lv_iconst (v := nI 0) hx hb dX0_find_148 rfl ?_
                  refine nn_add0 hx hb dX0_find_149 ?_
                  refine lv_istore (lv' := [(4, .int (nI j)), (3, .int (nI (i + 1))), (9, .int (-1)), (8, .null), (7, .ref a_6), (0, .ref ch), (1, .ref t1), (2, .ref t2), (5, .int (nI (S.length + T.length))), (6, .int (nI rd))]) hx hb dX0_find_150 hl (by decide) rfl (fun ls hl => ?_)
                  refine lv_iinc (v := nI (rd + 1)) (lv' := [(6, .int (nI (rd + 1))), (4, .int (nI j)), (3, .int (nI (i + 1))), (9, .int (-1)), (8, .null), (7, .ref a_6), (0, .ref ch), (1, .ref t1), (2, .ref t2), (5, .int (nI (S.length + T.length)))]) hx hb dX0_find_152 hl (k := 9) rfl (nI_add rd 1) (by decide) rfl (fun ls hl => ?_)
                  refine lv_goto (tgt := 24) hx hb dX0_find_155 (by decide) ?_
                  have hch2 := chg_app hch (chg_S (by omega) (by omega))
                  have hl9 : (C ++ [((some (S.getD i e0)), none)]).length = C.length + 1 := by rw [List.length_append]; rfl
                  exact ih_24 (rd + 1) (i + 1) j (C ++ [((some (S.getD i e0)), none)]) g_28 g_29 _ _ _ (by omega) (by omega) (by omega) (by omega) (by rw [hl9]; omega) hcr2 hch2 hR (lv_sub hl [6, 7, 8, 2, 1, 9, 0] rfl)
                · exact absurd c_32 (by omega)
          · have ek_23 : k_23 = j := ((nI_eq (by omega) (by omega)).mp hk_23).symm
            rw [ek_23] at jk_23 ha_24
            have ga_24 := pe_row hT9 (h := ha_24) jk_23
            obtain ⟨pae_33, cae_33, hme_33, hpae_33, hcae_33⟩ := id ga_24
            have qa_24 := hT9.2.2.1 j jk_23
            refine lv_astore (lv' := [(8, .ref a_24), (7, .ref a_6), (0, .ref ch), (1, .ref t1), (2, .ref t2), (3, .int (nI i)), (4, .int (nI j)), (5, .int (nI (S.length + T.length))), (6, .int (nI rd))]) hx hb dX0_find_44 hl (by decide) rfl (fun ls hl => ?_)
            refine lv_aload hx hb dX0_find_46 (lv_at hl 1 rfl) ?_
            refine lv_ifnonnull hx hb dX0_find_48 (tgt := 57) (by decide) ?_
            refine lv_aload hx hb dX0_find_57 (lv_at hl 1 rfl) ?_
            refine lv_aload hx hb dX0_find_59 (lv_at hl 0 rfl) ?_
            refine pf_callS (As := [.ref a_6, .ref a_24]) (rest := []) (p_order_b l hT (ga_6.mono xpm) (ga_24.mono xpm) (by omega) (by omega)) ⟨hx, hb, hml, hown, hts⟩ (va_cwS 2 hts gX0_find_X0_order rfl rfl rfl (by decide +kernel) ⟨Nat.le_of_ble_eq_true rfl, Nat.le_of_ble_eq_true rfl⟩) hK hR.1 rfl hl.1 rfl (Nat.le_of_ble_eq_true rfl) dX0_find_61 ⟨Nat.le_of_ble_eq_true rfl, Nat.le_of_ble_eq_true rfl⟩ (fun r_34 hr_34 => ?_)
            obtain ⟨v_35, rfl, hv_35⟩ := hr_34
            obtain ⟨s1v_35, s2v_35⟩ := id hv_35
            refine lv_istore (lv' := [(9, .int v_35), (8, .ref a_24), (7, .ref a_6), (0, .ref ch), (1, .ref t1), (2, .ref t2), (3, .int (nI i)), (4, .int (nI j)), (5, .int (nI (S.length + T.length))), (6, .int (nI rd))]) hx hb dX0_find_64 hl (by decide) rfl (fun ls hl => ?_)
            refine lv_iload hx hb dX0_find_66 (lv_at hl 0 rfl) ?_
            refine zi_ge hx hb rfl dX0_find_68 (tgt := 81) (by decide) (fun c_36 => ?_) (fun c_36 => ?_)
            · refine lv_iload hx hb dX0_find_81 (lv_at hl 0 rfl) ?_
              refine zi_le hx hb rfl dX0_find_83 (tgt := 96) (by decide) (fun c_37 => ?_) (fun c_37 => ?_)
              · refine lv_aload hx hb dX0_find_96 (lv_at hl 2 rfl) ?_
                refine lv_ifnull hx hb dX0_find_98 ?_
                refine lv_aload hx hb dX0_find_101 (lv_at hl 1 rfl) ?_
                refine lv_ifnull hx hb dX0_find_103 ?_
                refine lv_aload hx hb dX0_find_106 (lv_at hl 2 rfl) ?_
                refine lv_aload hx hb dX0_find_108 (lv_at hl 1 rfl) ?_
                refine pf_callV (C := RX1) (As := [.ref a_24]) (rest := []) (p_isLike l hT (ga_6.mono xpm) (ga_24.mono xpm)) ⟨hx, hb, hml, hown, hts⟩ (cwV 1 hts gX0_find_X1_isLike rfl rfl rfl (by decide +kernel) ⟨Nat.le_of_ble_eq_true rfl, Nat.le_of_ble_eq_true rfl⟩) hK hR.1 (xrecv (ci := 1) hK hR.1 rfl (List.mem_append_right _ hme_21)) rfl hl.1 rfl (Nat.le_of_ble_eq_true rfl) dX0_find_110 ⟨Nat.le_of_ble_eq_true rfl, Nat.le_of_ble_eq_true rfl⟩ (fun r_38 hr_38 => ?_)
                subst hr_38
                refine nb_ifne hx hb dX0_find_113 (tgt := 124) (by decide) (fun c_39 => ?_) (fun c_39 => ?_)
                · refine lv_iload_n hx hb dX0_find_124 rfl (lv_at hl 6 rfl) ?_
                  refine lv_iload hx hb dX0_find_125 (lv_at hl 0 rfl) ?_
                  refine zi_gt hx hb rfl dX0_find_127 (tgt := 134) (by decide) (fun c_40 => ?_) (fun c_40 => ?_)
                  · exact absurd c_40 (by omega)
                  · refine lv_iconst (v := nI 1) hx hb dX0_find_130 rfl ?_
                    refine lv_goto (tgt := 135) hx hb dX0_find_131 (by decide) ?_
                    refine nn_add hx hb dX0_find_135 ?_
                    refine lv_istore_n (lv' := [(3, .int (nI (i + 1))), (9, .int v_35), (8, .ref a_24), (7, .ref a_6), (0, .ref ch), (1, .ref t1), (2, .ref t2), (4, .int (nI j)), (5, .int (nI (S.length + T.length))), (6, .int (nI rd))]) hx hb dX0_find_136 rfl hl (by decide) rfl (fun ls hl => ?_)
                    refine lv_iload hx hb dX0_find_137 (lv_at hl 7 rfl) ?_
                    refine lv_iload hx hb dX0_find_139 (lv_at hl 1 rfl) ?_
                    refine zi_lt hx hb rfl dX0_find_141 (tgt := 148) (by decide) (fun c_41 => ?_) (fun c_41 => ?_)
                    · exact absurd c_41 (by omega)
                    · refine lv_iconst (v := nI 1) hx hb dX0_find_144 rfl ?_
                      refine lv_goto (tgt := 149) hx hb dX0_find_145 (by decide) ?_
                      refine nn_add hx hb dX0_find_149 ?_
                      refine lv_istore (lv' := [(4, .int (nI (j + 1))), (3, .int (nI (i + 1))), (9, .int v_35), (8, .ref a_24), (7, .ref a_6), (0, .ref ch), (1, .ref t1), (2, .ref t2), (5, .int (nI (S.length + T.length))), (6, .int (nI rd))]) hx hb dX0_find_150 hl (by decide) rfl (fun ls hl => ?_)
                      refine lv_iinc (v := nI (rd + 1)) (lv' := [(6, .int (nI (rd + 1))), (4, .int (nI (j + 1))), (3, .int (nI (i + 1))), (9, .int v_35), (8, .ref a_24), (7, .ref a_6), (0, .ref ch), (1, .ref t1), (2, .ref t2), (5, .int (nI (S.length + T.length)))]) hx hb dX0_find_152 hl (k := 9) rfl (nI_add rd 1) (by decide) rfl (fun ls hl => ?_)
                      refine lv_goto (tgt := 24) hx hb dX0_find_155 (by decide) ?_
                      have hch2 := hch
                      rw [chg_E (by omega) (by omega) (by omega) (of_decide_eq_true (by assumption))] at hch2
                      exact ih_24 (rd + 1) (i + 1) (j + 1) C f1 f2 _ _ _ (by omega) (by omega) (by omega) (by omega) (by omega) hcr hch2 hR (lv_sub hl [6, 7, 8, 2, 1, 9, 0] rfl)
                · refine lv_aload_n hx hb dX0_find_116 rfl (lv_at hl 3 rfl) ?_
                  refine lv_aload hx hb dX0_find_117 (lv_at hl 2 rfl) ?_
                  refine lv_aload hx hb dX0_find_119 (lv_at hl 1 rfl) ?_
                  refine xc_callV (C := RX0) (As := [.ref a_6, .ref a_24]) (rest := []) (cx := [(ch, .inr (0, [.ref b1, .ref b2, .int (nI C.length)])), (b1, .inl (cE, 180, rfs f1)), (b2, .inl (cE, 180, rfs f2))]) (wr := [(t1, .inr (5, [.ref r1, .int (nI S.length)])), (r1, .inl (cE, 120, rfs h1)), (t2, .inr (5, [.ref r2, .int (nI T.length)])), (r2, .inl (cE, 120, rfs h2))]) (c_add_rr l hT hcr (by omega) ga_6 ga_24) ⟨hx, hb, hml, hown, hts⟩ (cwV 2 hts gX0_find_X0_add rfl rfl rfl (by decide +kernel) ⟨Nat.le_of_ble_eq_true rfl, Nat.le_of_ble_eq_true rfl⟩) hK hZ hR hA (xrecv (ci := 0) hK hR.1 rfl (List.mem_of_getElem? (i := 0) rfl)) [0, 1, 2] [3, 4, 5, 6] rfl rfl (by decide) (by decide) (by decide) rfl hl.1 rfl (Nat.le_of_ble_eq_true rfl) dX0_find_121 ⟨Nat.le_of_ble_eq_true rfl, Nat.le_of_ble_eq_true rfl⟩ (fun r_44 X_r_44 nw_r_44 H locs hr_44 hR => ?_)
                  obtain ⟨rfl, rfl, g_42, g_43, rfl, hcr2⟩ := hr_44
                  have hR : rR G A s.heap _ _ ([(ch, .inr (0, [.ref b1, .ref b2, .int (nI ((C ++ [((some (S.getD i e0)), (some (T.getD j e0)))]).length))])), (b1, .inl (cE, 180, rfs g_42)), (b2, .inl (cE, 180, rfs g_43)), (t1, .inr (5, [.ref r1, .int (nI S.length)])), (r1, .inl (cE, 120, rfs h1)), (t2, .inr (5, [.ref r2, .int (nI T.length)])), (r2, .inl (cE, 120, rfs h2))] ++ pl) := xc_perm (xc_nil hR) [4, 5, 6, 0, 1, 2, 3] rfl (by decide)
                  refine lv_iload_n hx hb dX0_find_124 rfl (lv_at hl 6 rfl) ?_
                  refine lv_iload hx hb dX0_find_125 (lv_at hl 0 rfl) ?_
                  refine zi_gt hx hb rfl dX0_find_127 (tgt := 134) (by decide) (fun c_45 => ?_) (fun c_45 => ?_)
                  · exact absurd c_45 (by omega)
                  · refine lv_iconst (v := nI 1) hx hb dX0_find_130 rfl ?_
                    refine lv_goto (tgt := 135) hx hb dX0_find_131 (by decide) ?_
                    refine nn_add hx hb dX0_find_135 ?_
                    refine lv_istore_n (lv' := [(3, .int (nI (i + 1))), (9, .int v_35), (8, .ref a_24), (7, .ref a_6), (0, .ref ch), (1, .ref t1), (2, .ref t2), (4, .int (nI j)), (5, .int (nI (S.length + T.length))), (6, .int (nI rd))]) hx hb dX0_find_136 rfl hl (by decide) rfl (fun ls hl => ?_)
                    refine lv_iload hx hb dX0_find_137 (lv_at hl 7 rfl) ?_
                    refine lv_iload hx hb dX0_find_139 (lv_at hl 1 rfl) ?_
                    refine zi_lt hx hb rfl dX0_find_141 (tgt := 148) (by decide) (fun c_46 => ?_) (fun c_46 => ?_)
                    · exact absurd c_46 (by omega)
                    · refine lv_iconst (v := nI 1) hx hb dX0_find_144 rfl ?_
                      refine lv_goto (tgt := 149) hx hb dX0_find_145 (by decide) ?_
                      refine nn_add hx hb dX0_find_149 ?_
                      refine lv_istore (lv' := [(4, .int (nI (j + 1))), (3, .int (nI (i + 1))), (9, .int v_35), (8, .ref a_24), (7, .ref a_6), (0, .ref ch), (1, .ref t1), (2, .ref t2), (5, .int (nI (S.length + T.length))), (6, .int (nI rd))]) hx hb dX0_find_150 hl (by decide) rfl (fun ls hl => ?_)
                      refine lv_iinc (v := nI (rd + 1)) (lv' := [(6, .int (nI (rd + 1))), (4, .int (nI (j + 1))), (3, .int (nI (i + 1))), (9, .int v_35), (8, .ref a_24), (7, .ref a_6), (0, .ref ch), (1, .ref t1), (2, .ref t2), (5, .int (nI (S.length + T.length)))]) hx hb dX0_find_152 hl (k := 9) rfl (nI_add rd 1) (by decide) rfl (fun ls hl => ?_)
                      refine lv_goto (tgt := 24) hx hb dX0_find_155 (by decide) ?_
                      have hch2 := chg_app hch (chg_C (by omega) (by omega) (by omega) (of_decide_eq_false (by assumption)))
                      have hl9 : (C ++ [((some (S.getD i e0)), (some (T.getD j e0)))]).length = C.length + 1 := by rw [List.length_append]; rfl
                      exact ih_24 (rd + 1) (i + 1) (j + 1) (C ++ [((some (S.getD i e0)), (some (T.getD j e0)))]) g_42 g_43 _ _ _ (by omega) (by omega) (by omega) (by omega) (by rw [hl9]; omega) hcr2 hch2 hR (lv_sub hl [6, 7, 8, 2, 1, 9, 0] rfl)
              · refine lv_aload_n hx hb dX0_find_86 rfl (lv_at hl 3 rfl) ?_
                refine lv_null hx hb dX0_find_87 ?_
                refine lv_aload hx hb dX0_find_88 (lv_at hl 1 rfl) ?_
                refine xc_callV (C := RX0) (As := [.null, .ref a_24]) (rest := []) (cx := [(ch, .inr (0, [.ref b1, .ref b2, .int (nI C.length)])), (b1, .inl (cE, 180, rfs f1)), (b2, .inl (cE, 180, rfs f2))]) (wr := [(t1, .inr (5, [.ref r1, .int (nI S.length)])), (r1, .inl (cE, 120, rfs h1)), (t2, .inr (5, [.ref r2, .int (nI T.length)])), (r2, .inl (cE, 120, rfs h2))]) (c_add_nr l hT hcr (by omega) ga_24) ⟨hx, hb, hml, hown, hts⟩ (cwV 2 hts gX0_find_X0_add rfl rfl rfl (by decide +kernel) ⟨Nat.le_of_ble_eq_true rfl, Nat.le_of_ble_eq_true rfl⟩) hK hZ hR hA (xrecv (ci := 0) hK hR.1 rfl (List.mem_of_getElem? (i := 0) rfl)) [0, 1, 2] [3, 4, 5, 6] rfl rfl (by decide) (by decide) (by decide) rfl hl.1 rfl (Nat.le_of_ble_eq_true rfl) dX0_find_90 ⟨Nat.le_of_ble_eq_true rfl, Nat.le_of_ble_eq_true rfl⟩ (fun r_49 X_r_49 nw_r_49 H locs hr_49 hR => ?_)
                obtain ⟨rfl, rfl, g_47, g_48, rfl, hcr2⟩ := hr_49
                have hR : rR G A s.heap _ _ ([(ch, .inr (0, [.ref b1, .ref b2, .int (nI ((C ++ [(none, (some (T.getD j e0)))]).length))])), (b1, .inl (cE, 180, rfs g_47)), (b2, .inl (cE, 180, rfs g_48)), (t1, .inr (5, [.ref r1, .int (nI S.length)])), (r1, .inl (cE, 120, rfs h1)), (t2, .inr (5, [.ref r2, .int (nI T.length)])), (r2, .inl (cE, 120, rfs h2))] ++ pl) := xc_perm (xc_nil hR) [4, 5, 6, 0, 1, 2, 3] rfl (by decide)
                refine lv_goto (tgt := 124) hx hb dX0_find_93 (by decide) ?_
                refine lv_iload_n hx hb dX0_find_124 rfl (lv_at hl 6 rfl) ?_
                refine lv_iload hx hb dX0_find_125 (lv_at hl 0 rfl) ?_
                refine zi_gt hx hb rfl dX0_find_127 (tgt := 134) (by decide) (fun c_50 => ?_) (fun c_50 => ?_)
                · refine lv_iconst (v := nI 0) hx hb dX0_find_134 rfl ?_
                  refine nn_add0 hx hb dX0_find_135 ?_
                  refine lv_istore_n (lv' := [(3, .int (nI i)), (9, .int v_35), (8, .ref a_24), (7, .ref a_6), (0, .ref ch), (1, .ref t1), (2, .ref t2), (4, .int (nI j)), (5, .int (nI (S.length + T.length))), (6, .int (nI rd))]) hx hb dX0_find_136 rfl hl (by decide) rfl (fun ls hl => ?_)
                  refine lv_iload hx hb dX0_find_137 (lv_at hl 7 rfl) ?_
                  refine lv_iload hx hb dX0_find_139 (lv_at hl 1 rfl) ?_
                  refine zi_lt hx hb rfl dX0_find_141 (tgt := 148) (by decide) (fun c_51 => ?_) (fun c_51 => ?_)
                  · exact absurd c_51 (by omega)
                  · refine lv_iconst (v := nI 1) hx hb dX0_find_144 rfl ?_
                    refine lv_goto (tgt := 149) hx hb dX0_find_145 (by decide) ?_
                    refine nn_add hx hb dX0_find_149 ?_
                    refine lv_istore (lv' := [(4, .int (nI (j + 1))), (3, .int (nI i)), (9, .int v_35), (8, .ref a_24), (7, .ref a_6), (0, .ref ch), (1, .ref t1), (2, .ref t2), (5, .int (nI (S.length + T.length))), (6, .int (nI rd))]) hx hb dX0_find_150 hl (by decide) rfl (fun ls hl => ?_)
                    refine lv_iinc (v := nI (rd + 1)) (lv' := [(6, .int (nI (rd + 1))), (4, .int (nI (j + 1))), (3, .int (nI i)), (9, .int v_35), (8, .ref a_24), (7, .ref a_6), (0, .ref ch), (1, .ref t1), (2, .ref t2), (5, .int (nI (S.length + T.length)))]) hx hb dX0_find_152 hl (k := 9) rfl (nI_add rd 1) (by decide) rfl (fun ls hl => ?_)
                    refine lv_goto (tgt := 24) hx hb dX0_find_155 (by decide) ?_
                    have hch2 := chg_app hch (chg_T (by omega) (by omega))
                    have hl9 : (C ++ [(none, (some (T.getD j e0)))]).length = C.length + 1 := by rw [List.length_append]; rfl
                    exact ih_24 (rd + 1) i (j + 1) (C ++ [(none, (some (T.getD j e0)))]) g_47 g_48 _ _ _ (by omega) (by omega) (by omega) (by omega) (by rw [hl9]; omega) hcr2 hch2 hR (lv_sub hl [6, 7, 8, 2, 1, 9, 0] rfl)
                · exact absurd c_50 (by omega)
            · refine lv_aload_n hx hb dX0_find_71 rfl (lv_at hl 3 rfl) ?_
              refine lv_aload hx hb dX0_find_72 (lv_at hl 2 rfl) ?_
              refine lv_null hx hb dX0_find_74 ?_
              refine xc_callV (C := RX0) (As := [.ref a_6, .null]) (rest := []) (cx := [(ch, .inr (0, [.ref b1, .ref b2, .int (nI C.length)])), (b1, .inl (cE, 180, rfs f1)), (b2, .inl (cE, 180, rfs f2))]) (wr := [(t1, .inr (5, [.ref r1, .int (nI S.length)])), (r1, .inl (cE, 120, rfs h1)), (t2, .inr (5, [.ref r2, .int (nI T.length)])), (r2, .inl (cE, 120, rfs h2))]) (c_add_rn l hT hcr (by omega) ga_6) ⟨hx, hb, hml, hown, hts⟩ (cwV 2 hts gX0_find_X0_add rfl rfl rfl (by decide +kernel) ⟨Nat.le_of_ble_eq_true rfl, Nat.le_of_ble_eq_true rfl⟩) hK hZ hR hA (xrecv (ci := 0) hK hR.1 rfl (List.mem_of_getElem? (i := 0) rfl)) [0, 1, 2] [3, 4, 5, 6] rfl rfl (by decide) (by decide) (by decide) rfl hl.1 rfl (Nat.le_of_ble_eq_true rfl) dX0_find_75 ⟨Nat.le_of_ble_eq_true rfl, Nat.le_of_ble_eq_true rfl⟩ (fun r_54 X_r_54 nw_r_54 H locs hr_54 hR => ?_)
              obtain ⟨rfl, rfl, g_52, g_53, rfl, hcr2⟩ := hr_54
              have hR : rR G A s.heap _ _ ([(ch, .inr (0, [.ref b1, .ref b2, .int (nI ((C ++ [((some (S.getD i e0)), none)]).length))])), (b1, .inl (cE, 180, rfs g_52)), (b2, .inl (cE, 180, rfs g_53)), (t1, .inr (5, [.ref r1, .int (nI S.length)])), (r1, .inl (cE, 120, rfs h1)), (t2, .inr (5, [.ref r2, .int (nI T.length)])), (r2, .inl (cE, 120, rfs h2))] ++ pl) := xc_perm (xc_nil hR) [4, 5, 6, 0, 1, 2, 3] rfl (by decide)
              refine lv_goto (tgt := 124) hx hb dX0_find_78 (by decide) ?_
              refine lv_iload_n hx hb dX0_find_124 rfl (lv_at hl 6 rfl) ?_
              refine lv_iload hx hb dX0_find_125 (lv_at hl 0 rfl) ?_
              refine zi_gt hx hb rfl dX0_find_127 (tgt := 134) (by decide) (fun c_55 => ?_) (fun c_55 => ?_)
              · exact absurd c_55 (by omega)
              · refine lv_iconst (v := nI 1) hx hb dX0_find_130 rfl ?_
                refine lv_goto (tgt := 135) hx hb dX0_find_131 (by decide) ?_
                refine nn_add hx hb dX0_find_135 ?_
                refine lv_istore_n (lv' := [(3, .int (nI (i + 1))), (9, .int v_35), (8, .ref a_24), (7, .ref a_6), (0, .ref ch), (1, .ref t1), (2, .ref t2), (4, .int (nI j)), (5, .int (nI (S.length + T.length))), (6, .int (nI rd))]) hx hb dX0_find_136 rfl hl (by decide) rfl (fun ls hl => ?_)
                refine lv_iload hx hb dX0_find_137 (lv_at hl 7 rfl) ?_
                refine lv_iload hx hb dX0_find_139 (lv_at hl 1 rfl) ?_
                refine zi_lt hx hb rfl dX0_find_141 (tgt := 148) (by decide) (fun c_56 => ?_) (fun c_56 => ?_)
                · refine lv_iconst (v := nI 0) hx hb dX0_find_148 rfl ?_
                  refine nn_add0 hx hb dX0_find_149 ?_
                  refine lv_istore (lv' := [(4, .int (nI j)), (3, .int (nI (i + 1))), (9, .int v_35), (8, .ref a_24), (7, .ref a_6), (0, .ref ch), (1, .ref t1), (2, .ref t2), (5, .int (nI (S.length + T.length))), (6, .int (nI rd))]) hx hb dX0_find_150 hl (by decide) rfl (fun ls hl => ?_)
                  refine lv_iinc (v := nI (rd + 1)) (lv' := [(6, .int (nI (rd + 1))), (4, .int (nI j)), (3, .int (nI (i + 1))), (9, .int v_35), (8, .ref a_24), (7, .ref a_6), (0, .ref ch), (1, .ref t1), (2, .ref t2), (5, .int (nI (S.length + T.length)))]) hx hb dX0_find_152 hl (k := 9) rfl (nI_add rd 1) (by decide) rfl (fun ls hl => ?_)
                  refine lv_goto (tgt := 24) hx hb dX0_find_155 (by decide) ?_
                  have hch2 := chg_app hch (chg_S (by omega) (by omega))
                  have hl9 : (C ++ [((some (S.getD i e0)), none)]).length = C.length + 1 := by rw [List.length_append]; rfl
                  exact ih_24 (rd + 1) (i + 1) j (C ++ [((some (S.getD i e0)), none)]) g_52 g_53 _ _ _ (by omega) (by omega) (by omega) (by omega) (by rw [hl9]; omega) hcr2 hch2 hR (lv_sub hl [6, 7, 8, 2, 1, 9, 0] rfl)
                · exact absurd c_56 (by omega)
  exact lp_24 (((S.length + T.length - 0)) + 1) 0 0 0 ([]) f1 f2 _ _ _ (Nat.lt_succ_self _) (Nat.zero_le _) (Nat.zero_le _) (Nat.zero_le _) (Nat.zero_le _) cRows_nil rfl hR (lv_sub hl [4, 5, 6, 3, 2, 1, 0] rfl)
set_option maxHeartbeats 4000000 in
set_option maxRecDepth 100000 in
theorem c_ex_nr (l : Launch) {G : va_G} {tys : List (ClassId × FieldType)} {cB cI cE cS : ClassId} (hT : tys = [(cB, .byte), (cI, .int), (cE, .object RX1), (cS, .object RX4)]) {pl : va_W} {sz : Nat} {t r : Nat} {f : Nat → Option Nat} {L : List En} (hrw : tRows pl cB f L) {b : Nat} {v : En} (he2 : pEnt pl cB b v) (hs : srt L) (hvl : v.1.length ≤ 150) (hfull : ¬ (insI v.1 L < L.length ∧ (L.getD (insI v.1 L) e0).1 = v.1) → L.length < 120) (hcs : csum L + (ct v).length ≤ 8000) : cMet l yX0_exchange wsX0_exchange ({ frames := 3, cells := 0, slots := 0, locals := 70 } : Room) G tys [.null, .ref b, .ref t] [(t, .inr (5, [.ref r, .int (nI L.length)])), (r, .inl (cE, 120, rfs f))] pl sz 0 0 (fun o9 X1 nw => o9 = none ∧ nw = [] ∧ ∃ g : Nat → Option Nat, X1 = [(t, .inr (5, [.ref r, .int (nI ((putL L v).length))])), (r, .inl (cE, 120, rfs g))] ∧ tRows pl cB g (putL L v)) := by
  have hT0 : tys[0]? = some (cB, .byte) := by rw [hT]; rfl
  have hT1 : tys[1]? = some (cI, .int) := by rw [hT]; rfl
  have hT2 : tys[2]? = some (cE, .object RX1) := by rw [hT]; rfl
  have hT3 : tys[3]? = some (cS, .object RX4) := by rw [hT]; rfl
  refine Met.ofW (cc := cX0_exchange) (maxL := 3) (ret := none) (by decide) rfl ?_
  intro p e s m args below meth c s₁ B hml hv
  obtain ⟨hargs, hsz, hP, hK, hD0, hZ⟩ := hv
  have hx := B.exec
  have hb := B.bytes
  have hr := B.returns
  have hts := atoms_spec (ws := wsX0_exchange) B.pre
  have hown : s.vm.findClass RX0 = some m.cls := findClass_of_methodNamed B.named
  have hlocks := B.notSynchronized
  subst hsz
  have hD := hD0.self (sz := s.heap.size)
  obtain ⟨A, hAe⟩ : ∃ A : Nat → Prop, A = va_A ([(t, .inr (5, [.ref r, .int (nI L.length)])), (r, .inl (cE, 120, rfs f))] ++ pl) s.heap.size := ⟨_, rfl⟩
  rw [← hAe] at hD
  have hA : ∀ q : Nat, s.heap.size ≤ q → A q := fun q h => by rw [hAe]; exact Or.inr h
  have hR : rR G A s.heap s.heap [] ([(t, .inr (5, [.ref r, .int (nI L.length)])), (r, .inl (cE, 120, rfs f))] ++ pl) := ⟨hP, hD, va_S.rf⟩
  obtain ⟨Q, hQ⟩ : ∃ Q : State → Prop, Q = MQ below (cQ G A pl (fun o9 X1 nw => o9 = none ∧ nw = [] ∧ ∃ g : Nat → Option Nat, X1 = [(t, .inr (5, [.ref r, .int (nI ((putL L v).length))])), (r, .inl (cE, 120, rfs g))] ∧ tRows pl cB g (putL L v))) args s 0 0 A := ⟨_, rfl⟩
  change W p l e ({ frames := 3, cells := 0, slots := 0, locals := 70 } : Room) s m args below meth c s.heap [] 0 0 (MQ below (cQ G (va_A ([(t, .inr (5, [.ref r, .int (nI L.length)])), (r, .inl (cE, 120, rfs f))] ++ pl) s.heap.size) pl (fun o9 X1 nw => o9 = none ∧ nw = [] ∧ ∃ g : Nat → Option Nat, X1 = [(t, .inr (5, [.ref r, .int (nI ((putL L v).length))])), (r, .inl (cE, 120, rfs g))] ∧ tRows pl cB g (putL L v))) args s 0 0 (va_A ([(t, .inr (5, [.ref r, .int (nI L.length)])), (r, .inl (cE, 120, rfs f))] ++ pl) s.heap.size)) (entryFrame m args 3)
  rw [← hAe]
  rw [← hQ]
  refine nn_entry hargs (Nat.le_of_ble_eq_true rfl) (lv := [(0, .null), (1, .ref b), (2, .ref t)]) rfl (fun ls hl => ?_)
  refine lv_aload_n hx hb dX0_exchange_0 rfl (lv_at hl 1 rfl) ?_
  refine lv_ifnull hx hb dX0_exchange_1 ?_
  refine lv_aload_n hx hb dX0_exchange_4 rfl (lv_at hl 2 rfl) ?_
  refine lv_aload_n hx hb dX0_exchange_5 rfl (lv_at hl 1 rfl) ?_
  refine xc_callV (C := RX6) (As := [.ref b]) (rest := []) (cx := [(t, .inr (5, [.ref r, .int (nI L.length)])), (r, .inl (cE, 120, rfs f))]) (wr := []) (c_put l hT hrw he2 hs hvl hfull hcs) ⟨hx, hb, hml, hown, hts⟩ (cwV 1 hts gX0_exchange_X6_put rfl rfl rfl (by decide +kernel) ⟨Nat.le_of_ble_eq_true rfl, Nat.le_of_ble_eq_true rfl⟩) hK hZ hR hA (xrecv (ci := 5) hK hR.1 rfl (List.mem_of_getElem? (i := 0) rfl)) [0, 1] [] rfl rfl (by decide) (by decide) (by decide) rfl hl.1 rfl (Nat.le_of_ble_eq_true rfl) dX0_exchange_6 ⟨Nat.le_of_ble_eq_true rfl, Nat.le_of_ble_eq_true rfl⟩ (fun r_1 X_r_1 nw_r_1 H locs hr_1 hR => ?_)
  obtain ⟨rfl, rfl, g, rfl, hg⟩ := hr_1
  have hR : rR G A s.heap _ _ ([(t, .inr (5, [.ref r, .int (nI ((putL L v).length))])), (r, .inl (cE, 120, rfs g))] ++ pl) := (xc_nil hR)
  refine lv_goto (tgt := 29) hx hb dX0_exchange_9 (by decide) ?_
  rw [hQ]
  exact xc_vret (X1 := [(t, .inr (5, [.ref r, .int (nI ((putL L v).length))])), (r, .inl (cE, 120, rfs g))]) (nw := []) hx hb hr hlocks (by rw [List.append_nil]; exact hR) ⟨rfl, rfl, g, rfl, hg⟩ dX0_exchange_29
set_option maxHeartbeats 4000000 in
set_option maxRecDepth 100000 in
theorem c_ex_rr (l : Launch) {G : va_G} {tys : List (ClassId × FieldType)} {cB cI cE cS : ClassId} (hT : tys = [(cB, .byte), (cI, .int), (cE, .object RX1), (cS, .object RX4)]) {pl : va_W} {sz : Nat} {t r : Nat} {f : Nat → Option Nat} {L : List En} (hrw : tRows pl cB f L) {a : Nat} {u : En} (he : pEnt pl cB a u) {b : Nat} {v : En} (he2 : pEnt pl cB b v) (hs : srt L) (hvl : v.1.length ≤ 150) (hfull : ¬ (insI v.1 L < L.length ∧ (L.getD (insI v.1 L) e0).1 = v.1) → L.length < 120) (hcs : csum L + (ct v).length ≤ 8000) : cMet l yX0_exchange wsX0_exchange ({ frames := 3, cells := 0, slots := 0, locals := 70 } : Room) G tys [.ref a, .ref b, .ref t] [(t, .inr (5, [.ref r, .int (nI L.length)])), (r, .inl (cE, 120, rfs f))] pl sz 0 0 (fun o9 X1 nw => o9 = none ∧ nw = [] ∧ ∃ g : Nat → Option Nat, X1 = [(t, .inr (5, [.ref r, .int (nI ((putL L v).length))])), (r, .inl (cE, 120, rfs g))] ∧ tRows pl cB g (putL L v)) := by
  have hT0 : tys[0]? = some (cB, .byte) := by rw [hT]; rfl
  have hT1 : tys[1]? = some (cI, .int) := by rw [hT]; rfl
  have hT2 : tys[2]? = some (cE, .object RX1) := by rw [hT]; rfl
  have hT3 : tys[3]? = some (cS, .object RX4) := by rw [hT]; rfl
  refine Met.ofW (cc := cX0_exchange) (maxL := 3) (ret := none) (by decide) rfl ?_
  intro p e s m args below meth c s₁ B hml hv
  obtain ⟨hargs, hsz, hP, hK, hD0, hZ⟩ := hv
  have hx := B.exec
  have hb := B.bytes
  have hr := B.returns
  have hts := atoms_spec (ws := wsX0_exchange) B.pre
  have hown : s.vm.findClass RX0 = some m.cls := findClass_of_methodNamed B.named
  have hlocks := B.notSynchronized
  subst hsz
  have hD := hD0.self (sz := s.heap.size)
  obtain ⟨A, hAe⟩ : ∃ A : Nat → Prop, A = va_A ([(t, .inr (5, [.ref r, .int (nI L.length)])), (r, .inl (cE, 120, rfs f))] ++ pl) s.heap.size := ⟨_, rfl⟩
  rw [← hAe] at hD
  have hA : ∀ q : Nat, s.heap.size ≤ q → A q := fun q h => by rw [hAe]; exact Or.inr h
  have hR : rR G A s.heap s.heap [] ([(t, .inr (5, [.ref r, .int (nI L.length)])), (r, .inl (cE, 120, rfs f))] ++ pl) := ⟨hP, hD, va_S.rf⟩
  obtain ⟨Q, hQ⟩ : ∃ Q : State → Prop, Q = MQ below (cQ G A pl (fun o9 X1 nw => o9 = none ∧ nw = [] ∧ ∃ g : Nat → Option Nat, X1 = [(t, .inr (5, [.ref r, .int (nI ((putL L v).length))])), (r, .inl (cE, 120, rfs g))] ∧ tRows pl cB g (putL L v))) args s 0 0 A := ⟨_, rfl⟩
  change W p l e ({ frames := 3, cells := 0, slots := 0, locals := 70 } : Room) s m args below meth c s.heap [] 0 0 (MQ below (cQ G (va_A ([(t, .inr (5, [.ref r, .int (nI L.length)])), (r, .inl (cE, 120, rfs f))] ++ pl) s.heap.size) pl (fun o9 X1 nw => o9 = none ∧ nw = [] ∧ ∃ g : Nat → Option Nat, X1 = [(t, .inr (5, [.ref r, .int (nI ((putL L v).length))])), (r, .inl (cE, 120, rfs g))] ∧ tRows pl cB g (putL L v))) args s 0 0 (va_A ([(t, .inr (5, [.ref r, .int (nI L.length)])), (r, .inl (cE, 120, rfs f))] ++ pl) s.heap.size)) (entryFrame m args 3)
  rw [← hAe]
  rw [← hQ]
  refine nn_entry hargs (Nat.le_of_ble_eq_true rfl) (lv := [(0, .ref a), (1, .ref b), (2, .ref t)]) rfl (fun ls hl => ?_)
  refine lv_aload_n hx hb dX0_exchange_0 rfl (lv_at hl 1 rfl) ?_
  refine lv_ifnull hx hb dX0_exchange_1 ?_
  refine lv_aload_n hx hb dX0_exchange_4 rfl (lv_at hl 2 rfl) ?_
  refine lv_aload_n hx hb dX0_exchange_5 rfl (lv_at hl 1 rfl) ?_
  refine xc_callV (C := RX6) (As := [.ref b]) (rest := []) (cx := [(t, .inr (5, [.ref r, .int (nI L.length)])), (r, .inl (cE, 120, rfs f))]) (wr := []) (c_put l hT hrw he2 hs hvl hfull hcs) ⟨hx, hb, hml, hown, hts⟩ (cwV 1 hts gX0_exchange_X6_put rfl rfl rfl (by decide +kernel) ⟨Nat.le_of_ble_eq_true rfl, Nat.le_of_ble_eq_true rfl⟩) hK hZ hR hA (xrecv (ci := 5) hK hR.1 rfl (List.mem_of_getElem? (i := 0) rfl)) [0, 1] [] rfl rfl (by decide) (by decide) (by decide) rfl hl.1 rfl (Nat.le_of_ble_eq_true rfl) dX0_exchange_6 ⟨Nat.le_of_ble_eq_true rfl, Nat.le_of_ble_eq_true rfl⟩ (fun r_1 X_r_1 nw_r_1 H locs hr_1 hR => ?_)
  obtain ⟨rfl, rfl, g, rfl, hg⟩ := hr_1
  have hR : rR G A s.heap _ _ ([(t, .inr (5, [.ref r, .int (nI ((putL L v).length))])), (r, .inl (cE, 120, rfs g))] ++ pl) := (xc_nil hR)
  refine lv_goto (tgt := 29) hx hb dX0_exchange_9 (by decide) ?_
  rw [hQ]
  exact xc_vret (X1 := [(t, .inr (5, [.ref r, .int (nI ((putL L v).length))])), (r, .inl (cE, 120, rfs g))]) (nw := []) hx hb hr hlocks (by rw [List.append_nil]; exact hR) ⟨rfl, rfl, g, rfl, hg⟩ dX0_exchange_29
set_option maxHeartbeats 4000000 in
set_option maxRecDepth 100000 in
theorem c_ex_rn (l : Launch) {G : va_G} {tys : List (ClassId × FieldType)} {cB cI cE cS : ClassId} (hT : tys = [(cB, .byte), (cI, .int), (cE, .object RX1), (cS, .object RX4)]) {pl : va_W} {sz : Nat} {t r : Nat} {f : Nat → Option Nat} {L : List En} (hrw : tRows pl cB f L) {a : Nat} {u : En} (he : pEnt pl cB a u) (hs : srt L) (hfd : insI u.1 L < L.length ∧ (L.getD (insI u.1 L) e0).1 = u.1) : cMet l yX0_exchange wsX0_exchange ({ frames := 3, cells := 0, slots := 0, locals := 70 } : Room) G tys [.ref a, .null, .ref t] [(t, .inr (5, [.ref r, .int (nI L.length)])), (r, .inl (cE, 120, rfs f))] pl sz 0 0 (fun o9 X1 nw => o9 = none ∧ nw = [] ∧ ∃ g : Nat → Option Nat, X1 = [(t, .inr (5, [.ref r, .int (nI ((drpL L (insI u.1 L) 1).length))])), (r, .inl (cE, 120, rfs g))] ∧ tRows pl cB g (drpL L (insI u.1 L) 1)) := by
  have hT0 : tys[0]? = some (cB, .byte) := by rw [hT]; rfl
  have hT1 : tys[1]? = some (cI, .int) := by rw [hT]; rfl
  have hT2 : tys[2]? = some (cE, .object RX1) := by rw [hT]; rfl
  have hT3 : tys[3]? = some (cS, .object RX4) := by rw [hT]; rfl
  refine Met.ofW (cc := cX0_exchange) (maxL := 3) (ret := none) (by decide) rfl ?_
  intro p e s m args below meth c s₁ B hml hv
  obtain ⟨hargs, hsz, hP, hK, hD0, hZ⟩ := hv
  have hx := B.exec
  have hb := B.bytes
  have hr := B.returns
  have hts := atoms_spec (ws := wsX0_exchange) B.pre
  have hown : s.vm.findClass RX0 = some m.cls := findClass_of_methodNamed B.named
  have hlocks := B.notSynchronized
  subst hsz
  have hD := hD0.self (sz := s.heap.size)
  obtain ⟨A, hAe⟩ : ∃ A : Nat → Prop, A = va_A ([(t, .inr (5, [.ref r, .int (nI L.length)])), (r, .inl (cE, 120, rfs f))] ++ pl) s.heap.size := ⟨_, rfl⟩
  rw [← hAe] at hD
  have hA : ∀ q : Nat, s.heap.size ≤ q → A q := fun q h => by rw [hAe]; exact Or.inr h
  have inX1 : ∀ w ∈ wsX10, w ∈ wsX0_exchange := by decide +kernel
  have k_46 := hts (.fieldLink RX0 46 "MirrorKeep$Entry" "path" "[B") (by decide +kernel)
  have hR : rR G A s.heap s.heap [] ([(t, .inr (5, [.ref r, .int (nI L.length)])), (r, .inl (cE, 120, rfs f))] ++ pl) := ⟨hP, hD, va_S.rf⟩
  obtain ⟨Q, hQ⟩ : ∃ Q : State → Prop, Q = MQ below (cQ G A pl (fun o9 X1 nw => o9 = none ∧ nw = [] ∧ ∃ g : Nat → Option Nat, X1 = [(t, .inr (5, [.ref r, .int (nI ((drpL L (insI u.1 L) 1).length))])), (r, .inl (cE, 120, rfs g))] ∧ tRows pl cB g (drpL L (insI u.1 L) 1))) args s 0 0 A := ⟨_, rfl⟩
  change W p l e ({ frames := 3, cells := 0, slots := 0, locals := 70 } : Room) s m args below meth c s.heap [] 0 0 (MQ below (cQ G (va_A ([(t, .inr (5, [.ref r, .int (nI L.length)])), (r, .inl (cE, 120, rfs f))] ++ pl) s.heap.size) pl (fun o9 X1 nw => o9 = none ∧ nw = [] ∧ ∃ g : Nat → Option Nat, X1 = [(t, .inr (5, [.ref r, .int (nI ((drpL L (insI u.1 L) 1).length))])), (r, .inl (cE, 120, rfs g))] ∧ tRows pl cB g (drpL L (insI u.1 L) 1))) args s 0 0 (va_A ([(t, .inr (5, [.ref r, .int (nI L.length)])), (r, .inl (cE, 120, rfs f))] ++ pl) s.heap.size)) (entryFrame m args 3)
  rw [← hAe]
  rw [← hQ]
  refine nn_entry hargs (Nat.le_of_ble_eq_true rfl) (lv := [(0, .ref a), (1, .null), (2, .ref t)]) rfl (fun ls hl => ?_)
  obtain ⟨pae_1, cae_1, hme_1, hpae_1, hcae_1⟩ := id he
  have hl120 := hrw.1
  refine lv_aload_nN hx hb dX0_exchange_0 rfl (lv_at hl 1 rfl) ?_
  refine lv_ifnullN hx hb dX0_exchange_1 (tgt := 12) (by decide) ?_
  refine lv_aload_n hx hb dX0_exchange_12 rfl (lv_at hl 0 rfl) ?_
  refine lv_ifnull hx hb dX0_exchange_13 ?_
  refine lv_aload_n hx hb dX0_exchange_16 rfl (lv_at hl 2 rfl) ?_
  refine lv_aload_n hx hb dX0_exchange_17 rfl (lv_at hl 2 rfl) ?_
  refine lv_aload_n hx hb dX0_exchange_18 rfl (lv_at hl 0 rfl) ?_
  refine xg (ci := 1) (C := RX1) (T := TX1) (N := 5) (v := .ref pae_1) hx hb hts inX1 hown hK hR.1 (List.mem_append_right _ hme_1) rfl 0 (by decide) k_46 (fun _ h => h) rfl dX0_exchange_19 ?_
  have htr : tRep ([(t, .inr (5, [.ref r, .int (nI L.length)])), (r, .inl (cE, 120, rfs f))] ++ pl) cB cE t r f L := ⟨(List.mem_of_getElem? (i := 0) rfl), (List.mem_of_getElem? (i := 1) rfl), (hrw.mono xpm)⟩
  refine pf_callV (C := RX6) (As := [.ref pae_1]) (rest := [.ref t]) (p_find l hT htr hs (hpae_1.mono xpm) (by have := hrw.2.2.1 _ hfd.1; rw [hfd.2] at this; omega)) ⟨hx, hb, hml, hown, hts⟩ (cwV 1 hts gX0_exchange_X6_find rfl rfl rfl (by decide +kernel) ⟨Nat.le_of_ble_eq_true rfl, Nat.le_of_ble_eq_true rfl⟩) hK hR.1 (xrecv (ci := 5) hK hR.1 rfl (List.mem_of_getElem? (i := 0) rfl)) rfl hl.1 rfl (Nat.le_of_ble_eq_true rfl) dX0_exchange_22 ⟨Nat.le_of_ble_eq_true rfl, Nat.le_of_ble_eq_true rfl⟩ (fun r_2 hr_2 => ?_)
  subst hr_2
  refine nn_eqi (y := nI (insI u.1 L)) (by rw [fnd2, if_pos hfd]) ?_
  refine lv_iconst (v := nI 1) hx hb dX0_exchange_25 rfl ?_
  refine xc_callV (C := RX6) (As := [.int (nI (insI u.1 L)), .int (nI 1)]) (rest := []) (cx := [(t, .inr (5, [.ref r, .int (nI L.length)])), (r, .inl (cE, 120, rfs f))]) (wr := []) (c_drop l hT hrw (insI u.1 L) 1 (by omega) (by decide)) ⟨hx, hb, hml, hown, hts⟩ (cwV 2 hts gX0_exchange_X6_drop rfl rfl rfl (by decide +kernel) ⟨Nat.le_of_ble_eq_true rfl, Nat.le_of_ble_eq_true rfl⟩) hK hZ hR hA (xrecv (ci := 5) hK hR.1 rfl (List.mem_of_getElem? (i := 0) rfl)) [0, 1] [] rfl rfl (by decide) (by decide) (by decide) rfl hl.1 rfl (Nat.le_of_ble_eq_true rfl) dX0_exchange_26 ⟨Nat.le_of_ble_eq_true rfl, Nat.le_of_ble_eq_true rfl⟩ (fun r_3 X_r_3 nw_r_3 H locs hr_3 hR => ?_)
  obtain ⟨rfl, rfl, g, rfl, hg1, hg2⟩ := hr_3
  have hR : rR G A s.heap _ _ ([(t, .inr (5, [.ref r, .int (nI (L.length - 1))])), (r, .inl (cE, 120, rfs g))] ++ pl) := (xc_nil hR)
  rw [hQ]
  exact xc_vret (X1 := [(t, .inr (5, [.ref r, .int (nI (L.length - 1))])), (r, .inl (cE, 120, rfs g))]) (nw := []) hx hb hr hlocks (by rw [List.append_nil]; exact hR) ⟨rfl, rfl, g, by rw [drpL_len (by omega)], drpF_rows hrw (by omega) hg1 hg2⟩ dX0_exchange_29
