set_option maxHeartbeats 4000000 in
set_option maxRecDepth 100000 in
theorem c_replace (l : Launch) {G : va_G} {tys : List (ClassId × FieldType)} {cB cI cE cS : ClassId} (hT : tys = [(cB, .byte), (cI, .int), (cE, .object RX1), (cS, .object RX4)]) {pl : va_W} {sz : Nat} {t r : Nat} {f : Nat → Option Nat} {L : List En} (hrw : tRows pl cB f L) {a : Nat} {u : En} (he : pEnt pl cB a u) (i : Nat) (hi : i < L.length) : cMet l yX6_replace wsX6_replace ({ frames := 0, cells := 0, slots := 0, locals := 0 } : Room) G tys [.ref t, .int (nI i), .ref a] [(t, .inr (5, [.ref r, .int (nI L.length)])), (r, .inl (cE, 120, rfs f))] pl sz 0 0 (fun o9 X1 nw => o9 = none ∧ nw = [] ∧ X1 = [(t, .inr (5, [.ref r, .int (nI L.length)])), (r, .inl (cE, 120, rfs (va_up f i (some a))))]) := by
  have hT0 : tys[0]? = some (cB, .byte) := by rw [hT]; rfl
  have hT1 : tys[1]? = some (cI, .int) := by rw [hT]; rfl
  have hT2 : tys[2]? = some (cE, .object RX1) := by rw [hT]; rfl
  have hT3 : tys[3]? = some (cS, .object RX4) := by rw [hT]; rfl
  refine Met.ofW (cc := cX6_replace) (maxL := 3) (ret := none) (by decide) rfl ?_
  intro p e s m args below meth c s₁ B hml hv
  obtain ⟨hargs, hsz, hP, hK, hD0⟩ := hv
  have hx := B.exec
  have hb := B.bytes
  have hr := B.returns
  have hts := atoms_spec (ws := wsX6_replace) B.pre
  have hown : s.vm.findClass RX6 = some m.cls := findClass_of_methodNamed B.named
  have hlocks := B.notSynchronized
  subst hsz
  have hD := hD0.self (sz := s.heap.size)
  obtain ⟨A, hAe⟩ : ∃ A : Nat → Prop, A = va_A ([(t, .inr (5, [.ref r, .int (nI L.length)])), (r, .inl (cE, 120, rfs f))] ++ pl) s.heap.size := ⟨_, rfl⟩
  rw [← hAe] at hD
  have hA : ∀ q : Nat, s.heap.size ≤ q → A q := fun q h => by rw [hAe]; exact Or.inr h
  have inX6 : ∀ w ∈ wsX60, w ∈ wsX6_replace := by decide +kernel
  have k_13 := hts (.fieldLink RX6 13 "MirrorKeep$Tree" "rows" "[LMirrorKeep$Entry;") (by decide +kernel)
  have k_17 := hts (.fieldLink RX6 17 "MirrorKeep$Tree" "count" "I") (by decide +kernel)
  have hR : rR G A s.heap s.heap [] ([(t, .inr (5, [.ref r, .int (nI L.length)])), (r, .inl (cE, 120, rfs f))] ++ pl) := ⟨hP, hD, va_S.rf⟩
  obtain ⟨Q, hQ⟩ : ∃ Q : State → Prop, Q = MQ below (cQ G A pl (fun o9 X1 nw => o9 = none ∧ nw = [] ∧ X1 = [(t, .inr (5, [.ref r, .int (nI L.length)])), (r, .inl (cE, 120, rfs (va_up f i (some a))))])) args s 0 0 A := ⟨_, rfl⟩
  change W p l e ({ frames := 0, cells := 0, slots := 0, locals := 0 } : Room) s m args below meth c s.heap [] 0 0 (MQ below (cQ G (va_A ([(t, .inr (5, [.ref r, .int (nI L.length)])), (r, .inl (cE, 120, rfs f))] ++ pl) s.heap.size) pl (fun o9 X1 nw => o9 = none ∧ nw = [] ∧ X1 = [(t, .inr (5, [.ref r, .int (nI L.length)])), (r, .inl (cE, 120, rfs (va_up f i (some a))))])) args s 0 0 (va_A ([(t, .inr (5, [.ref r, .int (nI L.length)])), (r, .inl (cE, 120, rfs f))] ++ pl) s.heap.size)) (entryFrame m args 3)
  rw [← hAe]
  rw [← hQ]
  refine nn_entry hargs (Nat.le_of_ble_eq_true rfl) (lv := [(0, .ref t), (1, .int (nI i)), (2, .ref a)]) rfl (fun ls hl => ?_)
  obtain ⟨pae_1, cae_1, hme_1, hpae_1, hcae_1⟩ := id he
  have hl120 := hrw.1
  refine lv_iload_n hx hb dX6_replace_0 rfl (lv_at hl 1 rfl) ?_
  refine nz_lt hx hb dX6_replace_1 (tgt := 19) (by decide) (by omega) (fun c_2 => ?_) (fun c_2 => ?_)
  · exact absurd c_2 (Nat.not_lt_zero _)
  · refine lv_iload_n hx hb dX6_replace_4 rfl (lv_at hl 1 rfl) ?_
    refine lv_aload_n hx hb dX6_replace_5 rfl (lv_at hl 0 rfl) ?_
    refine xg (ci := 5) (C := RX6) (T := TX6) (N := 2) (v := .int (nI L.length)) hx hb hts inX6 hown hK hR.1 (List.mem_of_getElem? (i := 0) rfl) rfl 1 (by decide) k_17 (fun _ h => h) rfl dX6_replace_6 ?_
    refine nn_ge hx hb dX6_replace_9 (tgt := 19) (by decide) (by omega) (by omega) (fun c_3 => ?_) (fun c_3 => ?_)
    · exact absurd c_3 (by omega)
    · refine lv_aload_n hx hb dX6_replace_12 rfl (lv_at hl 0 rfl) ?_
      refine xg (ci := 5) (C := RX6) (T := TX6) (N := 2) (v := .ref r) hx hb hts inX6 hown hK hR.1 (List.mem_of_getElem? (i := 0) rfl) rfl 0 (by decide) k_13 (fun _ h => h) rfl dX6_replace_13 ?_
      refine lv_iload_n hx hb dX6_replace_16 rfl (lv_at hl 1 rfl) ?_
      refine lv_aload_n hx hb dX6_replace_17 rfl (lv_at hl 2 rfl) ?_
      refine xc_ast (ci := 1) (t0 := 2) hx hb hK hT2 rfl hR 1 rfl (List.mem_append_right _ hme_1) (by omega) (by decide) dX6_replace_18 (fun H locs hR => ?_)
      have hR : rR G A s.heap H locs ([(t, .inr (5, [.ref r, .int (nI L.length)])), (r, .inl (cE, 120, rfs (va_up f i (some a))))] ++ pl) := hR
      rw [hQ]
      exact xc_vret (X1 := [(t, .inr (5, [.ref r, .int (nI L.length)])), (r, .inl (cE, 120, rfs (va_up f i (some a))))]) (nw := []) hx hb hr hlocks (by rw [List.append_nil]; exact hR) ⟨rfl, rfl, rfl⟩ dX6_replace_19
set_option maxHeartbeats 4000000 in
set_option maxRecDepth 100000 in
theorem c_insert (l : Launch) {G : va_G} {tys : List (ClassId × FieldType)} {cB cI cE cS : ClassId} (hT : tys = [(cB, .byte), (cI, .int), (cE, .object RX1), (cS, .object RX4)]) {pl : va_W} {sz : Nat} {t r : Nat} {f : Nat → Option Nat} {L : List En} (hrw : tRows pl cB f L) {a : Nat} {u : En} (he : pEnt pl cB a u) (k : Nat) (hk : k ≤ L.length) (hfull : L.length < 120) : cMet l yX6_insert wsX6_insert ({ frames := 0, cells := 0, slots := 0, locals := 0 } : Room) G tys [.ref t, .int (nI k), .ref a] [(t, .inr (5, [.ref r, .int (nI L.length)])), (r, .inl (cE, 120, rfs f))] pl sz 0 0 (fun o9 X1 nw => o9 = none ∧ nw = [] ∧ ∃ g : Nat → Option Nat, X1 = [(t, .inr (5, [.ref r, .int (nI (L.length + 1))])), (r, .inl (cE, 120, rfs g))] ∧ ∀ j, j < L.length + 1 → g j = insF f k (some a) j) := by
  have hT0 : tys[0]? = some (cB, .byte) := by rw [hT]; rfl
  have hT1 : tys[1]? = some (cI, .int) := by rw [hT]; rfl
  have hT2 : tys[2]? = some (cE, .object RX1) := by rw [hT]; rfl
  have hT3 : tys[3]? = some (cS, .object RX4) := by rw [hT]; rfl
  refine Met.ofW (cc := cX6_insert) (maxL := 4) (ret := none) (by decide) rfl ?_
  intro p e s m args below meth c s₁ B hml hv
  obtain ⟨hargs, hsz, hP, hK, hD0⟩ := hv
  have hx := B.exec
  have hb := B.bytes
  have hr := B.returns
  have hts := atoms_spec (ws := wsX6_insert) B.pre
  have hown : s.vm.findClass RX6 = some m.cls := findClass_of_methodNamed B.named
  have hlocks := B.notSynchronized
  subst hsz
  have hD := hD0.self (sz := s.heap.size)
  obtain ⟨A, hAe⟩ : ∃ A : Nat → Prop, A = va_A ([(t, .inr (5, [.ref r, .int (nI L.length)])), (r, .inl (cE, 120, rfs f))] ++ pl) s.heap.size := ⟨_, rfl⟩
  rw [← hAe] at hD
  have hA : ∀ q : Nat, s.heap.size ≤ q → A q := fun q h => by rw [hAe]; exact Or.inr h
  have inX6 : ∀ w ∈ wsX60, w ∈ wsX6_insert := by decide +kernel
  have k_13 := hts (.fieldLink RX6 13 "MirrorKeep$Tree" "rows" "[LMirrorKeep$Entry;") (by decide +kernel)
  have k_17 := hts (.fieldLink RX6 17 "MirrorKeep$Tree" "count" "I") (by decide +kernel)
  have hR : rR G A s.heap s.heap [] ([(t, .inr (5, [.ref r, .int (nI L.length)])), (r, .inl (cE, 120, rfs f))] ++ pl) := ⟨hP, hD, va_S.rf⟩
  obtain ⟨Q, hQ⟩ : ∃ Q : State → Prop, Q = MQ below (cQ G A pl (fun o9 X1 nw => o9 = none ∧ nw = [] ∧ ∃ g : Nat → Option Nat, X1 = [(t, .inr (5, [.ref r, .int (nI (L.length + 1))])), (r, .inl (cE, 120, rfs g))] ∧ ∀ j, j < L.length + 1 → g j = insF f k (some a) j)) args s 0 0 A := ⟨_, rfl⟩
  change W p l e ({ frames := 0, cells := 0, slots := 0, locals := 0 } : Room) s m args below meth c s.heap [] 0 0 (MQ below (cQ G (va_A ([(t, .inr (5, [.ref r, .int (nI L.length)])), (r, .inl (cE, 120, rfs f))] ++ pl) s.heap.size) pl (fun o9 X1 nw => o9 = none ∧ nw = [] ∧ ∃ g : Nat → Option Nat, X1 = [(t, .inr (5, [.ref r, .int (nI (L.length + 1))])), (r, .inl (cE, 120, rfs g))] ∧ ∀ j, j < L.length + 1 → g j = insF f k (some a) j)) args s 0 0 (va_A ([(t, .inr (5, [.ref r, .int (nI L.length)])), (r, .inl (cE, 120, rfs f))] ++ pl) s.heap.size)) (entryFrame m args 4)
  rw [← hAe]
  rw [← hQ]
  refine nn_entry hargs (Nat.le_of_ble_eq_true rfl) (lv := [(0, .ref t), (1, .int (nI k)), (2, .ref a)]) rfl (fun ls hl => ?_)
  obtain ⟨pae_1, cae_1, hme_1, hpae_1, hcae_1⟩ := id he
  refine lv_iload_n hx hb dX6_insert_0 rfl (lv_at hl 1 rfl) ?_
  refine nz_lt hx hb dX6_insert_1 (tgt := 21) (by decide) (by omega) (fun c_2 => ?_) (fun c_2 => ?_)
  · exact absurd c_2 (Nat.not_lt_zero _)
  · refine lv_iload_n hx hb dX6_insert_4 rfl (lv_at hl 1 rfl) ?_
    refine lv_aload_n hx hb dX6_insert_5 rfl (lv_at hl 0 rfl) ?_
    refine xg (ci := 5) (C := RX6) (T := TX6) (N := 2) (v := .int (nI L.length)) hx hb hts inX6 hown hK hR.1 (List.mem_of_getElem? (i := 0) rfl) rfl 1 (by decide) k_17 (fun _ h => h) rfl dX6_insert_6 ?_
    refine nn_gt hx hb dX6_insert_9 (tgt := 21) (by decide) (by omega) (by omega) (fun c_3 => ?_) (fun c_3 => ?_)
    · exact absurd c_3 (by omega)
    · refine lv_aload_n hx hb dX6_insert_12 rfl (lv_at hl 0 rfl) ?_
      refine xg (ci := 5) (C := RX6) (T := TX6) (N := 2) (v := .int (nI L.length)) hx hb hts inX6 hown hK hR.1 (List.mem_of_getElem? (i := 0) rfl) rfl 1 (by decide) k_17 (fun _ h => h) rfl dX6_insert_13 ?_
      refine lv_bipush (v := nI 120) hx hb dX6_insert_16 (by decide) ?_
      refine nn_lt hx hb dX6_insert_18 (tgt := 22) (by decide) (by omega) (by omega) (fun c_4 => ?_) (fun c_4 => ?_)
      · refine lv_aload_n hx hb dX6_insert_22 rfl (lv_at hl 0 rfl) ?_
        refine xg (ci := 5) (C := RX6) (T := TX6) (N := 2) (v := .int (nI L.length)) hx hb hts inX6 hown hK hR.1 (List.mem_of_getElem? (i := 0) rfl) rfl 1 (by decide) k_17 (fun _ h => h) rfl dX6_insert_23 ?_
        refine lv_istore_n (lv' := [(3, .int (nI L.length)), (0, .ref t), (1, .int (nI k)), (2, .ref a)]) hx hb dX6_insert_26 rfl hl (by decide) rfl (fun ls hl => ?_)
        have lp_27 : ∀ (n_27 : Nat) (i : Nat) (g : Nat → Option Nat) (H : Heap) (locs : List Loc) (ls : Array Slot), i < n_27 → (k ≤ i) → (i ≤ L.length) → (∀ j, j ≤ i → g j = f j) → (∀ j, i < j → j ≤ L.length → g j = f (j - 1)) → rR G A s.heap H locs ([(t, .inr (5, [.ref r, .int (nI L.length)])), (r, .inl (cE, 120, rfs g))] ++ pl) → lv_has ls 4 [(3, .int (nI i)), (0, .ref t), (1, .int (nI k)), (2, .ref a)] → W p l e ({ frames := 0, cells := 0, slots := 0, locals := 0 } : Room) s m args below meth c H locs 0 0 Q (F0 m 27 ls []) := by
          intro n_27
          induction n_27 with
          | zero => intro i g H locs ls h0; exact absurd h0 (Nat.not_lt_zero _)
          | succ n_27 ih_27 =>
            intro i g H locs ls hm_27 hi hi2 hg1 hg2 hR hl
            refine lv_iload_n hx hb dX6_insert_27 rfl (lv_at hl 0 rfl) ?_
            refine lv_iload_n hx hb dX6_insert_28 rfl (lv_at hl 2 rfl) ?_
            refine nn_le hx hb dX6_insert_29 (tgt := 52) (by decide) (by omega) (by omega) (fun c_5 => ?_) (fun c_5 => ?_)
            · refine lv_aload_n hx hb dX6_insert_52 rfl (lv_at hl 1 rfl) ?_
              refine xg (ci := 5) (C := RX6) (T := TX6) (N := 2) (v := .ref r) hx hb hts inX6 hown hK hR.1 (List.mem_of_getElem? (i := 0) rfl) rfl 0 (by decide) k_13 (fun _ h => h) rfl dX6_insert_53 ?_
              refine lv_iload_n hx hb dX6_insert_56 rfl (lv_at hl 2 rfl) ?_
              refine lv_aload_n hx hb dX6_insert_57 rfl (lv_at hl 3 rfl) ?_
              refine xc_ast (ci := 1) (t0 := 2) hx hb hK hT2 rfl hR 1 rfl (List.mem_append_right _ hme_1) (by omega) (by decide) dX6_insert_58 (fun H locs hR => ?_)
              have hR : rR G A s.heap H locs ([(t, .inr (5, [.ref r, .int (nI L.length)])), (r, .inl (cE, 120, rfs (va_up g k (some a))))] ++ pl) := hR
              refine lv_aload_n hx hb dX6_insert_59 rfl (lv_at hl 1 rfl) ?_
              refine lv_dup hx hb dX6_insert_60 rfl ?_
              refine xg (ci := 5) (C := RX6) (T := TX6) (N := 2) (v := .int (nI L.length)) hx hb hts inX6 hown hK hR.1 (List.mem_of_getElem? (i := 0) rfl) rfl 1 (by decide) k_17 (fun _ h => h) rfl dX6_insert_61 ?_
              refine lv_iconst (v := nI 1) hx hb dX6_insert_64 rfl ?_
              refine nn_add hx hb dX6_insert_65 ?_
              refine va_put (D := G) (ci := 5) (v := .int (nI (L.length + 1))) (ty := .int) (C := RX6) (T := TX6) (N := 2) hx hb hts inX6 tyX6 tyX6_ok nmX6 hown hK hR.1 hR.2.1 hR.2.2 0 rfl rfl 1 (by decide) k_17 (fun _ h => h) rfl (by decide +kernel) rfl rfl (Nat.le_of_ble_eq_true rfl) dX6_insert_66 (fun H locs hP hD hS => ?_)
              have hR : rR G A s.heap H locs ([(t, .inr (5, [.ref r, .int (nI (L.length + 1))])), (r, .inl (cE, 120, rfs (va_up g k (some a))))] ++ pl) := ⟨hP, hD, hS⟩
              rw [hQ]
              exact xc_vret (X1 := [(t, .inr (5, [.ref r, .int (nI (L.length + 1))])), (r, .inl (cE, 120, rfs (va_up g k (some a))))]) (nw := []) hx hb hr hlocks (by rw [List.append_nil]; exact hR) ⟨rfl, rfl, _, rfl, fun j hj => by unfold insF; by_cases e1 : j < k; (rw [if_pos e1, va_up_ne _ _ (by omega)]; exact hg1 j (by omega)); (rw [if_neg e1]; by_cases e2 : j = k; (rw [if_pos e2, e2, va_up_self]); (rw [if_neg e2, va_up_ne _ _ e2]; exact hg2 j (by omega) (by omega)))⟩ dX6_insert_69
            · refine lv_aload_n hx hb dX6_insert_32 rfl (lv_at hl 1 rfl) ?_
              refine xg (ci := 5) (C := RX6) (T := TX6) (N := 2) (v := .ref r) hx hb hts inX6 hown hK hR.1 (List.mem_of_getElem? (i := 0) rfl) rfl 0 (by decide) k_13 (fun _ h => h) rfl dX6_insert_33 ?_
              refine lv_iload_n hx hb dX6_insert_36 rfl (lv_at hl 0 rfl) ?_
              refine lv_aload_n hx hb dX6_insert_37 rfl (lv_at hl 1 rfl) ?_
              refine xg (ci := 5) (C := RX6) (T := TX6) (N := 2) (v := .ref r) hx hb hts inX6 hown hK hR.1 (List.mem_of_getElem? (i := 0) rfl) rfl 0 (by decide) k_13 (fun _ h => h) rfl dX6_insert_38 ?_
              refine lv_iload_n hx hb dX6_insert_41 rfl (lv_at hl 0 rfl) ?_
              refine lv_iconst (v := nI 1) hx hb dX6_insert_42 rfl ?_
              refine nn_sub hx hb (by omega) dX6_insert_43 ?_
              refine xq_ld (t0 := 2) hx hb hK hT2 hR.1 (List.mem_of_getElem? (i := 1) rfl) (by omega) (by decide) dX6_insert_44 ?_
              obtain ⟨a_6, ha_6, ga_6⟩ := hrw.2.1 (i - 1) (by omega)
              obtain ⟨paa_6, caa_6, hma_6, hpaa_6, hcaa_6⟩ := id ga_6
              refine nn_eqv (y := .ref a_6) (by rw [hg1 (i - 1) (by omega), ha_6]; rfl) ?_
              refine xc_ast (ci := 1) (t0 := 2) hx hb hK hT2 rfl hR 1 rfl (List.mem_append_right _ hma_6) (by omega) (by decide) dX6_insert_45 (fun H locs hR => ?_)
              have hR : rR G A s.heap H locs ([(t, .inr (5, [.ref r, .int (nI L.length)])), (r, .inl (cE, 120, rfs (va_up g i (some a_6))))] ++ pl) := hR
              refine lv_iinc (v := nI (i - 1)) (lv' := [(3, .int (nI (i - 1))), (0, .ref t), (1, .int (nI k)), (2, .ref a)]) hx hb dX6_insert_46 hl (k := 0) rfl (sb_m1 (by omega)) (by decide) rfl (fun ls hl => ?_)
              refine lv_goto (tgt := 27) hx hb dX6_insert_49 (by decide) ?_
              exact ih_27 (i - 1) (va_up g i (some a_6)) _ _ _ (by omega) (by omega) (by omega) (fun j hj => by rw [va_up_ne _ _ (by omega)]; exact hg1 j (by omega)) (fun j h1 h2 => by by_cases h9 : j = i; (subst h9; rw [va_up_self, ha_6]); (rw [va_up_ne _ _ h9]; exact hg2 j (by omega) h2)) hR (lv_sub hl [0, 1, 2, 3] rfl)
        exact lp_27 ((L.length) + 1) L.length f _ _ _ (Nat.lt_succ_self _) (by omega) (Nat.le_refl _) (fun _ _ => rfl) (fun j h1 h2 => absurd h2 (by omega)) hR (lv_sub hl [0, 1, 2, 3] rfl)
      · exact absurd c_4 (by omega)
set_option maxHeartbeats 4000000 in
set_option maxRecDepth 100000 in
theorem c_drop (l : Launch) {G : va_G} {tys : List (ClassId × FieldType)} {cB cI cE cS : ClassId} (hT : tys = [(cB, .byte), (cI, .int), (cE, .object RX1), (cS, .object RX4)]) {pl : va_W} {sz : Nat} {t r : Nat} {f : Nat → Option Nat} {L : List En} (hrw : tRows pl cB f L) (k n : Nat) (hk : k + n ≤ L.length) (hn0 : 0 < n) : cMet l yX6_drop wsX6_drop ({ frames := 0, cells := 0, slots := 0, locals := 0 } : Room) G tys [.ref t, .int (nI k), .int (nI n)] [(t, .inr (5, [.ref r, .int (nI L.length)])), (r, .inl (cE, 120, rfs f))] pl sz 0 0 (fun o9 X1 nw => o9 = none ∧ nw = [] ∧ ∃ g : Nat → Option Nat, X1 = [(t, .inr (5, [.ref r, .int (nI (L.length - n))])), (r, .inl (cE, 120, rfs g))] ∧ (∀ j, j < k → g j = f j) ∧ ∀ j, k ≤ j → j + n < L.length → g j = f (j + n)) := by
  have hT0 : tys[0]? = some (cB, .byte) := by rw [hT]; rfl
  have hT1 : tys[1]? = some (cI, .int) := by rw [hT]; rfl
  have hT2 : tys[2]? = some (cE, .object RX1) := by rw [hT]; rfl
  have hT3 : tys[3]? = some (cS, .object RX4) := by rw [hT]; rfl
  refine Met.ofW (cc := cX6_drop) (maxL := 4) (ret := none) (by decide) rfl ?_
  intro p e s m args below meth c s₁ B hml hv
  obtain ⟨hargs, hsz, hP, hK, hD0⟩ := hv
  have hx := B.exec
  have hb := B.bytes
  have hr := B.returns
  have hts := atoms_spec (ws := wsX6_drop) B.pre
  have hown : s.vm.findClass RX6 = some m.cls := findClass_of_methodNamed B.named
  have hlocks := B.notSynchronized
  subst hsz
  have hD := hD0.self (sz := s.heap.size)
  obtain ⟨A, hAe⟩ : ∃ A : Nat → Prop, A = va_A ([(t, .inr (5, [.ref r, .int (nI L.length)])), (r, .inl (cE, 120, rfs f))] ++ pl) s.heap.size := ⟨_, rfl⟩
  rw [← hAe] at hD
  have hA : ∀ q : Nat, s.heap.size ≤ q → A q := fun q h => by rw [hAe]; exact Or.inr h
  have inX6 : ∀ w ∈ wsX60, w ∈ wsX6_drop := by decide +kernel
  have k_13 := hts (.fieldLink RX6 13 "MirrorKeep$Tree" "rows" "[LMirrorKeep$Entry;") (by decide +kernel)
  have k_17 := hts (.fieldLink RX6 17 "MirrorKeep$Tree" "count" "I") (by decide +kernel)
  have hR : rR G A s.heap s.heap [] ([(t, .inr (5, [.ref r, .int (nI L.length)])), (r, .inl (cE, 120, rfs f))] ++ pl) := ⟨hP, hD, va_S.rf⟩
  obtain ⟨Q, hQ⟩ : ∃ Q : State → Prop, Q = MQ below (cQ G A pl (fun o9 X1 nw => o9 = none ∧ nw = [] ∧ ∃ g : Nat → Option Nat, X1 = [(t, .inr (5, [.ref r, .int (nI (L.length - n))])), (r, .inl (cE, 120, rfs g))] ∧ (∀ j, j < k → g j = f j) ∧ ∀ j, k ≤ j → j + n < L.length → g j = f (j + n))) args s 0 0 A := ⟨_, rfl⟩
  change W p l e ({ frames := 0, cells := 0, slots := 0, locals := 0 } : Room) s m args below meth c s.heap [] 0 0 (MQ below (cQ G (va_A ([(t, .inr (5, [.ref r, .int (nI L.length)])), (r, .inl (cE, 120, rfs f))] ++ pl) s.heap.size) pl (fun o9 X1 nw => o9 = none ∧ nw = [] ∧ ∃ g : Nat → Option Nat, X1 = [(t, .inr (5, [.ref r, .int (nI (L.length - n))])), (r, .inl (cE, 120, rfs g))] ∧ (∀ j, j < k → g j = f j) ∧ ∀ j, k ≤ j → j + n < L.length → g j = f (j + n))) args s 0 0 (va_A ([(t, .inr (5, [.ref r, .int (nI L.length)])), (r, .inl (cE, 120, rfs f))] ++ pl) s.heap.size)) (entryFrame m args 4)
  rw [← hAe]
  rw [← hQ]
  refine nn_entry hargs (Nat.le_of_ble_eq_true rfl) (lv := [(0, .ref t), (1, .int (nI k)), (2, .int (nI n))]) rfl (fun ls hl => ?_)
  have hl120 := hrw.1
  refine lv_iload_n hx hb dX6_drop_0 rfl (lv_at hl 1 rfl) ?_
  refine nz_lt hx hb dX6_drop_1 (tgt := 18) (by decide) (by omega) (fun c_1 => ?_) (fun c_1 => ?_)
  · exact absurd c_1 (Nat.not_lt_zero _)
  · refine lv_iload_n hx hb dX6_drop_4 rfl (lv_at hl 2 rfl) ?_
    refine nz_lt hx hb dX6_drop_5 (tgt := 18) (by decide) (by omega) (fun c_2 => ?_) (fun c_2 => ?_)
    · exact absurd c_2 (Nat.not_lt_zero _)
    · refine lv_iload_n hx hb dX6_drop_8 rfl (lv_at hl 2 rfl) ?_
      refine lv_aload_n hx hb dX6_drop_9 rfl (lv_at hl 0 rfl) ?_
      refine xg (ci := 5) (C := RX6) (T := TX6) (N := 2) (v := .int (nI L.length)) hx hb hts inX6 hown hK hR.1 (List.mem_of_getElem? (i := 0) rfl) rfl 1 (by decide) k_17 (fun _ h => h) rfl dX6_drop_10 ?_
      refine lv_iload_n hx hb dX6_drop_13 rfl (lv_at hl 1 rfl) ?_
      refine nn_sub hx hb (by omega) dX6_drop_14 ?_
      refine nn_le hx hb dX6_drop_15 (tgt := 19) (by decide) (by omega) (by omega) (fun c_3 => ?_) (fun c_3 => ?_)
      · refine lv_iload_n hx hb dX6_drop_19 rfl (lv_at hl 1 rfl) ?_
        refine lv_iload_n hx hb dX6_drop_20 rfl (lv_at hl 2 rfl) ?_
        refine nn_add hx hb dX6_drop_21 ?_
        refine lv_istore_n (lv' := [(3, .int (nI (k + n))), (0, .ref t), (1, .int (nI k)), (2, .int (nI n))]) hx hb dX6_drop_22 rfl hl (by decide) rfl (fun ls hl => ?_)
        have lp_23 : ∀ (n_23 : Nat) (i : Nat) (g : Nat → Option Nat) (H : Heap) (locs : List Loc) (ls : Array Slot), (L.length - i) < n_23 → (k + n ≤ i) → (i ≤ L.length) → (∀ j, j < k → g j = f j) → (∀ j, k ≤ j → j + n < i → g j = f (j + n)) → (∀ j, i - n ≤ j → g j = f j) → rR G A s.heap H locs ([(t, .inr (5, [.ref r, .int (nI L.length)])), (r, .inl (cE, 120, rfs g))] ++ pl) → lv_has ls 4 [(3, .int (nI i)), (0, .ref t), (1, .int (nI k)), (2, .int (nI n))] → W p l e ({ frames := 0, cells := 0, slots := 0, locals := 0 } : Room) s m args below meth c H locs 0 0 Q (F0 m 23 ls []) := by
          intro n_23
          induction n_23 with
          | zero => intro i g H locs ls h0; exact absurd h0 (Nat.not_lt_zero _)
          | succ n_23 ih_23 =>
            intro i g H locs ls hm_23 hi hi2 hg1 hg2 hg3 hR hl
            refine lv_iload_n hx hb dX6_drop_23 rfl (lv_at hl 0 rfl) ?_
            refine lv_aload_n hx hb dX6_drop_24 rfl (lv_at hl 1 rfl) ?_
            refine xg (ci := 5) (C := RX6) (T := TX6) (N := 2) (v := .int (nI L.length)) hx hb hts inX6 hown hK hR.1 (List.mem_of_getElem? (i := 0) rfl) rfl 1 (by decide) k_17 (fun _ h => h) rfl dX6_drop_25 ?_
            refine nn_ge hx hb dX6_drop_28 (tgt := 51) (by decide) (by omega) (by omega) (fun c_4 => ?_) (fun c_4 => ?_)
            · refine lv_aload_n hx hb dX6_drop_51 rfl (lv_at hl 1 rfl) ?_
              refine lv_dup hx hb dX6_drop_52 rfl ?_
              refine xg (ci := 5) (C := RX6) (T := TX6) (N := 2) (v := .int (nI L.length)) hx hb hts inX6 hown hK hR.1 (List.mem_of_getElem? (i := 0) rfl) rfl 1 (by decide) k_17 (fun _ h => h) rfl dX6_drop_53 ?_
              refine lv_iload_n hx hb dX6_drop_56 rfl (lv_at hl 3 rfl) ?_
              refine nn_sub hx hb (by omega) dX6_drop_57 ?_
              refine va_put (D := G) (ci := 5) (v := .int (nI (L.length - n))) (ty := .int) (C := RX6) (T := TX6) (N := 2) hx hb hts inX6 tyX6 tyX6_ok nmX6 hown hK hR.1 hR.2.1 hR.2.2 0 rfl rfl 1 (by decide) k_17 (fun _ h => h) rfl (by decide +kernel) rfl rfl (Nat.le_of_ble_eq_true rfl) dX6_drop_58 (fun H locs hP hD hS => ?_)
              have hR : rR G A s.heap H locs ([(t, .inr (5, [.ref r, .int (nI (L.length - n))])), (r, .inl (cE, 120, rfs g))] ++ pl) := ⟨hP, hD, hS⟩
              rw [hQ]
              exact xc_vret (X1 := [(t, .inr (5, [.ref r, .int (nI (L.length - n))])), (r, .inl (cE, 120, rfs g))]) (nw := []) hx hb hr hlocks (by rw [List.append_nil]; exact hR) ⟨rfl, rfl, g, rfl, hg1, fun j h1 h2 => hg2 j h1 (by omega)⟩ dX6_drop_61
            · refine lv_aload_n hx hb dX6_drop_31 rfl (lv_at hl 1 rfl) ?_
              refine xg (ci := 5) (C := RX6) (T := TX6) (N := 2) (v := .ref r) hx hb hts inX6 hown hK hR.1 (List.mem_of_getElem? (i := 0) rfl) rfl 0 (by decide) k_13 (fun _ h => h) rfl dX6_drop_32 ?_
              refine lv_iload_n hx hb dX6_drop_35 rfl (lv_at hl 0 rfl) ?_
              refine lv_iload_n hx hb dX6_drop_36 rfl (lv_at hl 3 rfl) ?_
              refine nn_sub hx hb (by omega) dX6_drop_37 ?_
              refine lv_aload_n hx hb dX6_drop_38 rfl (lv_at hl 1 rfl) ?_
              refine xg (ci := 5) (C := RX6) (T := TX6) (N := 2) (v := .ref r) hx hb hts inX6 hown hK hR.1 (List.mem_of_getElem? (i := 0) rfl) rfl 0 (by decide) k_13 (fun _ h => h) rfl dX6_drop_39 ?_
              refine lv_iload_n hx hb dX6_drop_42 rfl (lv_at hl 0 rfl) ?_
              refine xq_ld (t0 := 2) hx hb hK hT2 hR.1 (List.mem_of_getElem? (i := 1) rfl) (by omega) (by decide) dX6_drop_43 ?_
              obtain ⟨a_5, ha_5, ga_5⟩ := hrw.2.1 i (by omega)
              obtain ⟨paa_5, caa_5, hma_5, hpaa_5, hcaa_5⟩ := id ga_5
              refine nn_eqv (y := .ref a_5) (by rw [hg3 i (by omega), ha_5]; rfl) ?_
              refine xc_ast (ci := 1) (t0 := 2) hx hb hK hT2 rfl hR 1 rfl (List.mem_append_right _ hma_5) (by omega) (by decide) dX6_drop_44 (fun H locs hR => ?_)
              have hR : rR G A s.heap H locs ([(t, .inr (5, [.ref r, .int (nI L.length)])), (r, .inl (cE, 120, rfs (va_up g (i - n) (some a_5))))] ++ pl) := hR
              refine lv_iinc (v := nI (i + 1)) (lv' := [(3, .int (nI (i + 1))), (0, .ref t), (1, .int (nI k)), (2, .int (nI n))]) hx hb dX6_drop_45 hl (k := 0) rfl (nI_add i 1) (by decide) rfl (fun ls hl => ?_)
              refine lv_goto (tgt := 23) hx hb dX6_drop_48 (by decide) ?_
              exact ih_23 (i + 1) (va_up g (i - n) (some a_5)) _ _ _ (by omega) (by omega) (by omega) (fun j hj => by rw [va_up_ne _ _ (by omega)]; exact hg1 j hj) (fun j h1 h2 => by by_cases h9 : j = i - n; (subst h9; rw [va_up_self, show i - n + n = i by omega, ha_5]); (rw [va_up_ne _ _ h9]; exact hg2 j h1 (by omega))) (fun j h1 => by rw [va_up_ne _ _ (by omega)]; exact hg3 j (by omega)) hR (lv_sub hl [0, 1, 2, 3] rfl)
        exact lp_23 (((L.length - (k + n))) + 1) (k + n) f _ _ _ (Nat.lt_succ_self _) (Nat.le_refl _) (by omega) (fun _ _ => rfl) (fun j h1 h2 => absurd h2 (by omega)) (fun _ _ => rfl) hR (lv_sub hl [0, 1, 2, 3] rfl)
      · exact absurd c_3 (by omega)
