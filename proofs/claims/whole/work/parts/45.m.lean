set_option maxHeartbeats 4000000 in
set_option maxRecDepth 100000 in
theorem c_replace (l : Launch) {G : va_G} {tys : List (ClassId × FieldType)} {cB cI cE cS : ClassId} (hT : tys = [(cB, .byte), (cI, .int), (cE, .object RX1), (cS, .object RX4)]) {pl : va_W} {sz : Nat} {t r : Nat} {f : Nat → Option Nat} {L : List En} (hrw : tRows pl cB f L) {a : Nat} {u : En} (he : pEnt pl cB a u) (i : Nat) (hi : i < L.length) : cMet l yX6_replace wsX6_replace ({ frames := 0, cells := 0, slots := 0, locals := 0 } : Room) G tys [.ref t, .int (nI i), .ref a] [(t, .inr (5, [.ref r, .int (nI L.length)])), (r, .inl (cE, 120, rfs f))] pl sz 0 0 (fun o9 X1 nw => o9 = none ∧ nw = [] ∧ X1 = [(t, .inr (5, [.ref r, .int (nI L.length)])), (r, .inl (cE, 120, rfs (va_up f i (some a))))]) := by
  have hT0 : tys[0]? = some (cB, .byte) := by rw [hT]; rfl
  have hT1 : tys[1]? = some (cI, .int) := by rw [hT]; rfl
  have hT2 : tys[2]? = some (cE, .object RX1) := by rw [hT]; rfl
  have hT3 : tys[3]? = some (cS, .object RX4) := by rw [hT]; rfl
  refine Met.ofW (cc := cX6_replace) (maxL := 3) (ret := none) (by decide) rfl ?_
  intro p e s m args below meth c s₁ B hml hv
  obtain ⟨hargs, hsz, hP, hK, hD0, hZ⟩ := hv
  have hx := B.exec
  have hb := B.bytes
  have hr := B.returns
  have hts := atoms_spec (ws := wsX6_replace) B.pre
  have hown : s.vm.findClass RX6 = some m.cls := findClass_of_methodNamed B.named
  have hlocks := B.notSynchronized
  subst hsz
  have hD := hD0.self (sz := s.heap.size)
  obtain ⟨A, hAe⟩ : ∃ A : Nat → Prop, A = va_A ([(t, .inr (5, [.ref r, .int (nI L.length)])), (r, .inl (cE, 120, rfs f))] ++ pl) s.heap.size := ⟨_, rfl⟩
  rw [← hAe] at hD
  have hA : ∀ q : Nat, s.heap.size ≤ q → A q := fun q h => by rw [hAe]; exact Or.inr h
  have inX6 : ∀ w ∈ wsX60, w ∈ wsX6_replace := by decide +kernel
  have k_13 := hts (.fieldLink RX6 13 "MirrorKeep$Tree" "rows" "[LMirrorKeep$Entry;") (by decide +kernel)
  have k_17 := hts (.fieldLink RX6 17 "MirrorKeep$Tree" "count" "I") (by decide +kernel)
  have hR : rR G A s.heap s.heap [] ([(t, .inr (5, [.ref r, .int (nI L.length)])), (r, .inl (cE, 120, rfs f))] ++ pl) := ⟨hP, hD, va_S.rf⟩
  obtain ⟨Q, hQ⟩ : ∃ Q : State → Prop, Q = MQ below (cQ G A pl (fun o9 X1 nw => o9 = none ∧ nw = [] ∧ X1 = [(t, .inr (5, [.ref r, .int (nI L.length)])), (r, .inl (cE, 120, rfs (va_up f i (some a))))])) args s 0 0 A := ⟨_, rfl⟩
  change W p l e ({ frames := 0, cells := 0, slots := 0, locals := 0 } : Room) s m args below meth c s.heap [] 0 0 (MQ below (cQ G (va_A ([(t, .inr (5, [.ref r, .int (nI L.length)])), (r, .inl (cE, 120, rfs f))] ++ pl) s.heap.size) pl (fun o9 X1 nw => o9 = none ∧ nw = [] ∧ X1 = [(t, .inr (5, [.ref r, .int (nI L.length)])), (r, .inl (cE, 120, rfs (va_up f i (some a))))])) args s 0 0 (va_A ([(t, .inr (5, [.ref r, .int (nI L.length)])), (r, .inl (cE, 120, rfs f))] ++ pl) s.heap.size)) (entryFrame m args 3)
  rw [← hAe]
  rw [← hQ]
  refine nn_entry hargs (Nat.le_of_ble_eq_true rfl) (lv := [(0, .ref t), (1, .int (nI i)), (2, .ref a)]) rfl (fun ls hl => ?_)
  obtain ⟨pae_1, cae_1, hme_1, hpae_1, hcae_1⟩ := id he
  have hl120 := hrw.1
  refine lv_iload_n hx hb dX6_replace_0 rfl (lv_at hl 1 rfl) ?_
  refine nz_lt hx hb dX6_replace_1 (tgt := 19) (by decide) (by omega) (fun c_2 => ?_) (fun c_2 => ?_)
  · exact absurd c_2 (Nat.not_lt_zero _)
  · refine lv_iload_n hx hb dX6_replace_4 rfl (lv_at hl 1 rfl) ?_
    refine lv_aload_n hx hb dX6_replace_5 rfl (lv_at hl 0 rfl) ?_
    refine xg (ci := 5) (C := RX6) (T := TX6) (N := 2) (v := .int (nI L.length)) hx hb hts inX6 hown hK hR.1 (List.mem_of_getElem? (i := 0) rfl) rfl 1 (by decide) k_17 (fun _ h => h) rfl dX6_replace_6 ?_
    refine nn_ge hx hb dX6_replace_9 (tgt := 19) (by decide) (by omega) (by omega) (fun c_3 => ?_) (fun c_3 => ?_)
    · exact absurd c_3 (by omega)
    · refine lv_aload_n hx hb dX6_replace_12 rfl (lv_at hl 0 rfl) ?_
      refine xg (ci := 5) (C := RX6) (T := TX6) (N := 2) (v := .ref r) hx hb hts inX6 hown hK hR.1 (List.mem_of_getElem? (i := 0) rfl) rfl 0 (by decide) k_13 (fun _ h => h) rfl dX6_replace_13 ?_
      refine lv_iload_n hx hb dX6_replace_16 rfl (lv_at hl 1 rfl) ?_
      refine lv_aload_n hx hb dX6_replace_17 rfl (lv_at hl 2 rfl) ?_
      refine xc_ast (ci := 1) (t0 := 2) hx hb hK hT2 rfl hR 1 rfl (List.mem_append_right _ hme_1) (by omega) (by decide) dX6_replace_18 (fun H locs hR => ?_)
      have hR : rR G A s.heap _ _ ([(t, .inr (5, [.ref r, .int (nI L.length)])), (r, .inl (cE, 120, rfs (va_up f i (some a))))] ++ pl) := hR
      rw [hQ]
      exact xc_vret (X1 := [(t, .inr (5, [.ref r, .int (nI L.length)])), (r, .inl (cE, 120, rfs (va_up f i (some a))))]) (nw := []) hx hb hr hlocks (by rw [List.append_nil]; exact hR) ⟨rfl, rfl, rfl⟩ dX6_replace_19
set_option maxHeartbeats 4000000 in
set_option maxRecDepth 100000 in
theorem c_insert (l : Launch) {G : va_G} {tys : List (ClassId × FieldType)} {cB cI cE cS : ClassId} (hT : tys = [(cB, .byte), (cI, .int), (cE, .object RX1), (cS, .object RX4)]) {pl : va_W} {sz : Nat} {t r : Nat} {f : Nat → Option Nat} {L : List En} (hrw : tRows pl cB f L) {a : Nat} {u : En} (he : pEnt pl cB a u) (k : Nat) (hk : k ≤ L.length) (hfull : L.length < 120) : cMet l yX6_insert wsX6_insert ({ frames := 0, cells := 0, slots := 0, locals := 0 } : Room) G tys [.ref t, .int (nI k), .ref a] [(t, .inr (5, [.ref r, .int (nI L.length)])), (r, .inl (cE, 120, rfs f))] pl sz 0 0 (fun o9 X1 nw => o9 = none ∧ nw = [] ∧ ∃ g : Nat → Option Nat, X1 = [(t, .inr (5, [.ref r, .int (nI (L.length + 1))])), (r, .inl (cE, 120, rfs g))] ∧ ∀ j, j < L.length + 1 → g j = insF f k (some a) j) := by
  have hT0 : tys[0]? = some (cB, .byte) := by rw [hT]; rfl
  have hT1 : tys[1]? = some (cI, .int) := by rw [hT]; rfl
  have hT2 : tys[2]? = some (cE, .object RX1) := by rw [hT]; rfl
  have hT3 : tys[3]? = some (cS, .object RX4) := by rw [hT]; rfl
  refine Met.ofW (cc := cX6_insert) (maxL := 4) (ret := none) (by decide) rfl ?_
  intro p e s m args below meth c s₁ B hml hv
  obtain ⟨hargs, hsz, hP, hK, hD0, hZ⟩ := hv
  have hx := B.exec
  have hb := B.bytes
  have hr := B.returns
  have hts := atoms_spec (ws := wsX6_insert) B.pre
  have hown : s.vm.findClass RX6 = some m.cls := findClass_of_methodNamed B.named
  have hlocks := B.notSynchronized
  subst hsz
  have hD := hD0.self (sz := s.heap.size)
  obtain ⟨A, hAe⟩ : ∃ A : Nat → Prop, A = va_A ([(t, .inr (5, [.ref r, .int (nI L.length)])), (r, .inl (cE, 120, rfs f))] ++ pl) s.heap.size := ⟨_, rfl⟩
  rw [← hAe] at hD
  have hA : ∀ q : Nat, s.heap.size ≤ q → A q := fun q h => by rw [hAe]; exact Or.inr h
  have inX6 : ∀ w ∈ wsX60, w ∈ wsX6_insert := by decide +kernel
  have k_13 := hts (.fieldLink RX6 13 "MirrorKeep$Tree" "rows" "[LMirrorKeep$Entry;") (by decide +kernel)
  have k_17 := hts (.fieldLink RX6 17 "MirrorKeep$Tree" "count" "I") (by decide +kernel)
  have hR : rR G A s.heap s.heap [] ([(t, .inr (5, [.ref r, .int (nI L.length)])), (r, .inl (cE, 120, rfs f))] ++ pl) := ⟨hP, hD, va_S.rf⟩
  obtain ⟨Q, hQ⟩ : ∃ Q : State → Prop, Q = MQ below (cQ G A pl (fun o9 X1 nw => o9 = none ∧ nw = [] ∧ ∃ g : Nat → Option Nat, X1 = [(t, .inr (5, [.ref r, .int (nI (L.length + 1))])), (r, .inl (cE, 120, rfs g))] ∧ ∀ j, j < L.length + 1 → g j = insF f k (some a) j)) args s 0 0 A := ⟨_, rfl⟩
  change W p l e ({ frames := 0, cells := 0, slots := 0, locals := 0 } : Room) s m args below meth c s.heap [] 0 0 (MQ below (cQ G (va_A ([(t, .inr (5, [.ref r, .int (nI L.length)])), (r, .inl (cE, 120, rfs f))] ++ pl) s.heap.size) pl (fun o9 X1 nw => o9 = none ∧ nw = [] ∧ ∃ g : Nat → Option Nat, X1 = [(t, .inr (5, [.ref r, .int (nI (L.length + 1))])), (r, .inl (cE, 120, rfs g))] ∧ ∀ j, j < L.length + 1 → g j = insF f k (some a) j)) args s 0 0 (va_A ([(t, .inr (5, [.ref r, .int (nI L.length)])), (r, .inl (cE, 120, rfs f))] ++ pl) s.heap.size)) (entryFrame m args 4)
  rw [← hAe]
  rw [← hQ]
  refine nn_entry hargs (Nat.le_of_ble_eq_true rfl) (lv := [(0, .ref t), (1, .int (nI k)), (2, .ref a)]) rfl (fun ls hl => ?_)
  obtain ⟨pae_1, cae_1, hme_1, hpae_1, hcae_1⟩ := id he
  refine lv_iload_n hx hb dX6_insert_0 rfl (lv_at hl 1 rfl) ?_
  refine nz_lt hx hb dX6_insert_1 (tgt := 21) (by decide) (by omega) (fun c_2 => ?_) (fun c_2 => ?_)
  · exact absurd c_2 (Nat.not_lt_zero _)
  · refine lv_iload_n hx hb dX6_insert_4 rfl (lv_at hl 1 rfl) ?_
    refine lv_aload_n hx hb dX6_insert_5 rfl (lv_at hl 0 rfl) ?_
    refine xg (ci := 5) (C := RX6) (T := TX6) (N := 2) (v := .int (nI L.length)) hx hb hts inX6 hown hK hR.1 (List.mem_of_getElem? (i := 0) rfl) rfl 1 (by decide) k_17 (fun _ h => h) rfl dX6_insert_6 ?_
    refine nn_gt hx hb dX6_insert_9 (tgt := 21) (by decide) (by omega) (by omega) (fun c_3 => ?_) (fun c_3 => ?_)
    · exact absurd c_3 (by omega)
    · refine lv_aload_n hx hb dX6_insert_12 rfl (lv_at hl 0 rfl) ?_
      refine xg (ci := 5) (C := RX6) (T := TX6) (N := 2) (v := .int (nI L.length)) hx hb hts inX6 hown hK hR.1 (List.mem_of_getElem? (i := 0) rfl) rfl 1 (by decide) k_17 (fun _ h => h) rfl dX6_insert_13 ?_
      refine lv_bipush (v := nI 120) hx hb dX6_insert_16 (by decide) ?_
      refine nn_lt hx hb dX6_insert_18 (tgt := 22) (by decide) (by omega) (by omega) (fun c_4 => ?_) (fun c_4 => ?_)
      · refine lv_aload_n hx hb dX6_insert_22 rfl (lv_at hl 0 rfl) ?_
        refine xg (ci := 5) (C := RX6) (T := TX6) (N := 2) (v := .int (nI L.length)) hx hb hts inX6 hown hK hR.1 (List.mem_of_getElem? (i := 0) rfl) rfl 1 (by decide) k_17 (fun _ h => h) rfl dX6_insert_23 ?_
        refine lv_istore_n (lv' := [(3, .int (nI L.length)), (0, .ref t), (1, .int (nI k)), (2, .ref a)]) hx hb dX6_insert_26 rfl hl (by decide) rfl (fun ls hl => ?_)
        have lp_27 : ∀ (n_27 : Nat) (i : Nat) (g : Nat → Option Nat) (H : Heap) (locs : List Loc) (ls : Array Slot), i < n_27 → (k ≤ i) → (i ≤ L.length) → (∀ j, j ≤ i → g j = f j) → (∀ j, i < j → j ≤ L.length → g j = f (j - 1)) → rR G A s.heap H locs ([(t, .inr (5, [.ref r, .int (nI L.length)])), (r, .inl (cE, 120, rfs g))] ++ pl) → lv_has ls 4 [(3, .int (nI i)), (0, .ref t), (1, .int (nI k)), (2, .ref a)] → W p l e ({ frames := 0, cells := 0, slots := 0, locals := 0 } : Room) s m args below meth c H locs 0 0 Q (F0 m 27 ls []) := by
          intro n_27
          induction n_27 with
          | zero => intro i g H locs ls h0; exact absurd h0 (Nat.not_lt_zero _)
          | succ n_27 ih_27 =>
            intro i g H locs ls hm_27 hi hi2 hg1 hg2 hR hl
            refine lv_iload_n hx hb dX6_insert_27 rfl (lv_at hl 0 rfl) ?_
            refine lv_iload_n hx hb dX6_insert_28 rfl (lv_at hl 2 rfl) ?_
            refine nn_le hx hb dX6_insert_29 (tgt := 52) (by decide) (by omega) (by omega) (fun c_5 => ?_) (fun c_5 => ?_)
            · refine lv_aload_n hx hb dX6_insert_52 rfl (lv_at hl 1 rfl) ?_
              refine xg (ci := 5) (C := RX6) (T := TX6) (N := 2) (v := .ref r) hx hb hts inX6 hown hK hR.1 (List.mem_of_getElem? (i := 0) rfl) rfl 0 (by decide) k_13 (fun _ h => h) rfl dX6_insert_53 ?_
              refine lv_iload_n hx hb dX6_insert_56 rfl (lv_at hl 2 rfl) ?_
              refine lv_aload_n hx hb dX6_insert_57 rfl (lv_at hl 3 rfl) ?_
              refine xc_ast (ci := 1) (t0 := 2) hx hb hK hT2 rfl hR 1 rfl (List.mem_append_right _ hme_1) (by omega) (by decide) dX6_insert_58 (fun H locs hR => ?_)
              have hR : rR G A s.heap _ _ ([(t, .inr (5, [.ref r, .int (nI L.length)])), (r, .inl (cE, 120, rfs (va_up g k (some a))))] ++ pl) := hR
              refine lv_aload_n hx hb dX6_insert_59 rfl (lv_at hl 1 rfl) ?_
              refine lv_dup hx hb dX6_insert_60 rfl ?_
              refine xg (ci := 5) (C := RX6) (T := TX6) (N := 2) (v := .int (nI L.length)) hx hb hts inX6 hown hK hR.1 (List.mem_of_getElem? (i := 0) rfl) rfl 1 (by decide) k_17 (fun _ h => h) rfl dX6_insert_61 ?_
              refine lv_iconst (v := nI 1) hx hb dX6_insert_64 rfl ?_
              refine nn_add hx hb dX6_insert_65 ?_
              refine va_put (D := G) (ci := 5) (v := .int (nI (L.length + 1))) (ty := .int) (C := RX6) (T := TX6) (N := 2) hx hb hts inX6 tyX6 tyX6_ok nmX6 hown hK hR.1 hR.2.1 hR.2.2 0 rfl rfl 1 (by decide) k_17 (fun _ h => h) rfl (by decide +kernel) rfl rfl (Nat.le_of_ble_eq_true rfl) dX6_insert_66 (fun H locs hP hD hS => ?_)
              have hR : rR G A s.heap _ _ ([(t, .inr (5, [.ref r, .int (nI (L.length + 1))])), (r, .inl (cE, 120, rfs (va_up g k (some a))))] ++ pl) := ⟨hP, hD, hS⟩
              rw [hQ]
              exact xc_vret (X1 := [(t, .inr (5, [.ref r, .int (nI (L.length + 1))])), (r, .inl (cE, 120, rfs (va_up g k (some a))))]) (nw := []) hx hb hr hlocks (by rw [List.append_nil]; exact hR) ⟨rfl, rfl, _, rfl, fun j hj => by unfold insF; by_cases e1 : j < k; (rw [if_pos e1, va_up_ne _ _ (by omega)]; exact hg1 j (by omega)); (rw [if_neg e1]; by_cases e2 : j = k; (rw [if_pos e2, e2, va_up_self]); (rw [if_neg e2, va_up_ne _ _ e2]; exact hg2 j (by omega) (by omega)))⟩ dX6_insert_69
            · refine lv_aload_n hx hb dX6_insert_32 rfl (lv_at hl 1 rfl) ?_
              refine xg (ci := 5) (C := RX6) (T := TX6) (N := 2) (v := .ref r) hx hb hts inX6 hown hK hR.1 (List.mem_of_getElem? (i := 0) rfl) rfl 0 (by decide) k_13 (fun _ h => h) rfl dX6_insert_33 ?_
              refine lv_iload_n hx hb dX6_insert_36 rfl (lv_at hl 0 rfl) ?_
              refine lv_aload_n hx hb dX6_insert_37 rfl (lv_at hl 1 rfl) ?_
              refine xg (ci := 5) (C := RX6) (T := TX6) (N := 2) (v := .ref r) hx hb hts inX6 hown hK hR.1 (List.mem_of_getElem? (i := 0) rfl) rfl 0 (by decide) k_13 (fun _ h => h) rfl dX6_insert_38 ?_
              refine lv_iload_n hx hb dX6_insert_41 rfl (lv_at hl 0 rfl) ?_
              refine lv_iconst (v := nI 1) hx hb dX6_insert_42 rfl ?_
              refine nn_sub hx hb (by omega) dX6_insert_43 ?_
              refine xq_ld (t0 := 2) hx hb hK hT2 hR.1 (List.mem_of_getElem? (i := 1) rfl) (by omega) (by decide) dX6_insert_44 ?_
              obtain ⟨a_6, ha_6, ga_6⟩ := hrw.2.1 (i - 1) (by omega)
              obtain ⟨paa_6, caa_6, hma_6, hpaa_6, hcaa_6⟩ := id ga_6
              refine nn_eqv (y := .ref a_6) (by rw [hg1 (i - 1) (by omega), ha_6]; rfl) ?_
              refine xc_ast (ci := 1) (t0 := 2) hx hb hK hT2 rfl hR 1 rfl (List.mem_append_right _ hma_6) (by omega) (by decide) dX6_insert_45 (fun H locs hR => ?_)
              have hR : rR G A s.heap _ _ ([(t, .inr (5, [.ref r, .int (nI L.length)])), (r, .inl (cE, 120, rfs (va_up g i (some a_6))))] ++ pl) := hR
              refine lv_iinc (v := nI (i - 1)) (lv' := [(3, .int (nI (i - 1))), (0, .ref t), (1, .int (nI k)), (2, .ref a)]) hx hb dX6_insert_46 hl (k := 0) rfl (sb_m1 (by omega)) (by decide) rfl (fun ls hl => ?_)
              refine lv_goto (tgt := 27) hx hb dX6_insert_49 (by decide) ?_
              exact ih_27 (i - 1) (va_up g i (some a_6)) _ _ _ (by omega) (by omega) (by omega) (fun j hj => by rw [va_up_ne _ _ (by omega)]; exact hg1 j (by omega)) (fun j h1 h2 => by by_cases h9 : j = i; (subst h9; rw [va_up_self, ha_6]); (rw [va_up_ne _ _ h9]; exact hg2 j (by omega) h2)) hR (lv_sub hl [0, 1, 2, 3] rfl)
        exact lp_27 ((L.length) + 1) L.length f _ _ _ (Nat.lt_succ_self _) (by omega) (Nat.le_refl _) (fun _ _ => rfl) (fun j h1 h2 => absurd h2 (by omega)) hR (lv_sub hl [0, 1, 2, 3] rfl)
      · exact absurd c_4 (by omega)
set_option maxHeartbeats 4000000 in
set_option maxRecDepth 100000 in
theorem c_drop (l : Launch) {G : va_G} {tys : List (ClassId × FieldType)} {cB cI cE cS : ClassId} (hT : tys = [(cB, .byte), (cI, .int), (cE, .object RX1), (cS, .object RX4)]) {pl : va_W} {sz : Nat} {t r : Nat} {f : Nat → Option Nat} {L : List En} (hrw : tRows pl cB f L) (k n : Nat) (hk : k + n ≤ L.length) (hn0 : 0 < n) : cMet l yX6_drop wsX6_drop ({ frames := 0, cells := 0, slots := 0, locals := 0 } : Room) G tys [.ref t, .int (nI k), .int (nI n)] [(t, .inr (5, [.ref r, .int (nI L.length)])), (r, .inl (cE, 120, rfs f))] pl sz 0 0 (fun o9 X1 nw => o9 = none ∧ nw = [] ∧ ∃ g : Nat → Option Nat, X1 = [(t, .inr (5, [.ref r, .int (nI (L.length - n))])), (r, .inl (cE, 120, rfs g))] ∧ (∀ j, j < k → g j = f j) ∧ ∀ j, k ≤ j → j + n < L.length → g j = f (j + n)) := by
  have hT0 : tys[0]? = some (cB, .byte) := by rw [hT]; rfl
  have hT1 : tys[1]? = some (cI, .int) := by rw [hT]; rfl
  have hT2 : tys[2]? = some (cE, .object RX1) := by rw [hT]; rfl
  have hT3 : tys[3]? = some (cS, .object RX4) := by rw [hT]; rfl
  refine Met.ofW (cc := cX6_drop) (maxL := 4) (ret := none) (by decide) rfl ?_
  intro p e s m args below meth c s₁ B hml hv
  obtain ⟨hargs, hsz, hP, hK, hD0, hZ⟩ := hv
  have hx := B.exec
  have hb := B.bytes
  have hr := B.returns
  have hts := atoms_spec (ws := wsX6_drop) B.pre
  have hown : s.vm.findClass RX6 = some m.cls := findClass_of_methodNamed B.named
  have hlocks := B.notSynchronized
  subst hsz
  have hD := hD0.self (sz := s.heap.size)
  obtain ⟨A, hAe⟩ : ∃ A : Nat → Prop, A = va_A ([(t, .inr (5, [.ref r, .int (nI L.length)])), (r, .inl (cE, 120, rfs f))] ++ pl) s.heap.size := ⟨_, rfl⟩
  rw [← hAe] at hD
  have hA : ∀ q : Nat, s.heap.size ≤ q → A q := fun q h => by rw [hAe]; exact Or.inr h
  have inX6 : ∀ w ∈ wsX60, w ∈ wsX6_drop := by decide +kernel
  have k_13 := hts (.fieldLink RX6 13 "MirrorKeep$Tree" "rows" "[LMirrorKeep$Entry;") (by decide +kernel)
  have k_17 := hts (.fieldLink RX6 17 "MirrorKeep$Tree" "count" "I") (by decide +kernel)
  have hR : rR G A s.heap s.heap [] ([(t, .inr (5, [.ref r, .int (nI L.length)])), (r, .inl (cE, 120, rfs f))] ++ pl) := ⟨hP, hD, va_S.rf⟩
  obtain ⟨Q, hQ⟩ : ∃ Q : State → Prop, Q = MQ below (cQ G A pl (fun o9 X1 nw => o9 = none ∧ nw = [] ∧ ∃ g : Nat → Option Nat, X1 = [(t, .inr (5, [.ref r, .int (nI (L.length - n))])), (r, .inl (cE, 120, rfs g))] ∧ (∀ j, j < k → g j = f j) ∧ ∀ j, k ≤ j → j + n < L.length → g j = f (j + n))) args s 0 0 A := ⟨_, rfl⟩
  change W p l e ({ frames := 0, cells := 0, slots := 0, locals := 0 } : Room) s m args below meth c s.heap [] 0 0 (MQ below (cQ G (va_A ([(t, .inr (5, [.ref r, .int (nI L.length)])), (r, .inl (cE, 120, rfs f))] ++ pl) s.heap.size) pl (fun o9 X1 nw => o9 = none ∧ nw = [] ∧ ∃ g : Nat → Option Nat, X1 = [(t, .inr (5, [.ref r, .int (nI (L.length - n))])), (r, .inl (cE, 120, rfs g))] ∧ (∀ j, j < k → g j = f j) ∧ ∀ j, k ≤ j → j + n < L.length → g j = f (j + n))) args s 0 0 (va_A ([(t, .inr (5, [.ref r, .int (nI L.length)])), (r, .inl (cE, 120, rfs f))] ++ pl) s.heap.size)) (entryFrame m args 4)
  rw [← hAe]
  rw [← hQ]
  refine nn_entry hargs (Nat.le_of_ble_eq_true rfl) (lv := [(0, .ref t), (1, .int (nI k)), (2, .int (nI n))]) rfl (fun ls hl => ?_)
  have hl120 := hrw.1
  refine lv_iload_n hx hb dX6_drop_0 rfl (lv_at hl 1 rfl) ?_
  refine nz_lt hx hb dX6_drop_1 (tgt := 18) (by decide) (by omega) (fun c_1 => ?_) (fun c_1 => ?_)
  · exact absurd c_1 (Nat.not_lt_zero _)
  · refine lv_iload_n hx hb dX6_drop_4 rfl (lv_at hl 2 rfl) ?_
    refine nz_lt hx hb dX6_drop_5 (tgt := 18) (by decide) (by omega) (fun c_2 => ?_) (fun c_2 => ?_)
    · exact absurd c_2 (Nat.not_lt_zero _)
    · refine lv_iload_n hx hb dX6_drop_8 rfl (lv_at hl 2 rfl) ?_
      refine lv_aload_n hx hb dX6_drop_9 rfl (lv_at hl 0 rfl) ?_
      refine xg (ci := 5) (C := RX6) (T := TX6) (N := 2) (v := .int (nI L.length)) hx hb hts inX6 hown hK hR.1 (List.mem_of_getElem? (i := 0) rfl) rfl 1 (by decide) k_17 (fun _ h => h) rfl dX6_drop_10 ?_
      refine lv_iload_n hx hb dX6_drop_13 rfl (lv_at hl 1 rfl) ?_
      refine nn_sub hx hb (by omega) dX6_drop_14 ?_
      refine nn_le hx hb dX6_drop_15 (tgt := 19) (by decide) (by omega) (by omega) (fun c_3 => ?_) (fun c_3 => ?_)
      · refine lv_iload_n hx hb dX6_drop_19 rfl (lv_at hl 1 rfl) ?_
        refine lv_iload_n hx hb dX6_drop_20 rfl (lv_at hl 2 rfl) ?_
        refine nn_add hx hb dX6_drop_21 ?_
        refine lv_istore_n (lv' := [(3, .int (nI (k + n))), (0, .ref t), (1, .int (nI k)), (2, .int (nI n))]) hx hb dX6_drop_22 rfl hl (by decide) rfl (fun ls hl => ?_)
        have lp_23 : ∀ (n_23 : Nat) (i : Nat) (g : Nat → Option Nat) (H : Heap) (locs : List Loc) (ls : Array Slot), (L.length - i) < n_23 → (k + n ≤ i) → (i ≤ L.length) → (∀ j, j < k → g j = f j) → (∀ j, k ≤ j → j + n < i → g j = f (j + n)) → (∀ j, i - n ≤ j → g j = f j) → rR G A s.heap H locs ([(t, .inr (5, [.ref r, .int (nI L.length)])), (r, .inl (cE, 120, rfs g))] ++ pl) → lv_has ls 4 [(3, .int (nI i)), (0, .ref t), (1, .int (nI k)), (2, .int (nI n))] → W p l e ({ frames := 0, cells := 0, slots := 0, locals := 0 } : Room) s m args below meth c H locs 0 0 Q (F0 m 23 ls []) := by
          intro n_23
          induction n_23 with
          | zero => intro i g H locs ls h0; exact absurd h0 (Nat.not_lt_zero _)
          | succ n_23 ih_23 =>
            intro i g H locs ls hm_23 hi hi2 hg1 hg2 hg3 hR hl
            refine lv_iload_n hx hb dX6_drop_23 rfl (lv_at hl 0 rfl) ?_
            refine lv_aload_n hx hb dX6_drop_24 rfl (lv_at hl 1 rfl) ?_
            refine xg (ci := 5) (C := RX6) (T := TX6) (N := 2) (v := .int (nI L.length)) hx hb hts inX6 hown hK hR.1 (List.mem_of_getElem? (i := 0) rfl) rfl 1 (by decide) k_17 (fun _ h => h) rfl dX6_drop_25 ?_
            refine nn_ge hx hb dX6_drop_28 (tgt := 51) (by decide) (by omega) (by omega) (fun c_4 => ?_) (fun c_4 => ?_)
            · refine lv_aload_n hx hb dX6_drop_51 rfl (lv_at hl 1 rfl) ?_
              refine lv_dup hx hb dX6_drop_52 rfl ?_
              refine xg (ci := 5) (C := RX6) (T := TX6) (N := 2) (v := .int (nI L.length)) hx hb hts inX6 hown hK hR.1 (List.mem_of_getElem? (i := 0) rfl) rfl 1 (by decide) k_17 (fun _ h => h) rfl dX6_drop_53 ?_
              refine lv_iload_n hx hb dX6_drop_56 rfl (lv_at hl 3 rfl) ?_
              refine nn_sub hx hb (by omega) dX6_drop_57 ?_
              refine va_put (D := G) (ci := 5) (v := .int (nI (L.length - n))) (ty := .int) (C := RX6) (T := TX6) (N := 2) hx hb hts inX6 tyX6 tyX6_ok nmX6 hown hK hR.1 hR.2.1 hR.2.2 0 rfl rfl 1 (by decide) k_17 (fun _ h => h) rfl (by decide +kernel) rfl rfl (Nat.le_of_ble_eq_true rfl) dX6_drop_58 (fun H locs hP hD hS => ?_)
              have hR : rR G A s.heap _ _ ([(t, .inr (5, [.ref r, .int (nI (L.length - n))])), (r, .inl (cE, 120, rfs g))] ++ pl) := ⟨hP, hD, hS⟩
              rw [hQ]
              exact xc_vret (X1 := [(t, .inr (5, [.ref r, .int (nI (L.length - n))])), (r, .inl (cE, 120, rfs g))]) (nw := []) hx hb hr hlocks (by rw [List.append_nil]; exact hR) ⟨rfl, rfl, g, rfl, hg1, fun j h1 h2 => hg2 j h1 (by omega)⟩ dX6_drop_61
            · refine lv_aload_n hx hb dX6_drop_31 rfl (lv_at hl 1 rfl) ?_
              refine xg (ci := 5) (C := RX6) (T := TX6) (N := 2) (v := .ref r) hx hb hts inX6 hown hK hR.1 (List.mem_of_getElem? (i := 0) rfl) rfl 0 (by decide) k_13 (fun _ h => h) rfl dX6_drop_32 ?_
              refine lv_iload_n hx hb dX6_drop_35 rfl (lv_at hl 0 rfl) ?_
              refine lv_iload_n hx hb dX6_drop_36 rfl (lv_at hl 3 rfl) ?_
              refine nn_sub hx hb (by omega) dX6_drop_37 ?_
              refine lv_aload_n hx hb dX6_drop_38 rfl (lv_at hl 1 rfl) ?_
              refine xg (ci := 5) (C := RX6) (T := TX6) (N := 2) (v := .ref r) hx hb hts inX6 hown hK hR.1 (List.mem_of_getElem? (i := 0) rfl) rfl 0 (by decide) k_13 (fun _ h => h) rfl dX6_drop_39 ?_
              refine lv_iload_n hx hb dX6_drop_42 rfl (lv_at hl 0 rfl) ?_
              refine xq_ld (t0 := 2) hx hb hK hT2 hR.1 (List.mem_of_getElem? (i := 1) rfl) (by omega) (by decide) dX6_drop_43 ?_
              obtain ⟨a_5, ha_5, ga_5⟩ := hrw.2.1 i (by omega)
              obtain ⟨paa_5, caa_5, hma_5, hpaa_5, hcaa_5⟩ := id ga_5
              refine nn_eqv (y := .ref a_5) (by rw [hg3 i (by omega), ha_5]; rfl) ?_
              refine xc_ast (ci := 1) (t0 := 2) hx hb hK hT2 rfl hR 1 rfl (List.mem_append_right _ hma_5) (by omega) (by decide) dX6_drop_44 (fun H locs hR => ?_)
              have hR : rR G A s.heap _ _ ([(t, .inr (5, [.ref r, .int (nI L.length)])), (r, .inl (cE, 120, rfs (va_up g (i - n) (some a_5))))] ++ pl) := hR
              refine lv_iinc (v := nI (i + 1)) (lv' := [(3, .int (nI (i + 1))), (0, .ref t), (1, .int (nI k)), (2, .int (nI n))]) hx hb dX6_drop_45 hl (k := 0) rfl (nI_add i 1) (by decide) rfl (fun ls hl => ?_)
              refine lv_goto (tgt := 23) hx hb dX6_drop_48 (by decide) ?_
              exact ih_23 (i + 1) (va_up g (i - n) (some a_5)) _ _ _ (by omega) (by omega) (by omega) (fun j hj => by rw [va_up_ne _ _ (by omega)]; exact hg1 j hj) (fun j h1 h2 => by by_cases h9 : j = i - n; (subst h9; rw [va_up_self, show i - n + n = i by omega, ha_5]); (rw [va_up_ne _ _ h9]; exact hg2 j h1 (by omega))) (fun j h1 => by rw [va_up_ne _ _ (by omega)]; exact hg3 j (by omega)) hR (lv_sub hl [0, 1, 2, 3] rfl)
        exact lp_23 (((L.length - (k + n))) + 1) (k + n) f _ _ _ (Nat.lt_succ_self _) (Nat.le_refl _) (by omega) (fun _ _ => rfl) (fun j h1 h2 => absurd h2 (by omega)) (fun _ _ => rfl) hR (lv_sub hl [0, 1, 2, 3] rfl)
      · exact absurd c_3 (by omega)
set_option maxHeartbeats 4000000 in
set_option maxRecDepth 100000 in
theorem c_put (l : Launch) {G : va_G} {tys : List (ClassId × FieldType)} {cB cI cE cS : ClassId} (hT : tys = [(cB, .byte), (cI, .int), (cE, .object RX1), (cS, .object RX4)]) {pl : va_W} {sz : Nat} {t r : Nat} {f : Nat → Option Nat} {L : List En} (hrw : tRows pl cB f L) {a : Nat} {u : En} (he : pEnt pl cB a u) (hs : srt L) (hul : u.1.length ≤ 150) (hfull : ¬ (insI u.1 L < L.length ∧ (L.getD (insI u.1 L) e0).1 = u.1) → L.length < 120) (hcs : csum L + (ct u).length ≤ 8000) : cMet l yX6_put wsX6_put ({ frames := 2, cells := 0, slots := 0, locals := 48 } : Room) G tys [.ref t, .ref a] [(t, .inr (5, [.ref r, .int (nI L.length)])), (r, .inl (cE, 120, rfs f))] pl sz 0 0 (fun o9 X1 nw => o9 = none ∧ nw = [] ∧ ∃ g : Nat → Option Nat, X1 = [(t, .inr (5, [.ref r, .int (nI ((putL L u).length))])), (r, .inl (cE, 120, rfs g))] ∧ tRows pl cB g (putL L u)) := by
  have hT0 : tys[0]? = some (cB, .byte) := by rw [hT]; rfl
  have hT1 : tys[1]? = some (cI, .int) := by rw [hT]; rfl
  have hT2 : tys[2]? = some (cE, .object RX1) := by rw [hT]; rfl
  have hT3 : tys[3]? = some (cS, .object RX4) := by rw [hT]; rfl
  refine Met.ofW (cc := cX6_put) (maxL := 3) (ret := none) (by decide) rfl ?_
  intro p e s m args below meth c s₁ B hml hv
  obtain ⟨hargs, hsz, hP, hK, hD0, hZ⟩ := hv
  have hx := B.exec
  have hb := B.bytes
  have hr := B.returns
  have hts := atoms_spec (ws := wsX6_put) B.pre
  have hown : s.vm.findClass RX6 = some m.cls := findClass_of_methodNamed B.named
  have hlocks := B.notSynchronized
  subst hsz
  have hD := hD0.self (sz := s.heap.size)
  obtain ⟨A, hAe⟩ : ∃ A : Nat → Prop, A = va_A ([(t, .inr (5, [.ref r, .int (nI L.length)])), (r, .inl (cE, 120, rfs f))] ++ pl) s.heap.size := ⟨_, rfl⟩
  rw [← hAe] at hD
  have hA : ∀ q : Nat, s.heap.size ≤ q → A q := fun q h => by rw [hAe]; exact Or.inr h
  have inX1 : ∀ w ∈ wsX10, w ∈ wsX6_put := by decide +kernel
  have k_33 := hts (.fieldLink RX6 33 "MirrorKeep$Entry" "path" "[B") (by decide +kernel)
  have hR : rR G A s.heap s.heap [] ([(t, .inr (5, [.ref r, .int (nI L.length)])), (r, .inl (cE, 120, rfs f))] ++ pl) := ⟨hP, hD, va_S.rf⟩
  obtain ⟨Q, hQ⟩ : ∃ Q : State → Prop, Q = MQ below (cQ G A pl (fun o9 X1 nw => o9 = none ∧ nw = [] ∧ ∃ g : Nat → Option Nat, X1 = [(t, .inr (5, [.ref r, .int (nI ((putL L u).length))])), (r, .inl (cE, 120, rfs g))] ∧ tRows pl cB g (putL L u))) args s 0 0 A := ⟨_, rfl⟩
  change W p l e ({ frames := 2, cells := 0, slots := 0, locals := 48 } : Room) s m args below meth c s.heap [] 0 0 (MQ below (cQ G (va_A ([(t, .inr (5, [.ref r, .int (nI L.length)])), (r, .inl (cE, 120, rfs f))] ++ pl) s.heap.size) pl (fun o9 X1 nw => o9 = none ∧ nw = [] ∧ ∃ g : Nat → Option Nat, X1 = [(t, .inr (5, [.ref r, .int (nI ((putL L u).length))])), (r, .inl (cE, 120, rfs g))] ∧ tRows pl cB g (putL L u))) args s 0 0 (va_A ([(t, .inr (5, [.ref r, .int (nI L.length)])), (r, .inl (cE, 120, rfs f))] ++ pl) s.heap.size)) (entryFrame m args 3)
  rw [← hAe]
  rw [← hQ]
  refine nn_entry hargs (Nat.le_of_ble_eq_true rfl) (lv := [(0, .ref t), (1, .ref a)]) rfl (fun ls hl => ?_)
  obtain ⟨pae_1, cae_1, hme_1, hpae_1, hcae_1⟩ := id he
  have hl120 := hrw.1
  refine lv_aload_n hx hb dX6_put_0 rfl (lv_at hl 0 rfl) ?_
  refine lv_aload_n hx hb dX6_put_1 rfl (lv_at hl 1 rfl) ?_
  refine xg (ci := 1) (C := RX1) (T := TX1) (N := 5) (v := .ref pae_1) hx hb hts inX1 hown hK hR.1 (List.mem_append_right _ hme_1) rfl 0 (by decide) k_33 (fun _ h => h) rfl dX6_put_2 ?_
  have htr : tRep ([(t, .inr (5, [.ref r, .int (nI L.length)])), (r, .inl (cE, 120, rfs f))] ++ pl) cB cE t r f L := ⟨(List.mem_of_getElem? (i := 0) rfl), (List.mem_of_getElem? (i := 1) rfl), (hrw.mono xpm)⟩
  refine pf_callV (C := RX6) (As := [.ref pae_1]) (rest := []) (p_placeOf l hT htr hs (hpae_1.mono xpm) (by omega)) ⟨hx, hb, hml, hown, hts⟩ (cwV 1 hts gX6_put_X6_placeOf rfl rfl rfl (by decide +kernel) ⟨Nat.le_of_ble_eq_true rfl, Nat.le_of_ble_eq_true rfl⟩) hK hR.1 (xrecv (ci := 5) hK hR.1 rfl (List.mem_of_getElem? (i := 0) rfl)) rfl hl.1 rfl (Nat.le_of_ble_eq_true rfl) dX6_put_5 ⟨Nat.le_of_ble_eq_true rfl, Nat.le_of_ble_eq_true rfl⟩ (fun r_2 hr_2 => ?_)
  subst hr_2
  have hil := insI_le u.1 L
  refine lv_istore_n (lv' := [(2, .int (nI (insI u.1 L))), (0, .ref t), (1, .ref a)]) hx hb dX6_put_8 rfl hl (by decide) rfl (fun ls hl => ?_)
  refine lv_aload_n hx hb dX6_put_9 rfl (lv_at hl 1 rfl) ?_
  refine lv_iload_n hx hb dX6_put_10 rfl (lv_at hl 0 rfl) ?_
  refine lv_aload_n hx hb dX6_put_11 rfl (lv_at hl 2 rfl) ?_
  refine xg (ci := 1) (C := RX1) (T := TX1) (N := 5) (v := .ref pae_1) hx hb hts inX1 hown hK hR.1 (List.mem_append_right _ hme_1) rfl 0 (by decide) k_33 (fun _ h => h) rfl dX6_put_12 ?_
  refine pf_callV (C := RX6) (As := [.int (nI (insI u.1 L)), .ref pae_1]) (rest := []) (p_isAt l hT htr (hpae_1.mono xpm) (by omega) (insI u.1 L) hil) ⟨hx, hb, hml, hown, hts⟩ (cwV 2 hts gX6_put_X6_isAt rfl rfl rfl (by decide +kernel) ⟨Nat.le_of_ble_eq_true rfl, Nat.le_of_ble_eq_true rfl⟩) hK hR.1 (xrecv (ci := 5) hK hR.1 rfl (List.mem_of_getElem? (i := 0) rfl)) rfl hl.1 rfl (Nat.le_of_ble_eq_true rfl) dX6_put_15 ⟨Nat.le_of_ble_eq_true rfl, Nat.le_of_ble_eq_true rfl⟩ (fun r_3 hr_3 => ?_)
  subst hr_3
  refine nb_ifeq hx hb dX6_put_18 (tgt := 30) (by decide) (fun c_4 => ?_) (fun c_4 => ?_)
  · have c_4 := of_decide_eq_false c_4
    have hnf : ¬ (insI u.1 L < L.length ∧ (L.getD (insI u.1 L) e0).1 = u.1) := by assumption
    have hfl := hfull hnf
    refine lv_aload_n hx hb dX6_put_30 rfl (lv_at hl 1 rfl) ?_
    refine lv_iload_n hx hb dX6_put_31 rfl (lv_at hl 0 rfl) ?_
    refine lv_aload_n hx hb dX6_put_32 rfl (lv_at hl 2 rfl) ?_
    refine xc_callV (C := RX6) (As := [.int (nI (insI u.1 L)), .ref a]) (rest := []) (cx := [(t, .inr (5, [.ref r, .int (nI L.length)])), (r, .inl (cE, 120, rfs f))]) (wr := []) (c_insert l hT hrw he (insI u.1 L) (insI_le _ _) (by omega)) ⟨hx, hb, hml, hown, hts⟩ (cwV 2 hts gX6_put_X6_insert rfl rfl rfl (by decide +kernel) ⟨Nat.le_of_ble_eq_true rfl, Nat.le_of_ble_eq_true rfl⟩) hK hZ hR hA (xrecv (ci := 5) hK hR.1 rfl (List.mem_of_getElem? (i := 0) rfl)) [0, 1] [] rfl rfl (by decide) (by decide) (by decide) rfl hl.1 rfl (Nat.le_of_ble_eq_true rfl) dX6_put_33 ⟨Nat.le_of_ble_eq_true rfl, Nat.le_of_ble_eq_true rfl⟩ (fun r_5 X_r_5 nw_r_5 H locs hr_5 hR => ?_)
    obtain ⟨rfl, rfl, g, rfl, hg⟩ := hr_5
    have hR : rR G A s.heap _ _ ([(t, .inr (5, [.ref r, .int (nI (L.length + 1))])), (r, .inl (cE, 120, rfs g))] ++ pl) := (xc_nil hR)
    rw [hQ]
    exact xc_vret (X1 := [(t, .inr (5, [.ref r, .int (nI (L.length + 1))])), (r, .inl (cE, 120, rfs g))]) (nw := []) hx hb hr hlocks (by rw [List.append_nil]; exact hR) ⟨rfl, rfl, g, by rw [putL, if_neg hnf, insL_len (insI_le _ _)], by rw [putL, if_neg hnf]; exact insF_rows hrw (insI_le _ _) hfl he hul hcs hg⟩ dX6_put_36
  · have c_4 := of_decide_eq_true c_4
    obtain ⟨hpi, hpe⟩ : insI u.1 L < L.length ∧ (L.getD (insI u.1 L) e0).1 = u.1 := by assumption
    refine lv_aload_n hx hb dX6_put_21 rfl (lv_at hl 1 rfl) ?_
    refine lv_iload_n hx hb dX6_put_22 rfl (lv_at hl 0 rfl) ?_
    refine lv_aload_n hx hb dX6_put_23 rfl (lv_at hl 2 rfl) ?_
    refine xc_callV (C := RX6) (As := [.int (nI (insI u.1 L)), .ref a]) (rest := []) (cx := [(t, .inr (5, [.ref r, .int (nI L.length)])), (r, .inl (cE, 120, rfs f))]) (wr := []) (c_replace l hT hrw he (insI u.1 L) (by omega)) ⟨hx, hb, hml, hown, hts⟩ (cwV 2 hts gX6_put_X6_replace rfl rfl rfl (by decide +kernel) ⟨Nat.le_of_ble_eq_true rfl, Nat.le_of_ble_eq_true rfl⟩) hK hZ hR hA (xrecv (ci := 5) hK hR.1 rfl (List.mem_of_getElem? (i := 0) rfl)) [0, 1] [] rfl rfl (by decide) (by decide) (by decide) rfl hl.1 rfl (Nat.le_of_ble_eq_true rfl) dX6_put_24 ⟨Nat.le_of_ble_eq_true rfl, Nat.le_of_ble_eq_true rfl⟩ (fun r_6 X_r_6 nw_r_6 H locs hr_6 hR => ?_)
    obtain ⟨rfl, rfl, rfl⟩ := hr_6
    have hR : rR G A s.heap _ _ ([(t, .inr (5, [.ref r, .int (nI L.length)])), (r, .inl (cE, 120, rfs (va_up f (insI u.1 L) (some a))))] ++ pl) := (xc_nil hR)
    refine lv_goto (tgt := 36) hx hb dX6_put_27 (by decide) ?_
    rw [hQ]
    exact xc_vret (X1 := [(t, .inr (5, [.ref r, .int (nI L.length)])), (r, .inl (cE, 120, rfs (va_up f (insI u.1 L) (some a))))]) (nw := []) hx hb hr hlocks (by rw [List.append_nil]; exact hR) ⟨rfl, rfl, _, by rw [putL, if_pos ⟨hpi, hpe⟩, List.length_set], by rw [putL, if_pos ⟨hpi, hpe⟩]; exact repF_rows hrw hpi he hul (set_le hpi hcs)⟩ dX6_put_36
set_option maxHeartbeats 4000000 in
set_option maxRecDepth 100000 in
theorem c_copyFromX (l : Launch) {G : va_G} {tys : List (ClassId × FieldType)} {cB cI cE cS : ClassId} (hT : tys = [(cB, .byte), (cI, .int), (cE, .object RX1), (cS, .object RX4)]) {pl : va_W} {sz : Nat} {t r n : Nat} {f : Nat → Option Nat} {t2 r2 : Nat} {f2 : Nat → Option Nat} {L2 : List En} (hrw2 : tRows pl cB f2 L2) : cMet l yX6_copyFrom wsX6_copyFrom ({ frames := 0, cells := 0, slots := 0, locals := 0 } : Room) G tys [.ref t, .ref t2] [(t, .inr (5, [.ref r, .int (nI n)])), (r, .inl (cE, 120, rfs f)), (t2, .inr (5, [.ref r2, .int (nI L2.length)])), (r2, .inl (cE, 120, rfs f2))] pl sz 0 0 (fun o9 X1 nw => o9 = none ∧ nw = [] ∧ ∃ g : Nat → Option Nat, X1 = [(t, .inr (5, [.ref r, .int (nI L2.length)])), (r, .inl (cE, 120, rfs g)), (t2, .inr (5, [.ref r2, .int (nI L2.length)])), (r2, .inl (cE, 120, rfs f2))] ∧ tRows pl cB g L2) := by
  have hT0 : tys[0]? = some (cB, .byte) := by rw [hT]; rfl
  have hT1 : tys[1]? = some (cI, .int) := by rw [hT]; rfl
  have hT2 : tys[2]? = some (cE, .object RX1) := by rw [hT]; rfl
  have hT3 : tys[3]? = some (cS, .object RX4) := by rw [hT]; rfl
  refine Met.ofW (cc := cX6_copyFrom) (maxL := 3) (ret := none) (by decide) rfl ?_
  intro p e s m args below meth c s₁ B hml hv
  obtain ⟨hargs, hsz, hP, hK, hD0, hZ⟩ := hv
  have hx := B.exec
  have hb := B.bytes
  have hr := B.returns
  have hts := atoms_spec (ws := wsX6_copyFrom) B.pre
  have hown : s.vm.findClass RX6 = some m.cls := findClass_of_methodNamed B.named
  have hlocks := B.notSynchronized
  subst hsz
  have hD := hD0.self (sz := s.heap.size)
  obtain ⟨A, hAe⟩ : ∃ A : Nat → Prop, A = va_A ([(t, .inr (5, [.ref r, .int (nI n)])), (r, .inl (cE, 120, rfs f)), (t2, .inr (5, [.ref r2, .int (nI L2.length)])), (r2, .inl (cE, 120, rfs f2))] ++ pl) s.heap.size := ⟨_, rfl⟩
  rw [← hAe] at hD
  have hA : ∀ q : Nat, s.heap.size ≤ q → A q := fun q h => by rw [hAe]; exact Or.inr h
  have inX6 : ∀ w ∈ wsX60, w ∈ wsX6_copyFrom := by decide +kernel
  have k_13 := hts (.fieldLink RX6 13 "MirrorKeep$Tree" "rows" "[LMirrorKeep$Entry;") (by decide +kernel)
  have k_17 := hts (.fieldLink RX6 17 "MirrorKeep$Tree" "count" "I") (by decide +kernel)
  have hR : rR G A s.heap s.heap [] ([(t, .inr (5, [.ref r, .int (nI n)])), (r, .inl (cE, 120, rfs f)), (t2, .inr (5, [.ref r2, .int (nI L2.length)])), (r2, .inl (cE, 120, rfs f2))] ++ pl) := ⟨hP, hD, va_S.rf⟩
  obtain ⟨Q, hQ⟩ : ∃ Q : State → Prop, Q = MQ below (cQ G A pl (fun o9 X1 nw => o9 = none ∧ nw = [] ∧ ∃ g : Nat → Option Nat, X1 = [(t, .inr (5, [.ref r, .int (nI L2.length)])), (r, .inl (cE, 120, rfs g)), (t2, .inr (5, [.ref r2, .int (nI L2.length)])), (r2, .inl (cE, 120, rfs f2))] ∧ tRows pl cB g L2)) args s 0 0 A := ⟨_, rfl⟩
  change W p l e ({ frames := 0, cells := 0, slots := 0, locals := 0 } : Room) s m args below meth c s.heap [] 0 0 (MQ below (cQ G (va_A ([(t, .inr (5, [.ref r, .int (nI n)])), (r, .inl (cE, 120, rfs f)), (t2, .inr (5, [.ref r2, .int (nI L2.length)])), (r2, .inl (cE, 120, rfs f2))] ++ pl) s.heap.size) pl (fun o9 X1 nw => o9 = none ∧ nw = [] ∧ ∃ g : Nat → Option Nat, X1 = [(t, .inr (5, [.ref r, .int (nI L2.length)])), (r, .inl (cE, 120, rfs g)), (t2, .inr (5, [.ref r2, .int (nI L2.length)])), (r2, .inl (cE, 120, rfs f2))] ∧ tRows pl cB g L2)) args s 0 0 (va_A ([(t, .inr (5, [.ref r, .int (nI n)])), (r, .inl (cE, 120, rfs f)), (t2, .inr (5, [.ref r2, .int (nI L2.length)])), (r2, .inl (cE, 120, rfs f2))] ++ pl) s.heap.size)) (entryFrame m args 3)
  rw [← hAe]
  rw [← hQ]
  refine nn_entry hargs (Nat.le_of_ble_eq_true rfl) (lv := [(0, .ref t), (1, .ref t2)]) rfl (fun ls hl => ?_)
  have hl120 := hrw2.1
  refine lv_iconst (v := nI 0) hx hb dX6_copyFrom_0 rfl ?_
  refine lv_istore_n (lv' := [(2, .int (nI 0)), (0, .ref t), (1, .ref t2)]) hx hb dX6_copyFrom_1 rfl hl (by decide) rfl (fun ls hl => ?_)
  have lp_2 : ∀ (n_2 : Nat) (i : Nat) (g : Nat → Option Nat) (H : Heap) (locs : List Loc) (ls : Array Slot), (L2.length - i) < n_2 → (i ≤ L2.length) → (∀ j, j < i → g j = f2 j) → rR G A s.heap H locs ([(t, .inr (5, [.ref r, .int (nI n)])), (r, .inl (cE, 120, rfs g)), (t2, .inr (5, [.ref r2, .int (nI L2.length)])), (r2, .inl (cE, 120, rfs f2))] ++ pl) → lv_has ls 3 [(2, .int (nI i)), (0, .ref t), (1, .ref t2)] → W p l e ({ frames := 0, cells := 0, slots := 0, locals := 0 } : Room) s m args below meth c H locs 0 0 Q (F0 m 2 ls []) := by
    intro n_2
    induction n_2 with
    | zero => intro i g H locs ls h0; exact absurd h0 (Nat.not_lt_zero _)
    | succ n_2 ih_2 =>
      intro i g H locs ls hm_2 hi hg hR hl
      refine lv_iload_n hx hb dX6_copyFrom_2 rfl (lv_at hl 0 rfl) ?_
      refine lv_aload_n hx hb dX6_copyFrom_3 rfl (lv_at hl 2 rfl) ?_
      refine xg (ci := 5) (C := RX6) (T := TX6) (N := 2) (v := .int (nI L2.length)) hx hb hts inX6 hown hK hR.1 (List.mem_of_getElem? (i := 2) rfl) rfl 1 (by decide) k_17 (fun _ h => h) rfl dX6_copyFrom_4 ?_
      refine nn_ge hx hb dX6_copyFrom_7 (tgt := 28) (by decide) (by omega) (by omega) (fun c_1 => ?_) (fun c_1 => ?_)
      · refine lv_aload_n hx hb dX6_copyFrom_28 rfl (lv_at hl 1 rfl) ?_
        refine lv_aload_n hx hb dX6_copyFrom_29 rfl (lv_at hl 2 rfl) ?_
        refine xg (ci := 5) (C := RX6) (T := TX6) (N := 2) (v := .int (nI L2.length)) hx hb hts inX6 hown hK hR.1 (List.mem_of_getElem? (i := 2) rfl) rfl 1 (by decide) k_17 (fun _ h => h) rfl dX6_copyFrom_30 ?_
        refine va_put (D := G) (ci := 5) (v := .int (nI L2.length)) (ty := .int) (C := RX6) (T := TX6) (N := 2) hx hb hts inX6 tyX6 tyX6_ok nmX6 hown hK hR.1 hR.2.1 hR.2.2 0 rfl rfl 1 (by decide) k_17 (fun _ h => h) rfl (by decide +kernel) rfl rfl (Nat.le_of_ble_eq_true rfl) dX6_copyFrom_33 (fun H locs hP hD hS => ?_)
        have hR : rR G A s.heap _ _ ([(t, .inr (5, [.ref r, .int (nI L2.length)])), (r, .inl (cE, 120, rfs g)), (t2, .inr (5, [.ref r2, .int (nI L2.length)])), (r2, .inl (cE, 120, rfs f2))] ++ pl) := ⟨hP, hD, hS⟩
        rw [hQ]
        exact xc_vret (X1 := [(t, .inr (5, [.ref r, .int (nI L2.length)])), (r, .inl (cE, 120, rfs g)), (t2, .inr (5, [.ref r2, .int (nI L2.length)])), (r2, .inl (cE, 120, rfs f2))]) (nw := []) hx hb hr hlocks (by rw [List.append_nil]; exact hR) ⟨rfl, rfl, g, rfl, rows_eq hrw2 (fun j hj => hg j (by omega))⟩ dX6_copyFrom_36
      · refine lv_aload_n hx hb dX6_copyFrom_10 rfl (lv_at hl 1 rfl) ?_
        refine xg (ci := 5) (C := RX6) (T := TX6) (N := 2) (v := .ref r) hx hb hts inX6 hown hK hR.1 (List.mem_of_getElem? (i := 0) rfl) rfl 0 (by decide) k_13 (fun _ h => h) rfl dX6_copyFrom_11 ?_
        refine lv_iload_n hx hb dX6_copyFrom_14 rfl (lv_at hl 0 rfl) ?_
        refine lv_aload_n hx hb dX6_copyFrom_15 rfl (lv_at hl 2 rfl) ?_
        refine xg (ci := 5) (C := RX6) (T := TX6) (N := 2) (v := .ref r2) hx hb hts inX6 hown hK hR.1 (List.mem_of_getElem? (i := 2) rfl) rfl 0 (by decide) k_13 (fun _ h => h) rfl dX6_copyFrom_16 ?_
        refine lv_iload_n hx hb dX6_copyFrom_19 rfl (lv_at hl 0 rfl) ?_
        refine xq_ld (t0 := 2) hx hb hK hT2 hR.1 (List.mem_of_getElem? (i := 3) rfl) (by omega) (by decide) dX6_copyFrom_20 ?_
        obtain ⟨a_2, ha_2, ga_2⟩ := hrw2.2.1 i (by omega)
        obtain ⟨paa_2, caa_2, hma_2, hpaa_2, hcaa_2⟩ := id ga_2
        refine nn_eqv (y := .ref a_2) (by rw [ha_2]; rfl) ?_
        refine xc_ast (ci := 1) (t0 := 2) hx hb hK hT2 rfl hR 1 rfl (List.mem_append_right _ hma_2) (by omega) (by decide) dX6_copyFrom_21 (fun H locs hR => ?_)
        have hR : rR G A s.heap _ _ ([(t, .inr (5, [.ref r, .int (nI n)])), (r, .inl (cE, 120, rfs (va_up g i (some a_2)))), (t2, .inr (5, [.ref r2, .int (nI L2.length)])), (r2, .inl (cE, 120, rfs f2))] ++ pl) := hR
        refine lv_iinc (v := nI (i + 1)) (lv' := [(2, .int (nI (i + 1))), (0, .ref t), (1, .ref t2)]) hx hb dX6_copyFrom_22 hl (k := 0) rfl (nI_add i 1) (by decide) rfl (fun ls hl => ?_)
        refine lv_goto (tgt := 2) hx hb dX6_copyFrom_25 (by decide) ?_
        exact ih_2 (i + 1) (va_up g i (some a_2)) _ _ _ (by omega) (by omega) (fun j hj => by by_cases h9 : j = i; (subst h9; rw [va_up_self, ha_2]); (rw [va_up_ne _ _ h9]; exact hg j (by omega))) hR (lv_sub hl [0, 1, 2] rfl)
  exact lp_2 (((L2.length - 0)) + 1) 0 f _ _ _ (Nat.lt_succ_self _) (Nat.zero_le _) (fun j h => absurd h (Nat.not_lt_zero _)) hR (lv_sub hl [0, 1, 2] rfl)
set_option maxHeartbeats 4000000 in
set_option maxRecDepth 100000 in
theorem c_copyFromP (l : Launch) {G : va_G} {tys : List (ClassId × FieldType)} {cB cI cE cS : ClassId} (hT : tys = [(cB, .byte), (cI, .int), (cE, .object RX1), (cS, .object RX4)]) {pl : va_W} {sz : Nat} {t r n : Nat} {f : Nat → Option Nat} {t2 r2 : Nat} {f2 : Nat → Option Nat} {L2 : List En} (hrw2 : tRows pl cB f2 L2) (hq1 : (t2, .inr (5, [.ref r2, .int (nI L2.length)])) ∈ pl) (hq2 : (r2, .inl (cE, 120, rfs f2)) ∈ pl) : cMet l yX6_copyFrom wsX6_copyFrom ({ frames := 0, cells := 0, slots := 0, locals := 0 } : Room) G tys [.ref t, .ref t2] [(t, .inr (5, [.ref r, .int (nI n)])), (r, .inl (cE, 120, rfs f))] pl sz 0 0 (fun o9 X1 nw => o9 = none ∧ nw = [] ∧ ∃ g : Nat → Option Nat, X1 = [(t, .inr (5, [.ref r, .int (nI L2.length)])), (r, .inl (cE, 120, rfs g))] ∧ tRows pl cB g L2) := by
  have hT0 : tys[0]? = some (cB, .byte) := by rw [hT]; rfl
  have hT1 : tys[1]? = some (cI, .int) := by rw [hT]; rfl
  have hT2 : tys[2]? = some (cE, .object RX1) := by rw [hT]; rfl
  have hT3 : tys[3]? = some (cS, .object RX4) := by rw [hT]; rfl
  refine Met.ofW (cc := cX6_copyFrom) (maxL := 3) (ret := none) (by decide) rfl ?_
  intro p e s m args below meth c s₁ B hml hv
  obtain ⟨hargs, hsz, hP, hK, hD0, hZ⟩ := hv
  have hx := B.exec
  have hb := B.bytes
  have hr := B.returns
  have hts := atoms_spec (ws := wsX6_copyFrom) B.pre
  have hown : s.vm.findClass RX6 = some m.cls := findClass_of_methodNamed B.named
  have hlocks := B.notSynchronized
  subst hsz
  have hD := hD0.self (sz := s.heap.size)
  obtain ⟨A, hAe⟩ : ∃ A : Nat → Prop, A = va_A ([(t, .inr (5, [.ref r, .int (nI n)])), (r, .inl (cE, 120, rfs f))] ++ pl) s.heap.size := ⟨_, rfl⟩
  rw [← hAe] at hD
  have hA : ∀ q : Nat, s.heap.size ≤ q → A q := fun q h => by rw [hAe]; exact Or.inr h
  have inX6 : ∀ w ∈ wsX60, w ∈ wsX6_copyFrom := by decide +kernel
  have k_13 := hts (.fieldLink RX6 13 "MirrorKeep$Tree" "rows" "[LMirrorKeep$Entry;") (by decide +kernel)
  have k_17 := hts (.fieldLink RX6 17 "MirrorKeep$Tree" "count" "I") (by decide +kernel)
  have hR : rR G A s.heap s.heap [] ([(t, .inr (5, [.ref r, .int (nI n)])), (r, .inl (cE, 120, rfs f))] ++ pl) := ⟨hP, hD, va_S.rf⟩
  obtain ⟨Q, hQ⟩ : ∃ Q : State → Prop, Q = MQ below (cQ G A pl (fun o9 X1 nw => o9 = none ∧ nw = [] ∧ ∃ g : Nat → Option Nat, X1 = [(t, .inr (5, [.ref r, .int (nI L2.length)])), (r, .inl (cE, 120, rfs g))] ∧ tRows pl cB g L2)) args s 0 0 A := ⟨_, rfl⟩
  change W p l e ({ frames := 0, cells := 0, slots := 0, locals := 0 } : Room) s m args below meth c s.heap [] 0 0 (MQ below (cQ G (va_A ([(t, .inr (5, [.ref r, .int (nI n)])), (r, .inl (cE, 120, rfs f))] ++ pl) s.heap.size) pl (fun o9 X1 nw => o9 = none ∧ nw = [] ∧ ∃ g : Nat → Option Nat, X1 = [(t, .inr (5, [.ref r, .int (nI L2.length)])), (r, .inl (cE, 120, rfs g))] ∧ tRows pl cB g L2)) args s 0 0 (va_A ([(t, .inr (5, [.ref r, .int (nI n)])), (r, .inl (cE, 120, rfs f))] ++ pl) s.heap.size)) (entryFrame m args 3)
  rw [← hAe]
  rw [← hQ]
  refine nn_entry hargs (Nat.le_of_ble_eq_true rfl) (lv := [(0, .ref t), (1, .ref t2)]) rfl (fun ls hl => ?_)
  have hl120 := hrw2.1
  refine lv_iconst (v := nI 0) hx hb dX6_copyFrom_0 rfl ?_
  refine lv_istore_n (lv' := [(2, .int (nI 0)), (0, .ref t), (1, .ref t2)]) hx hb dX6_copyFrom_1 rfl hl (by decide) rfl (fun ls hl => ?_)
  have lp_2 : ∀ (n_2 : Nat) (i : Nat) (g : Nat → Option Nat) (H : Heap) (locs : List Loc) (ls : Array Slot), (L2.length - i) < n_2 → (i ≤ L2.length) → (∀ j, j < i → g j = f2 j) → rR G A s.heap H locs ([(t, .inr (5, [.ref r, .int (nI n)])), (r, .inl (cE, 120, rfs g))] ++ pl) → lv_has ls 3 [(2, .int (nI i)), (0, .ref t), (1, .ref t2)] → W p l e ({ frames := 0, cells := 0, slots := 0, locals := 0 } : Room) s m args below meth c H locs 0 0 Q (F0 m 2 ls []) := by
    intro n_2
    induction n_2 with
    | zero => intro i g H locs ls h0; exact absurd h0 (Nat.not_lt_zero _)
    | succ n_2 ih_2 =>
      intro i g H locs ls hm_2 hi hg hR hl
      refine lv_iload_n hx hb dX6_copyFrom_2 rfl (lv_at hl 0 rfl) ?_
      refine lv_aload_n hx hb dX6_copyFrom_3 rfl (lv_at hl 2 rfl) ?_
      refine xg (ci := 5) (C := RX6) (T := TX6) (N := 2) (v := .int (nI L2.length)) hx hb hts inX6 hown hK hR.1 (List.mem_append_right _ hq1) rfl 1 (by decide) k_17 (fun _ h => h) rfl dX6_copyFrom_4 ?_
      refine nn_ge hx hb dX6_copyFrom_7 (tgt := 28) (by decide) (by omega) (by omega) (fun c_1 => ?_) (fun c_1 => ?_)
      · refine lv_aload_n hx hb dX6_copyFrom_28 rfl (lv_at hl 1 rfl) ?_
        refine lv_aload_n hx hb dX6_copyFrom_29 rfl (lv_at hl 2 rfl) ?_
        refine xg (ci := 5) (C := RX6) (T := TX6) (N := 2) (v := .int (nI L2.length)) hx hb hts inX6 hown hK hR.1 (List.mem_append_right _ hq1) rfl 1 (by decide) k_17 (fun _ h => h) rfl dX6_copyFrom_30 ?_
        refine va_put (D := G) (ci := 5) (v := .int (nI L2.length)) (ty := .int) (C := RX6) (T := TX6) (N := 2) hx hb hts inX6 tyX6 tyX6_ok nmX6 hown hK hR.1 hR.2.1 hR.2.2 0 rfl rfl 1 (by decide) k_17 (fun _ h => h) rfl (by decide +kernel) rfl rfl (Nat.le_of_ble_eq_true rfl) dX6_copyFrom_33 (fun H locs hP hD hS => ?_)
        have hR : rR G A s.heap _ _ ([(t, .inr (5, [.ref r, .int (nI L2.length)])), (r, .inl (cE, 120, rfs g))] ++ pl) := ⟨hP, hD, hS⟩
        rw [hQ]
        exact xc_vret (X1 := [(t, .inr (5, [.ref r, .int (nI L2.length)])), (r, .inl (cE, 120, rfs g))]) (nw := []) hx hb hr hlocks (by rw [List.append_nil]; exact hR) ⟨rfl, rfl, g, rfl, rows_eq hrw2 (fun j hj => hg j (by omega))⟩ dX6_copyFrom_36
      · refine lv_aload_n hx hb dX6_copyFrom_10 rfl (lv_at hl 1 rfl) ?_
        refine xg (ci := 5) (C := RX6) (T := TX6) (N := 2) (v := .ref r) hx hb hts inX6 hown hK hR.1 (List.mem_of_getElem? (i := 0) rfl) rfl 0 (by decide) k_13 (fun _ h => h) rfl dX6_copyFrom_11 ?_
        refine lv_iload_n hx hb dX6_copyFrom_14 rfl (lv_at hl 0 rfl) ?_
        refine lv_aload_n hx hb dX6_copyFrom_15 rfl (lv_at hl 2 rfl) ?_
        refine xg (ci := 5) (C := RX6) (T := TX6) (N := 2) (v := .ref r2) hx hb hts inX6 hown hK hR.1 (List.mem_append_right _ hq1) rfl 0 (by decide) k_13 (fun _ h => h) rfl dX6_copyFrom_16 ?_
        refine lv_iload_n hx hb dX6_copyFrom_19 rfl (lv_at hl 0 rfl) ?_
        refine xq_ld (t0 := 2) hx hb hK hT2 hR.1 (List.mem_append_right _ hq2) (by omega) (by decide) dX6_copyFrom_20 ?_
        obtain ⟨a_2, ha_2, ga_2⟩ := hrw2.2.1 i (by omega)
        obtain ⟨paa_2, caa_2, hma_2, hpaa_2, hcaa_2⟩ := id ga_2
        refine nn_eqv (y := .ref a_2) (by rw [ha_2]; rfl) ?_
        refine xc_ast (ci := 1) (t0 := 2) hx hb hK hT2 rfl hR 1 rfl (List.mem_append_right _ hma_2) (by omega) (by decide) dX6_copyFrom_21 (fun H locs hR => ?_)
        have hR : rR G A s.heap _ _ ([(t, .inr (5, [.ref r, .int (nI n)])), (r, .inl (cE, 120, rfs (va_up g i (some a_2))))] ++ pl) := hR
        refine lv_iinc (v := nI (i + 1)) (lv' := [(2, .int (nI (i + 1))), (0, .ref t), (1, .ref t2)]) hx hb dX6_copyFrom_22 hl (k := 0) rfl (nI_add i 1) (by decide) rfl (fun ls hl => ?_)
        refine lv_goto (tgt := 2) hx hb dX6_copyFrom_25 (by decide) ?_
        exact ih_2 (i + 1) (va_up g i (some a_2)) _ _ _ (by omega) (by omega) (fun j hj => by by_cases h9 : j = i; (subst h9; rw [va_up_self, ha_2]); (rw [va_up_ne _ _ h9]; exact hg j (by omega))) hR (lv_sub hl [0, 1, 2] rfl)
  exact lp_2 (((L2.length - 0)) + 1) 0 f _ _ _ (Nat.lt_succ_self _) (Nat.zero_le _) (fun j h => absurd h (Nat.not_lt_zero _)) hR (lv_sub hl [0, 1, 2] rfl)
set_option maxHeartbeats 4000000 in
set_option maxRecDepth 100000 in
theorem c_entInit (l : Launch) {G : va_G} {tys : List (ClassId × FieldType)} {cB cI cE cS : ClassId} (hT : tys = [(cB, .byte), (cI, .int), (cE, .object RX1), (cS, .object RX4)]) {pl : va_W} {sz : Nat} {a9 pa ca : Nat} (kd md tm : Int32) : cMet l yX1_init wsX1_init ({ frames := 1, cells := 0, slots := 0, locals := 12 } : Room) G tys [.ref a9, .ref pa, .int kd, .int md, .int tm, .ref ca] [(a9, .inr (1, [.null, .int 0, .int 0, .int 0, .null]))] pl sz 0 0 (fun o9 X1 nw => o9 = none ∧ nw = [] ∧ X1 = [(a9, .inr (1, [.ref pa, .int kd, .int md, .int tm, .ref ca]))]) := by
  have hT0 : tys[0]? = some (cB, .byte) := by rw [hT]; rfl
  have hT1 : tys[1]? = some (cI, .int) := by rw [hT]; rfl
  have hT2 : tys[2]? = some (cE, .object RX1) := by rw [hT]; rfl
  have hT3 : tys[3]? = some (cS, .object RX4) := by rw [hT]; rfl
  refine Met.ofW (cc := cX1_init) (maxL := 6) (ret := none) (by decide) rfl ?_
  intro p e s m args below meth c s₁ B hml hv
  obtain ⟨hargs, hsz, hP, hK, hD0, hZ⟩ := hv
  have hx := B.exec
  have hb := B.bytes
  have hr := B.returns
  have hts := atoms_spec (ws := wsX1_init) B.pre
  have hown : s.vm.findClass RX1 = some m.cls := findClass_of_methodNamed B.named
  have hlocks := B.notSynchronized
  have hin : meth.name = "<init>" := (name_of_methodNamed B.named B.method).1
  subst hsz
  have hD := hD0.self (sz := s.heap.size)
  obtain ⟨A, hAe⟩ : ∃ A : Nat → Prop, A = va_A ([(a9, .inr (1, [.null, .int 0, .int 0, .int 0, .null]))] ++ pl) s.heap.size := ⟨_, rfl⟩
  rw [← hAe] at hD
  have hA : ∀ q : Nat, s.heap.size ≤ q → A q := fun q h => by rw [hAe]; exact Or.inr h
  have inX1 : ∀ w ∈ wsX10, w ∈ wsX1_init := by decide +kernel
  have k_7 := hts (.fieldLink RX1 7 "MirrorKeep$Entry" "path" "[B") (by decide +kernel)
  have k_13 := hts (.fieldLink RX1 13 "MirrorKeep$Entry" "kind" "I") (by decide +kernel)
  have k_17 := hts (.fieldLink RX1 17 "MirrorKeep$Entry" "mode" "I") (by decide +kernel)
  have k_20 := hts (.fieldLink RX1 20 "MirrorKeep$Entry" "time" "I") (by decide +kernel)
  have k_23 := hts (.fieldLink RX1 23 "MirrorKeep$Entry" "content" "[B") (by decide +kernel)
  have hR : rR G A s.heap s.heap [] ([(a9, .inr (1, [.null, .int 0, .int 0, .int 0, .null]))] ++ pl) := ⟨hP, hD, va_S.rf⟩
  obtain ⟨Q, hQ⟩ : ∃ Q : State → Prop, Q = MQ below (cQ G A pl (fun o9 X1 nw => o9 = none ∧ nw = [] ∧ X1 = [(a9, .inr (1, [.ref pa, .int kd, .int md, .int tm, .ref ca]))])) args s 0 0 A := ⟨_, rfl⟩
  change W p l e ({ frames := 1, cells := 0, slots := 0, locals := 12 } : Room) s m args below meth c s.heap [] 0 0 (MQ below (cQ G (va_A ([(a9, .inr (1, [.null, .int 0, .int 0, .int 0, .null]))] ++ pl) s.heap.size) pl (fun o9 X1 nw => o9 = none ∧ nw = [] ∧ X1 = [(a9, .inr (1, [.ref pa, .int kd, .int md, .int tm, .ref ca]))])) args s 0 0 (va_A ([(a9, .inr (1, [.null, .int 0, .int 0, .int 0, .null]))] ++ pl) s.heap.size)) (entryFrame m args 6)
  rw [← hAe]
  rw [← hQ]
  refine nn_entry hargs (Nat.le_of_ble_eq_true rfl) (lv := [(0, .ref a9), (1, .ref pa), (2, .int kd), (3, .int md), (4, .int tm), (5, .ref ca)]) rfl (fun ls hl => ?_)
  refine lv_aload_n hx hb dX1_init_0 rfl (lv_at hl 0 rfl) ?_
  refine W.objInit hx hb hown (hts (.methodLink RX1 1 objectInit) (by decide +kernel)) (hts (.instanceMethod objectInit) (by decide +kernel)) (hts (.code objectInit ⟨#[0xb1]⟩ 1 none) (by decide +kernel)) rfl (by rw [hml]; exact hl.1) rfl dX1_init_1 (Nat.le_of_ble_eq_true rfl) (Nat.le_of_ble_eq_true rfl) ?_
  refine W.eq (g2 := F0 m 4 ls []) rfl ?_
  refine lv_aload_n hx hb dX1_init_4 rfl (lv_at hl 0 rfl) ?_
  refine lv_aload_n hx hb dX1_init_5 rfl (lv_at hl 1 rfl) ?_
  refine va_putF (D := G) (ci := 1) (v := .ref pa) (ty := .array .byte) (C := RX1) (T := TX1) (N := 5) hx hb hts inX1 tyX1 tyX1_ok nmX1 hown hK hR.1 hR.2.1 hR.2.2 0 rfl rfl 0 (by decide) k_7 (fun _ h => h) rfl hin rfl (by decide +kernel) rfl rfl (Nat.le_of_ble_eq_true rfl) dX1_init_6 (fun H locs hP hD hS => ?_)
  have hR : rR G A s.heap _ _ ([(a9, .inr (1, [.ref pa, .int 0, .int 0, .int 0, .null]))] ++ pl) := ⟨hP, hD, hS⟩
  refine lv_aload_n hx hb dX1_init_9 rfl (lv_at hl 0 rfl) ?_
  refine lv_iload_n hx hb dX1_init_10 rfl (lv_at hl 2 rfl) ?_
  refine va_putF (D := G) (ci := 1) (v := .int kd) (ty := .int) (C := RX1) (T := TX1) (N := 5) hx hb hts inX1 tyX1 tyX1_ok nmX1 hown hK hR.1 hR.2.1 hR.2.2 0 rfl rfl 1 (by decide) k_13 (fun _ h => h) rfl hin rfl (by decide +kernel) rfl rfl (Nat.le_of_ble_eq_true rfl) dX1_init_11 (fun H locs hP hD hS => ?_)
  have hR : rR G A s.heap _ _ ([(a9, .inr (1, [.ref pa, .int kd, .int 0, .int 0, .null]))] ++ pl) := ⟨hP, hD, hS⟩
  refine lv_aload_n hx hb dX1_init_14 rfl (lv_at hl 0 rfl) ?_
  refine lv_iload_n hx hb dX1_init_15 rfl (lv_at hl 3 rfl) ?_
  refine va_putF (D := G) (ci := 1) (v := .int md) (ty := .int) (C := RX1) (T := TX1) (N := 5) hx hb hts inX1 tyX1 tyX1_ok nmX1 hown hK hR.1 hR.2.1 hR.2.2 0 rfl rfl 2 (by decide) k_17 (fun _ h => h) rfl hin rfl (by decide +kernel) rfl rfl (Nat.le_of_ble_eq_true rfl) dX1_init_16 (fun H locs hP hD hS => ?_)
  have hR : rR G A s.heap _ _ ([(a9, .inr (1, [.ref pa, .int kd, .int md, .int 0, .null]))] ++ pl) := ⟨hP, hD, hS⟩
  refine lv_aload_n hx hb dX1_init_19 rfl (lv_at hl 0 rfl) ?_
  refine lv_iload hx hb dX1_init_20 (lv_at hl 4 rfl) ?_
  refine va_putF (D := G) (ci := 1) (v := .int tm) (ty := .int) (C := RX1) (T := TX1) (N := 5) hx hb hts inX1 tyX1 tyX1_ok nmX1 hown hK hR.1 hR.2.1 hR.2.2 0 rfl rfl 3 (by decide) k_20 (fun _ h => h) rfl hin rfl (by decide +kernel) rfl rfl (Nat.le_of_ble_eq_true rfl) dX1_init_22 (fun H locs hP hD hS => ?_)
  have hR : rR G A s.heap _ _ ([(a9, .inr (1, [.ref pa, .int kd, .int md, .int tm, .null]))] ++ pl) := ⟨hP, hD, hS⟩
  refine lv_aload_n hx hb dX1_init_25 rfl (lv_at hl 0 rfl) ?_
  refine lv_aload hx hb dX1_init_26 (lv_at hl 5 rfl) ?_
  refine va_putF (D := G) (ci := 1) (v := .ref ca) (ty := .array .byte) (C := RX1) (T := TX1) (N := 5) hx hb hts inX1 tyX1 tyX1_ok nmX1 hown hK hR.1 hR.2.1 hR.2.2 0 rfl rfl 4 (by decide) k_23 (fun _ h => h) rfl hin rfl (by decide +kernel) rfl rfl (Nat.le_of_ble_eq_true rfl) dX1_init_28 (fun H locs hP hD hS => ?_)
  have hR : rR G A s.heap _ _ ([(a9, .inr (1, [.ref pa, .int kd, .int md, .int tm, .ref ca]))] ++ pl) := ⟨hP, hD, hS⟩
  rw [hQ]
  exact xc_vret (X1 := [(a9, .inr (1, [.ref pa, .int kd, .int md, .int tm, .ref ca]))]) (nw := []) hx hb hr hlocks (by rw [List.append_nil]; exact hR) ⟨rfl, rfl, rfl⟩ dX1_init_31
