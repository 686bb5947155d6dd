set_option maxHeartbeats 4000000 in
set_option maxRecDepth 100000 in
theorem p_tsize (l : Launch) {G : va_G} {tys : List (ClassId × FieldType)} {cB cI cE cS : ClassId} (hT : tys = [(cB, .byte), (cI, .int), (cE, .object RX1), (cS, .object RX4)]) {w : va_W} {t r : Nat} {f : Nat → Option Nat} {L : List En} (ht : tRep w cB cE t r f L) : pMet l yX6_size wsX6_size ({ frames := 0, cells := 0, slots := 0, locals := 0 } : Room) G tys [.ref t] w (fun r => r = .int (nI L.length)) := by
  have hT0 : tys[0]? = some (cB, .byte) := by rw [hT]; rfl
  refine Met.ofW (cc := cX6_size) (maxL := 1) (ret := (some .int)) (by decide) rfl ?_
  intro p e s m args below meth c s₁ B hml hv
  obtain ⟨hargs, hP, hK⟩ := hv
  have hx := B.exec
  have hb := B.bytes
  have hr := B.returns
  have hts := atoms_spec (ws := wsX6_size) B.pre
  have hown : s.vm.findClass RX6 = some m.cls := findClass_of_methodNamed B.named
  have hlocks := B.notSynchronized
  have inX6 : ∀ w ∈ wsX60, w ∈ wsX6_size := by decide +kernel
  have k_17 := hts (.fieldLink RX6 17 "MirrorKeep$Tree" "count" "I") (by decide +kernel)
  obtain ⟨Q, hQ⟩ : ∃ Q : State → Prop, Q = MQ below (pQ (fun r => r = .int (nI L.length))) args s 0 0 (fun _ => False) := ⟨_, rfl⟩
  change W p l e ({ frames := 0, cells := 0, slots := 0, locals := 0 } : Room) s m args below meth c s.heap [] 0 0 (MQ below (pQ (fun r => r = .int (nI L.length))) args s 0 0 (fun _ => False)) (entryFrame m args 1)
  rw [← hQ]
  refine nn_entry hargs (Nat.le_of_ble_eq_true rfl) (lv := [(0, .ref t)]) rfl (fun ls hl => ?_)
  obtain ⟨hm1, hm2, hl120, hent, hpl, hcs⟩ := id ht
  refine lv_aload_n hx hb dX6_size_0 rfl (lv_at hl 0 rfl) ?_
  refine xg (ci := 5) (C := RX6) (T := TX6) (N := 2) (v := .int (nI L.length)) hx hb hts inX6 hown hK hP hm1 rfl 1 (by decide) k_17 (fun _ h => h) rfl dX6_size_1 ?_
  rw [hQ]
  exact pf_iret hx hb hr hlocks rfl dX6_size_4
set_option maxHeartbeats 4000000 in
set_option maxRecDepth 100000 in
theorem p_tget (l : Launch) {G : va_G} {tys : List (ClassId × FieldType)} {cB cI cE cS : ClassId} (hT : tys = [(cB, .byte), (cI, .int), (cE, .object RX1), (cS, .object RX4)]) {w : va_W} {t r : Nat} {f : Nat → Option Nat} {L : List En} (ht : tRep w cB cE t r f L) (ix : Int32) : pMet l yX6_get wsX6_get ({ frames := 0, cells := 0, slots := 0, locals := 0 } : Room) G tys [.ref t, .int ix] w (fun r => (¬ (0 ≤ ix.toInt ∧ ix.toInt < L.length) ∧ r = .null) ∨ ∃ k a, ix = nI k ∧ k < L.length ∧ r = .ref a ∧ f k = some a ∧ pEnt w cB a (L.getD k e0)) := by
  have hT0 : tys[0]? = some (cB, .byte) := by rw [hT]; rfl
  have hT2 : tys[2]? = some (cE, .object RX1) := by rw [hT]; rfl
  refine Met.ofW (cc := cX6_get) (maxL := 2) (ret := (some (.object "MirrorKeep$Entry"))) (by decide) rfl ?_
  intro p e s m args below meth c s₁ B hml hv
  obtain ⟨hargs, hP, hK⟩ := hv
  have hx := B.exec
  have hb := B.bytes
  have hr := B.returns
  have hts := atoms_spec (ws := wsX6_get) B.pre
  have hown : s.vm.findClass RX6 = some m.cls := findClass_of_methodNamed B.named
  have hlocks := B.notSynchronized
  have inX6 : ∀ w ∈ wsX60, w ∈ wsX6_get := by decide +kernel
  have k_13 := hts (.fieldLink RX6 13 "MirrorKeep$Tree" "rows" "[LMirrorKeep$Entry;") (by decide +kernel)
  have k_17 := hts (.fieldLink RX6 17 "MirrorKeep$Tree" "count" "I") (by decide +kernel)
  obtain ⟨Q, hQ⟩ : ∃ Q : State → Prop, Q = MQ below (pQ (fun r => (¬ (0 ≤ ix.toInt ∧ ix.toInt < L.length) ∧ r = .null) ∨ ∃ k a, ix = nI k ∧ k < L.length ∧ r = .ref a ∧ f k = some a ∧ pEnt w cB a (L.getD k e0))) args s 0 0 (fun _ => False) := ⟨_, rfl⟩
  change W p l e ({ frames := 0, cells := 0, slots := 0, locals := 0 } : Room) s m args below meth c s.heap [] 0 0 (MQ below (pQ (fun r => (¬ (0 ≤ ix.toInt ∧ ix.toInt < L.length) ∧ r = .null) ∨ ∃ k a, ix = nI k ∧ k < L.length ∧ r = .ref a ∧ f k = some a ∧ pEnt w cB a (L.getD k e0))) args s 0 0 (fun _ => False)) (entryFrame m args 2)
  rw [← hQ]
  refine nn_entry hargs (Nat.le_of_ble_eq_true rfl) (lv := [(0, .ref t), (1, .int ix)]) rfl (fun ls hl => ?_)
  obtain ⟨hm1, hm2, hl120, hent, hpl, hcs⟩ := id ht
  refine lv_iload_n hx hb dX6_get_0 rfl (lv_at hl 1 rfl) ?_
  refine zi_lt hx hb rfl dX6_get_1 (tgt := 12) (by decide) (fun c_1 => ?_) (fun c_1 => ?_)
  · refine lv_null hx hb dX6_get_12 ?_
    refine lv_goto (tgt := 22) hx hb dX6_get_13 (by decide) ?_
    rw [hQ]
    exact pf_aret hx hb hr (Or.inl ⟨_, rfl⟩) (Or.inl rfl) hlocks (Or.inl ⟨by omega, rfl⟩) dX6_get_22
  · refine lv_iload_n hx hb dX6_get_4 rfl (lv_at hl 1 rfl) ?_
    refine lv_aload_n hx hb dX6_get_5 rfl (lv_at hl 0 rfl) ?_
    refine xg (ci := 5) (C := RX6) (T := TX6) (N := 2) (v := .int (nI L.length)) hx hb hts inX6 hown hK hP hm1 rfl 1 (by decide) k_17 (fun _ h => h) rfl dX6_get_6 ?_
    refine zc_lt hx hb rfl (nI_toInt (by omega)) dX6_get_9 (tgt := 16) (by decide) (fun c_2 => ?_) (fun c_2 => ?_)
    · obtain ⟨i1, hi1, hi12, hi13⟩ := zn_ex (x := ix) (by omega)
      rw [hi1] at hl
      refine lv_aload_n hx hb dX6_get_16 rfl (lv_at hl 0 rfl) ?_
      refine xg (ci := 5) (C := RX6) (T := TX6) (N := 2) (v := .ref r) hx hb hts inX6 hown hK hP hm1 rfl 0 (by decide) k_13 (fun _ h => h) rfl dX6_get_17 ?_
      refine lv_iload_n hx hb dX6_get_20 rfl (lv_at hl 1 rfl) ?_
      refine xq_ld (t0 := 2) hx hb hK hT2 hP hm2 (by omega) (by decide) dX6_get_21 ?_
      obtain ⟨a_3, ha_3, ga_3⟩ := hent i1 (by omega)
      refine nn_eqv (y := .ref a_3) (by rw [ha_3]; rfl) ?_
      obtain ⟨pae_4, cae_4, hme_4, hpae_4, hcae_4⟩ := id ga_3
      rw [hQ]
      exact pf_aret hx hb hr (Or.inl ⟨_, rfl⟩) (Or.inr ⟨_, rfl⟩) hlocks (Or.inr ⟨i1, a_3, hi1, by omega, rfl, ha_3, ga_3⟩) dX6_get_22
    · refine lv_null hx hb dX6_get_12 ?_
      refine lv_goto (tgt := 22) hx hb dX6_get_13 (by decide) ?_
      rw [hQ]
      exact pf_aret hx hb hr (Or.inl ⟨_, rfl⟩) (Or.inl rfl) hlocks (Or.inl ⟨by omega, rfl⟩) dX6_get_22
set_option maxHeartbeats 4000000 in
set_option maxRecDepth 100000 in
theorem p_placeOf (l : Launch) {G : va_G} {tys : List (ClassId × FieldType)} {cB cI cE cS : ClassId} (hT : tys = [(cB, .byte), (cI, .int), (cE, .object RX1), (cS, .object RX4)]) {w : va_W} {t r : Nat} {f : Nat → Option Nat} {L : List En} (ht : tRep w cB cE t r f L) (hs : srt L) {a1 : Nat} {P1 : List Nat} (ha : bArr w cB a1 P1) (hp : P1.length ≤ 400) : pMet l yX6_placeOf wsX6_placeOf ({ frames := 1, cells := 0, slots := 0, locals := 22 } : Room) G tys [.ref t, .ref a1] w (fun r => r = .int (nI (insI P1 L))) := by
  have hT0 : tys[0]? = some (cB, .byte) := by rw [hT]; rfl
  have hT2 : tys[2]? = some (cE, .object RX1) := by rw [hT]; rfl
  refine Met.ofW (cc := cX6_placeOf) (maxL := 7) (ret := (some .int)) (by decide) rfl ?_
  intro p e s m args below meth c s₁ B hml hv
  obtain ⟨hargs, hP, hK⟩ := hv
  have hx := B.exec
  have hb := B.bytes
  have hr := B.returns
  have hts := atoms_spec (ws := wsX6_placeOf) B.pre
  have hown : s.vm.findClass RX6 = some m.cls := findClass_of_methodNamed B.named
  have hlocks := B.notSynchronized
  have inX1 : ∀ w ∈ wsX10, w ∈ wsX6_placeOf := by decide +kernel
  have inX6 : ∀ w ∈ wsX60, w ∈ wsX6_placeOf := by decide +kernel
  have k_17 := hts (.fieldLink RX6 17 "MirrorKeep$Tree" "count" "I") (by decide +kernel)
  have k_33 := hts (.fieldLink RX6 33 "MirrorKeep$Entry" "path" "[B") (by decide +kernel)
  obtain ⟨Q, hQ⟩ : ∃ Q : State → Prop, Q = MQ below (pQ (fun r => r = .int (nI (insI P1 L)))) args s 0 0 (fun _ => False) := ⟨_, rfl⟩
  change W p l e ({ frames := 1, cells := 0, slots := 0, locals := 22 } : Room) s m args below meth c s.heap [] 0 0 (MQ below (pQ (fun r => r = .int (nI (insI P1 L)))) args s 0 0 (fun _ => False)) (entryFrame m args 7)
  rw [← hQ]
  refine nn_entry hargs (Nat.le_of_ble_eq_true rfl) (lv := [(0, .ref t), (1, .ref a1)]) rfl (fun ls hl => ?_)
  obtain ⟨hm1, hm2, hl120, hent, hpl, hcs⟩ := id ht
  refine lv_iconst (v := nI 0) hx hb dX6_placeOf_0 rfl ?_
  refine lv_istore_n (lv' := [(2, .int (nI 0)), (0, .ref t), (1, .ref a1)]) hx hb dX6_placeOf_1 rfl hl (by decide) rfl (fun ls hl => ?_)
  refine lv_aload_n hx hb dX6_placeOf_2 rfl (lv_at hl 1 rfl) ?_
  refine xg (ci := 5) (C := RX6) (T := TX6) (N := 2) (v := .int (nI L.length)) hx hb hts inX6 hown hK hP hm1 rfl 1 (by decide) k_17 (fun _ h => h) rfl dX6_placeOf_3 ?_
  refine lv_istore_n (lv' := [(3, .int (nI L.length)), (2, .int (nI 0)), (0, .ref t), (1, .ref a1)]) hx hb dX6_placeOf_6 rfl hl (by decide) rfl (fun ls hl => ?_)
  refine lv_iconst (v := nI 0) hx hb dX6_placeOf_7 rfl ?_
  refine lv_istore (lv' := [(4, .int (nI 0)), (3, .int (nI L.length)), (2, .int (nI 0)), (0, .ref t), (1, .ref a1)]) hx hb dX6_placeOf_8 hl (by decide) rfl (fun ls hl => ?_)
  have lp_10 : ∀ (n_10 : Nat) (rd : Nat) (lo : Nat) (hi : Nat) (ls : Array Slot), (L.length - rd) < n_10 → (lo ≤ hi) → (hi ≤ L.length) → (rd ≤ L.length) → (hi - lo + rd ≤ L.length) → (∀ j, j < lo → pcm (L.getD j e0).1 P1 < 0) → (∀ j, hi ≤ j → j < L.length → ¬ pcm (L.getD j e0).1 P1 < 0) → lv_has ls 7 [(0, .ref t), (1, .ref a1), (2, .int (nI lo)), (3, .int (nI hi)), (4, .int (nI rd))] → W p l e ({ frames := 1, cells := 0, slots := 0, locals := 22 } : Room) s m args below meth c s.heap [] 0 0 Q (F0 m 10 ls []) := by
    intro n_10
    induction n_10 with
    | zero => intro rd lo hi ls h0; exact absurd h0 (Nat.not_lt_zero _)
    | succ n_10 ih_10 =>
      intro rd lo hi ls hm_10 h1 h2 h3 h4 hlo hge hl
      refine lv_iload hx hb dX6_placeOf_10 (lv_at hl 4 rfl) ?_
      refine lv_aload_n hx hb dX6_placeOf_12 rfl (lv_at hl 0 rfl) ?_
      refine xg (ci := 5) (C := RX6) (T := TX6) (N := 2) (v := .int (nI L.length)) hx hb hts inX6 hown hK hP hm1 rfl 1 (by decide) k_17 (fun _ h => h) rfl dX6_placeOf_13 ?_
      refine nn_ge hx hb dX6_placeOf_16 (tgt := 73) (by decide) (by omega) (by omega) (fun c_1 => ?_) (fun c_1 => ?_)
      · refine lv_iload_n hx hb dX6_placeOf_73 rfl (lv_at hl 2 rfl) ?_
        rw [hQ]
        exact pf_iret hx hb hr hlocks (by rw [insI_eq hlo (by omega) (by rcases Nat.lt_or_ge lo L.length with h9 | h9; exact Or.inr (hge lo (by omega) h9); exact Or.inl h9)]) dX6_placeOf_74
      · refine lv_iload_n hx hb dX6_placeOf_19 rfl (lv_at hl 2 rfl) ?_
        refine lv_iload_n hx hb dX6_placeOf_20 rfl (lv_at hl 3 rfl) ?_
        refine nn_ge hx hb dX6_placeOf_21 (tgt := 73) (by decide) (by omega) (by omega) (fun c_2 => ?_) (fun c_2 => ?_)
        · refine lv_iload_n hx hb dX6_placeOf_73 rfl (lv_at hl 2 rfl) ?_
          rw [hQ]
          exact pf_iret hx hb hr hlocks (by rw [insI_eq hlo (by omega) (by rcases Nat.lt_or_ge lo L.length with h9 | h9; exact Or.inr (hge lo (by omega) h9); exact Or.inl h9)]) dX6_placeOf_74
        · refine lv_iload_n hx hb dX6_placeOf_24 rfl (lv_at hl 2 rfl) ?_
          refine lv_iload_n hx hb dX6_placeOf_25 rfl (lv_at hl 3 rfl) ?_
          refine nn_add hx hb dX6_placeOf_26 ?_
          refine lv_iconst (v := nI 1) hx hb dX6_placeOf_27 rfl ?_
          refine lv_iushr (v := nI ((lo + hi) / 2)) hx hb dX6_placeOf_28 (pk_ushrN (k := 1) (by omega) _ (by decide)) ?_
          refine lv_istore (lv' := [(5, .int (nI ((lo + hi) / 2))), (0, .ref t), (1, .ref a1), (2, .int (nI lo)), (3, .int (nI hi)), (4, .int (nI rd))]) hx hb dX6_placeOf_29 hl (by decide) rfl (fun ls hl => ?_)
          have hmd : (lo + hi) / 2 < L.length := by omega
          have hpm := hpl ((lo + hi) / 2) hmd
          refine lv_aload_n hx hb dX6_placeOf_31 rfl (lv_at hl 1 rfl) ?_
          refine lv_iload hx hb dX6_placeOf_32 (lv_at hl 0 rfl) ?_
          refine pf_callV (C := RX6) (As := [.int (nI ((lo + hi) / 2))]) (rest := []) (p_tget l hT ht (nI ((lo + hi) / 2))) ⟨hx, hb, hml, hown, hts⟩ (cwV 1 hts gX6_placeOf_X6_get rfl rfl rfl (by decide +kernel) ⟨Nat.le_of_ble_eq_true rfl, Nat.le_of_ble_eq_true rfl⟩) hK hP (xrecv (ci := 5) hK hP rfl hm1) rfl hl.1 rfl (Nat.le_of_ble_eq_true rfl) dX6_placeOf_34 ⟨Nat.le_of_ble_eq_true rfl, Nat.le_of_ble_eq_true rfl⟩ (fun r_3 hr_3 => ?_)
          rcases hr_3 with ⟨hr_3, rfl⟩ | ⟨k_4, a_5, hk_4, jk_4, rfl, ha_5, ga_5⟩
          · exact absurd (by rw [nI_toInt (by omega)]; omega) hr_3
          · have ek_4 : k_4 = ((lo + hi) / 2) := ((nI_eq (by omega) (by omega)).mp hk_4).symm
            rw [ek_4] at jk_4 ha_5 ga_5
            obtain ⟨pae_7, cae_7, hme_7, hpae_7, hcae_7⟩ := id ga_5
            refine lv_astore (lv' := [(6, .ref a_5), (5, .int (nI ((lo + hi) / 2))), (0, .ref t), (1, .ref a1), (2, .int (nI lo)), (3, .int (nI hi)), (4, .int (nI rd))]) hx hb dX6_placeOf_37 hl (by decide) rfl (fun ls hl => ?_)
            refine lv_aload hx hb dX6_placeOf_39 (lv_at hl 0 rfl) ?_
            refine lv_ifnull hx hb dX6_placeOf_41 ?_
            refine lv_aload hx hb dX6_placeOf_44 (lv_at hl 0 rfl) ?_
            refine xg (ci := 1) (C := RX1) (T := TX1) (N := 5) (v := .ref pae_7) hx hb hts inX1 hown hK hP hme_7 rfl 0 (by decide) k_33 (fun _ h => h) rfl dX6_placeOf_46 ?_
            refine lv_aload_n hx hb dX6_placeOf_49 rfl (lv_at hl 3 rfl) ?_
            refine pf_callS (As := [.ref pae_7, .ref a1]) (rest := []) (p_compare l hT hpae_7 ha (by omega) (by omega)) ⟨hx, hb, hml, hown, hts⟩ (va_cwS 2 hts gX6_placeOf_X3_compare rfl rfl rfl (by decide +kernel) ⟨Nat.le_of_ble_eq_true rfl, Nat.le_of_ble_eq_true rfl⟩) hK hP rfl hl.1 rfl (Nat.le_of_ble_eq_true rfl) dX6_placeOf_50 ⟨Nat.le_of_ble_eq_true rfl, Nat.le_of_ble_eq_true rfl⟩ (fun r_8 hr_8 => ?_)
            obtain ⟨v_9, rfl, hv_9⟩ := hr_8
            obtain ⟨s1v_9, s2v_9⟩ := id hv_9
            refine zi_ge hx hb rfl dX6_placeOf_53 (tgt := 64) (by decide) (fun c_10 => ?_) (fun c_10 => ?_)
            · refine lv_iload hx hb dX6_placeOf_64 (lv_at hl 1 rfl) ?_
              refine lv_istore_n (lv' := [(3, .int (nI ((lo + hi) / 2))), (6, .ref a_5), (5, .int (nI ((lo + hi) / 2))), (0, .ref t), (1, .ref a1), (2, .int (nI lo)), (4, .int (nI rd))]) hx hb dX6_placeOf_66 rfl hl (by decide) rfl (fun ls hl => ?_)
              refine lv_iinc (v := nI (rd + 1)) (lv' := [(4, .int (nI (rd + 1))), (3, .int (nI ((lo + hi) / 2))), (6, .ref a_5), (5, .int (nI ((lo + hi) / 2))), (0, .ref t), (1, .ref a1), (2, .int (nI lo))]) hx hb dX6_placeOf_67 hl (k := 6) rfl (nI_add rd 1) (by decide) rfl (fun ls hl => ?_)
              refine lv_goto (tgt := 10) hx hb dX6_placeOf_70 (by decide) ?_
              exact ih_10 (rd + 1) lo ((lo + hi) / 2) _ (by omega) (by omega) (by omega) (by omega) (by omega) hlo (fun j hj1 hj2 => ins_mid2 hs hj2 (k := (lo + hi) / 2) (by omega) hj1) (lv_sub hl [4, 5, 6, 1, 0] rfl)
            · refine lv_iload hx hb dX6_placeOf_56 (lv_at hl 1 rfl) ?_
              refine lv_iconst (v := nI 1) hx hb dX6_placeOf_58 rfl ?_
              refine nn_add hx hb dX6_placeOf_59 ?_
              refine lv_istore_n (lv' := [(2, .int (nI (((lo + hi) / 2) + 1))), (6, .ref a_5), (5, .int (nI ((lo + hi) / 2))), (0, .ref t), (1, .ref a1), (3, .int (nI hi)), (4, .int (nI rd))]) hx hb dX6_placeOf_60 rfl hl (by decide) rfl (fun ls hl => ?_)
              refine lv_goto (tgt := 67) hx hb dX6_placeOf_61 (by decide) ?_
              refine lv_iinc (v := nI (rd + 1)) (lv' := [(4, .int (nI (rd + 1))), (2, .int (nI (((lo + hi) / 2) + 1))), (6, .ref a_5), (5, .int (nI ((lo + hi) / 2))), (0, .ref t), (1, .ref a1), (3, .int (nI hi))]) hx hb dX6_placeOf_67 hl (k := 6) rfl (nI_add rd 1) (by decide) rfl (fun ls hl => ?_)
              refine lv_goto (tgt := 10) hx hb dX6_placeOf_70 (by decide) ?_
              exact ih_10 (rd + 1) (((lo + hi) / 2) + 1) hi _ (by omega) (by omega) (by omega) (by omega) (by omega) (fun j hj => ins_mid hs hmd (by omega) (by omega)) hge (lv_sub hl [4, 5, 1, 6, 0] rfl)
  exact lp_10 (((L.length - 0)) + 1) 0 0 L.length _ (Nat.lt_succ_self _) (Nat.zero_le _) (Nat.le_refl _) (Nat.zero_le _) (by omega) (fun j h => absurd h (Nat.not_lt_zero _)) (fun j h9 h8 => absurd h8 (by omega)) (lv_sub hl [3, 4, 2, 1, 0] rfl)
set_option maxHeartbeats 4000000 in
set_option maxRecDepth 100000 in
theorem p_isAt (l : Launch) {G : va_G} {tys : List (ClassId × FieldType)} {cB cI cE cS : ClassId} (hT : tys = [(cB, .byte), (cI, .int), (cE, .object RX1), (cS, .object RX4)]) {w : va_W} {t r : Nat} {f : Nat → Option Nat} {L : List En} (ht : tRep w cB cE t r f L) {a1 : Nat} {P1 : List Nat} (ha : bArr w cB a1 P1) (hp : P1.length ≤ 400) (j : Nat) (hj : j ≤ L.length) : pMet l yX6_isAt wsX6_isAt ({ frames := 1, cells := 0, slots := 0, locals := 22 } : Room) G tys [.ref t, .int (nI j), .ref a1] w (fun r => r = .int (bI (decide (j < L.length ∧ (L.getD j e0).1 = P1)))) := by
  have hT0 : tys[0]? = some (cB, .byte) := by rw [hT]; rfl
  refine Met.ofW (cc := cX6_isAt) (maxL := 4) (ret := (some .boolean)) (by decide) rfl ?_
  intro p e s m args below meth c s₁ B hml hv
  obtain ⟨hargs, hP, hK⟩ := hv
  have hx := B.exec
  have hb := B.bytes
  have hr := B.returns
  have hts := atoms_spec (ws := wsX6_isAt) B.pre
  have hown : s.vm.findClass RX6 = some m.cls := findClass_of_methodNamed B.named
  have hlocks := B.notSynchronized
  have inX1 : ∀ w ∈ wsX10, w ∈ wsX6_isAt := by decide +kernel
  have k_33 := hts (.fieldLink RX6 33 "MirrorKeep$Entry" "path" "[B") (by decide +kernel)
  obtain ⟨Q, hQ⟩ : ∃ Q : State → Prop, Q = MQ below (pQ (fun r => r = .int (bI (decide (j < L.length ∧ (L.getD j e0).1 = P1))))) args s 0 0 (fun _ => False) := ⟨_, rfl⟩
  change W p l e ({ frames := 1, cells := 0, slots := 0, locals := 22 } : Room) s m args below meth c s.heap [] 0 0 (MQ below (pQ (fun r => r = .int (bI (decide (j < L.length ∧ (L.getD j e0).1 = P1))))) args s 0 0 (fun _ => False)) (entryFrame m args 4)
  rw [← hQ]
  refine nn_entry hargs (Nat.le_of_ble_eq_true rfl) (lv := [(0, .ref t), (1, .int (nI j)), (2, .ref a1)]) rfl (fun ls hl => ?_)
  obtain ⟨hm1, hm2, hl120, hent, hpl, hcs⟩ := id ht
  refine lv_aload_n hx hb dX6_isAt_0 rfl (lv_at hl 0 rfl) ?_
  refine lv_iload_n hx hb dX6_isAt_1 rfl (lv_at hl 1 rfl) ?_
  refine pf_callV (C := RX6) (As := [.int (nI j)]) (rest := []) (p_tget l hT ht (nI j)) ⟨hx, hb, hml, hown, hts⟩ (cwV 1 hts gX6_isAt_X6_get rfl rfl rfl (by decide +kernel) ⟨Nat.le_of_ble_eq_true rfl, Nat.le_of_ble_eq_true rfl⟩) hK hP (xrecv (ci := 5) hK hP rfl hm1) rfl hl.1 rfl (Nat.le_of_ble_eq_true rfl) dX6_isAt_2 ⟨Nat.le_of_ble_eq_true rfl, Nat.le_of_ble_eq_true rfl⟩ (fun r_1 hr_1 => ?_)
  rcases hr_1 with ⟨hr_1, rfl⟩ | ⟨k_2, a_3, hk_2, jk_2, rfl, ha_3, ga_3⟩
  · refine lv_astore_nN (lv' := [(3, .null), (0, .ref t), (1, .int (nI j)), (2, .ref a1)]) hx hb dX6_isAt_5 rfl hl (by decide) rfl (fun ls hl => ?_)
    refine lv_aload_nN hx hb dX6_isAt_6 rfl (lv_at hl 0 rfl) ?_
    refine lv_ifnullN hx hb dX6_isAt_7 (tgt := 25) (by decide) ?_
    refine lv_iconst (v := bI false) hx hb dX6_isAt_25 rfl ?_
    rw [hQ]
    exact pf_zret hx hb hr hlocks (bI_01 _) (congrArg (fun b => Value.int (bI b)) (decide_eq_false (by intro h9; rw [nI_toInt (by omega)] at hr_1; omega)).symm) dX6_isAt_26
  · have ek_2 : k_2 = j := ((nI_eq (by omega) (by omega)).mp hk_2).symm
    rw [ek_2] at jk_2 ha_3 ga_3
    obtain ⟨pae_5, cae_5, hme_5, hpae_5, hcae_5⟩ := id ga_3
    refine lv_astore_n (lv' := [(3, .ref a_3), (0, .ref t), (1, .int (nI j)), (2, .ref a1)]) hx hb dX6_isAt_5 rfl hl (by decide) rfl (fun ls hl => ?_)
    refine lv_aload_n hx hb dX6_isAt_6 rfl (lv_at hl 0 rfl) ?_
    refine lv_ifnull hx hb dX6_isAt_7 ?_
    have hpq := hpl j (by omega)
    refine lv_aload_n hx hb dX6_isAt_10 rfl (lv_at hl 0 rfl) ?_
    refine xg (ci := 1) (C := RX1) (T := TX1) (N := 5) (v := .ref pae_5) hx hb hts inX1 hown hK hP hme_5 rfl 0 (by decide) k_33 (fun _ h => h) rfl dX6_isAt_11 ?_
    refine lv_aload_n hx hb dX6_isAt_14 rfl (lv_at hl 3 rfl) ?_
    refine pf_callS (As := [.ref pae_5, .ref a1]) (rest := []) (p_compare l hT hpae_5 ha (by omega) (by omega)) ⟨hx, hb, hml, hown, hts⟩ (va_cwS 2 hts gX6_isAt_X3_compare rfl rfl rfl (by decide +kernel) ⟨Nat.le_of_ble_eq_true rfl, Nat.le_of_ble_eq_true rfl⟩) hK hP rfl hl.1 rfl (Nat.le_of_ble_eq_true rfl) dX6_isAt_15 ⟨Nat.le_of_ble_eq_true rfl, Nat.le_of_ble_eq_true rfl⟩ (fun r_6 hr_6 => ?_)
    obtain ⟨v_7, rfl, hv_7⟩ := hr_6
    obtain ⟨s1v_7, s2v_7⟩ := id hv_7
    refine zi_ne hx hb rfl dX6_isAt_18 (tgt := 25) (by decide) (fun c_8 => ?_) (fun c_8 => ?_)
    · refine lv_iconst (v := bI false) hx hb dX6_isAt_25 rfl ?_
      rw [hQ]
      exact pf_zret hx hb hr hlocks (bI_01 _) (congrArg (fun b => Value.int (bI b)) (decide_eq_false (by intro h9; have := pcm_zero.mpr h9.2; omega)).symm) dX6_isAt_26
    · refine lv_iconst (v := bI true) hx hb dX6_isAt_21 rfl ?_
      refine lv_goto (tgt := 26) hx hb dX6_isAt_22 (by decide) ?_
      rw [hQ]
      exact pf_zret hx hb hr hlocks (bI_01 _) (congrArg (fun b => Value.int (bI b)) (decide_eq_true ⟨by omega, pcm_zero.mp (by omega)⟩).symm) dX6_isAt_26
set_option maxHeartbeats 4000000 in
set_option maxRecDepth 100000 in
theorem p_find (l : Launch) {G : va_G} {tys : List (ClassId × FieldType)} {cB cI cE cS : ClassId} (hT : tys = [(cB, .byte), (cI, .int), (cE, .object RX1), (cS, .object RX4)]) {w : va_W} {t r : Nat} {f : Nat → Option Nat} {L : List En} (ht : tRep w cB cE t r f L) (hs : srt L) {a1 : Nat} {P1 : List Nat} (ha : bArr w cB a1 P1) (hp : P1.length ≤ 400) : pMet l yX6_find wsX6_find ({ frames := 2, cells := 0, slots := 0, locals := 48 } : Room) G tys [.ref t, .ref a1] w (fun r => r = .int (fnd2 L P1)) := by
  have hT0 : tys[0]? = some (cB, .byte) := by rw [hT]; rfl
  refine Met.ofW (cc := cX6_find) (maxL := 3) (ret := (some .int)) (by decide) rfl ?_
  intro p e s m args below meth c s₁ B hml hv
  obtain ⟨hargs, hP, hK⟩ := hv
  have hx := B.exec
  have hb := B.bytes
  have hr := B.returns
  have hts := atoms_spec (ws := wsX6_find) B.pre
  have hown : s.vm.findClass RX6 = some m.cls := findClass_of_methodNamed B.named
  have hlocks := B.notSynchronized
  obtain ⟨Q, hQ⟩ : ∃ Q : State → Prop, Q = MQ below (pQ (fun r => r = .int (fnd2 L P1))) args s 0 0 (fun _ => False) := ⟨_, rfl⟩
  change W p l e ({ frames := 2, cells := 0, slots := 0, locals := 48 } : Room) s m args below meth c s.heap [] 0 0 (MQ below (pQ (fun r => r = .int (fnd2 L P1))) args s 0 0 (fun _ => False)) (entryFrame m args 3)
  rw [← hQ]
  refine nn_entry hargs (Nat.le_of_ble_eq_true rfl) (lv := [(0, .ref t), (1, .ref a1)]) rfl (fun ls hl => ?_)
  obtain ⟨hm1, hm2, hl120, hent, hpl, hcs⟩ := id ht
  refine lv_aload_n hx hb dX6_find_0 rfl (lv_at hl 0 rfl) ?_
  refine lv_aload_n hx hb dX6_find_1 rfl (lv_at hl 1 rfl) ?_
  refine pf_callV (C := RX6) (As := [.ref a1]) (rest := []) (p_placeOf l hT ht hs ha hp) ⟨hx, hb, hml, hown, hts⟩ (cwV 1 hts gX6_find_X6_placeOf rfl rfl rfl (by decide +kernel) ⟨Nat.le_of_ble_eq_true rfl, Nat.le_of_ble_eq_true rfl⟩) hK hP (xrecv (ci := 5) hK hP rfl hm1) rfl hl.1 rfl (Nat.le_of_ble_eq_true rfl) dX6_find_2 ⟨Nat.le_of_ble_eq_true rfl, Nat.le_of_ble_eq_true rfl⟩ (fun r_1 hr_1 => ?_)
  subst hr_1
  have hil := insI_le P1 L
  refine lv_istore_n (lv' := [(2, .int (nI (insI P1 L))), (0, .ref t), (1, .ref a1)]) hx hb dX6_find_5 rfl hl (by decide) rfl (fun ls hl => ?_)
  refine lv_aload_n hx hb dX6_find_6 rfl (lv_at hl 1 rfl) ?_
  refine lv_iload_n hx hb dX6_find_7 rfl (lv_at hl 0 rfl) ?_
  refine lv_aload_n hx hb dX6_find_8 rfl (lv_at hl 2 rfl) ?_
  refine pf_callV (C := RX6) (As := [.int (nI (insI P1 L)), .ref a1]) (rest := []) (p_isAt l hT ht ha hp (insI P1 L) hil) ⟨hx, hb, hml, hown, hts⟩ (cwV 2 hts gX6_find_X6_isAt rfl rfl rfl (by decide +kernel) ⟨Nat.le_of_ble_eq_true rfl, Nat.le_of_ble_eq_true rfl⟩) hK hP (xrecv (ci := 5) hK hP rfl hm1) rfl hl.1 rfl (Nat.le_of_ble_eq_true rfl) dX6_find_9 ⟨Nat.le_of_ble_eq_true rfl, Nat.le_of_ble_eq_true rfl⟩ (fun r_2 hr_2 => ?_)
  subst hr_2
  refine nb_ifeq hx hb dX6_find_12 (tgt := 19) (by decide) (fun c_3 => ?_) (fun c_3 => ?_)
  · have c_3 := of_decide_eq_false c_3
    refine lv_iconst (v := (-1)) hx hb dX6_find_19 rfl ?_
    rw [hQ]
    exact pf_iret hx hb hr hlocks (by rw [fnd2, if_neg (by assumption)]) dX6_find_20
  · have c_3 := of_decide_eq_true c_3
    refine lv_iload_n hx hb dX6_find_15 rfl (lv_at hl 0 rfl) ?_
    refine lv_goto (tgt := 20) hx hb dX6_find_16 (by decide) ?_
    rw [hQ]
    exact pf_iret hx hb hr hlocks (by rw [fnd2, if_pos (by assumption)]) dX6_find_20
set_option maxHeartbeats 4000000 in
set_option maxRecDepth 100000 in
theorem p_cbytes (l : Launch) {G : va_G} {tys : List (ClassId × FieldType)} {cB cI cE cS : ClassId} (hT : tys = [(cB, .byte), (cI, .int), (cE, .object RX1), (cS, .object RX4)]) {w : va_W} {t r : Nat} {f : Nat → Option Nat} {L : List En} (ht : tRep w cB cE t r f L) : pMet l yX6_contentBytes wsX6_contentBytes ({ frames := 0, cells := 0, slots := 0, locals := 0 } : Room) G tys [.ref t] w (fun r => r = .int (nI (csum L))) := by
  have hT0 : tys[0]? = some (cB, .byte) := by rw [hT]; rfl
  have hT2 : tys[2]? = some (cE, .object RX1) := by rw [hT]; rfl
  refine Met.ofW (cc := cX6_contentBytes) (maxL := 4) (ret := (some .int)) (by decide) rfl ?_
  intro p e s m args below meth c s₁ B hml hv
  obtain ⟨hargs, hP, hK⟩ := hv
  have hx := B.exec
  have hb := B.bytes
  have hr := B.returns
  have hts := atoms_spec (ws := wsX6_contentBytes) B.pre
  have hown : s.vm.findClass RX6 = some m.cls := findClass_of_methodNamed B.named
  have hlocks := B.notSynchronized
  have inX1 : ∀ w ∈ wsX10, w ∈ wsX6_contentBytes := by decide +kernel
  have inX6 : ∀ w ∈ wsX60, w ∈ wsX6_contentBytes := by decide +kernel
  have k_13 := hts (.fieldLink RX6 13 "MirrorKeep$Tree" "rows" "[LMirrorKeep$Entry;") (by decide +kernel)
  have k_17 := hts (.fieldLink RX6 17 "MirrorKeep$Tree" "count" "I") (by decide +kernel)
  have k_54 := hts (.fieldLink RX6 54 "MirrorKeep$Entry" "content" "[B") (by decide +kernel)
  obtain ⟨Q, hQ⟩ : ∃ Q : State → Prop, Q = MQ below (pQ (fun r => r = .int (nI (csum L)))) args s 0 0 (fun _ => False) := ⟨_, rfl⟩
  change W p l e ({ frames := 0, cells := 0, slots := 0, locals := 0 } : Room) s m args below meth c s.heap [] 0 0 (MQ below (pQ (fun r => r = .int (nI (csum L)))) args s 0 0 (fun _ => False)) (entryFrame m args 4)
  rw [← hQ]
  refine nn_entry hargs (Nat.le_of_ble_eq_true rfl) (lv := [(0, .ref t)]) rfl (fun ls hl => ?_)
  obtain ⟨hm1, hm2, hl120, hent, hpl, hcs⟩ := id ht
  refine lv_iconst (v := nI 0) hx hb dX6_contentBytes_0 rfl ?_
  refine lv_istore_n (lv' := [(1, .int (nI 0)), (0, .ref t)]) hx hb dX6_contentBytes_1 rfl hl (by decide) rfl (fun ls hl => ?_)
  refine lv_iconst (v := nI 0) hx hb dX6_contentBytes_2 rfl ?_
  refine lv_istore_n (lv' := [(2, .int (nI 0)), (1, .int (nI 0)), (0, .ref t)]) hx hb dX6_contentBytes_3 rfl hl (by decide) rfl (fun ls hl => ?_)
  have lp_4 : ∀ (n_4 : Nat) (i : Nat) (b : Nat) (ls : Array Slot), (L.length - i) < n_4 → (i ≤ L.length) → (b = csum (L.take i)) → lv_has ls 4 [(0, .ref t), (1, .int (nI b)), (2, .int (nI i))] → W p l e ({ frames := 0, cells := 0, slots := 0, locals := 0 } : Room) s m args below meth c s.heap [] 0 0 Q (F0 m 4 ls []) := by
    intro n_4
    induction n_4 with
    | zero => intro i b ls h0; exact absurd h0 (Nat.not_lt_zero _)
    | succ n_4 ih_4 =>
      intro i b ls hm_4 hi hb9 hl
      refine lv_iload_n hx hb dX6_contentBytes_4 rfl (lv_at hl 2 rfl) ?_
      refine lv_aload_n hx hb dX6_contentBytes_5 rfl (lv_at hl 0 rfl) ?_
      refine xg (ci := 5) (C := RX6) (T := TX6) (N := 2) (v := .int (nI L.length)) hx hb hts inX6 hown hK hP hm1 rfl 1 (by decide) k_17 (fun _ h => h) rfl dX6_contentBytes_6 ?_
      refine nn_ge hx hb dX6_contentBytes_9 (tgt := 37) (by decide) (by omega) (by omega) (fun c_1 => ?_) (fun c_1 => ?_)
      · have hii : i = L.length := by omega
        refine lv_iload_n hx hb dX6_contentBytes_37 rfl (lv_at hl 1 rfl) ?_
        rw [hQ]
        exact pf_iret hx hb hr hlocks (by rw [hb9, hii, List.take_length]) dX6_contentBytes_38
      · refine lv_aload_n hx hb dX6_contentBytes_12 rfl (lv_at hl 0 rfl) ?_
        refine xg (ci := 5) (C := RX6) (T := TX6) (N := 2) (v := .ref r) hx hb hts inX6 hown hK hP hm1 rfl 0 (by decide) k_13 (fun _ h => h) rfl dX6_contentBytes_13 ?_
        refine lv_iload_n hx hb dX6_contentBytes_16 rfl (lv_at hl 2 rfl) ?_
        refine xq_ld (t0 := 2) hx hb hK hT2 hP hm2 (by omega) (by decide) dX6_contentBytes_17 ?_
        obtain ⟨a_2, ha_2, ga_2⟩ := hent i (by omega)
        refine nn_eqv (y := .ref a_2) (by rw [ha_2]; rfl) ?_
        obtain ⟨pae_3, cae_3, hme_3, hpae_3, hcae_3⟩ := id ga_2
        refine lv_astore_n (lv' := [(3, .ref a_2), (0, .ref t), (1, .int (nI b)), (2, .int (nI i))]) hx hb dX6_contentBytes_18 rfl hl (by decide) rfl (fun ls hl => ?_)
        refine lv_aload_n hx hb dX6_contentBytes_19 rfl (lv_at hl 0 rfl) ?_
        refine lv_ifnull hx hb dX6_contentBytes_20 ?_
        refine lv_iload_n hx hb dX6_contentBytes_23 rfl (lv_at hl 2 rfl) ?_
        refine lv_aload_n hx hb dX6_contentBytes_24 rfl (lv_at hl 0 rfl) ?_
        refine xg (ci := 1) (C := RX1) (T := TX1) (N := 5) (v := .ref cae_3) hx hb hts inX1 hown hK hP hme_3 rfl 4 (by decide) k_54 (fun _ h => h) rfl dX6_contentBytes_25 ?_
        refine xb_len hx hb hK hT0 hP hcae_3 dX6_contentBytes_28 ?_
        refine nn_add hx hb dX6_contentBytes_29 ?_
        refine lv_istore_n (lv' := [(1, .int (nI (b + ((ct (L.getD i e0)).length)))), (3, .ref a_2), (0, .ref t), (2, .int (nI i))]) hx hb dX6_contentBytes_30 rfl hl (by decide) rfl (fun ls hl => ?_)
        refine lv_iinc (v := nI (i + 1)) (lv' := [(2, .int (nI (i + 1))), (1, .int (nI (b + ((ct (L.getD i e0)).length)))), (3, .ref a_2), (0, .ref t)]) hx hb dX6_contentBytes_31 hl (k := 3) rfl (nI_add i 1) (by decide) rfl (fun ls hl => ?_)
        refine lv_goto (tgt := 4) hx hb dX6_contentBytes_34 (by decide) ?_
        exact ih_4 (i + 1) (b + ((ct (L.getD i e0)).length)) _ (by omega) (by omega) (by rw [csum_tk (by omega), hb9]) (lv_sub hl [3, 1, 0] rfl)
  exact lp_4 (((L.length - 0)) + 1) 0 0 _ (Nat.lt_succ_self _) (Nat.zero_le _) rfl (lv_sub hl [2, 1, 0] rfl)
set_option maxHeartbeats 4000000 in
set_option maxRecDepth 100000 in
theorem p_countBelow (l : Launch) {G : va_G} {tys : List (ClassId × FieldType)} {cB cI cE cS : ClassId} (hT : tys = [(cB, .byte), (cI, .int), (cE, .object RX1), (cS, .object RX4)]) {w : va_W} {t r : Nat} {f : Nat → Option Nat} {L : List En} (ht : tRep w cB cE t r f L) (k0 : Nat) (hk0 : k0 < L.length) : pMet l yX6_countBelow wsX6_countBelow ({ frames := 1, cells := 0, slots := 0, locals := 22 } : Room) G tys [.ref t, .int (nI k0)] w (fun r => r = .int (nI (cntB (L.getD k0 e0).1 (L.drop (k0 + 1))))) := by
  have hT0 : tys[0]? = some (cB, .byte) := by rw [hT]; rfl
  have hT2 : tys[2]? = some (cE, .object RX1) := by rw [hT]; rfl
  refine Met.ofW (cc := cX6_countBelow) (maxL := 6) (ret := (some .int)) (by decide) rfl ?_
  intro p e s m args below meth c s₁ B hml hv
  obtain ⟨hargs, hP, hK⟩ := hv
  have hx := B.exec
  have hb := B.bytes
  have hr := B.returns
  have hts := atoms_spec (ws := wsX6_countBelow) B.pre
  have hown : s.vm.findClass RX6 = some m.cls := findClass_of_methodNamed B.named
  have hlocks := B.notSynchronized
  have inX1 : ∀ w ∈ wsX10, w ∈ wsX6_countBelow := by decide +kernel
  have inX6 : ∀ w ∈ wsX60, w ∈ wsX6_countBelow := by decide +kernel
  have k_13 := hts (.fieldLink RX6 13 "MirrorKeep$Tree" "rows" "[LMirrorKeep$Entry;") (by decide +kernel)
  have k_17 := hts (.fieldLink RX6 17 "MirrorKeep$Tree" "count" "I") (by decide +kernel)
  have k_33 := hts (.fieldLink RX6 33 "MirrorKeep$Entry" "path" "[B") (by decide +kernel)
  obtain ⟨Q, hQ⟩ : ∃ Q : State → Prop, Q = MQ below (pQ (fun r => r = .int (nI (cntB (L.getD k0 e0).1 (L.drop (k0 + 1)))))) args s 0 0 (fun _ => False) := ⟨_, rfl⟩
  change W p l e ({ frames := 1, cells := 0, slots := 0, locals := 22 } : Room) s m args below meth c s.heap [] 0 0 (MQ below (pQ (fun r => r = .int (nI (cntB (L.getD k0 e0).1 (L.drop (k0 + 1)))))) args s 0 0 (fun _ => False)) (entryFrame m args 6)
  rw [← hQ]
  refine nn_entry hargs (Nat.le_of_ble_eq_true rfl) (lv := [(0, .ref t), (1, .int (nI k0))]) rfl (fun ls hl => ?_)
  obtain ⟨hm1, hm2, hl120, hent, hpl, hcs⟩ := id ht
  refine lv_aload_n hx hb dX6_countBelow_0 rfl (lv_at hl 0 rfl) ?_
  refine lv_iload_n hx hb dX6_countBelow_1 rfl (lv_at hl 1 rfl) ?_
  refine pf_callV (C := RX6) (As := [.int (nI k0)]) (rest := []) (p_tget l hT ht (nI k0)) ⟨hx, hb, hml, hown, hts⟩ (cwV 1 hts gX6_countBelow_X6_get rfl rfl rfl (by decide +kernel) ⟨Nat.le_of_ble_eq_true rfl, Nat.le_of_ble_eq_true rfl⟩) hK hP (xrecv (ci := 5) hK hP rfl hm1) rfl hl.1 rfl (Nat.le_of_ble_eq_true rfl) dX6_countBelow_2 ⟨Nat.le_of_ble_eq_true rfl, Nat.le_of_ble_eq_true rfl⟩ (fun r_1 hr_1 => ?_)
  rcases hr_1 with ⟨hr_1, rfl⟩ | ⟨k_2, a_3, hk_2, jk_2, rfl, ha_3, ga_3⟩
  · exact absurd (by rw [nI_toInt (by omega)]; omega) hr_1
  · have ek_2 : k_2 = k0 := ((nI_eq (by omega) (by omega)).mp hk_2).symm
    rw [ek_2] at jk_2 ha_3 ga_3
    obtain ⟨pae_5, cae_5, hme_5, hpae_5, hcae_5⟩ := id ga_3
    refine lv_astore_n (lv' := [(2, .ref a_3), (0, .ref t), (1, .int (nI k0))]) hx hb dX6_countBelow_5 rfl hl (by decide) rfl (fun ls hl => ?_)
    refine lv_aload_n hx hb dX6_countBelow_6 rfl (lv_at hl 0 rfl) ?_
    refine lv_ifnonnull hx hb dX6_countBelow_7 (tgt := 12) (by decide) ?_
    refine lv_iconst (v := nI 0) hx hb dX6_countBelow_12 rfl ?_
    refine lv_istore_n (lv' := [(3, .int (nI 0)), (2, .ref a_3), (0, .ref t), (1, .int (nI k0))]) hx hb dX6_countBelow_13 rfl hl (by decide) rfl (fun ls hl => ?_)
    refine lv_iload_n hx hb dX6_countBelow_14 rfl (lv_at hl 3 rfl) ?_
    refine lv_iconst (v := nI 1) hx hb dX6_countBelow_15 rfl ?_
    refine nn_add hx hb dX6_countBelow_16 ?_
    refine lv_istore (lv' := [(4, .int (nI (k0 + 1))), (3, .int (nI 0)), (2, .ref a_3), (0, .ref t), (1, .int (nI k0))]) hx hb dX6_countBelow_17 hl (by decide) rfl (fun ls hl => ?_)
    have lp_19 : ∀ (n_19 : Nat) (i : Nat) (n : Nat) (ls : Array Slot), (L.length - i) < n_19 → (k0 + 1 ≤ i) → (i ≤ L.length) → (n ≤ i) → (cntB (L.getD k0 e0).1 (L.drop (k0 + 1)) = n + cntB (L.getD k0 e0).1 (L.drop i)) → lv_has ls 6 [(0, .ref t), (1, .int (nI k0)), (2, .ref a_3), (3, .int (nI n)), (4, .int (nI i))] → W p l e ({ frames := 1, cells := 0, slots := 0, locals := 22 } : Room) s m args below meth c s.heap [] 0 0 Q (F0 m 19 ls []) := by
      intro n_19
      induction n_19 with
      | zero => intro i n ls h0; exact absurd h0 (Nat.not_lt_zero _)
      | succ n_19 ih_19 =>
        intro i n ls hm_19 hi hi2 hn hc9 hl
        refine lv_iload hx hb dX6_countBelow_19 (lv_at hl 4 rfl) ?_
        refine lv_aload_n hx hb dX6_countBelow_21 rfl (lv_at hl 0 rfl) ?_
        refine xg (ci := 5) (C := RX6) (T := TX6) (N := 2) (v := .int (nI L.length)) hx hb hts inX6 hown hK hP hm1 rfl 1 (by decide) k_17 (fun _ h => h) rfl dX6_countBelow_22 ?_
        refine nn_ge hx hb dX6_countBelow_25 (tgt := 69) (by decide) (by omega) (by omega) (fun c_6 => ?_) (fun c_6 => ?_)
        · refine lv_iload_n hx hb dX6_countBelow_69 rfl (lv_at hl 3 rfl) ?_
          rw [hQ]
          exact pf_iret hx hb hr hlocks (by rw [hc9]; first | (rw [List.drop_eq_nil_of_le (by omega)]; rfl) | (rw [dr_cons (d := e0) (by omega : i < L.length), cntB, if_neg (by rw [show blw2 (L.getD i e0).1 (L.getD k0 e0).1 = false by assumption]; decide)]; rfl)) dX6_countBelow_70
        · refine lv_aload_n hx hb dX6_countBelow_28 rfl (lv_at hl 0 rfl) ?_
          refine xg (ci := 5) (C := RX6) (T := TX6) (N := 2) (v := .ref r) hx hb hts inX6 hown hK hP hm1 rfl 0 (by decide) k_13 (fun _ h => h) rfl dX6_countBelow_29 ?_
          refine lv_iload hx hb dX6_countBelow_32 (lv_at hl 4 rfl) ?_
          refine xq_ld (t0 := 2) hx hb hK hT2 hP hm2 (by omega) (by decide) dX6_countBelow_34 ?_
          obtain ⟨a_7, ha_7, ga_7⟩ := hent i (by omega)
          refine nn_eqv (y := .ref a_7) (by rw [ha_7]; rfl) ?_
          obtain ⟨pae_8, cae_8, hme_8, hpae_8, hcae_8⟩ := id ga_7
          refine lv_astore (lv' := [(5, .ref a_7), (0, .ref t), (1, .int (nI k0)), (2, .ref a_3), (3, .int (nI n)), (4, .int (nI i))]) hx hb dX6_countBelow_35 hl (by decide) rfl (fun ls hl => ?_)
          refine lv_aload hx hb dX6_countBelow_37 (lv_at hl 0 rfl) ?_
          refine lv_ifnull hx hb dX6_countBelow_39 ?_
          refine lv_aload hx hb dX6_countBelow_42 (lv_at hl 0 rfl) ?_
          refine xg (ci := 1) (C := RX1) (T := TX1) (N := 5) (v := .ref pae_8) hx hb hts inX1 hown hK hP hme_8 rfl 0 (by decide) k_33 (fun _ h => h) rfl dX6_countBelow_44 ?_
          refine lv_aload_n hx hb dX6_countBelow_47 rfl (lv_at hl 3 rfl) ?_
          refine xg (ci := 1) (C := RX1) (T := TX1) (N := 5) (v := .ref pae_5) hx hb hts inX1 hown hK hP hme_5 rfl 0 (by decide) k_33 (fun _ h => h) rfl dX6_countBelow_48 ?_
          refine pf_callS (As := [.ref pae_8, .ref pae_5]) (rest := []) (p_isBelow l hT hpae_8 hpae_5) ⟨hx, hb, hml, hown, hts⟩ (va_cwS 2 hts gX6_countBelow_X3_isBelow rfl rfl rfl (by decide +kernel) ⟨Nat.le_of_ble_eq_true rfl, Nat.le_of_ble_eq_true rfl⟩) hK hP rfl hl.1 rfl (Nat.le_of_ble_eq_true rfl) dX6_countBelow_51 ⟨Nat.le_of_ble_eq_true rfl, Nat.le_of_ble_eq_true rfl⟩ (fun r_9 hr_9 => ?_)
          subst hr_9
          refine nb_ifne hx hb dX6_countBelow_54 (tgt := 60) (by decide) (fun c_10 => ?_) (fun c_10 => ?_)
          · refine lv_iinc (v := nI (n + 1)) (lv' := [(3, .int (nI (n + 1))), (5, .ref a_7), (0, .ref t), (1, .int (nI k0)), (2, .ref a_3), (4, .int (nI i))]) hx hb dX6_countBelow_60 hl (k := 4) rfl (nI_add n 1) (by decide) rfl (fun ls hl => ?_)
            refine lv_iinc (v := nI (i + 1)) (lv' := [(4, .int (nI (i + 1))), (3, .int (nI (n + 1))), (5, .ref a_7), (0, .ref t), (1, .int (nI k0)), (2, .ref a_3)]) hx hb dX6_countBelow_63 hl (k := 5) rfl (nI_add i 1) (by decide) rfl (fun ls hl => ?_)
            refine lv_goto (tgt := 19) hx hb dX6_countBelow_66 (by decide) ?_
            exact ih_19 (i + 1) (n + 1) _ (by omega) (by omega) (by omega) (by omega) (by rw [hc9, dr_cons (d := e0) (by omega : i < L.length), cntB, if_pos (by assumption)]; omega) (lv_sub hl [3, 4, 5, 1, 0] rfl)
          · refine lv_goto (tgt := 69) hx hb dX6_countBelow_57 (by decide) ?_
            refine lv_iload_n hx hb dX6_countBelow_69 rfl (lv_at hl 4 rfl) ?_
            rw [hQ]
            exact pf_iret hx hb hr hlocks (by rw [hc9]; first | (rw [List.drop_eq_nil_of_le (by omega)]; rfl) | (rw [dr_cons (d := e0) (by omega : i < L.length), cntB, if_neg (by rw [show blw2 (L.getD i e0).1 (L.getD k0 e0).1 = false by assumption]; decide)]; rfl)) dX6_countBelow_70
    exact lp_19 (((L.length - (k0 + 1))) + 1) (k0 + 1) 0 _ (Nat.lt_succ_self _) (Nat.le_refl _) (by omega) (Nat.zero_le _) (by omega) (lv_sub hl [3, 4, 2, 1, 0] rfl)
set_option maxHeartbeats 4000000 in
set_option maxRecDepth 100000 in
theorem p_hasContent (l : Launch) {G : va_G} {tys : List (ClassId × FieldType)} {cB cI cE cS : ClassId} (hT : tys = [(cB, .byte), (cI, .int), (cE, .object RX1), (cS, .object RX4)]) {w : va_W} {a : Nat} {u : En} (he : pEnt w cB a u) {a1 : Nat} {P1 : List Nat} (ha : bArr w cB a1 P1) : pMet l yX1_hasContent wsX1_hasContent ({ frames := 0, cells := 0, slots := 0, locals := 0 } : Room) G tys [.ref a, .ref a1] w (fun r => r = .int (bI (decide (ct u = P1)))) := by
  have hT0 : tys[0]? = some (cB, .byte) := by rw [hT]; rfl
  refine Met.ofW (cc := cX1_hasContent) (maxL := 3) (ret := (some .boolean)) (by decide) rfl ?_
  intro p e s m args below meth c s₁ B hml hv
  obtain ⟨hargs, hP, hK⟩ := hv
  have hx := B.exec
  have hb := B.bytes
  have hr := B.returns
  have hts := atoms_spec (ws := wsX1_hasContent) B.pre
  have hown : s.vm.findClass RX1 = some m.cls := findClass_of_methodNamed B.named
  have hlocks := B.notSynchronized
  have inX1 : ∀ w ∈ wsX10, w ∈ wsX1_hasContent := by decide +kernel
  have k_23 := hts (.fieldLink RX1 23 "MirrorKeep$Entry" "content" "[B") (by decide +kernel)
  obtain ⟨Q, hQ⟩ : ∃ Q : State → Prop, Q = MQ below (pQ (fun r => r = .int (bI (decide (ct u = P1))))) args s 0 0 (fun _ => False) := ⟨_, rfl⟩
  change W p l e ({ frames := 0, cells := 0, slots := 0, locals := 0 } : Room) s m args below meth c s.heap [] 0 0 (MQ below (pQ (fun r => r = .int (bI (decide (ct u = P1))))) args s 0 0 (fun _ => False)) (entryFrame m args 3)
  rw [← hQ]
  refine nn_entry hargs (Nat.le_of_ble_eq_true rfl) (lv := [(0, .ref a), (1, .ref a1)]) rfl (fun ls hl => ?_)
  obtain ⟨pae_1, cae_1, hme_1, hpae_1, hcae_1⟩ := id he
  have hla := ha.len
  have hlu := (hcae_1).len
  refine lv_aload_n hx hb dX1_hasContent_0 rfl (lv_at hl 0 rfl) ?_
  refine xg (ci := 1) (C := RX1) (T := TX1) (N := 5) (v := .ref cae_1) hx hb hts inX1 hown hK hP hme_1 rfl 4 (by decide) k_23 (fun _ h => h) rfl dX1_hasContent_1 ?_
  refine xb_len hx hb hK hT0 hP hcae_1 dX1_hasContent_4 ?_
  refine lv_aload_n hx hb dX1_hasContent_5 rfl (lv_at hl 1 rfl) ?_
  refine xb_len hx hb hK hT0 hP ha dX1_hasContent_6 ?_
  refine nn_eq hx hb dX1_hasContent_7 (tgt := 12) (by decide) (by omega) (by omega) (fun c_2 => ?_) (fun c_2 => ?_)
  · refine lv_iconst (v := nI 0) hx hb dX1_hasContent_12 rfl ?_
    refine lv_istore_n (lv' := [(2, .int (nI 0)), (0, .ref a), (1, .ref a1)]) hx hb dX1_hasContent_13 rfl hl (by decide) rfl (fun ls hl => ?_)
    have lp_14 : ∀ (n_14 : Nat) (k : Nat) (ls : Array Slot), ((ct u).length - k) < n_14 → (k ≤ (ct u).length) → (∀ j, j < k → (ct u).getD j 0 = P1.getD j 0) → lv_has ls 3 [(2, .int (nI k)), (0, .ref a), (1, .ref a1)] → W p l e ({ frames := 0, cells := 0, slots := 0, locals := 0 } : Room) s m args below meth c s.heap [] 0 0 Q (F0 m 14 ls []) := by
      intro n_14
      induction n_14 with
      | zero => intro k ls h0; exact absurd h0 (Nat.not_lt_zero _)
      | succ n_14 ih_14 =>
        intro k ls hm_14 hk hj hl
        refine lv_iload_n hx hb dX1_hasContent_14 rfl (lv_at hl 0 rfl) ?_
        refine lv_aload_n hx hb dX1_hasContent_15 rfl (lv_at hl 1 rfl) ?_
        refine xg (ci := 1) (C := RX1) (T := TX1) (N := 5) (v := .ref cae_1) hx hb hts inX1 hown hK hP hme_1 rfl 4 (by decide) k_23 (fun _ h => h) rfl dX1_hasContent_16 ?_
        refine xb_len hx hb hK hT0 hP hcae_1 dX1_hasContent_19 ?_
        refine nn_ge hx hb dX1_hasContent_20 (tgt := 43) (by decide) (by omega) (by omega) (fun c_3 => ?_) (fun c_3 => ?_)
        · refine lv_iconst (v := bI true) hx hb dX1_hasContent_43 rfl ?_
          rw [hQ]
          exact pf_zret hx hb hr hlocks (bI_01 _) (congrArg (fun b => Value.int (bI b)) (decide_eq_true (gd_ext 0 (by omega) (fun j hj9 => hj j (by omega)))).symm) dX1_hasContent_44
        · refine lv_aload_n hx hb dX1_hasContent_23 rfl (lv_at hl 1 rfl) ?_
          refine xg (ci := 1) (C := RX1) (T := TX1) (N := 5) (v := .ref cae_1) hx hb hts inX1 hown hK hP hme_1 rfl 4 (by decide) k_23 (fun _ h => h) rfl dX1_hasContent_24 ?_
          refine lv_iload_n hx hb dX1_hasContent_27 rfl (lv_at hl 0 rfl) ?_
          refine xb_ld hx hb hK hT0 hP hcae_1 (by omega) dX1_hasContent_28 ?_
          have hb_4 : (ct u).getD k 0 < 256 := bArr.lt hcae_1 (by omega)
          have gb_4 := sbi_or ((ct u).getD k 0)
          refine lv_aload_n hx hb dX1_hasContent_29 rfl (lv_at hl 2 rfl) ?_
          refine lv_iload_n hx hb dX1_hasContent_30 rfl (lv_at hl 0 rfl) ?_
          refine xb_ld hx hb hK hT0 hP ha (by omega) dX1_hasContent_31 ?_
          have hb_5 : P1.getD k 0 < 256 := bArr.lt ha (by omega)
          have gb_5 := sbi_or (P1.getD k 0)
          refine zc_eq hx hb (sb_toInt hb_4) (sb_toInt hb_5) dX1_hasContent_32 (tgt := 37) (by decide) (fun c_6 => ?_) (fun c_6 => ?_)
          · refine lv_iinc (v := nI (k + 1)) (lv' := [(2, .int (nI (k + 1))), (0, .ref a), (1, .ref a1)]) hx hb dX1_hasContent_37 hl (k := 0) rfl (nI_add k 1) (by decide) rfl (fun ls hl => ?_)
            refine lv_goto (tgt := 14) hx hb dX1_hasContent_40 (by decide) ?_
            exact ih_14 (k + 1) _ (by omega) (by omega) (lt_s (p := fun j => (ct u).getD j 0 = P1.getD j 0) hj (by omega)) (lv_sub hl [0, 1, 2] rfl)
          · refine lv_iconst (v := bI false) hx hb dX1_hasContent_35 rfl ?_
            rw [hQ]
            exact pf_zret hx hb hr hlocks (bI_01 _) (congrArg (fun b => Value.int (bI b)) (decide_eq_false (fun q => absurd (congrArg (fun X => X.getD k 0) q) (by show ¬ (ct u).getD k 0 = P1.getD k 0; omega))).symm) dX1_hasContent_36
    exact lp_14 ((((ct u).length - 0)) + 1) 0 _ (Nat.lt_succ_self _) (Nat.zero_le _) (fun j h => absurd h (Nat.not_lt_zero _)) (lv_sub hl [0, 1, 2] rfl)
  · refine lv_iconst (v := bI false) hx hb dX1_hasContent_10 rfl ?_
    rw [hQ]
    exact pf_zret hx hb hr hlocks (bI_01 _) (congrArg (fun b => Value.int (bI b)) (decide_eq_false (fun q => absurd (congrArg List.length q) (by omega))).symm) dX1_hasContent_11
set_option maxHeartbeats 4000000 in
set_option maxRecDepth 100000 in
theorem p_isLike (l : Launch) {G : va_G} {tys : List (ClassId × FieldType)} {cB cI cE cS : ClassId} (hT : tys = [(cB, .byte), (cI, .int), (cE, .object RX1), (cS, .object RX4)]) {w : va_W} {a : Nat} {u : En} (he : pEnt w cB a u) {b : Nat} {v : En} (he2 : pEnt w cB b v) : pMet l yX1_isLike wsX1_isLike ({ frames := 1, cells := 0, slots := 0, locals := 22 } : Room) G tys [.ref a, .ref b] w (fun r => r = .int (bI (decide (u.2 = v.2)))) := by
  have hT0 : tys[0]? = some (cB, .byte) := by rw [hT]; rfl
  refine Met.ofW (cc := cX1_isLike) (maxL := 2) (ret := (some .boolean)) (by decide) rfl ?_
  intro p e s m args below meth c s₁ B hml hv
  obtain ⟨hargs, hP, hK⟩ := hv
  have hx := B.exec
  have hb := B.bytes
  have hr := B.returns
  have hts := atoms_spec (ws := wsX1_isLike) B.pre
  have hown : s.vm.findClass RX1 = some m.cls := findClass_of_methodNamed B.named
  have hlocks := B.notSynchronized
  have inX1 : ∀ w ∈ wsX10, w ∈ wsX1_isLike := by decide +kernel
  have k_13 := hts (.fieldLink RX1 13 "MirrorKeep$Entry" "kind" "I") (by decide +kernel)
  have k_17 := hts (.fieldLink RX1 17 "MirrorKeep$Entry" "mode" "I") (by decide +kernel)
  have k_20 := hts (.fieldLink RX1 20 "MirrorKeep$Entry" "time" "I") (by decide +kernel)
  have k_23 := hts (.fieldLink RX1 23 "MirrorKeep$Entry" "content" "[B") (by decide +kernel)
  obtain ⟨Q, hQ⟩ : ∃ Q : State → Prop, Q = MQ below (pQ (fun r => r = .int (bI (decide (u.2 = v.2))))) args s 0 0 (fun _ => False) := ⟨_, rfl⟩
  change W p l e ({ frames := 1, cells := 0, slots := 0, locals := 22 } : Room) s m args below meth c s.heap [] 0 0 (MQ below (pQ (fun r => r = .int (bI (decide (u.2 = v.2))))) args s 0 0 (fun _ => False)) (entryFrame m args 2)
  rw [← hQ]
  refine nn_entry hargs (Nat.le_of_ble_eq_true rfl) (lv := [(0, .ref a), (1, .ref b)]) rfl (fun ls hl => ?_)
  obtain ⟨pae_1, cae_1, hme_1, hpae_1, hcae_1⟩ := id he
  obtain ⟨pae_2, cae_2, hme_2, hpae_2, hcae_2⟩ := id he2
  refine lv_aload_n hx hb dX1_isLike_0 rfl (lv_at hl 0 rfl) ?_
  refine xg (ci := 1) (C := RX1) (T := TX1) (N := 5) (v := .int u.2.1) hx hb hts inX1 hown hK hP hme_1 rfl 1 (by decide) k_13 (fun _ h => h) rfl dX1_isLike_1 ?_
  refine lv_aload_n hx hb dX1_isLike_4 rfl (lv_at hl 1 rfl) ?_
  refine xg (ci := 1) (C := RX1) (T := TX1) (N := 5) (v := .int v.2.1) hx hb hts inX1 hown hK hP hme_2 rfl 1 (by decide) k_13 (fun _ h => h) rfl dX1_isLike_5 ?_
  refine lv_icmp_ne (tgt := 48) hx hb dX1_isLike_8 (by decide) (fun c_3 => ?_) (fun c_3 => ?_)
  · refine lv_iconst (v := bI false) hx hb dX1_isLike_48 rfl ?_
    rw [hQ]
    exact pf_zret hx hb hr hlocks (bI_01 _) (congrArg (fun b => Value.int (bI b)) (decide_eq_false (fun q => by first | exact absurd (congrArg (fun z => z.1) q) (by assumption) | exact absurd (congrArg (fun z => z.2.1) q) (by assumption) | exact absurd (congrArg (fun z => z.2.2.1) q) (by assumption) | exact absurd (congrArg (fun z => z.2.2.2) q) (of_decide_eq_false (by assumption)))).symm) dX1_isLike_49
  · refine lv_aload_n hx hb dX1_isLike_11 rfl (lv_at hl 0 rfl) ?_
    refine xg (ci := 1) (C := RX1) (T := TX1) (N := 5) (v := .int u.2.2.1) hx hb hts inX1 hown hK hP hme_1 rfl 2 (by decide) k_17 (fun _ h => h) rfl dX1_isLike_12 ?_
    refine lv_aload_n hx hb dX1_isLike_15 rfl (lv_at hl 1 rfl) ?_
    refine xg (ci := 1) (C := RX1) (T := TX1) (N := 5) (v := .int v.2.2.1) hx hb hts inX1 hown hK hP hme_2 rfl 2 (by decide) k_17 (fun _ h => h) rfl dX1_isLike_16 ?_
    refine lv_icmp_ne (tgt := 48) hx hb dX1_isLike_19 (by decide) (fun c_4 => ?_) (fun c_4 => ?_)
    · refine lv_iconst (v := bI false) hx hb dX1_isLike_48 rfl ?_
      rw [hQ]
      exact pf_zret hx hb hr hlocks (bI_01 _) (congrArg (fun b => Value.int (bI b)) (decide_eq_false (fun q => by first | exact absurd (congrArg (fun z => z.1) q) (by assumption) | exact absurd (congrArg (fun z => z.2.1) q) (by assumption) | exact absurd (congrArg (fun z => z.2.2.1) q) (by assumption) | exact absurd (congrArg (fun z => z.2.2.2) q) (of_decide_eq_false (by assumption)))).symm) dX1_isLike_49
    · refine lv_aload_n hx hb dX1_isLike_22 rfl (lv_at hl 0 rfl) ?_
      refine xg (ci := 1) (C := RX1) (T := TX1) (N := 5) (v := .int u.2.2.2.1) hx hb hts inX1 hown hK hP hme_1 rfl 3 (by decide) k_20 (fun _ h => h) rfl dX1_isLike_23 ?_
      refine lv_aload_n hx hb dX1_isLike_26 rfl (lv_at hl 1 rfl) ?_
      refine xg (ci := 1) (C := RX1) (T := TX1) (N := 5) (v := .int v.2.2.2.1) hx hb hts inX1 hown hK hP hme_2 rfl 3 (by decide) k_20 (fun _ h => h) rfl dX1_isLike_27 ?_
      refine lv_icmp_ne (tgt := 48) hx hb dX1_isLike_30 (by decide) (fun c_5 => ?_) (fun c_5 => ?_)
      · refine lv_iconst (v := bI false) hx hb dX1_isLike_48 rfl ?_
        rw [hQ]
        exact pf_zret hx hb hr hlocks (bI_01 _) (congrArg (fun b => Value.int (bI b)) (decide_eq_false (fun q => by first | exact absurd (congrArg (fun z => z.1) q) (by assumption) | exact absurd (congrArg (fun z => z.2.1) q) (by assumption) | exact absurd (congrArg (fun z => z.2.2.1) q) (by assumption) | exact absurd (congrArg (fun z => z.2.2.2) q) (of_decide_eq_false (by assumption)))).symm) dX1_isLike_49
      · refine lv_aload_n hx hb dX1_isLike_33 rfl (lv_at hl 0 rfl) ?_
        refine lv_aload_n hx hb dX1_isLike_34 rfl (lv_at hl 1 rfl) ?_
        refine xg (ci := 1) (C := RX1) (T := TX1) (N := 5) (v := .ref cae_2) hx hb hts inX1 hown hK hP hme_2 rfl 4 (by decide) k_23 (fun _ h => h) rfl dX1_isLike_35 ?_
        refine pf_callV (C := RX1) (As := [.ref cae_2]) (rest := []) (p_hasContent l hT he hcae_2) ⟨hx, hb, hml, hown, hts⟩ (cwV 1 hts gX1_isLike_X1_hasContent rfl rfl rfl (by decide +kernel) ⟨Nat.le_of_ble_eq_true rfl, Nat.le_of_ble_eq_true rfl⟩) hK hP (xrecv (ci := 1) hK hP rfl hme_1) rfl hl.1 rfl (Nat.le_of_ble_eq_true rfl) dX1_isLike_38 ⟨Nat.le_of_ble_eq_true rfl, Nat.le_of_ble_eq_true rfl⟩ (fun r_6 hr_6 => ?_)
        subst hr_6
        refine nb_ifeq hx hb dX1_isLike_41 (tgt := 48) (by decide) (fun c_7 => ?_) (fun c_7 => ?_)
        · refine lv_iconst (v := bI false) hx hb dX1_isLike_48 rfl ?_
          rw [hQ]
          exact pf_zret hx hb hr hlocks (bI_01 _) (congrArg (fun b => Value.int (bI b)) (decide_eq_false (fun q => by first | exact absurd (congrArg (fun z => z.1) q) (by assumption) | exact absurd (congrArg (fun z => z.2.1) q) (by assumption) | exact absurd (congrArg (fun z => z.2.2.1) q) (by assumption) | exact absurd (congrArg (fun z => z.2.2.2) q) (of_decide_eq_false (by assumption)))).symm) dX1_isLike_49
        · refine lv_iconst (v := bI true) hx hb dX1_isLike_44 rfl ?_
          refine lv_goto (tgt := 49) hx hb dX1_isLike_45 (by decide) ?_
          rw [hQ]
          exact pf_zret hx hb hr hlocks (bI_01 _) (congrArg (fun b => Value.int (bI b)) (decide_eq_true (like_t (by assumption) (by assumption) (by assumption) (of_decide_eq_true (by assumption)))).symm) dX1_isLike_49
