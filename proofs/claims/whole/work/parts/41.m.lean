set_option maxHeartbeats 4000000 in
set_option maxRecDepth 100000 in
theorem p_isName (l : Launch) {G : va_G} {tys : List (ClassId × FieldType)} {cB cI cE cS : ClassId} (hT : tys = [(cB, .byte), (cI, .int), (cE, .object RX1), (cS, .object RX4)]) {w : va_W} {a1 : Nat} {P1 : List Nat} (ha : bArr w cB a1 P1) (fm to : Nat) (hft : fm ≤ to) (hto : to ≤ P1.length) : pMet l yX3_isName wsX3_isName ({ frames := 0, cells := 0, slots := 0, locals := 0 } : Room) G tys [.ref a1, .int (nI fm), .int (nI to)] w (fun r => r = .int (bI (nmOK (pc3 P1 fm to)))) := by
  have hT0 : tys[0]? = some (cB, .byte) := by rw [hT]; rfl
  refine Met.ofW (cc := cX3_isName) (maxL := 6) (ret := (some .boolean)) (by decide) rfl ?_
  intro p e s m args below meth c s₁ B hml hv
  obtain ⟨hargs, hP, hK⟩ := hv
  have hx := B.exec
  have hb := B.bytes
  have hr := B.returns
  have hts := atoms_spec (ws := wsX3_isName) B.pre
  have hown : s.vm.findClass RX3 = some m.cls := findClass_of_methodNamed B.named
  have hlocks := B.notSynchronized
  obtain ⟨Q, hQ⟩ : ∃ Q : State → Prop, Q = MQ below (pQ (fun r => r = .int (bI (nmOK (pc3 P1 fm to))))) args s 0 0 (fun _ => False) := ⟨_, rfl⟩
  change W p l e ({ frames := 0, cells := 0, slots := 0, locals := 0 } : Room) s m args below meth c s.heap [] 0 0 (MQ below (pQ (fun r => r = .int (bI (nmOK (pc3 P1 fm to))))) args s 0 0 (fun _ => False)) (entryFrame m args 6)
  rw [← hQ]
  refine nn_entry hargs (Nat.le_of_ble_eq_true rfl) (lv := [(0, .ref a1), (1, .int (nI fm)), (2, .int (nI to))]) rfl (fun ls hl => ?_)
  have hla := ha.len
  have hpl : (pc3 P1 fm to).length = to - fm := pc3_len hto
  refine lv_iload_n hx hb dX3_isName_0 rfl (lv_at hl 2 rfl) ?_
  refine lv_iload_n hx hb dX3_isName_1 rfl (lv_at hl 1 rfl) ?_
  refine nn_sub hx hb (by omega) dX3_isName_2 ?_
  refine lv_istore_n (lv' := [(3, .int (nI (to - fm))), (0, .ref a1), (1, .int (nI fm)), (2, .int (nI to))]) hx hb dX3_isName_3 rfl hl (by decide) rfl (fun ls hl => ?_)
  refine lv_iload_n hx hb dX3_isName_4 rfl (lv_at hl 2 rfl) ?_
  refine nz_lt hx hb dX3_isName_5 (tgt := 25) (by decide) (by omega) (fun c_1 => ?_) (fun c_1 => ?_)
  · exact absurd c_1 (Nat.not_lt_zero _)
  · refine lv_iload_n hx hb dX3_isName_8 rfl (lv_at hl 3 rfl) ?_
    refine lv_aload_n hx hb dX3_isName_9 rfl (lv_at hl 1 rfl) ?_
    refine xb_len hx hb hK hT0 hP ha dX3_isName_10 ?_
    refine nn_gt hx hb dX3_isName_11 (tgt := 25) (by decide) (by omega) (by omega) (fun c_2 => ?_) (fun c_2 => ?_)
    · refine lv_iconst (v := bI false) hx hb dX3_isName_25 rfl ?_
      rw [hQ]
      exact pf_zret hx hb hr hlocks (bI_01 _) (congrArg (fun b => Value.int (bI b)) (nmOK_no (by omega)).symm) dX3_isName_26
    · refine lv_iload_n hx hb dX3_isName_14 rfl (lv_at hl 0 rfl) ?_
      refine lv_iconst (v := nI 1) hx hb dX3_isName_15 rfl ?_
      refine nn_lt hx hb dX3_isName_16 (tgt := 25) (by decide) (by omega) (by omega) (fun c_3 => ?_) (fun c_3 => ?_)
      · refine lv_iconst (v := bI false) hx hb dX3_isName_25 rfl ?_
        rw [hQ]
        exact pf_zret hx hb hr hlocks (bI_01 _) (congrArg (fun b => Value.int (bI b)) (nmOK_no (by omega)).symm) dX3_isName_26
      · refine lv_iload_n hx hb dX3_isName_19 rfl (lv_at hl 0 rfl) ?_
        refine lv_bipush (v := nI 24) hx hb dX3_isName_20 (by decide) ?_
        refine nn_le hx hb dX3_isName_22 (tgt := 27) (by decide) (by omega) (by omega) (fun c_4 => ?_) (fun c_4 => ?_)
        · refine lv_iconst (v := nI 0) hx hb dX3_isName_27 rfl ?_
          refine lv_istore (lv' := [(4, .int (nI 0)), (3, .int (nI (to - fm))), (0, .ref a1), (1, .int (nI fm)), (2, .int (nI to))]) hx hb dX3_isName_28 hl (by decide) rfl (fun ls hl => ?_)
          refine lv_iload_n hx hb dX3_isName_30 rfl (lv_at hl 3 rfl) ?_
          refine lv_istore (lv' := [(5, .int (nI fm)), (4, .int (nI 0)), (3, .int (nI (to - fm))), (0, .ref a1), (1, .int (nI fm)), (2, .int (nI to))]) hx hb dX3_isName_31 hl (by decide) rfl (fun ls hl => ?_)
          have lp_33 : ∀ (n_33 : Nat) (i : Nat) (dt : Nat) (ls : Array Slot), (to - i) < n_33 → (fm ≤ i) → (i ≤ to) → (dt ≤ i - fm) → (dt = i - fm ↔ ∀ j, fm ≤ j → j < i → P1.getD j 0 = 46) → (∀ j, fm ≤ j → j < i → P1.getD j 0 ≠ 0) → lv_has ls 6 [(0, .ref a1), (1, .int (nI fm)), (2, .int (nI to)), (3, .int (nI (to - fm))), (4, .int (nI dt)), (5, .int (nI i))] → W p l e ({ frames := 0, cells := 0, slots := 0, locals := 0 } : Room) s m args below meth c s.heap [] 0 0 Q (F0 m 33 ls []) := by
            intro n_33
            induction n_33 with
            | zero => intro i dt ls h0; exact absurd h0 (Nat.not_lt_zero _)
            | succ n_33 ih_33 =>
              intro i dt ls hm_33 hi hi2 hdl hd hz hl
              refine lv_iload hx hb dX3_isName_33 (lv_at hl 5 rfl) ?_
              refine lv_iload_n hx hb dX3_isName_35 rfl (lv_at hl 2 rfl) ?_
              refine nn_ge hx hb dX3_isName_36 (tgt := 66) (by decide) (by omega) (by omega) (fun c_5 => ?_) (fun c_5 => ?_)
              · refine lv_iload hx hb dX3_isName_66 (lv_at hl 4 rfl) ?_
                refine lv_iload_n hx hb dX3_isName_68 rfl (lv_at hl 3 rfl) ?_
                refine nn_lt hx hb dX3_isName_69 (tgt := 77) (by decide) (by omega) (by omega) (fun c_6 => ?_) (fun c_6 => ?_)
                · refine lv_iconst (v := bI true) hx hb dX3_isName_77 rfl ?_
                  refine lv_goto (tgt := 82) hx hb dX3_isName_78 (by decide) ?_
                  rw [hQ]
                  exact pf_zret hx hb hr hlocks (bI_01 _) (congrArg (fun b => Value.int (bI b)) (by rw [nm_cls hft hto (by omega) (by omega) hdl hd hz (by omega)]; exact (decide_eq_true (by omega)).symm)) dX3_isName_82
                · refine lv_iload_n hx hb dX3_isName_72 rfl (lv_at hl 3 rfl) ?_
                  refine lv_iconst (v := nI 2) hx hb dX3_isName_73 rfl ?_
                  refine nn_le hx hb dX3_isName_74 (tgt := 81) (by decide) (by omega) (by omega) (fun c_7 => ?_) (fun c_7 => ?_)
                  · refine lv_iconst (v := bI false) hx hb dX3_isName_81 rfl ?_
                    rw [hQ]
                    exact pf_zret hx hb hr hlocks (bI_01 _) (congrArg (fun b => Value.int (bI b)) (by rw [nm_cls hft hto (by omega) (by omega) hdl hd hz (by omega)]; exact (decide_eq_false (by omega)).symm)) dX3_isName_82
                  · refine lv_iconst (v := bI true) hx hb dX3_isName_77 rfl ?_
                    refine lv_goto (tgt := 82) hx hb dX3_isName_78 (by decide) ?_
                    rw [hQ]
                    exact pf_zret hx hb hr hlocks (bI_01 _) (congrArg (fun b => Value.int (bI b)) (by rw [nm_cls hft hto (by omega) (by omega) hdl hd hz (by omega)]; exact (decide_eq_true (by omega)).symm)) dX3_isName_82
              · refine lv_aload_n hx hb dX3_isName_39 rfl (lv_at hl 0 rfl) ?_
                refine lv_iload hx hb dX3_isName_40 (lv_at hl 5 rfl) ?_
                refine xb_ld hx hb hK hT0 hP ha (by omega) dX3_isName_42 ?_
                have hb_8 : P1.getD i 0 < 256 := bArr.lt ha (by omega)
                have gb_8 := sbi_or (P1.getD i 0)
                refine zi_ne hx hb (sb_toInt hb_8) dX3_isName_43 (tgt := 48) (by decide) (fun c_9 => ?_) (fun c_9 => ?_)
                · refine lv_aload_n hx hb dX3_isName_48 rfl (lv_at hl 0 rfl) ?_
                  refine lv_iload hx hb dX3_isName_49 (lv_at hl 5 rfl) ?_
                  refine xb_ld hx hb hK hT0 hP ha (by omega) dX3_isName_51 ?_
                  have hb_10 : P1.getD i 0 < 256 := bArr.lt ha (by omega)
                  have gb_10 := sbi_or (P1.getD i 0)
                  refine lv_bipush (v := nI 46) hx hb dX3_isName_52 (by decide) ?_
                  refine zc_ne hx hb (sb_toInt hb_10) (nI_toInt (by omega)) dX3_isName_54 (tgt := 60) (by decide) (fun c_11 => ?_) (fun c_11 => ?_)
                  · refine lv_iinc (v := nI (i + 1)) (lv' := [(5, .int (nI (i + 1))), (0, .ref a1), (1, .int (nI fm)), (2, .int (nI to)), (3, .int (nI (to - fm))), (4, .int (nI dt))]) hx hb dX3_isName_60 hl (k := 5) rfl (nI_add i 1) (by decide) rfl (fun ls hl => ?_)
                    refine lv_goto (tgt := 33) hx hb dX3_isName_63 (by decide) ?_
                    exact ih_33 (i + 1) dt _ (by omega) (by omega) (by omega) (by omega) ⟨fun h => absurd h (by omega), fun h => absurd (h i (by omega) (by omega)) (by omega)⟩ (fun j h1 h2 => by rcases Nat.lt_succ_iff_lt_or_eq.mp h2 with h3 | h3; exact hz j h1 h3; subst h3; omega) (lv_sub hl [1, 2, 3, 4, 5, 0] rfl)
                  · refine lv_iinc (v := nI (dt + 1)) (lv' := [(4, .int (nI (dt + 1))), (0, .ref a1), (1, .int (nI fm)), (2, .int (nI to)), (3, .int (nI (to - fm))), (5, .int (nI i))]) hx hb dX3_isName_57 hl (k := 4) rfl (nI_add dt 1) (by decide) rfl (fun ls hl => ?_)
                    refine lv_iinc (v := nI (i + 1)) (lv' := [(5, .int (nI (i + 1))), (4, .int (nI (dt + 1))), (0, .ref a1), (1, .int (nI fm)), (2, .int (nI to)), (3, .int (nI (to - fm)))]) hx hb dX3_isName_60 hl (k := 5) rfl (nI_add i 1) (by decide) rfl (fun ls hl => ?_)
                    refine lv_goto (tgt := 33) hx hb dX3_isName_63 (by decide) ?_
                    exact ih_33 (i + 1) (dt + 1) _ (by omega) (by omega) (by omega) (by omega) ⟨fun h j h1 h2 => by rcases Nat.lt_succ_iff_lt_or_eq.mp h2 with h3 | h3; exact hd.mp (by omega) j h1 h3; subst h3; omega, fun h => by have := hd.mpr (fun j h1 h2 => h j h1 (by omega)); omega⟩ (fun j h1 h2 => by rcases Nat.lt_succ_iff_lt_or_eq.mp h2 with h3 | h3; exact hz j h1 h3; subst h3; omega) (lv_sub hl [2, 3, 4, 5, 1, 0] rfl)
                · refine lv_iconst (v := bI false) hx hb dX3_isName_46 rfl ?_
                  rw [hQ]
                  exact pf_zret hx hb hr hlocks (bI_01 _) (congrArg (fun b => Value.int (bI b)) (nm_zero hto (by omega) (by omega) (by omega)).symm) dX3_isName_47
          exact lp_33 (((to - fm)) + 1) fm 0 _ (Nat.lt_succ_self _) (Nat.le_refl _) (by omega) (Nat.zero_le _) ⟨fun _ j h1 h2 => absurd h2 (by omega), fun _ => by omega⟩ (fun j h1 h2 => absurd h2 (by omega)) (lv_sub hl [3, 4, 5, 2, 1, 0] rfl)
        · refine lv_iconst (v := bI false) hx hb dX3_isName_25 rfl ?_
          rw [hQ]
          exact pf_zret hx hb hr hlocks (bI_01 _) (congrArg (fun b => Value.int (bI b)) (nmOK_no (by omega)).symm) dX3_isName_26
set_option maxHeartbeats 4000000 in
set_option maxRecDepth 100000 in
theorem p_isPath (l : Launch) {G : va_G} {tys : List (ClassId × FieldType)} {cB cI cE cS : ClassId} (hT : tys = [(cB, .byte), (cI, .int), (cE, .object RX1), (cS, .object RX4)]) {w : va_W} {a1 : Nat} {P1 : List Nat} (ha : bArr w cB a1 P1) (hlen : P1.length < 2 ^ 30) : pMet l yX3_isPath wsX3_isPath ({ frames := 1, cells := 0, slots := 0, locals := 25 } : Room) G tys [.ref a1] w (fun r => r = .int (bI (pathOK P1))) := by
  have hT0 : tys[0]? = some (cB, .byte) := by rw [hT]; rfl
  refine Met.ofW (cc := cX3_isPath) (maxL := 4) (ret := (some .boolean)) (by decide) rfl ?_
  intro p e s m args below meth c s₁ B hml hv
  obtain ⟨hargs, hP, hK⟩ := hv
  have hx := B.exec
  have hb := B.bytes
  have hr := B.returns
  have hts := atoms_spec (ws := wsX3_isPath) B.pre
  have hown : s.vm.findClass RX3 = some m.cls := findClass_of_methodNamed B.named
  have hlocks := B.notSynchronized
  obtain ⟨Q, hQ⟩ : ∃ Q : State → Prop, Q = MQ below (pQ (fun r => r = .int (bI (pathOK P1)))) args s 0 0 (fun _ => False) := ⟨_, rfl⟩
  change W p l e ({ frames := 1, cells := 0, slots := 0, locals := 25 } : Room) s m args below meth c s.heap [] 0 0 (MQ below (pQ (fun r => r = .int (bI (pathOK P1)))) args s 0 0 (fun _ => False)) (entryFrame m args 4)
  rw [← hQ]
  refine nn_entry hargs (Nat.le_of_ble_eq_true rfl) (lv := [(0, .ref a1)]) rfl (fun ls hl => ?_)
  refine lv_iconst (v := nI 0) hx hb dX3_isPath_0 rfl ?_
  refine lv_istore_n (lv' := [(1, .int (nI 0)), (0, .ref a1)]) hx hb dX3_isPath_1 rfl hl (by decide) rfl (fun ls hl => ?_)
  refine lv_iconst (v := nI 0) hx hb dX3_isPath_2 rfl ?_
  refine lv_istore_n (lv' := [(2, .int (nI 0)), (1, .int (nI 0)), (0, .ref a1)]) hx hb dX3_isPath_3 rfl hl (by decide) rfl (fun ls hl => ?_)
  refine lv_iconst (v := nI 0) hx hb dX3_isPath_4 rfl ?_
  refine lv_istore_n (lv' := [(3, .int (nI 0)), (2, .int (nI 0)), (1, .int (nI 0)), (0, .ref a1)]) hx hb dX3_isPath_5 rfl hl (by decide) rfl (fun ls hl => ?_)
  have lp_6 : ∀ (n_6 : Nat) (i : Nat) (nm : Nat) (fm : Nat) (ls : Array Slot), (P1.length + 1 - i) < n_6 → (i ≤ P1.length + 1) → (fm ≤ i) → (nm ≤ i) → ((true = true → i ≤ P1.length → (pk2 [] P1).1 = (pk2 (pc3 P1 fm i) (P1.drop i)).1 ∧ (pk2 [] P1).2 = nm + (pk2 (pc3 P1 fm i) (P1.drop i)).2) ∧ (true = true → i = P1.length + 1 → (pk2 [] P1).1 = true ∧ (pk2 [] P1).2 = nm) ∧ (true = false → (pk2 [] P1).1 = false)) → lv_has ls 4 [(3, .int (nI i)), (2, .int (nI fm)), (1, .int (nI nm)), (0, .ref a1)] → W p l e ({ frames := 1, cells := 0, slots := 0, locals := 25 } : Room) s m args below meth c s.heap [] 0 0 Q (F0 m 6 ls []) := by
    intro n_6
    induction n_6 with
    | zero => intro i nm fm ls h0; exact absurd h0 (Nat.not_lt_zero _)
    | succ n_6 ih_6 =>
      intro i nm fm ls hm_6 hi hfm hnm hpk hl
      refine lv_iload_n hx hb dX3_isPath_6 rfl (lv_at hl 0 rfl) ?_
      refine lv_aload_n hx hb dX3_isPath_7 rfl (lv_at hl 3 rfl) ?_
      refine xb_len hx hb hK hT0 hP ha dX3_isPath_8 ?_
      refine nn_gt hx hb dX3_isPath_9 (tgt := 50) (by decide) (by omega) (by omega) (fun c_1 => ?_) (fun c_1 => ?_)
      · refine lv_iload_n hx hb dX3_isPath_50 rfl (lv_at hl 2 rfl) ?_
        refine lv_bipush (v := nI 6) hx hb dX3_isPath_51 (by decide) ?_
        refine nn_gt hx hb dX3_isPath_53 (tgt := 60) (by decide) (by omega) (by omega) (fun c_2 => ?_) (fun c_2 => ?_)
        · refine lv_iconst (v := bI false) hx hb dX3_isPath_60 rfl ?_
          rw [hQ]
          exact pf_zret hx hb hr hlocks (bI_01 _) (congrArg (fun b => Value.int (bI b)) (by rw [pathOK_of (hpk.2.1 rfl (by omega))]; exact (decide_eq_false (by omega)).symm)) dX3_isPath_61
        · refine lv_iconst (v := bI true) hx hb dX3_isPath_56 rfl ?_
          refine lv_goto (tgt := 61) hx hb dX3_isPath_57 (by decide) ?_
          rw [hQ]
          exact pf_zret hx hb hr hlocks (bI_01 _) (congrArg (fun b => Value.int (bI b)) (by rw [pathOK_of (hpk.2.1 rfl (by omega))]; exact (decide_eq_true (by omega)).symm)) dX3_isPath_61
      · refine lv_iload_n hx hb dX3_isPath_12 rfl (lv_at hl 0 rfl) ?_
        refine lv_aload_n hx hb dX3_isPath_13 rfl (lv_at hl 3 rfl) ?_
        refine xb_len hx hb hK hT0 hP ha dX3_isPath_14 ?_
        refine nn_eq hx hb dX3_isPath_15 (tgt := 26) (by decide) (by omega) (by omega) (fun c_3 => ?_) (fun c_3 => ?_)
        · refine lv_aload_n hx hb dX3_isPath_26 rfl (lv_at hl 3 rfl) ?_
          refine lv_iload_n hx hb dX3_isPath_27 rfl (lv_at hl 1 rfl) ?_
          refine lv_iload_n hx hb dX3_isPath_28 rfl (lv_at hl 0 rfl) ?_
          refine pf_callS (As := [.ref a1, .int (nI fm), .int (nI i)]) (rest := []) (p_isName l hT ha fm i (by omega) (by omega)) ⟨hx, hb, hml, hown, hts⟩ (va_cwS 3 hts gX3_isPath_X3_isName rfl rfl rfl (by decide +kernel) ⟨Nat.le_of_ble_eq_true rfl, Nat.le_of_ble_eq_true rfl⟩) hK hP rfl hl.1 rfl (Nat.le_of_ble_eq_true rfl) dX3_isPath_29 ⟨Nat.le_of_ble_eq_true rfl, Nat.le_of_ble_eq_true rfl⟩ (fun r_4 hr_4 => ?_)
          subst hr_4
          refine nb_ifne hx hb dX3_isPath_32 (tgt := 37) (by decide) (fun c_5 => ?_) (fun c_5 => ?_)
          · refine lv_iinc (v := nI (nm + 1)) (lv' := [(1, .int (nI (nm + 1))), (3, .int (nI i)), (2, .int (nI fm)), (0, .ref a1)]) hx hb dX3_isPath_37 hl (k := 2) rfl (nI_add nm 1) (by decide) rfl (fun ls hl => ?_)
            refine lv_iload_n hx hb dX3_isPath_40 rfl (lv_at hl 1 rfl) ?_
            refine lv_iconst (v := nI 1) hx hb dX3_isPath_41 rfl ?_
            refine nn_add hx hb dX3_isPath_42 ?_
            refine lv_istore_n (lv' := [(2, .int (nI (i + 1))), (1, .int (nI (nm + 1))), (3, .int (nI i)), (0, .ref a1)]) hx hb dX3_isPath_43 rfl hl (by decide) rfl (fun ls hl => ?_)
            refine lv_iinc (v := nI (i + 1)) (lv' := [(3, .int (nI (i + 1))), (2, .int (nI (i + 1))), (1, .int (nI (nm + 1))), (0, .ref a1)]) hx hb dX3_isPath_44 hl (k := 2) rfl (nI_add i 1) (by decide) rfl (fun ls hl => ?_)
            refine lv_goto (tgt := 6) hx hb dX3_isPath_47 (by decide) ?_
            exact ih_6 (i + 1) (nm + 1) (i + 1) _ (by omega) (by omega) (by omega) (by omega) (by have h9 := isPath_s2 hpk rfl (by omega) (by omega) (by omega); rw [show nmOK (pc3 P1 fm i) = true by assumption] at h9; exact h9) (lv_sub hl [0, 1, 2, 3] rfl)
          · refine lv_iconst (v := bI false) hx hb dX3_isPath_35 rfl ?_
            rw [hQ]
            exact pf_zret hx hb hr hlocks (bI_01 _) (congrArg (fun b => Value.int (bI b)) (pathOK_no ((isPath_s2 hpk rfl (by omega) (by omega) (by omega)).2.2 (by assumption))).symm) dX3_isPath_36
        · refine lv_aload_n hx hb dX3_isPath_18 rfl (lv_at hl 3 rfl) ?_
          refine lv_iload_n hx hb dX3_isPath_19 rfl (lv_at hl 0 rfl) ?_
          refine xb_ld hx hb hK hT0 hP ha (by omega) dX3_isPath_20 ?_
          have hb_6 : P1.getD i 0 < 256 := bArr.lt ha (by omega)
          have gb_6 := sbi_or (P1.getD i 0)
          refine lv_bipush (v := nI 47) hx hb dX3_isPath_21 (by decide) ?_
          refine zc_ne hx hb (sb_toInt hb_6) (nI_toInt (by omega)) dX3_isPath_23 (tgt := 44) (by decide) (fun c_7 => ?_) (fun c_7 => ?_)
          · refine lv_iinc (v := nI (i + 1)) (lv' := [(3, .int (nI (i + 1))), (2, .int (nI fm)), (1, .int (nI nm)), (0, .ref a1)]) hx hb dX3_isPath_44 hl (k := 0) rfl (nI_add i 1) (by decide) rfl (fun ls hl => ?_)
            refine lv_goto (tgt := 6) hx hb dX3_isPath_47 (by decide) ?_
            exact ih_6 (i + 1) nm fm _ (by omega) (by omega) (by omega) (by omega) (isPath_s1 hpk rfl (by omega) (by omega) (by omega)) (lv_sub hl [0, 1, 2, 3] rfl)
          · refine lv_aload_n hx hb dX3_isPath_26 rfl (lv_at hl 3 rfl) ?_
            refine lv_iload_n hx hb dX3_isPath_27 rfl (lv_at hl 1 rfl) ?_
            refine lv_iload_n hx hb dX3_isPath_28 rfl (lv_at hl 0 rfl) ?_
            refine pf_callS (As := [.ref a1, .int (nI fm), .int (nI i)]) (rest := []) (p_isName l hT ha fm i (by omega) (by omega)) ⟨hx, hb, hml, hown, hts⟩ (va_cwS 3 hts gX3_isPath_X3_isName rfl rfl rfl (by decide +kernel) ⟨Nat.le_of_ble_eq_true rfl, Nat.le_of_ble_eq_true rfl⟩) hK hP rfl hl.1 rfl (Nat.le_of_ble_eq_true rfl) dX3_isPath_29 ⟨Nat.le_of_ble_eq_true rfl, Nat.le_of_ble_eq_true rfl⟩ (fun r_8 hr_8 => ?_)
            subst hr_8
            refine nb_ifne hx hb dX3_isPath_32 (tgt := 37) (by decide) (fun c_9 => ?_) (fun c_9 => ?_)
            · refine lv_iinc (v := nI (nm + 1)) (lv' := [(1, .int (nI (nm + 1))), (3, .int (nI i)), (2, .int (nI fm)), (0, .ref a1)]) hx hb dX3_isPath_37 hl (k := 2) rfl (nI_add nm 1) (by decide) rfl (fun ls hl => ?_)
              refine lv_iload_n hx hb dX3_isPath_40 rfl (lv_at hl 1 rfl) ?_
              refine lv_iconst (v := nI 1) hx hb dX3_isPath_41 rfl ?_
              refine nn_add hx hb dX3_isPath_42 ?_
              refine lv_istore_n (lv' := [(2, .int (nI (i + 1))), (1, .int (nI (nm + 1))), (3, .int (nI i)), (0, .ref a1)]) hx hb dX3_isPath_43 rfl hl (by decide) rfl (fun ls hl => ?_)
              refine lv_iinc (v := nI (i + 1)) (lv' := [(3, .int (nI (i + 1))), (2, .int (nI (i + 1))), (1, .int (nI (nm + 1))), (0, .ref a1)]) hx hb dX3_isPath_44 hl (k := 2) rfl (nI_add i 1) (by decide) rfl (fun ls hl => ?_)
              refine lv_goto (tgt := 6) hx hb dX3_isPath_47 (by decide) ?_
              exact ih_6 (i + 1) (nm + 1) (i + 1) _ (by omega) (by omega) (by omega) (by omega) (by have h9 := isPath_s2 hpk rfl (by omega) (by omega) (by omega); rw [show nmOK (pc3 P1 fm i) = true by assumption] at h9; exact h9) (lv_sub hl [0, 1, 2, 3] rfl)
            · refine lv_iconst (v := bI false) hx hb dX3_isPath_35 rfl ?_
              rw [hQ]
              exact pf_zret hx hb hr hlocks (bI_01 _) (congrArg (fun b => Value.int (bI b)) (pathOK_no ((isPath_s2 hpk rfl (by omega) (by omega) (by omega)).2.2 (by assumption))).symm) dX3_isPath_36
  exact lp_6 (((P1.length + 1 - 0)) + 1) 0 0 0 _ (Nat.lt_succ_self _) (Nat.zero_le _) (Nat.zero_le _) (Nat.zero_le _) ⟨fun _ _ => by rw [pc3_nil]; simp, fun _ h => absurd h (by omega), fun h => absurd h (by decide)⟩ (lv_sub hl [0, 1, 2, 3] rfl)
set_option maxHeartbeats 4000000 in
set_option maxRecDepth 100000 in
theorem p_lastSlash (l : Launch) {G : va_G} {tys : List (ClassId × FieldType)} {cB cI cE cS : ClassId} (hT : tys = [(cB, .byte), (cI, .int), (cE, .object RX1), (cS, .object RX4)]) {w : va_W} {a1 : Nat} {P1 : List Nat} (ha : bArr w cB a1 P1) (h1 : 1 ≤ P1.length) : pMet l yX3_lastSlash wsX3_lastSlash ({ frames := 0, cells := 0, slots := 0, locals := 0 } : Room) G tys [.ref a1] w (fun r => (lsl P1 P1.length = none ∧ r = .int (-1)) ∨ ∃ k, lsl P1 P1.length = some k ∧ r = .int (nI k)) := by
  have hT0 : tys[0]? = some (cB, .byte) := by rw [hT]; rfl
  refine Met.ofW (cc := cX3_lastSlash) (maxL := 2) (ret := (some .int)) (by decide) rfl ?_
  intro p e s m args below meth c s₁ B hml hv
  obtain ⟨hargs, hP, hK⟩ := hv
  have hx := B.exec
  have hb := B.bytes
  have hr := B.returns
  have hts := atoms_spec (ws := wsX3_lastSlash) B.pre
  have hown : s.vm.findClass RX3 = some m.cls := findClass_of_methodNamed B.named
  have hlocks := B.notSynchronized
  obtain ⟨Q, hQ⟩ : ∃ Q : State → Prop, Q = MQ below (pQ (fun r => (lsl P1 P1.length = none ∧ r = .int (-1)) ∨ ∃ k, lsl P1 P1.length = some k ∧ r = .int (nI k))) args s 0 0 (fun _ => False) := ⟨_, rfl⟩
  change W p l e ({ frames := 0, cells := 0, slots := 0, locals := 0 } : Room) s m args below meth c s.heap [] 0 0 (MQ below (pQ (fun r => (lsl P1 P1.length = none ∧ r = .int (-1)) ∨ ∃ k, lsl P1 P1.length = some k ∧ r = .int (nI k))) args s 0 0 (fun _ => False)) (entryFrame m args 2)
  rw [← hQ]
  refine nn_entry hargs (Nat.le_of_ble_eq_true rfl) (lv := [(0, .ref a1)]) rfl (fun ls hl => ?_)
  have hla := ha.len
  refine lv_aload_n hx hb dX3_lastSlash_0 rfl (lv_at hl 0 rfl) ?_
  refine xb_len hx hb hK hT0 hP ha dX3_lastSlash_1 ?_
  refine lv_iconst (v := nI 1) hx hb dX3_lastSlash_2 rfl ?_
  refine nn_sub hx hb (by omega) dX3_lastSlash_3 ?_
  refine lv_istore_n (lv' := [(1, .int (nI (P1.length - 1))), (0, .ref a1)]) hx hb dX3_lastSlash_4 rfl hl (by decide) rfl (fun ls hl => ?_)
  have lp_5 : ∀ (n_5 : Nat) (kk : Int32) (k1 : Nat) (ls : Array Slot), k1 < n_5 → (kk.toInt = (k1 : Int) - 1) → (k1 ≤ P1.length) → (lsl P1 P1.length = lsl P1 k1) → lv_has ls 2 [(1, .int kk), (0, .ref a1)] → W p l e ({ frames := 0, cells := 0, slots := 0, locals := 0 } : Room) s m args below meth c s.heap [] 0 0 Q (F0 m 5 ls []) := by
    intro n_5
    induction n_5 with
    | zero => intro kk k1 ls h0; exact absurd h0 (Nat.not_lt_zero _)
    | succ n_5 ih_5 =>
      intro kk k1 ls hm_5 hkk hk hls hl
      refine lv_iload_n hx hb dX3_lastSlash_5 rfl (lv_at hl 0 rfl) ?_
      refine zi_lt hx hb hkk dX3_lastSlash_6 (tgt := 25) (by decide) (fun c_1 => ?_) (fun c_1 => ?_)
      · refine lv_iconst (v := (-1)) hx hb dX3_lastSlash_25 rfl ?_
        rw [hQ]
        exact pf_iret hx hb hr hlocks (Or.inl ⟨by rw [hls, show k1 = 0 by omega]; rfl, rfl⟩) dX3_lastSlash_26
      · obtain ⟨k0, hk0, hk02, hk03⟩ := zn_ex (x := kk) (by rw [hkk]; omega)
        rw [hk0] at hl
        have hk1 : k1 = k0 + 1 := by omega
        refine lv_aload_n hx hb dX3_lastSlash_9 rfl (lv_at hl 1 rfl) ?_
        refine lv_iload_n hx hb dX3_lastSlash_10 rfl (lv_at hl 0 rfl) ?_
        refine xb_ld hx hb hK hT0 hP ha (by omega) dX3_lastSlash_11 ?_
        have hb_2 : P1.getD k0 0 < 256 := bArr.lt ha (by omega)
        have gb_2 := sbi_or (P1.getD k0 0)
        refine lv_bipush (v := nI 47) hx hb dX3_lastSlash_12 (by decide) ?_
        refine zc_ne hx hb (sb_toInt hb_2) (nI_toInt (by omega)) dX3_lastSlash_14 (tgt := 19) (by decide) (fun c_3 => ?_) (fun c_3 => ?_)
        · rw [← hk0] at hl
          refine lv_iinc (v := kk + -1) (lv' := [(1, .int (kk + -1)), (0, .ref a1)]) hx hb dX3_lastSlash_19 hl (k := 0) rfl rfl (by decide) rfl (fun ls hl => ?_)
          refine lv_goto (tgt := 5) hx hb dX3_lastSlash_22 (by decide) ?_
          exact ih_5 (kk + -1) k0 _ (by omega) (by rw [dec_toInt hkk (by omega)]; omega) (by omega) (by rw [hls, hk1, lsl, if_neg (by omega)]) (lv_sub hl [0, 1] rfl)
        · refine lv_iload_n hx hb dX3_lastSlash_17 rfl (lv_at hl 0 rfl) ?_
          rw [hQ]
          exact pf_iret hx hb hr hlocks (Or.inr ⟨k0, by rw [hls, hk1, lsl, if_pos (by omega)], rfl⟩) dX3_lastSlash_18
  exact lp_5 ((P1.length) + 1) (nI (P1.length - 1)) P1.length _ (Nat.lt_succ_self _) (by rw [nI_toInt (by omega)]; omega) (Nat.le_refl _) rfl (lv_sub hl [0, 1] rfl)
set_option maxHeartbeats 4000000 in
set_option maxRecDepth 100000 in
theorem p_isBelow (l : Launch) {G : va_G} {tys : List (ClassId × FieldType)} {cB cI cE cS : ClassId} (hT : tys = [(cB, .byte), (cI, .int), (cE, .object RX1), (cS, .object RX4)]) {w : va_W} {a1 a2 : Nat} {P1 P2 : List Nat} (ha : bArr w cB a1 P1) (ha2 : bArr w cB a2 P2) : pMet l yX3_isBelow wsX3_isBelow ({ frames := 0, cells := 0, slots := 0, locals := 0 } : Room) G tys [.ref a1, .ref a2] w (fun r => r = .int (bI (blw2 P1 P2))) := by
  have hT0 : tys[0]? = some (cB, .byte) := by rw [hT]; rfl
  refine Met.ofW (cc := cX3_isBelow) (maxL := 3) (ret := (some .boolean)) (by decide) rfl ?_
  intro p e s m args below meth c s₁ B hml hv
  obtain ⟨hargs, hP, hK⟩ := hv
  have hx := B.exec
  have hb := B.bytes
  have hr := B.returns
  have hts := atoms_spec (ws := wsX3_isBelow) B.pre
  have hown : s.vm.findClass RX3 = some m.cls := findClass_of_methodNamed B.named
  have hlocks := B.notSynchronized
  obtain ⟨Q, hQ⟩ : ∃ Q : State → Prop, Q = MQ below (pQ (fun r => r = .int (bI (blw2 P1 P2)))) args s 0 0 (fun _ => False) := ⟨_, rfl⟩
  change W p l e ({ frames := 0, cells := 0, slots := 0, locals := 0 } : Room) s m args below meth c s.heap [] 0 0 (MQ below (pQ (fun r => r = .int (bI (blw2 P1 P2)))) args s 0 0 (fun _ => False)) (entryFrame m args 3)
  rw [← hQ]
  refine nn_entry hargs (Nat.le_of_ble_eq_true rfl) (lv := [(0, .ref a1), (1, .ref a2)]) rfl (fun ls hl => ?_)
  have hla := ha.len
  have hla2 := ha2.len
  refine lv_aload_n hx hb dX3_isBelow_0 rfl (lv_at hl 0 rfl) ?_
  refine xb_len hx hb hK hT0 hP ha dX3_isBelow_1 ?_
  refine lv_aload_n hx hb dX3_isBelow_2 rfl (lv_at hl 1 rfl) ?_
  refine xb_len hx hb hK hT0 hP ha2 dX3_isBelow_3 ?_
  refine nn_le hx hb dX3_isBelow_4 (tgt := 16) (by decide) (by omega) (by omega) (fun c_1 => ?_) (fun c_1 => ?_)
  · refine lv_iconst (v := bI false) hx hb dX3_isBelow_16 rfl ?_
    rw [hQ]
    exact pf_zret hx hb hr hlocks (bI_01 _) (congrArg (fun b => Value.int (bI b)) (blw2_f (fun h1 h2 => absurd h2 (by omega))).symm) dX3_isBelow_17
  · refine lv_aload_n hx hb dX3_isBelow_7 rfl (lv_at hl 0 rfl) ?_
    refine lv_aload_n hx hb dX3_isBelow_8 rfl (lv_at hl 1 rfl) ?_
    refine xb_len hx hb hK hT0 hP ha2 dX3_isBelow_9 ?_
    refine xb_ld hx hb hK hT0 hP ha (by omega) dX3_isBelow_10 ?_
    have hb_2 : P1.getD P2.length 0 < 256 := bArr.lt ha (by omega)
    have gb_2 := sbi_or (P1.getD P2.length 0)
    refine lv_bipush (v := nI 47) hx hb dX3_isBelow_11 (by decide) ?_
    refine zc_eq hx hb (sb_toInt hb_2) (nI_toInt (by omega)) dX3_isBelow_13 (tgt := 18) (by decide) (fun c_3 => ?_) (fun c_3 => ?_)
    · refine lv_iconst (v := nI 0) hx hb dX3_isBelow_18 rfl ?_
      refine lv_istore_n (lv' := [(2, .int (nI 0)), (0, .ref a1), (1, .ref a2)]) hx hb dX3_isBelow_19 rfl hl (by decide) rfl (fun ls hl => ?_)
      have lp_20 : ∀ (n_20 : Nat) (k : Nat) (ls : Array Slot), (P2.length - k) < n_20 → (k ≤ P2.length) → (∀ j, j < k → P1.getD j 0 = P2.getD j 0) → lv_has ls 3 [(2, .int (nI k)), (0, .ref a1), (1, .ref a2)] → W p l e ({ frames := 0, cells := 0, slots := 0, locals := 0 } : Room) s m args below meth c s.heap [] 0 0 Q (F0 m 20 ls []) := by
        intro n_20
        induction n_20 with
        | zero => intro k ls h0; exact absurd h0 (Nat.not_lt_zero _)
        | succ n_20 ih_20 =>
          intro k ls hm_20 hk hj hl
          refine lv_iload_n hx hb dX3_isBelow_20 rfl (lv_at hl 0 rfl) ?_
          refine lv_aload_n hx hb dX3_isBelow_21 rfl (lv_at hl 2 rfl) ?_
          refine xb_len hx hb hK hT0 hP ha2 dX3_isBelow_22 ?_
          refine nn_ge hx hb dX3_isBelow_23 (tgt := 43) (by decide) (by omega) (by omega) (fun c_4 => ?_) (fun c_4 => ?_)
          · refine lv_iconst (v := bI true) hx hb dX3_isBelow_43 rfl ?_
            rw [hQ]
            exact pf_zret hx hb hr hlocks (bI_01 _) (congrArg (fun b => Value.int (bI b)) (blw2_t (by omega) (by omega) (fun j hj9 => hj j (by omega))).symm) dX3_isBelow_44
          · refine lv_aload_n hx hb dX3_isBelow_26 rfl (lv_at hl 1 rfl) ?_
            refine lv_iload_n hx hb dX3_isBelow_27 rfl (lv_at hl 0 rfl) ?_
            refine xb_ld hx hb hK hT0 hP ha (by omega) dX3_isBelow_28 ?_
            have hb_5 : P1.getD k 0 < 256 := bArr.lt ha (by omega)
            have gb_5 := sbi_or (P1.getD k 0)
            refine lv_aload_n hx hb dX3_isBelow_29 rfl (lv_at hl 2 rfl) ?_
            refine lv_iload_n hx hb dX3_isBelow_30 rfl (lv_at hl 0 rfl) ?_
            refine xb_ld hx hb hK hT0 hP ha2 (by omega) dX3_isBelow_31 ?_
            have hb_6 : P2.getD k 0 < 256 := bArr.lt ha2 (by omega)
            have gb_6 := sbi_or (P2.getD k 0)
            refine zc_eq hx hb (sb_toInt hb_5) (sb_toInt hb_6) dX3_isBelow_32 (tgt := 37) (by decide) (fun c_7 => ?_) (fun c_7 => ?_)
            · refine lv_iinc (v := nI (k + 1)) (lv' := [(2, .int (nI (k + 1))), (0, .ref a1), (1, .ref a2)]) hx hb dX3_isBelow_37 hl (k := 0) rfl (nI_add k 1) (by decide) rfl (fun ls hl => ?_)
              refine lv_goto (tgt := 20) hx hb dX3_isBelow_40 (by decide) ?_
              exact ih_20 (k + 1) _ (by omega) (by omega) (lt_s (p := fun j => P1.getD j 0 = P2.getD j 0) hj (by omega)) (lv_sub hl [0, 1, 2] rfl)
            · refine lv_iconst (v := bI false) hx hb dX3_isBelow_35 rfl ?_
              rw [hQ]
              exact pf_zret hx hb hr hlocks (bI_01 _) (congrArg (fun b => Value.int (bI b)) (blw2_f (fun h1 h2 => ⟨k, by omega, by omega⟩)).symm) dX3_isBelow_36
      exact lp_20 (((P2.length - 0)) + 1) 0 _ (Nat.lt_succ_self _) (Nat.zero_le _) (fun j h => absurd h (Nat.not_lt_zero _)) (lv_sub hl [0, 1, 2] rfl)
    · refine lv_iconst (v := bI false) hx hb dX3_isBelow_16 rfl ?_
      rw [hQ]
      exact pf_zret hx hb hr hlocks (bI_01 _) (congrArg (fun b => Value.int (bI b)) (blw2_f (fun h1 h2 => absurd h2 (by omega))).symm) dX3_isBelow_17
set_option maxHeartbeats 4000000 in
set_option maxRecDepth 100000 in
theorem p_compare (l : Launch) {G : va_G} {tys : List (ClassId × FieldType)} {cB cI cE cS : ClassId} (hT : tys = [(cB, .byte), (cI, .int), (cE, .object RX1), (cS, .object RX4)]) {w : va_W} {a1 a2 : Nat} {P1 P2 : List Nat} (ha : bArr w cB a1 P1) (ha2 : bArr w cB a2 P2) (hl1 : P1.length ≤ 1000) (hl2 : P2.length ≤ 1000) : pMet l yX3_compare wsX3_compare ({ frames := 0, cells := 0, slots := 0, locals := 0 } : Room) G tys [.ref a1, .ref a2] w (fun r => ∃ v : Int32, r = .int v ∧ sgn2 v (pcm P1 P2)) := by
  have hT0 : tys[0]? = some (cB, .byte) := by rw [hT]; rfl
  refine Met.ofW (cc := cX3_compare) (maxL := 3) (ret := (some .int)) (by decide) rfl ?_
  intro p e s m args below meth c s₁ B hml hv
  obtain ⟨hargs, hP, hK⟩ := hv
  have hx := B.exec
  have hb := B.bytes
  have hr := B.returns
  have hts := atoms_spec (ws := wsX3_compare) B.pre
  have hown : s.vm.findClass RX3 = some m.cls := findClass_of_methodNamed B.named
  have hlocks := B.notSynchronized
  obtain ⟨Q, hQ⟩ : ∃ Q : State → Prop, Q = MQ below (pQ (fun r => ∃ v : Int32, r = .int v ∧ sgn2 v (pcm P1 P2))) args s 0 0 (fun _ => False) := ⟨_, rfl⟩
  change W p l e ({ frames := 0, cells := 0, slots := 0, locals := 0 } : Room) s m args below meth c s.heap [] 0 0 (MQ below (pQ (fun r => ∃ v : Int32, r = .int v ∧ sgn2 v (pcm P1 P2))) args s 0 0 (fun _ => False)) (entryFrame m args 3)
  rw [← hQ]
  refine nn_entry hargs (Nat.le_of_ble_eq_true rfl) (lv := [(0, .ref a1), (1, .ref a2)]) rfl (fun ls hl => ?_)
  refine lv_iconst (v := nI 0) hx hb dX3_compare_0 rfl ?_
  refine lv_istore_n (lv' := [(2, .int (nI 0)), (0, .ref a1), (1, .ref a2)]) hx hb dX3_compare_1 rfl hl (by decide) rfl (fun ls hl => ?_)
  have lp_2 : ∀ (n_2 : Nat) (k : Nat) (ls : Array Slot), (P1.length - k) < n_2 → (k ≤ P1.length) → (k ≤ P2.length) → (pcm P1 P2 = pcm (P1.drop k) (P2.drop k)) → lv_has ls 3 [(2, .int (nI k)), (0, .ref a1), (1, .ref a2)] → W p l e ({ frames := 0, cells := 0, slots := 0, locals := 0 } : Room) s m args below meth c s.heap [] 0 0 Q (F0 m 2 ls []) := by
    intro n_2
    induction n_2 with
    | zero => intro k ls h0; exact absurd h0 (Nat.not_lt_zero _)
    | succ n_2 ih_2 =>
      intro k ls hm_2 hk hk2 hpc hl
      refine lv_iload_n hx hb dX3_compare_2 rfl (lv_at hl 0 rfl) ?_
      refine lv_aload_n hx hb dX3_compare_3 rfl (lv_at hl 1 rfl) ?_
      refine xb_len hx hb hK hT0 hP ha dX3_compare_4 ?_
      refine nn_ge hx hb dX3_compare_5 (tgt := 69) (by decide) (by omega) (by omega) (fun c_1 => ?_) (fun c_1 => ?_)
      · refine lv_aload_n hx hb dX3_compare_69 rfl (lv_at hl 1 rfl) ?_
        refine xb_len hx hb hK hT0 hP ha dX3_compare_70 ?_
        refine lv_aload_n hx hb dX3_compare_71 rfl (lv_at hl 2 rfl) ?_
        refine xb_len hx hb hK hT0 hP ha2 dX3_compare_72 ?_
        refine lv_isub hx hb dX3_compare_73 ?_
        rw [hQ]
        exact pf_iret hx hb hr hlocks ⟨_, rfl, cmp_end hpc (by omega) (by omega) (by omega) (by rw [pk_sub_toInt (by omega) (by omega)])⟩ dX3_compare_74
      · refine lv_iload_n hx hb dX3_compare_8 rfl (lv_at hl 0 rfl) ?_
        refine lv_aload_n hx hb dX3_compare_9 rfl (lv_at hl 2 rfl) ?_
        refine xb_len hx hb hK hT0 hP ha2 dX3_compare_10 ?_
        refine nn_ge hx hb dX3_compare_11 (tgt := 69) (by decide) (by omega) (by omega) (fun c_2 => ?_) (fun c_2 => ?_)
        · refine lv_aload_n hx hb dX3_compare_69 rfl (lv_at hl 1 rfl) ?_
          refine xb_len hx hb hK hT0 hP ha dX3_compare_70 ?_
          refine lv_aload_n hx hb dX3_compare_71 rfl (lv_at hl 2 rfl) ?_
          refine xb_len hx hb hK hT0 hP ha2 dX3_compare_72 ?_
          refine lv_isub hx hb dX3_compare_73 ?_
          rw [hQ]
          exact pf_iret hx hb hr hlocks ⟨_, rfl, cmp_end hpc (by omega) (by omega) (by omega) (by rw [pk_sub_toInt (by omega) (by omega)])⟩ dX3_compare_74
        · refine lv_aload_n hx hb dX3_compare_14 rfl (lv_at hl 1 rfl) ?_
          refine lv_iload_n hx hb dX3_compare_15 rfl (lv_at hl 0 rfl) ?_
          refine xb_ld hx hb hK hT0 hP ha (by omega) dX3_compare_16 ?_
          have hb_3 : P1.getD k 0 < 256 := bArr.lt ha (by omega)
          have gb_3 := sbi_or (P1.getD k 0)
          refine lv_aload_n hx hb dX3_compare_17 rfl (lv_at hl 2 rfl) ?_
          refine lv_iload_n hx hb dX3_compare_18 rfl (lv_at hl 0 rfl) ?_
          refine xb_ld hx hb hK hT0 hP ha2 (by omega) dX3_compare_19 ?_
          have hb_4 : P2.getD k 0 < 256 := bArr.lt ha2 (by omega)
          have gb_4 := sbi_or (P2.getD k 0)
          refine zc_eq hx hb (sb_toInt hb_3) (sb_toInt hb_4) dX3_compare_20 (tgt := 63) (by decide) (fun c_5 => ?_) (fun c_5 => ?_)
          · refine lv_iinc (v := nI (k + 1)) (lv' := [(2, .int (nI (k + 1))), (0, .ref a1), (1, .ref a2)]) hx hb dX3_compare_63 hl (k := 0) rfl (nI_add k 1) (by decide) rfl (fun ls hl => ?_)
            refine lv_goto (tgt := 2) hx hb dX3_compare_66 (by decide) ?_
            exact ih_2 (k + 1) _ (by omega) (by omega) (by omega) (by rw [hpc]; exact pcm_drop (by omega) (by omega) (by omega)) (lv_sub hl [0, 1, 2] rfl)
          · refine lv_aload_n hx hb dX3_compare_23 rfl (lv_at hl 1 rfl) ?_
            refine lv_iload_n hx hb dX3_compare_24 rfl (lv_at hl 0 rfl) ?_
            refine xb_ld hx hb hK hT0 hP ha (by omega) dX3_compare_25 ?_
            have hb_6 : P1.getD k 0 < 256 := bArr.lt ha (by omega)
            have gb_6 := sbi_or (P1.getD k 0)
            refine lv_bipush (v := nI 47) hx hb dX3_compare_26 (by decide) ?_
            refine zc_ne hx hb (sb_toInt hb_6) (nI_toInt (by omega)) dX3_compare_28 (tgt := 35) (by decide) (fun c_7 => ?_) (fun c_7 => ?_)
            · refine lv_aload_n hx hb dX3_compare_35 rfl (lv_at hl 2 rfl) ?_
              refine lv_iload_n hx hb dX3_compare_36 rfl (lv_at hl 0 rfl) ?_
              refine xb_ld hx hb hK hT0 hP ha2 (by omega) dX3_compare_37 ?_
              have hb_8 : P2.getD k 0 < 256 := bArr.lt ha2 (by omega)
              have gb_8 := sbi_or (P2.getD k 0)
              refine lv_bipush (v := nI 47) hx hb dX3_compare_38 (by decide) ?_
              refine zc_ne hx hb (sb_toInt hb_8) (nI_toInt (by omega)) dX3_compare_40 (tgt := 47) (by decide) (fun c_9 => ?_) (fun c_9 => ?_)
              · refine lv_aload_n hx hb dX3_compare_47 rfl (lv_at hl 1 rfl) ?_
                refine lv_iload_n hx hb dX3_compare_48 rfl (lv_at hl 0 rfl) ?_
                refine xb_ld hx hb hK hT0 hP ha (by omega) dX3_compare_49 ?_
                have hb_10 : P1.getD k 0 < 256 := bArr.lt ha (by omega)
                have gb_10 := sbi_or (P1.getD k 0)
                refine lv_sipush (v := nI 255) hx hb dX3_compare_50 (by decide) ?_
                refine lv_iand hx hb dX3_compare_53 ?_
                refine lv_aload_n hx hb dX3_compare_54 rfl (lv_at hl 2 rfl) ?_
                refine lv_iload_n hx hb dX3_compare_55 rfl (lv_at hl 0 rfl) ?_
                refine xb_ld hx hb hK hT0 hP ha2 (by omega) dX3_compare_56 ?_
                have hb_11 : P2.getD k 0 < 256 := bArr.lt ha2 (by omega)
                have gb_11 := sbi_or (P2.getD k 0)
                refine lv_sipush (v := nI 255) hx hb dX3_compare_57 (by decide) ?_
                refine lv_iand hx hb dX3_compare_60 ?_
                refine lv_isub hx hb dX3_compare_61 ?_
                rw [hQ]
                exact pf_iret hx hb hr hlocks ⟨_, rfl, cmp_sgn hpc (by omega) (by omega) (by omega) (by have h7 := rk3_or (P1.getD k 0); have h6 := rk3_or (P2.getD k 0); have h8 : (((sb_b (P1.getD k 0)) &&& (nI 255)) - ((sb_b (P2.getD k 0)) &&& (nI 255))).toInt = ((P1.getD k 0 : Nat) : Int) - ((P2.getD k 0 : Nat) : Int) := (by rw [show sb_b (P1.getD k 0) &&& nI 255 = nI (P1.getD k 0) from (sb_byte _ (bArr.lt ha (by omega))).1, show sb_b (P2.getD k 0) &&& nI 255 = nI (P2.getD k 0) from (sb_byte _ (bArr.lt ha2 (by omega))).1, pk_sub_toInt (by omega) (by omega)]); omega)⟩ dX3_compare_62
              · refine lv_iconst (v := nI 1) hx hb dX3_compare_43 rfl ?_
                refine lv_goto (tgt := 62) hx hb dX3_compare_44 (by decide) ?_
                rw [hQ]
                exact pf_iret hx hb hr hlocks ⟨_, rfl, cmp_sgn hpc (by omega) (by omega) (by omega) (by have h7 := rk3_or (P1.getD k 0); have h6 := rk3_or (P2.getD k 0); have h8 : (nI 1).toInt = 1 := rfl; omega)⟩ dX3_compare_62
            · refine lv_iconst (v := (-1)) hx hb dX3_compare_31 rfl ?_
              refine lv_goto (tgt := 62) hx hb dX3_compare_32 (by decide) ?_
              rw [hQ]
              exact pf_iret hx hb hr hlocks ⟨_, rfl, cmp_sgn hpc (by omega) (by omega) (by omega) (by have h7 := rk3_or (P1.getD k 0); have h6 := rk3_or (P2.getD k 0); have h8 : (-1 : Int32).toInt = -1 := rfl; omega)⟩ dX3_compare_62
  exact lp_2 (((P1.length - 0)) + 1) 0 _ (Nat.lt_succ_self _) (Nat.zero_le _) (Nat.zero_le _) rfl (lv_sub hl [0, 1, 2] rfl)
