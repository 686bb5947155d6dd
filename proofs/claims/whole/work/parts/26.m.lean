set_option maxHeartbeats 4000000 in
set_option maxRecDepth 100000 in
theorem m_hasDirectory (l : Launch) {G : va_G} {tys : List (ClassId × FieldType)} {cI : ClassId} (hT : tys[1]? = some (cI, .int)) {x : Nat} {q : Nat → Nat} {v_thrown v_taped v_state v_operations v_changes v_sessions v_begun v_isChosen v_chosenMany : Int32} {f_many f_bytes f_kinds f_modes f_times f_paths f_contentAt f_contents f_path f_content f_ready f_tape f_sessionTime f_sessionChanges f_chosen : Nat → Int32} (Ts : Nat → List En) (hRT : RT f_many f_bytes f_kinds f_modes f_times f_paths f_contentAt f_contents f_path f_content Ts) (tp : List Nat) (htp : en f_tape 0 tp) (htl : tp.length ≤ 400) (htb : ∀ b ∈ tp, b < 256) (h1 : 1 ≤ tp.length) : pMet l yX9_hasDirectory wsX9_hasDirectory ({ frames := 3, cells := 0, slots := 0, locals := 74 } : Room) G tys [.ref x, .int (nI tp.length)] (rwx cI x q v_thrown v_taped v_state v_operations v_changes v_sessions v_begun v_isChosen v_chosenMany f_many f_bytes f_kinds f_modes f_times f_paths f_contentAt f_contents f_path f_content f_ready f_tape f_sessionTime f_sessionChanges f_chosen) (fun r => r = .int (bI (dirOK (Ts 0) tp))) := by
  refine Met.ofW (cc := cX9_hasDirectory) (maxL := 4) (ret := (some .boolean)) (by decide) rfl ?_
  intro p e s m args below meth c s₁ B hml hv
  obtain ⟨hargs, hP, hK⟩ := hv
  have hx := B.exec
  have hb := B.bytes
  have hr := B.returns
  have hts := atoms_spec (ws := wsX9_hasDirectory) B.pre
  have hown : s.vm.findClass RX9 = some m.cls := findClass_of_methodNamed B.named
  have hlocks := B.notSynchronized
  have hC : rC p s m args c cX9_hasDirectory G tys cI wsX9_hasDirectory := ⟨hx, hb, hts, (by decide +kernel), hown, hK, hT⟩
  have k_kinds := hts (.fieldLink RX9 16 "MirrorKeepModel" "kinds" "[I") (by decide +kernel)
  have k_tape := hts (.fieldLink RX9 45 "MirrorKeepModel" "tape" "[I") (by decide +kernel)
  obtain ⟨Q, hQ⟩ : ∃ Q : State → Prop, Q = MQ below (pQ (fun r => r = .int (bI (dirOK (Ts 0) tp)))) args s 0 0 (fun _ => False) := ⟨_, rfl⟩
  change W p l e ({ frames := 3, cells := 0, slots := 0, locals := 74 } : Room) s m args below meth c s.heap [] 0 0 (MQ below (pQ (fun r => r = .int (bI (dirOK (Ts 0) tp)))) args s 0 0 (fun _ => False)) (entryFrame m args 4)
  rw [← hQ]
  refine nn_entry hargs (Nat.le_of_ble_eq_true rfl) (lv := [(0, .ref x), (1, .int (nI tp.length))]) rfl (fun ls hl => ?_)
  obtain ⟨t1, t2, t3, t4, t5⟩ := hRT 0 (by decide)
  refine lv_iload_n hx hb dX9_hasDirectory_0 rfl (lv_at hl 1 rfl) ?_
  refine lv_iconst (v := nI 1) hx hb dX9_hasDirectory_1 rfl ?_
  refine nn_sub hx hb (by omega) dX9_hasDirectory_2 ?_
  refine lv_istore_n (lv' := [(2, .int (nI (tp.length - 1))), (0, .ref x), (1, .int (nI tp.length))]) hx hb dX9_hasDirectory_3 rfl hl (by decide) rfl (fun ls hl => ?_)
  have lp_4 : ∀ (n_4 : Nat) (kk : Int32) (k1 : Nat) (ls : Array Slot), k1 < n_4 → (kk.toInt = (k1 : Int) - 1) → (k1 ≤ tp.length) → (lsl tp tp.length = lsl tp k1) → lv_has ls 4 [(2, .int kk), (0, .ref x), (1, .int (nI tp.length))] → W p l e ({ frames := 3, cells := 0, slots := 0, locals := 74 } : Room) s m args below meth c s.heap [] 0 0 Q (F0 m 4 ls []) := by
    intro n_4
    induction n_4 with
    | zero => intro kk k1 ls h0; exact absurd h0 (Nat.not_lt_zero _)
    | succ n_4 ih_4 =>
      intro kk k1 ls hm_4 hkk hk hls hl
      refine lv_iload_n hx hb dX9_hasDirectory_4 rfl (lv_at hl 0 rfl) ?_
      refine zi_lt hx hb hkk dX9_hasDirectory_5 (tgt := 25) (by decide) (fun c_1 => ?_) (fun c_1 => ?_)
      · refine lv_iload_n hx hb dX9_hasDirectory_25 rfl (lv_at hl 0 rfl) ?_
        refine zi_ge hx hb hkk dX9_hasDirectory_26 (tgt := 31) (by decide) (fun c_2 => ?_) (fun c_2 => ?_)
        · exact absurd c_2 (by omega)
        · refine lv_iconst (v := bI true) hx hb dX9_hasDirectory_29 rfl ?_
          rw [hQ]
          exact pf_zret hx hb hr hlocks (bI_01 _) (congrArg (fun b => Value.int (bI b)) (dirOK_none (by rw [hls, show k1 = 0 by omega]; rfl)).symm) dX9_hasDirectory_30
      · obtain ⟨k0, hk0, hk02, hk03⟩ := zn_ex (x := kk) (by rw [hkk]; omega)
        rw [hk0] at hl
        have hk1 : k1 = k0 + 1 := by omega
        have hv0 : tp.getD k0 0 < 256 := htb _ (gd_mem (by omega))
        refine lv_aload_n hx hb dX9_hasDirectory_8 rfl (lv_at hl 1 rfl) ?_
        refine rg_tape hC hP k_tape dX9_hasDirectory_9 ?_
        refine lv_iload_n hx hb dX9_hasDirectory_12 rfl (lv_at hl 0 rfl) ?_
        refine rl_tape hC hP (by omega) dX9_hasDirectory_13 ?_
        refine nn_eqi (y := nI (tp.getD k0 0)) (by have := htp k0 (by omega); rwa [Nat.zero_add] at this) ?_
        refine lv_bipush (v := nI 47) hx hb dX9_hasDirectory_14 (by decide) ?_
        refine nn_eq hx hb dX9_hasDirectory_16 (tgt := 25) (by decide) (by omega) (by omega) (fun c_3 => ?_) (fun c_3 => ?_)
        · refine lv_iload_n hx hb dX9_hasDirectory_25 rfl (lv_at hl 0 rfl) ?_
          refine nz_ge hx hb dX9_hasDirectory_26 (tgt := 31) (by decide) (by omega) (fun c_4 => ?_) (fun c_4 => ?_)
          · refine lv_aload_n hx hb dX9_hasDirectory_31 rfl (lv_at hl 1 rfl) ?_
            refine lv_iconst (v := nI 0) hx hb dX9_hasDirectory_32 rfl ?_
            refine lv_aload_n hx hb dX9_hasDirectory_33 rfl (lv_at hl 1 rfl) ?_
            refine rg_tape hC hP k_tape dX9_hasDirectory_34 ?_
            have hls2 : lsl tp tp.length = some k0 := by rw [hls, hk1, lsl, if_pos (by assumption)]
            refine lv_iload_n hx hb dX9_hasDirectory_37 rfl (lv_at hl 0 rfl) ?_
            refine nn_eqi (y := nI (tp.take k0).length) (by rw [List.length_take, Nat.min_eq_left (by omega)]) ?_
            refine pf_callV (C := RX9) (As := [.int (nI 0), .ref (q 11), .int (nI ((tp.take k0).length))]) (rest := []) (m_find l hT Ts 0 hRT (by decide) (k2 := 12) rfl (by decide) (tp.take k0) (en_take htp) (by rw [List.length_take]; omega) (fun b hb => htb b (List.mem_of_mem_take hb))) ⟨hx, hb, hml, hown, hts⟩ (cwV 3 hts gX9_hasDirectory_X9_find rfl rfl rfl (by decide +kernel) ⟨Nat.le_of_ble_eq_true rfl, Nat.le_of_ble_eq_true rfl⟩) hK hP (r_recv hK hP) rfl hl.1 rfl (Nat.le_of_ble_eq_true rfl) dX9_hasDirectory_38 ⟨Nat.le_of_ble_eq_true rfl, Nat.le_of_ble_eq_true rfl⟩ (fun r_5 hr_5 => ?_)
            subst hr_5
            refine lv_istore_n (lv' := [(3, .int (fndr (Ts 0) (tp.take k0) (Ts 0).length)), (2, .int (nI k0)), (0, .ref x), (1, .int (nI tp.length))]) hx hb dX9_hasDirectory_41 rfl hl (by decide) rfl (fun ls hl => ?_)
            refine lv_iload_n hx hb dX9_hasDirectory_42 rfl (lv_at hl 0 rfl) ?_
            refine zi_lt hx hb rfl dX9_hasDirectory_43 (tgt := 64) (by decide) (fun c_6 => ?_) (fun c_6 => ?_)
            · refine lv_iconst (v := bI false) hx hb dX9_hasDirectory_64 rfl ?_
              rw [hQ]
              exact pf_zret hx hb hr hlocks (bI_01 _) (congrArg (fun b => Value.int (bI b)) (by rw [dirOK_some hls2]; exact (decide_eq_false (by first | (intro h; omega) | (intro h; rw [hi3] at h; exact absurd h.2 (by assumption)))).symm)) dX9_hasDirectory_65
            · obtain ⟨i0, hi0, hi1, hi2⟩ := fndr_pos (L := Ts 0) (P := tp.take k0) (n := (Ts 0).length) (by omega) (by assumption)
              have hi3 : (fndr (Ts 0) (tp.take k0) (Ts 0).length).toInt.toNat = i0 := by rw [hi1, nI_toInt (by omega)]; rfl
              rw [hi1] at hl
              obtain ⟨d1, d2, d3, d4, d5, d6, d7, d8, d9, d10, d11⟩ := t5 i0 hi0
              refine lv_aload_n hx hb dX9_hasDirectory_46 rfl (lv_at hl 2 rfl) ?_
              refine rg_kinds hC hP k_kinds dX9_hasDirectory_47 ?_
              refine lv_iconst (v := nI 0) hx hb dX9_hasDirectory_50 rfl ?_
              refine lv_iload_n hx hb dX9_hasDirectory_51 rfl (lv_at hl 0 rfl) ?_
              refine pf_callS (As := [.int (nI 0), .int (nI i0)]) (rest := [.ref (q 2)]) (m_place l hT 0 i0) ⟨hx, hb, hml, hown, hts⟩ (va_cwS 2 hts gX9_hasDirectory_X9_place rfl rfl rfl (by decide +kernel) ⟨Nat.le_of_ble_eq_true rfl, Nat.le_of_ble_eq_true rfl⟩) hK nn_nil rfl hl.1 rfl (Nat.le_of_ble_eq_true rfl) dX9_hasDirectory_52 ⟨Nat.le_of_ble_eq_true rfl, Nat.le_of_ble_eq_true rfl⟩ (fun r_7 hr_7 => ?_)
              subst hr_7
              refine rl_kinds hC hP (by omega) dX9_hasDirectory_55 ?_
              refine nn_eqi (y := ((Ts 0).getD i0 e0).2.1) d1 ?_
              refine lv_iconst (v := nI 2) hx hb dX9_hasDirectory_56 rfl ?_
              refine lv_icmp_ne (tgt := 64) hx hb dX9_hasDirectory_57 (by decide) (fun c_8 => ?_) (fun c_8 => ?_)
              · refine lv_iconst (v := bI false) hx hb dX9_hasDirectory_64 rfl ?_
                rw [hQ]
                exact pf_zret hx hb hr hlocks (bI_01 _) (congrArg (fun b => Value.int (bI b)) (by rw [dirOK_some hls2]; exact (decide_eq_false (by first | (intro h; omega) | (intro h; rw [hi3] at h; exact absurd h.2 (by assumption)))).symm)) dX9_hasDirectory_65
              · refine lv_iconst (v := bI true) hx hb dX9_hasDirectory_60 rfl ?_
                refine lv_goto (tgt := 65) hx hb dX9_hasDirectory_61 (by decide) ?_
                rw [hQ]
                exact pf_zret hx hb hr hlocks (bI_01 _) (congrArg (fun b => Value.int (bI b)) (by rw [dirOK_some hls2]; exact (decide_eq_true ⟨by assumption, by rw [hi3]; assumption⟩).symm)) dX9_hasDirectory_65
          · exact absurd c_4 (Nat.not_lt_zero _)
        · rw [← hk0] at hl
          refine lv_iinc (v := kk + -1) (lv' := [(2, .int (kk + -1)), (0, .ref x), (1, .int (nI tp.length))]) hx hb dX9_hasDirectory_19 hl (k := 0) rfl rfl (by decide) rfl (fun ls hl => ?_)
          refine lv_goto (tgt := 4) hx hb dX9_hasDirectory_22 (by decide) ?_
          exact ih_4 (kk + -1) k0 _ (by omega) (by rw [dec_toInt hkk (by omega)]; omega) (by omega) (by rw [hls, hk1, lsl, if_neg (by assumption)]) (lv_sub hl [0, 1, 2] rfl)
  exact lp_4 ((tp.length) + 1) (nI (tp.length - 1)) tp.length _ (Nat.lt_succ_self _) (by rw [nI_toInt (by omega)]; omega) (Nat.le_refl _) rfl (lv_sub hl [0, 1, 2] rfl)
