set_option maxHeartbeats 4000000 in
set_option maxRecDepth 100000 in
theorem F_step (l : Launch) {G : va_G} {tys : List (ClassId × FieldType)} {cI : ClassId} (hT : tys[1]? = some (cI, .int)) {A : Nat → Prop} {x : Nat} {q : Nat → Nat} {w : va_W} {th : Int32} {Ts : Nat → List En} {tp rd : List Nat} {cs : Bool} {cp : List Nat} {st ops cg ns : Nat} {bg : Int32} {sT sC : Nat → Int32} (hW : RW cI x q w th Ts tp rd cs cp st ops cg ns bg sT sC) (n0 : Int32) (hst : st ≤ 2) (hns : st = 1 → ns < 40) (hop : ops ≤ 2 * cg + 3) (hcg : cg ≤ 240) (hlen : (Ts 3).length + (Ts 4).length ≤ 120) (hcs : csum (Ts 3) + csum (Ts 4) ≤ 8000) : rMet l yX9_step wsX9_step ({ frames := 5, cells := 0, slots := 0, locals := 123 } : Room) G tys A [.ref x, .int n0] w (fun r w => (st ≠ 1 ∧ r = some (.int (nI 0)) ∧ RW cI x q w (nI 1) Ts tp rd cs cp st ops cg ns bg sT sC) ∨ (st = 1 ∧ ¬ (0 ≤ n0.toInt ∧ n0.toInt ≤ 200) ∧ r = some (.int (nI 0)) ∧ RW cI x q w (nI 2) Ts tp rd cs cp st ops cg ns bg sT sC) ∨ (st = 1 ∧ (0 ≤ n0.toInt ∧ n0.toInt ≤ 200) ∧ r = some (.int (nI (stp n0 (2 * cg + 3 - ops)))) ∧ ((stp n0 (2 * cg + 3 - ops) = (2 * cg + 3 - ops) ∧ RW cI x q w (nI 0) (va_up (va_up Ts 1 (jn (Ts 3) (Ts 4) (upds (ops + (2 * cg + 3 - ops)) cg)).2) (6 + ns) ((va_up Ts 1 (jn (Ts 3) (Ts 4) (upds (ops + (2 * cg + 3 - ops)) cg)).2) 4)) tp rd cs cp 0 0 cg (ns + 1) bg (upd sT ns bg) (upd sC ns (nI cg))) ∨ (stp n0 (2 * cg + 3 - ops) ≠ (2 * cg + 3 - ops) ∧ RW cI x q w (nI 0) (va_up Ts 1 (jn (Ts 3) (Ts 4) (upds (ops + stp n0 (2 * cg + 3 - ops)) cg)).2) tp rd cs cp st (ops + stp n0 (2 * cg + 3 - ops)) cg ns bg sT sC)))) := by
  obtain ⟨cm, f_many, f_bytes, f_kinds, f_modes, f_times, f_paths, f_contentAt, f_contents, f_path, f_content, f_ready, f_tape, f_chosen, rfl, hRT, ⟨htp, htl, htb⟩, ⟨hrd, hrl, hrb⟩, hch⟩ := hW
  refine Met.ofW (cc := cX9_step) (maxL := 4) (ret := (some .int)) (by decide) rfl ?_
  intro p e s m args below meth c s₁ B hml hv
  obtain ⟨hargs, hP, hK, hD⟩ := hv
  have hx := B.exec
  have hb := B.bytes
  have hr := B.returns
  have hts := atoms_spec (ws := wsX9_step) B.pre
  have hown : s.vm.findClass RX9 = some m.cls := findClass_of_methodNamed B.named
  have hlocks := B.notSynchronized
  have hC : rC p s m args c cX9_step G tys cI wsX9_step := ⟨hx, hb, hts, (by decide +kernel), hown, hK, hT⟩
  have k_begun := hts (.fieldLink RX9 144 "MirrorKeepModel" "begun" "I") (by decide +kernel)
  have k_changes := hts (.fieldLink RX9 150 "MirrorKeepModel" "changes" "I") (by decide +kernel)
  have k_operations := hts (.fieldLink RX9 141 "MirrorKeepModel" "operations" "I") (by decide +kernel)
  have k_sessionChanges := hts (.fieldLink RX9 51 "MirrorKeepModel" "sessionChanges" "[I") (by decide +kernel)
  have k_sessionTime := hts (.fieldLink RX9 48 "MirrorKeepModel" "sessionTime" "[I") (by decide +kernel)
  have k_sessions := hts (.fieldLink RX9 138 "MirrorKeepModel" "sessions" "I") (by decide +kernel)
  have k_state := hts (.fieldLink RX9 107 "MirrorKeepModel" "state" "I") (by decide +kernel)
  have k_thrown := hts (.fieldLink RX9 57 "MirrorKeepModel" "thrown" "I") (by decide +kernel)
  have hR : rR G A s.heap s.heap [] (rwx cI x q th (nI tp.length) (nI st) (nI ops) (nI cg) (nI ns) bg (bI cs) cm f_many f_bytes f_kinds f_modes f_times f_paths f_contentAt f_contents f_path f_content f_ready f_tape sT sC f_chosen) := ⟨hP, hD, va_S.rf⟩
  obtain ⟨Q, hQ⟩ : ∃ Q : State → Prop, Q = MQ below (rQ G A (fun r w => (st ≠ 1 ∧ r = some (.int (nI 0)) ∧ RW cI x q w (nI 1) Ts tp rd cs cp st ops cg ns bg sT sC) ∨ (st = 1 ∧ ¬ (0 ≤ n0.toInt ∧ n0.toInt ≤ 200) ∧ r = some (.int (nI 0)) ∧ RW cI x q w (nI 2) Ts tp rd cs cp st ops cg ns bg sT sC) ∨ (st = 1 ∧ (0 ≤ n0.toInt ∧ n0.toInt ≤ 200) ∧ r = some (.int (nI (stp n0 (2 * cg + 3 - ops)))) ∧ ((stp n0 (2 * cg + 3 - ops) = (2 * cg + 3 - ops) ∧ RW cI x q w (nI 0) (va_up (va_up Ts 1 (jn (Ts 3) (Ts 4) (upds (ops + (2 * cg + 3 - ops)) cg)).2) (6 + ns) ((va_up Ts 1 (jn (Ts 3) (Ts 4) (upds (ops + (2 * cg + 3 - ops)) cg)).2) 4)) tp rd cs cp 0 0 cg (ns + 1) bg (upd sT ns bg) (upd sC ns (nI cg))) ∨ (stp n0 (2 * cg + 3 - ops) ≠ (2 * cg + 3 - ops) ∧ RW cI x q w (nI 0) (va_up Ts 1 (jn (Ts 3) (Ts 4) (upds (ops + stp n0 (2 * cg + 3 - ops)) cg)).2) tp rd cs cp st (ops + stp n0 (2 * cg + 3 - ops)) cg ns bg sT sC))))) args s 0 0 A := ⟨_, rfl⟩
  change W p l e ({ frames := 5, cells := 0, slots := 0, locals := 123 } : Room) s m args below meth c s.heap [] 0 0 (MQ below (rQ G A (fun r w => (st ≠ 1 ∧ r = some (.int (nI 0)) ∧ RW cI x q w (nI 1) Ts tp rd cs cp st ops cg ns bg sT sC) ∨ (st = 1 ∧ ¬ (0 ≤ n0.toInt ∧ n0.toInt ≤ 200) ∧ r = some (.int (nI 0)) ∧ RW cI x q w (nI 2) Ts tp rd cs cp st ops cg ns bg sT sC) ∨ (st = 1 ∧ (0 ≤ n0.toInt ∧ n0.toInt ≤ 200) ∧ r = some (.int (nI (stp n0 (2 * cg + 3 - ops)))) ∧ ((stp n0 (2 * cg + 3 - ops) = (2 * cg + 3 - ops) ∧ RW cI x q w (nI 0) (va_up (va_up Ts 1 (jn (Ts 3) (Ts 4) (upds (ops + (2 * cg + 3 - ops)) cg)).2) (6 + ns) ((va_up Ts 1 (jn (Ts 3) (Ts 4) (upds (ops + (2 * cg + 3 - ops)) cg)).2) 4)) tp rd cs cp 0 0 cg (ns + 1) bg (upd sT ns bg) (upd sC ns (nI cg))) ∨ (stp n0 (2 * cg + 3 - ops) ≠ (2 * cg + 3 - ops) ∧ RW cI x q w (nI 0) (va_up Ts 1 (jn (Ts 3) (Ts 4) (upds (ops + stp n0 (2 * cg + 3 - ops)) cg)).2) tp rd cs cp st (ops + stp n0 (2 * cg + 3 - ops)) cg ns bg sT sC))))) args s 0 0 A) (entryFrame m args 4)
  rw [← hQ]
  refine nn_entry hargs (Nat.le_of_ble_eq_true rfl) (lv := [(0, .ref x), (1, .int n0)]) rfl (fun ls hl => ?_)
  refine lv_aload_n hx hb dX9_step_0 rfl (lv_at hl 0 rfl) ?_
  refine lv_aload_n hx hb dX9_step_1 rfl (lv_at hl 0 rfl) ?_
  refine rg_state hC hR.1 k_state dX9_step_2 ?_
  refine lv_iconst (v := nI 1) hx hb dX9_step_5 rfl ?_
  refine nn_eq hx hb dX9_step_6 (tgt := 13) (by decide) (by omega) (by omega) (fun c_1 => ?_) (fun c_1 => ?_)
  · refine lv_iload_n hx hb dX9_step_13 rfl (lv_at hl 1 rfl) ?_
    refine zi_lt hx hb rfl dX9_step_14 (tgt := 24) (by decide) (fun c_2 => ?_) (fun c_2 => ?_)
    · refine lv_iconst (v := nI 2) hx hb dX9_step_24 rfl ?_
      refine lv_goto (tgt := 29) hx hb dX9_step_25 (by decide) ?_
      refine rp_thrown hC hR k_thrown dX9_step_29 (fun H locs hR => ?_)
      refine lv_aload_n hx hb dX9_step_32 rfl (lv_at hl 0 rfl) ?_
      refine rg_thrown hC hR.1 k_thrown dX9_step_33 ?_
      refine nz_le hx hb dX9_step_36 (tgt := 41) (by decide) (by omega) (fun c_3 => ?_) (fun c_3 => ?_)
      · exact absurd c_3 (by omega)
      · refine lv_iconst (v := nI 0) hx hb dX9_step_39 rfl ?_
        rw [hQ]
        exact rf_iret hx hb hr hlocks hR (Or.inr (Or.inl ⟨by omega, by omega, rfl, ⟨_, _, _, _, _, _, _, _, _, _, _, _, _, _, rfl, hRT, ⟨htp, htl, htb⟩, ⟨hrd, hrl, hrb⟩, hch⟩⟩)) dX9_step_40
    · refine lv_iload_n hx hb dX9_step_17 rfl (lv_at hl 1 rfl) ?_
      refine lv_sipush (v := nI 200) hx hb dX9_step_18 (by decide) ?_
      refine zc_le hx hb rfl (nI_toInt (by omega)) dX9_step_21 (tgt := 28) (by decide) (fun c_4 => ?_) (fun c_4 => ?_)
      · refine lv_iconst (v := nI 0) hx hb dX9_step_28 rfl ?_
        refine rp_thrown hC hR k_thrown dX9_step_29 (fun H locs hR => ?_)
        refine lv_aload_n hx hb dX9_step_32 rfl (lv_at hl 0 rfl) ?_
        refine rg_thrown hC hR.1 k_thrown dX9_step_33 ?_
        refine nz_le hx hb dX9_step_36 (tgt := 41) (by decide) (by omega) (fun c_5 => ?_) (fun c_5 => ?_)
        · obtain ⟨n1, hn1, hn12, hn13⟩ := zn_ex (x := n0) (by omega)
          rw [hn1] at hl
          refine lv_iconst (v := nI 2) hx hb dX9_step_41 rfl ?_
          refine lv_aload_n hx hb dX9_step_42 rfl (lv_at hl 0 rfl) ?_
          refine rg_changes hC hR.1 k_changes dX9_step_43 ?_
          refine nn_mul hx hb dX9_step_46 ?_
          refine lv_iconst (v := nI 3) hx hb dX9_step_47 rfl ?_
          refine nn_add hx hb dX9_step_48 ?_
          refine lv_aload_n hx hb dX9_step_49 rfl (lv_at hl 0 rfl) ?_
          refine rg_operations hC hR.1 k_operations dX9_step_50 ?_
          refine nn_sub hx hb (by omega) dX9_step_53 ?_
          refine lv_istore_n (lv' := [(2, .int (nI (((2 * cg) + 3) - ops))), (0, .ref x), (1, .int (nI n1))]) hx hb dX9_step_54 rfl hl (by decide) rfl (fun ls hl => ?_)
          refine lv_iload_n hx hb dX9_step_55 rfl (lv_at hl 2 rfl) ?_
          refine lv_iload_n hx hb dX9_step_56 rfl (lv_at hl 0 rfl) ?_
          refine nn_ge hx hb dX9_step_57 (tgt := 64) (by decide) (by omega) (by omega) (fun c_6 => ?_) (fun c_6 => ?_)
          · refine lv_iload_n hx hb dX9_step_64 rfl (lv_at hl 0 rfl) ?_
            refine lv_istore_n (lv' := [(3, .int (nI (((2 * cg) + 3) - ops))), (2, .int (nI (((2 * cg) + 3) - ops))), (0, .ref x), (1, .int (nI n1))]) hx hb dX9_step_65 rfl hl (by decide) rfl (fun ls hl => ?_)
            refine lv_aload_n hx hb dX9_step_66 rfl (lv_at hl 2 rfl) ?_
            refine lv_dup hx hb dX9_step_67 rfl ?_
            refine rg_operations hC hR.1 k_operations dX9_step_68 ?_
            refine lv_iload_n hx hb dX9_step_71 rfl (lv_at hl 0 rfl) ?_
            refine nn_add hx hb dX9_step_72 ?_
            refine rp_operations hC hR k_operations dX9_step_73 (fun H locs hR => ?_)
            refine lv_aload_n hx hb dX9_step_76 rfl (lv_at hl 2 rfl) ?_
            refine rf_callV (C := RX9) (As := []) (rest := []) (m_mirror l hT Ts (ops + (((2 * cg) + 3) - ops)) cg hRT (by omega) (by omega) hlen hcs) ⟨hx, hb, hml, hown, hts⟩ (cwV 0 hts gX9_step_X9_mirror rfl rfl rfl (by decide +kernel) ⟨Nat.le_of_ble_eq_true rfl, Nat.le_of_ble_eq_true rfl⟩) hK hR (r_recv hK hR.1) rfl hl.1 rfl (Nat.le_of_ble_eq_true rfl) dX9_step_77 ⟨Nat.le_of_ble_eq_true rfl, Nat.le_of_ble_eq_true rfl⟩ (fun r_7 w_r_7 H locs hr_7 hR => ?_)
            obtain ⟨rfl, g_many_8, g_bytes_8, g_kinds_8, g_modes_8, g_times_8, g_paths_8, g_contentAt_8, g_contents_8, g_path_8, g_content_8, rfl, hRT⟩ := hr_7
            refine lv_iload_n hx hb dX9_step_80 rfl (lv_at hl 0 rfl) ?_
            refine lv_iload_n hx hb dX9_step_81 rfl (lv_at hl 1 rfl) ?_
            refine nn_ne hx hb dX9_step_82 (tgt := 143) (by decide) (by omega) (by omega) (fun c_9 => ?_) (fun c_9 => ?_)
            · exact absurd rfl c_9
            · have hns2 : ns < 40 := hns (by assumption)
              refine lv_aload_n hx hb dX9_step_85 rfl (lv_at hl 2 rfl) ?_
              refine rg_sessionTime hC hR.1 k_sessionTime dX9_step_86 ?_
              refine lv_aload_n hx hb dX9_step_89 rfl (lv_at hl 2 rfl) ?_
              refine rg_sessions hC hR.1 k_sessions dX9_step_90 ?_
              refine lv_aload_n hx hb dX9_step_93 rfl (lv_at hl 2 rfl) ?_
              refine rg_begun hC hR.1 k_begun dX9_step_94 ?_
              refine rs_sessionTime hC hR (by omega) dX9_step_97 (fun H locs hR => ?_)
              refine lv_aload_n hx hb dX9_step_98 rfl (lv_at hl 2 rfl) ?_
              refine rg_sessionChanges hC hR.1 k_sessionChanges dX9_step_99 ?_
              refine lv_aload_n hx hb dX9_step_102 rfl (lv_at hl 2 rfl) ?_
              refine rg_sessions hC hR.1 k_sessions dX9_step_103 ?_
              refine lv_aload_n hx hb dX9_step_106 rfl (lv_at hl 2 rfl) ?_
              refine rg_changes hC hR.1 k_changes dX9_step_107 ?_
              refine rs_sessionChanges hC hR (by omega) dX9_step_110 (fun H locs hR => ?_)
              refine lv_aload_n hx hb dX9_step_111 rfl (lv_at hl 2 rfl) ?_
              refine lv_iconst (v := nI 4) hx hb dX9_step_112 rfl ?_
              refine lv_bipush (v := nI 6) hx hb dX9_step_113 (by decide) ?_
              refine lv_aload_n hx hb dX9_step_115 rfl (lv_at hl 2 rfl) ?_
              refine rg_sessions hC hR.1 k_sessions dX9_step_116 ?_
              refine nn_add hx hb dX9_step_119 ?_
              refine rf_callV (C := RX9) (As := [.int (nI 4), .int (nI (6 + ns))]) (rest := []) (m_copy l hT (va_up Ts 1 (jn (Ts 3) (Ts 4) (upds (ops + (((2 * cg) + 3) - ops)) cg)).2) 4 (6 + ns) hRT (by omega) (by omega) (by omega)) ⟨hx, hb, hml, hown, hts⟩ (cwV 2 hts gX9_step_X9_copy rfl rfl rfl (by decide +kernel) ⟨Nat.le_of_ble_eq_true rfl, Nat.le_of_ble_eq_true rfl⟩) hK hR (r_recv hK hR.1) rfl hl.1 rfl (Nat.le_of_ble_eq_true rfl) dX9_step_120 ⟨Nat.le_of_ble_eq_true rfl, Nat.le_of_ble_eq_true rfl⟩ (fun r_10 w_r_10 H locs hr_10 hR => ?_)
              obtain ⟨rfl, g_many_11, g_bytes_11, g_kinds_11, g_modes_11, g_times_11, g_paths_11, g_contentAt_11, g_contents_11, g_path_11, g_content_11, rfl, hRT⟩ := hr_10
              refine lv_aload_n hx hb dX9_step_123 rfl (lv_at hl 2 rfl) ?_
              refine lv_dup hx hb dX9_step_124 rfl ?_
              refine rg_sessions hC hR.1 k_sessions dX9_step_125 ?_
              refine lv_iconst (v := nI 1) hx hb dX9_step_128 rfl ?_
              refine nn_add hx hb dX9_step_129 ?_
              refine rp_sessions hC hR k_sessions dX9_step_130 (fun H locs hR => ?_)
              refine lv_aload_n hx hb dX9_step_133 rfl (lv_at hl 2 rfl) ?_
              refine lv_iconst (v := nI 0) hx hb dX9_step_134 rfl ?_
              refine rp_state hC hR k_state dX9_step_135 (fun H locs hR => ?_)
              refine lv_aload_n hx hb dX9_step_138 rfl (lv_at hl 2 rfl) ?_
              refine lv_iconst (v := nI 0) hx hb dX9_step_139 rfl ?_
              refine rp_operations hC hR k_operations dX9_step_140 (fun H locs hR => ?_)
              refine lv_iload_n hx hb dX9_step_143 rfl (lv_at hl 0 rfl) ?_
              rw [hQ]
              have hd : stp n0 (2 * cg + 3 - ops) = ((2 * cg) + 3) - ops := by unfold stp; rw [if_neg (by omega)]
              exact rf_iret hx hb hr hlocks hR (Or.inr (Or.inr ⟨by omega, by omega, by rw [hd], Or.inl ⟨by rw [hd], ⟨_, _, _, _, _, _, _, _, _, _, _, _, _, _, rfl, hRT, ⟨htp, htl, htb⟩, ⟨hrd, hrl, hrb⟩, hch⟩⟩⟩)) dX9_step_144
          · refine lv_iload_n hx hb dX9_step_60 rfl (lv_at hl 2 rfl) ?_
            refine lv_goto (tgt := 65) hx hb dX9_step_61 (by decide) ?_
            refine lv_istore_n (lv' := [(3, .int (nI n1)), (2, .int (nI (((2 * cg) + 3) - ops))), (0, .ref x), (1, .int (nI n1))]) hx hb dX9_step_65 rfl hl (by decide) rfl (fun ls hl => ?_)
            refine lv_aload_n hx hb dX9_step_66 rfl (lv_at hl 2 rfl) ?_
            refine lv_dup hx hb dX9_step_67 rfl ?_
            refine rg_operations hC hR.1 k_operations dX9_step_68 ?_
            refine lv_iload_n hx hb dX9_step_71 rfl (lv_at hl 0 rfl) ?_
            refine nn_add hx hb dX9_step_72 ?_
            refine rp_operations hC hR k_operations dX9_step_73 (fun H locs hR => ?_)
            refine lv_aload_n hx hb dX9_step_76 rfl (lv_at hl 2 rfl) ?_
            refine rf_callV (C := RX9) (As := []) (rest := []) (m_mirror l hT Ts (ops + n1) cg hRT (by omega) (by omega) hlen hcs) ⟨hx, hb, hml, hown, hts⟩ (cwV 0 hts gX9_step_X9_mirror rfl rfl rfl (by decide +kernel) ⟨Nat.le_of_ble_eq_true rfl, Nat.le_of_ble_eq_true rfl⟩) hK hR (r_recv hK hR.1) rfl hl.1 rfl (Nat.le_of_ble_eq_true rfl) dX9_step_77 ⟨Nat.le_of_ble_eq_true rfl, Nat.le_of_ble_eq_true rfl⟩ (fun r_12 w_r_12 H locs hr_12 hR => ?_)
            obtain ⟨rfl, g_many_13, g_bytes_13, g_kinds_13, g_modes_13, g_times_13, g_paths_13, g_contentAt_13, g_contents_13, g_path_13, g_content_13, rfl, hRT⟩ := hr_12
            refine lv_iload_n hx hb dX9_step_80 rfl (lv_at hl 0 rfl) ?_
            refine lv_iload_n hx hb dX9_step_81 rfl (lv_at hl 1 rfl) ?_
            refine nn_ne hx hb dX9_step_82 (tgt := 143) (by decide) (by omega) (by omega) (fun c_14 => ?_) (fun c_14 => ?_)
            · refine lv_iload_n hx hb dX9_step_143 rfl (lv_at hl 0 rfl) ?_
              rw [hQ]
              have hd : stp n0 (2 * cg + 3 - ops) = n1 := by unfold stp; rw [if_pos (by omega)]; omega
              exact rf_iret hx hb hr hlocks hR (Or.inr (Or.inr ⟨by omega, by omega, by rw [hd], Or.inr ⟨by omega, by rw [hd]; exact ⟨_, _, _, _, _, _, _, _, _, _, _, _, _, _, rfl, hRT, ⟨htp, htl, htb⟩, ⟨hrd, hrl, hrb⟩, hch⟩⟩⟩)) dX9_step_144
            · exact absurd c_14 (by omega)
        · exact absurd c_5 (by omega)
      · refine lv_iconst (v := nI 2) hx hb dX9_step_24 rfl ?_
        refine lv_goto (tgt := 29) hx hb dX9_step_25 (by decide) ?_
        refine rp_thrown hC hR k_thrown dX9_step_29 (fun H locs hR => ?_)
        refine lv_aload_n hx hb dX9_step_32 rfl (lv_at hl 0 rfl) ?_
        refine rg_thrown hC hR.1 k_thrown dX9_step_33 ?_
        refine nz_le hx hb dX9_step_36 (tgt := 41) (by decide) (by omega) (fun c_15 => ?_) (fun c_15 => ?_)
        · exact absurd c_15 (by omega)
        · refine lv_iconst (v := nI 0) hx hb dX9_step_39 rfl ?_
          rw [hQ]
          exact rf_iret hx hb hr hlocks hR (Or.inr (Or.inl ⟨by omega, by omega, rfl, ⟨_, _, _, _, _, _, _, _, _, _, _, _, _, _, rfl, hRT, ⟨htp, htl, htb⟩, ⟨hrd, hrl, hrb⟩, hch⟩⟩)) dX9_step_40
  · refine lv_iconst (v := nI 1) hx hb dX9_step_9 rfl ?_
    refine lv_goto (tgt := 29) hx hb dX9_step_10 (by decide) ?_
    refine rp_thrown hC hR k_thrown dX9_step_29 (fun H locs hR => ?_)
    refine lv_aload_n hx hb dX9_step_32 rfl (lv_at hl 0 rfl) ?_
    refine rg_thrown hC hR.1 k_thrown dX9_step_33 ?_
    refine nz_le hx hb dX9_step_36 (tgt := 41) (by decide) (by omega) (fun c_16 => ?_) (fun c_16 => ?_)
    · exact absurd c_16 (by omega)
    · refine lv_iconst (v := nI 0) hx hb dX9_step_39 rfl ?_
      rw [hQ]
      exact rf_iret hx hb hr hlocks hR (Or.inl ⟨by omega, rfl, ⟨_, _, _, _, _, _, _, _, _, _, _, _, _, _, rfl, hRT, ⟨htp, htl, htb⟩, ⟨hrd, hrl, hrb⟩, hch⟩⟩) dX9_step_40
set_option maxHeartbeats 4000000 in
set_option maxRecDepth 100000 in
theorem F_regress (l : Launch) {G : va_G} {tys : List (ClassId × FieldType)} {cI : ClassId} (hT : tys[1]? = some (cI, .int)) {A : Nat → Prop} {x : Nat} {q : Nat → Nat} {w : va_W} {th : Int32} {Ts : Nat → List En} {tp rd : List Nat} {cs : Bool} {cp : List Nat} {st ops cg ns : Nat} {bg : Int32} {sT sC : Nat → Int32} (hW : RW cI x q w th Ts tp rd cs cp st ops cg ns bg sT sC) (n0 : Int32) (hst : st ≤ 2) (hop : ops ≤ 2 * cg + 3) (hcg : cg ≤ 240) (hlen : (Ts 3).length + (Ts 4).length ≤ 120) (hcs : csum (Ts 3) + csum (Ts 4) ≤ 8000) : rMet l yX9_regress wsX9_regress ({ frames := 5, cells := 0, slots := 0, locals := 123 } : Room) G tys A [.ref x, .int n0] w (fun r w => (st ≠ 2 ∧ r = some (.int (nI 0)) ∧ RW cI x q w (nI 1) Ts tp rd cs cp st ops cg ns bg sT sC) ∨ (st = 2 ∧ ¬ (0 ≤ n0.toInt ∧ n0.toInt ≤ 200) ∧ r = some (.int (nI 0)) ∧ RW cI x q w (nI 2) Ts tp rd cs cp st ops cg ns bg sT sC) ∨ (st = 2 ∧ (0 ≤ n0.toInt ∧ n0.toInt ≤ 200) ∧ r = some (.int (nI (stp n0 ops))) ∧ RW cI x q w (nI 0) (va_up Ts 1 (jn (Ts 3) (Ts 4) (upds (ops - stp n0 ops) cg)).2) tp rd cs cp (if ops - stp n0 ops = 0 then 0 else 2) (ops - stp n0 ops) cg ns bg sT sC)) := by
  obtain ⟨cm, f_many, f_bytes, f_kinds, f_modes, f_times, f_paths, f_contentAt, f_contents, f_path, f_content, f_ready, f_tape, f_chosen, rfl, hRT, ⟨htp, htl, htb⟩, ⟨hrd, hrl, hrb⟩, hch⟩ := hW
  refine Met.ofW (cc := cX9_regress) (maxL := 3) (ret := (some .int)) (by decide) rfl ?_
  intro p e s m args below meth c s₁ B hml hv
  obtain ⟨hargs, hP, hK, hD⟩ := hv
  have hx := B.exec
  have hb := B.bytes
  have hr := B.returns
  have hts := atoms_spec (ws := wsX9_regress) B.pre
  have hown : s.vm.findClass RX9 = some m.cls := findClass_of_methodNamed B.named
  have hlocks := B.notSynchronized
  have hC : rC p s m args c cX9_regress G tys cI wsX9_regress := ⟨hx, hb, hts, (by decide +kernel), hown, hK, hT⟩
  have k_operations := hts (.fieldLink RX9 141 "MirrorKeepModel" "operations" "I") (by decide +kernel)
  have k_state := hts (.fieldLink RX9 107 "MirrorKeepModel" "state" "I") (by decide +kernel)
  have k_thrown := hts (.fieldLink RX9 57 "MirrorKeepModel" "thrown" "I") (by decide +kernel)
  have hR : rR G A s.heap s.heap [] (rwx cI x q th (nI tp.length) (nI st) (nI ops) (nI cg) (nI ns) bg (bI cs) cm f_many f_bytes f_kinds f_modes f_times f_paths f_contentAt f_contents f_path f_content f_ready f_tape sT sC f_chosen) := ⟨hP, hD, va_S.rf⟩
  obtain ⟨Q, hQ⟩ : ∃ Q : State → Prop, Q = MQ below (rQ G A (fun r w => (st ≠ 2 ∧ r = some (.int (nI 0)) ∧ RW cI x q w (nI 1) Ts tp rd cs cp st ops cg ns bg sT sC) ∨ (st = 2 ∧ ¬ (0 ≤ n0.toInt ∧ n0.toInt ≤ 200) ∧ r = some (.int (nI 0)) ∧ RW cI x q w (nI 2) Ts tp rd cs cp st ops cg ns bg sT sC) ∨ (st = 2 ∧ (0 ≤ n0.toInt ∧ n0.toInt ≤ 200) ∧ r = some (.int (nI (stp n0 ops))) ∧ RW cI x q w (nI 0) (va_up Ts 1 (jn (Ts 3) (Ts 4) (upds (ops - stp n0 ops) cg)).2) tp rd cs cp (if ops - stp n0 ops = 0 then 0 else 2) (ops - stp n0 ops) cg ns bg sT sC))) args s 0 0 A := ⟨_, rfl⟩
  change W p l e ({ frames := 5, cells := 0, slots := 0, locals := 123 } : Room) s m args below meth c s.heap [] 0 0 (MQ below (rQ G A (fun r w => (st ≠ 2 ∧ r = some (.int (nI 0)) ∧ RW cI x q w (nI 1) Ts tp rd cs cp st ops cg ns bg sT sC) ∨ (st = 2 ∧ ¬ (0 ≤ n0.toInt ∧ n0.toInt ≤ 200) ∧ r = some (.int (nI 0)) ∧ RW cI x q w (nI 2) Ts tp rd cs cp st ops cg ns bg sT sC) ∨ (st = 2 ∧ (0 ≤ n0.toInt ∧ n0.toInt ≤ 200) ∧ r = some (.int (nI (stp n0 ops))) ∧ RW cI x q w (nI 0) (va_up Ts 1 (jn (Ts 3) (Ts 4) (upds (ops - stp n0 ops) cg)).2) tp rd cs cp (if ops - stp n0 ops = 0 then 0 else 2) (ops - stp n0 ops) cg ns bg sT sC))) args s 0 0 A) (entryFrame m args 3)
  rw [← hQ]
  refine nn_entry hargs (Nat.le_of_ble_eq_true rfl) (lv := [(0, .ref x), (1, .int n0)]) rfl (fun ls hl => ?_)
  refine lv_aload_n hx hb dX9_regress_0 rfl (lv_at hl 0 rfl) ?_
  refine lv_aload_n hx hb dX9_regress_1 rfl (lv_at hl 0 rfl) ?_
  refine rg_state hC hR.1 k_state dX9_regress_2 ?_
  refine lv_iconst (v := nI 2) hx hb dX9_regress_5 rfl ?_
  refine nn_eq hx hb dX9_regress_6 (tgt := 13) (by decide) (by omega) (by omega) (fun c_1 => ?_) (fun c_1 => ?_)
  · refine lv_iload_n hx hb dX9_regress_13 rfl (lv_at hl 1 rfl) ?_
    refine zi_lt hx hb rfl dX9_regress_14 (tgt := 24) (by decide) (fun c_2 => ?_) (fun c_2 => ?_)
    · refine lv_iconst (v := nI 2) hx hb dX9_regress_24 rfl ?_
      refine lv_goto (tgt := 29) hx hb dX9_regress_25 (by decide) ?_
      refine rp_thrown hC hR k_thrown dX9_regress_29 (fun H locs hR => ?_)
      refine lv_aload_n hx hb dX9_regress_32 rfl (lv_at hl 0 rfl) ?_
      refine rg_thrown hC hR.1 k_thrown dX9_regress_33 ?_
      refine nz_le hx hb dX9_regress_36 (tgt := 41) (by decide) (by omega) (fun c_3 => ?_) (fun c_3 => ?_)
      · exact absurd c_3 (by omega)
      · refine lv_iconst (v := nI 0) hx hb dX9_regress_39 rfl ?_
        rw [hQ]
        exact rf_iret hx hb hr hlocks hR (Or.inr (Or.inl ⟨by omega, by omega, rfl, ⟨_, _, _, _, _, _, _, _, _, _, _, _, _, _, rfl, hRT, ⟨htp, htl, htb⟩, ⟨hrd, hrl, hrb⟩, hch⟩⟩)) dX9_regress_40
    · refine lv_iload_n hx hb dX9_regress_17 rfl (lv_at hl 1 rfl) ?_
      refine lv_sipush (v := nI 200) hx hb dX9_regress_18 (by decide) ?_
      refine zc_le hx hb rfl (nI_toInt (by omega)) dX9_regress_21 (tgt := 28) (by decide) (fun c_4 => ?_) (fun c_4 => ?_)
      · refine lv_iconst (v := nI 0) hx hb dX9_regress_28 rfl ?_
        refine rp_thrown hC hR k_thrown dX9_regress_29 (fun H locs hR => ?_)
        refine lv_aload_n hx hb dX9_regress_32 rfl (lv_at hl 0 rfl) ?_
        refine rg_thrown hC hR.1 k_thrown dX9_regress_33 ?_
        refine nz_le hx hb dX9_regress_36 (tgt := 41) (by decide) (by omega) (fun c_5 => ?_) (fun c_5 => ?_)
        · obtain ⟨n1, hn1, hn12, hn13⟩ := zn_ex (x := n0) (by omega)
          rw [hn1] at hl
          refine lv_iload_n hx hb dX9_regress_41 rfl (lv_at hl 1 rfl) ?_
          refine lv_aload_n hx hb dX9_regress_42 rfl (lv_at hl 0 rfl) ?_
          refine rg_operations hC hR.1 k_operations dX9_regress_43 ?_
          refine nn_ge hx hb dX9_regress_46 (tgt := 53) (by decide) (by omega) (by omega) (fun c_6 => ?_) (fun c_6 => ?_)
          · refine lv_aload_n hx hb dX9_regress_53 rfl (lv_at hl 0 rfl) ?_
            refine rg_operations hC hR.1 k_operations dX9_regress_54 ?_
            refine lv_istore_n (lv' := [(2, .int (nI ops)), (0, .ref x), (1, .int (nI n1))]) hx hb dX9_regress_57 rfl hl (by decide) rfl (fun ls hl => ?_)
            refine lv_aload_n hx hb dX9_regress_58 rfl (lv_at hl 1 rfl) ?_
            refine lv_dup hx hb dX9_regress_59 rfl ?_
            refine rg_operations hC hR.1 k_operations dX9_regress_60 ?_
            refine lv_iload_n hx hb dX9_regress_63 rfl (lv_at hl 0 rfl) ?_
            refine nn_sub hx hb (by omega) dX9_regress_64 ?_
            refine rp_operations hC hR k_operations dX9_regress_65 (fun H locs hR => ?_)
            refine lv_aload_n hx hb dX9_regress_68 rfl (lv_at hl 1 rfl) ?_
            refine rf_callV (C := RX9) (As := []) (rest := []) (m_mirror l hT Ts (ops - ops) cg hRT (by omega) (by omega) hlen hcs) ⟨hx, hb, hml, hown, hts⟩ (cwV 0 hts gX9_regress_X9_mirror rfl rfl rfl (by decide +kernel) ⟨Nat.le_of_ble_eq_true rfl, Nat.le_of_ble_eq_true rfl⟩) hK hR (r_recv hK hR.1) rfl hl.1 rfl (Nat.le_of_ble_eq_true rfl) dX9_regress_69 ⟨Nat.le_of_ble_eq_true rfl, Nat.le_of_ble_eq_true rfl⟩ (fun r_7 w_r_7 H locs hr_7 hR => ?_)
            obtain ⟨rfl, g_many_8, g_bytes_8, g_kinds_8, g_modes_8, g_times_8, g_paths_8, g_contentAt_8, g_contents_8, g_path_8, g_content_8, rfl, hRT⟩ := hr_7
            refine lv_aload_n hx hb dX9_regress_72 rfl (lv_at hl 1 rfl) ?_
            refine lv_aload_n hx hb dX9_regress_73 rfl (lv_at hl 1 rfl) ?_
            refine rg_operations hC hR.1 k_operations dX9_regress_74 ?_
            refine nz_ne hx hb dX9_regress_77 (tgt := 84) (by decide) (by omega) (fun c_9 => ?_) (fun c_9 => ?_)
            · refine lv_iconst (v := nI 2) hx hb dX9_regress_84 rfl ?_
              refine rp_state hC hR k_state dX9_regress_85 (fun H locs hR => ?_)
              refine lv_iload_n hx hb dX9_regress_88 rfl (lv_at hl 0 rfl) ?_
              rw [hQ]
              have hd : stp n0 ops = ops := by unfold stp; rw [if_neg (by omega)]
              exact rf_iret hx hb hr hlocks hR (Or.inr (Or.inr ⟨by omega, by omega, by rw [hd], by rw [hd, if_neg (by omega)]; exact ⟨_, _, _, _, _, _, _, _, _, _, _, _, _, _, rfl, hRT, ⟨htp, htl, htb⟩, ⟨hrd, hrl, hrb⟩, hch⟩⟩)) dX9_regress_89
            · refine lv_iconst (v := nI 0) hx hb dX9_regress_80 rfl ?_
              refine lv_goto (tgt := 85) hx hb dX9_regress_81 (by decide) ?_
              refine rp_state hC hR k_state dX9_regress_85 (fun H locs hR => ?_)
              refine lv_iload_n hx hb dX9_regress_88 rfl (lv_at hl 0 rfl) ?_
              rw [hQ]
              have hd : stp n0 ops = ops := by unfold stp; rw [if_neg (by omega)]
              exact rf_iret hx hb hr hlocks hR (Or.inr (Or.inr ⟨by omega, by omega, by rw [hd], by rw [hd, if_pos (by omega)]; exact ⟨_, _, _, _, _, _, _, _, _, _, _, _, _, _, rfl, hRT, ⟨htp, htl, htb⟩, ⟨hrd, hrl, hrb⟩, hch⟩⟩)) dX9_regress_89
          · refine lv_iload_n hx hb dX9_regress_49 rfl (lv_at hl 1 rfl) ?_
            refine lv_goto (tgt := 57) hx hb dX9_regress_50 (by decide) ?_
            refine lv_istore_n (lv' := [(2, .int (nI n1)), (0, .ref x), (1, .int (nI n1))]) hx hb dX9_regress_57 rfl hl (by decide) rfl (fun ls hl => ?_)
            refine lv_aload_n hx hb dX9_regress_58 rfl (lv_at hl 1 rfl) ?_
            refine lv_dup hx hb dX9_regress_59 rfl ?_
            refine rg_operations hC hR.1 k_operations dX9_regress_60 ?_
            refine lv_iload_n hx hb dX9_regress_63 rfl (lv_at hl 0 rfl) ?_
            refine nn_sub hx hb (by omega) dX9_regress_64 ?_
            refine rp_operations hC hR k_operations dX9_regress_65 (fun H locs hR => ?_)
            refine lv_aload_n hx hb dX9_regress_68 rfl (lv_at hl 1 rfl) ?_
            refine rf_callV (C := RX9) (As := []) (rest := []) (m_mirror l hT Ts (ops - n1) cg hRT (by omega) (by omega) hlen hcs) ⟨hx, hb, hml, hown, hts⟩ (cwV 0 hts gX9_regress_X9_mirror rfl rfl rfl (by decide +kernel) ⟨Nat.le_of_ble_eq_true rfl, Nat.le_of_ble_eq_true rfl⟩) hK hR (r_recv hK hR.1) rfl hl.1 rfl (Nat.le_of_ble_eq_true rfl) dX9_regress_69 ⟨Nat.le_of_ble_eq_true rfl, Nat.le_of_ble_eq_true rfl⟩ (fun r_10 w_r_10 H locs hr_10 hR => ?_)
            obtain ⟨rfl, g_many_11, g_bytes_11, g_kinds_11, g_modes_11, g_times_11, g_paths_11, g_contentAt_11, g_contents_11, g_path_11, g_content_11, rfl, hRT⟩ := hr_10
            refine lv_aload_n hx hb dX9_regress_72 rfl (lv_at hl 1 rfl) ?_
            refine lv_aload_n hx hb dX9_regress_73 rfl (lv_at hl 1 rfl) ?_
            refine rg_operations hC hR.1 k_operations dX9_regress_74 ?_
            refine nz_ne hx hb dX9_regress_77 (tgt := 84) (by decide) (by omega) (fun c_12 => ?_) (fun c_12 => ?_)
            · refine lv_iconst (v := nI 2) hx hb dX9_regress_84 rfl ?_
              refine rp_state hC hR k_state dX9_regress_85 (fun H locs hR => ?_)
              refine lv_iload_n hx hb dX9_regress_88 rfl (lv_at hl 0 rfl) ?_
              rw [hQ]
              have hd : stp n0 ops = n1 := by unfold stp; rw [if_pos (by omega)]; omega
              exact rf_iret hx hb hr hlocks hR (Or.inr (Or.inr ⟨by omega, by omega, by rw [hd], by rw [hd, if_neg (by omega)]; exact ⟨_, _, _, _, _, _, _, _, _, _, _, _, _, _, rfl, hRT, ⟨htp, htl, htb⟩, ⟨hrd, hrl, hrb⟩, hch⟩⟩)) dX9_regress_89
            · refine lv_iconst (v := nI 0) hx hb dX9_regress_80 rfl ?_
              refine lv_goto (tgt := 85) hx hb dX9_regress_81 (by decide) ?_
              refine rp_state hC hR k_state dX9_regress_85 (fun H locs hR => ?_)
              refine lv_iload_n hx hb dX9_regress_88 rfl (lv_at hl 0 rfl) ?_
              rw [hQ]
              have hd : stp n0 ops = n1 := by unfold stp; rw [if_pos (by omega)]; omega
              exact rf_iret hx hb hr hlocks hR (Or.inr (Or.inr ⟨by omega, by omega, by rw [hd], by rw [hd, if_pos (by omega)]; exact ⟨_, _, _, _, _, _, _, _, _, _, _, _, _, _, rfl, hRT, ⟨htp, htl, htb⟩, ⟨hrd, hrl, hrb⟩, hch⟩⟩)) dX9_regress_89
        · exact absurd c_5 (by omega)
      · refine lv_iconst (v := nI 2) hx hb dX9_regress_24 rfl ?_
        refine lv_goto (tgt := 29) hx hb dX9_regress_25 (by decide) ?_
        refine rp_thrown hC hR k_thrown dX9_regress_29 (fun H locs hR => ?_)
        refine lv_aload_n hx hb dX9_regress_32 rfl (lv_at hl 0 rfl) ?_
        refine rg_thrown hC hR.1 k_thrown dX9_regress_33 ?_
        refine nz_le hx hb dX9_regress_36 (tgt := 41) (by decide) (by omega) (fun c_13 => ?_) (fun c_13 => ?_)
        · exact absurd c_13 (by omega)
        · refine lv_iconst (v := nI 0) hx hb dX9_regress_39 rfl ?_
          rw [hQ]
          exact rf_iret hx hb hr hlocks hR (Or.inr (Or.inl ⟨by omega, by omega, rfl, ⟨_, _, _, _, _, _, _, _, _, _, _, _, _, _, rfl, hRT, ⟨htp, htl, htb⟩, ⟨hrd, hrl, hrb⟩, hch⟩⟩)) dX9_regress_40
  · refine lv_iconst (v := nI 1) hx hb dX9_regress_9 rfl ?_
    refine lv_goto (tgt := 29) hx hb dX9_regress_10 (by decide) ?_
    refine rp_thrown hC hR k_thrown dX9_regress_29 (fun H locs hR => ?_)
    refine lv_aload_n hx hb dX9_regress_32 rfl (lv_at hl 0 rfl) ?_
    refine rg_thrown hC hR.1 k_thrown dX9_regress_33 ?_
    refine nz_le hx hb dX9_regress_36 (tgt := 41) (by decide) (by omega) (fun c_14 => ?_) (fun c_14 => ?_)
    · exact absurd c_14 (by omega)
    · refine lv_iconst (v := nI 0) hx hb dX9_regress_39 rfl ?_
      rw [hQ]
      exact rf_iret hx hb hr hlocks hR (Or.inl ⟨by omega, rfl, ⟨_, _, _, _, _, _, _, _, _, _, _, _, _, _, rfl, hRT, ⟨htp, htl, htb⟩, ⟨hrd, hrl, hrb⟩, hch⟩⟩) dX9_regress_40
set_option maxHeartbeats 4000000 in
set_option maxRecDepth 100000 in
theorem F_restore (l : Launch) {G : va_G} {tys : List (ClassId × FieldType)} {cI : ClassId} (hT : tys[1]? = some (cI, .int)) {A : Nat → Prop} {x : Nat} {q : Nat → Nat} {w : va_W} {th : Int32} {Ts : Nat → List En} {tp rd : List Nat} {cs : Bool} {cp : List Nat} {st ops cg ns : Nat} {bg : Int32} {sT sC : Nat → Int32} (hW : RW cI x q w th Ts tp rd cs cp st ops cg ns bg sT sC) (tm : Int32) (hst : st ≤ 2) (hns : ns ≤ 40) : rMet l yX9_restore wsX9_restore ({ frames := 3, cells := 0, slots := 0, locals := 70 } : Room) G tys A [.ref x, .int tm] w (fun r w => ((st ≠ 0 ∨ (ltst sT tm ns).toInt < 0) ∧ r = some (.int (nI 0)) ∧ RW cI x q w (nI 1) Ts tp rd cs cp st ops cg ns bg sT sC) ∨ ∃ k, ¬ (st ≠ 0 ∨ (ltst sT tm ns).toInt < 0) ∧ k < ns ∧ ltst sT tm ns = nI k ∧ r = some (.int (nI (Ts (6 + k)).length)) ∧ RW cI x q w (nI 0) (va_up Ts 2 (Ts (6 + k))) tp rd cs cp st ops cg ns bg sT sC) := by
  obtain ⟨cm, f_many, f_bytes, f_kinds, f_modes, f_times, f_paths, f_contentAt, f_contents, f_path, f_content, f_ready, f_tape, f_chosen, rfl, hRT, ⟨htp, htl, htb⟩, ⟨hrd, hrl, hrb⟩, hch⟩ := hW
  refine Met.ofW (cc := cX9_restore) (maxL := 3) (ret := (some .int)) (by decide) rfl ?_
  intro p e s m args below meth c s₁ B hml hv
  obtain ⟨hargs, hP, hK, hD⟩ := hv
  have hx := B.exec
  have hb := B.bytes
  have hr := B.returns
  have hts := atoms_spec (ws := wsX9_restore) B.pre
  have hown : s.vm.findClass RX9 = some m.cls := findClass_of_methodNamed B.named
  have hlocks := B.notSynchronized
  have hC : rC p s m args c cX9_restore G tys cI wsX9_restore := ⟨hx, hb, hts, (by decide +kernel), hown, hK, hT⟩
  have k_many := hts (.fieldLink RX9 7 "MirrorKeepModel" "many" "[I") (by decide +kernel)
  have k_state := hts (.fieldLink RX9 107 "MirrorKeepModel" "state" "I") (by decide +kernel)
  have k_thrown := hts (.fieldLink RX9 57 "MirrorKeepModel" "thrown" "I") (by decide +kernel)
  have hR : rR G A s.heap s.heap [] (rwx cI x q th (nI tp.length) (nI st) (nI ops) (nI cg) (nI ns) bg (bI cs) cm f_many f_bytes f_kinds f_modes f_times f_paths f_contentAt f_contents f_path f_content f_ready f_tape sT sC f_chosen) := ⟨hP, hD, va_S.rf⟩
  obtain ⟨Q, hQ⟩ : ∃ Q : State → Prop, Q = MQ below (rQ G A (fun r w => ((st ≠ 0 ∨ (ltst sT tm ns).toInt < 0) ∧ r = some (.int (nI 0)) ∧ RW cI x q w (nI 1) Ts tp rd cs cp st ops cg ns bg sT sC) ∨ ∃ k, ¬ (st ≠ 0 ∨ (ltst sT tm ns).toInt < 0) ∧ k < ns ∧ ltst sT tm ns = nI k ∧ r = some (.int (nI (Ts (6 + k)).length)) ∧ RW cI x q w (nI 0) (va_up Ts 2 (Ts (6 + k))) tp rd cs cp st ops cg ns bg sT sC)) args s 0 0 A := ⟨_, rfl⟩
  change W p l e ({ frames := 3, cells := 0, slots := 0, locals := 70 } : Room) s m args below meth c s.heap [] 0 0 (MQ below (rQ G A (fun r w => ((st ≠ 0 ∨ (ltst sT tm ns).toInt < 0) ∧ r = some (.int (nI 0)) ∧ RW cI x q w (nI 1) Ts tp rd cs cp st ops cg ns bg sT sC) ∨ ∃ k, ¬ (st ≠ 0 ∨ (ltst sT tm ns).toInt < 0) ∧ k < ns ∧ ltst sT tm ns = nI k ∧ r = some (.int (nI (Ts (6 + k)).length)) ∧ RW cI x q w (nI 0) (va_up Ts 2 (Ts (6 + k))) tp rd cs cp st ops cg ns bg sT sC)) args s 0 0 A) (entryFrame m args 3)
  rw [← hQ]
  refine nn_entry hargs (Nat.le_of_ble_eq_true rfl) (lv := [(0, .ref x), (1, .int tm)]) rfl (fun ls hl => ?_)
  refine lv_aload_n hx hb dX9_restore_0 rfl (lv_at hl 0 rfl) ?_
  refine lv_iload_n hx hb dX9_restore_1 rfl (lv_at hl 1 rfl) ?_
  refine pf_callV (C := RX9) (As := [.int tm]) (rest := []) (m_latest l hT ns hns tm) ⟨hx, hb, hml, hown, hts⟩ (cwV 1 hts gX9_restore_X9_latest rfl rfl rfl (by decide +kernel) ⟨Nat.le_of_ble_eq_true rfl, Nat.le_of_ble_eq_true rfl⟩) hK hR.1 (r_recv hK hR.1) rfl hl.1 rfl (Nat.le_of_ble_eq_true rfl) dX9_restore_2 ⟨Nat.le_of_ble_eq_true rfl, Nat.le_of_ble_eq_true rfl⟩ (fun r_1 hr_1 => ?_)
  subst hr_1
  refine lv_istore_n (lv' := [(2, .int (ltst sT tm ns)), (0, .ref x), (1, .int tm)]) hx hb dX9_restore_5 rfl hl (by decide) rfl (fun ls hl => ?_)
  refine lv_aload_n hx hb dX9_restore_6 rfl (lv_at hl 1 rfl) ?_
  refine lv_aload_n hx hb dX9_restore_7 rfl (lv_at hl 1 rfl) ?_
  refine rg_state hC hR.1 k_state dX9_restore_8 ?_
  refine nz_ne hx hb dX9_restore_11 (tgt := 18) (by decide) (by omega) (fun c_2 => ?_) (fun c_2 => ?_)
  · refine lv_iconst (v := nI 1) hx hb dX9_restore_18 rfl ?_
    refine lv_goto (tgt := 23) hx hb dX9_restore_19 (by decide) ?_
    refine rp_thrown hC hR k_thrown dX9_restore_23 (fun H locs hR => ?_)
    refine lv_aload_n hx hb dX9_restore_26 rfl (lv_at hl 1 rfl) ?_
    refine rg_thrown hC hR.1 k_thrown dX9_restore_27 ?_
    refine nz_le hx hb dX9_restore_30 (tgt := 35) (by decide) (by omega) (fun c_3 => ?_) (fun c_3 => ?_)
    · exact absurd c_3 (by omega)
    · refine lv_iconst (v := nI 0) hx hb dX9_restore_33 rfl ?_
      rw [hQ]
      exact rf_iret hx hb hr hlocks hR (Or.inl ⟨by omega, rfl, ⟨_, _, _, _, _, _, _, _, _, _, _, _, _, _, rfl, hRT, ⟨htp, htl, htb⟩, ⟨hrd, hrl, hrb⟩, hch⟩⟩) dX9_restore_34
  · refine lv_iload_n hx hb dX9_restore_14 rfl (lv_at hl 0 rfl) ?_
    refine zi_ge hx hb rfl dX9_restore_15 (tgt := 22) (by decide) (fun c_4 => ?_) (fun c_4 => ?_)
    · refine lv_iconst (v := nI 0) hx hb dX9_restore_22 rfl ?_
      refine rp_thrown hC hR k_thrown dX9_restore_23 (fun H locs hR => ?_)
      refine lv_aload_n hx hb dX9_restore_26 rfl (lv_at hl 1 rfl) ?_
      refine rg_thrown hC hR.1 k_thrown dX9_restore_27 ?_
      refine nz_le hx hb dX9_restore_30 (tgt := 35) (by decide) (by omega) (fun c_5 => ?_) (fun c_5 => ?_)
      · obtain ⟨k, hk, hk1, hk2⟩ := ltst_pos (sT := sT) (tm := tm) (n := ns) (by omega) (by omega)
        have hk4 := hk1
        rw [hk1] at hl
        refine lv_aload_n hx hb dX9_restore_35 rfl (lv_at hl 1 rfl) ?_
        refine lv_bipush (v := nI 6) hx hb dX9_restore_36 (by decide) ?_
        refine lv_iload_n hx hb dX9_restore_38 rfl (lv_at hl 0 rfl) ?_
        refine nn_add hx hb dX9_restore_39 ?_
        refine lv_iconst (v := nI 2) hx hb dX9_restore_40 rfl ?_
        refine rf_callV (C := RX9) (As := [.int (nI (6 + k)), .int (nI 2)]) (rest := []) (m_copy l hT Ts (6 + k) 2 hRT (by omega) (by omega) (by omega)) ⟨hx, hb, hml, hown, hts⟩ (cwV 2 hts gX9_restore_X9_copy rfl rfl rfl (by decide +kernel) ⟨Nat.le_of_ble_eq_true rfl, Nat.le_of_ble_eq_true rfl⟩) hK hR (r_recv hK hR.1) rfl hl.1 rfl (Nat.le_of_ble_eq_true rfl) dX9_restore_41 ⟨Nat.le_of_ble_eq_true rfl, Nat.le_of_ble_eq_true rfl⟩ (fun r_6 w_r_6 H locs hr_6 hR => ?_)
        obtain ⟨rfl, g_many_7, g_bytes_7, g_kinds_7, g_modes_7, g_times_7, g_paths_7, g_contentAt_7, g_contents_7, g_path_7, g_content_7, rfl, hRT⟩ := hr_6
        refine lv_aload_n hx hb dX9_restore_44 rfl (lv_at hl 1 rfl) ?_
        refine rg_many hC hR.1 k_many dX9_restore_45 ?_
        refine lv_iconst (v := nI 2) hx hb dX9_restore_48 rfl ?_
        refine rl_many hC hR.1 (by omega) dX9_restore_49 ?_
        have hq := (hRT 2 (by decide)).1
        rw [va_up_self] at hq
        refine nn_eqi (y := nI (Ts (6 + k)).length) hq ?_
        rw [hQ]
        exact rf_iret hx hb hr hlocks hR (Or.inr ⟨k, by omega, hk, hk4, rfl, ⟨_, _, _, _, _, _, _, _, _, _, _, _, _, _, rfl, hRT, ⟨htp, htl, htb⟩, ⟨hrd, hrl, hrb⟩, hch⟩⟩) dX9_restore_50
      · exact absurd c_5 (by omega)
    · refine lv_iconst (v := nI 1) hx hb dX9_restore_18 rfl ?_
      refine lv_goto (tgt := 23) hx hb dX9_restore_19 (by decide) ?_
      refine rp_thrown hC hR k_thrown dX9_restore_23 (fun H locs hR => ?_)
      refine lv_aload_n hx hb dX9_restore_26 rfl (lv_at hl 1 rfl) ?_
      refine rg_thrown hC hR.1 k_thrown dX9_restore_27 ?_
      refine nz_le hx hb dX9_restore_30 (tgt := 35) (by decide) (by omega) (fun c_8 => ?_) (fun c_8 => ?_)
      · exact absurd c_8 (by omega)
      · refine lv_iconst (v := nI 0) hx hb dX9_restore_33 rfl ?_
        rw [hQ]
        exact rf_iret hx hb hr hlocks hR (Or.inl ⟨by omega, rfl, ⟨_, _, _, _, _, _, _, _, _, _, _, _, _, _, rfl, hRT, ⟨htp, htl, htb⟩, ⟨hrd, hrl, hrb⟩, hch⟩⟩) dX9_restore_34
set_option maxHeartbeats 4000000 in
set_option maxRecDepth 100000 in
theorem F_prune (l : Launch) {G : va_G} {tys : List (ClassId × FieldType)} {cI : ClassId} (hT : tys[1]? = some (cI, .int)) {A : Nat → Prop} {x : Nat} {q : Nat → Nat} {w : va_W} {th : Int32} {Ts : Nat → List En} {tp rd : List Nat} {cs : Bool} {cp : List Nat} {st ops cg ns : Nat} {bg : Int32} {sT sC : Nat → Int32} (hW : RW cI x q w th Ts tp rd cs cp st ops cg ns bg sT sC) (tm : Int32) (hst : st ≤ 2) (hns : ns ≤ 40) : rMet l yX9_prune wsX9_prune ({ frames := 3, cells := 0, slots := 0, locals := 70 } : Room) G tys A [.ref x, .int tm] w (fun r w => (st ≠ 0 ∧ r = some (.int (nI 0)) ∧ RW cI x q w (nI 1) Ts tp rd cs cp st ops cg ns bg sT sC) ∨ (st = 0 ∧ (ltst sT tm ns).toInt ≤ 0 ∧ r = some (.int (nI 0)) ∧ RW cI x q w (nI 0) Ts tp rd cs cp st ops cg ns bg sT sC) ∨ ∃ (k : Nat) (T2 : Nat → List En) (g1 g2 : Nat → Int32), st = 0 ∧ 0 < k ∧ k < ns ∧ ltst sT tm ns = nI k ∧ r = some (.int (nI k)) ∧ (∀ i, i < 6 → T2 i = Ts i) ∧ (∀ i, i < ns - k → T2 (6 + i) = Ts (6 + i + k)) ∧ (∀ i, i < ns - k → g1 i = sT (i + k)) ∧ (∀ i, i < ns - k → g2 i = sC (i + k)) ∧ RW cI x q w (nI 0) T2 tp rd cs cp st ops cg (ns - k) bg g1 g2) := by
  obtain ⟨cm, f_many, f_bytes, f_kinds, f_modes, f_times, f_paths, f_contentAt, f_contents, f_path, f_content, f_ready, f_tape, f_chosen, rfl, hRT, ⟨htp, htl, htb⟩, ⟨hrd, hrl, hrb⟩, hch⟩ := hW
  refine Met.ofW (cc := cX9_prune) (maxL := 4) (ret := (some .int)) (by decide) rfl ?_
  intro p e s m args below meth c s₁ B hml hv
  obtain ⟨hargs, hP, hK, hD⟩ := hv
  have hx := B.exec
  have hb := B.bytes
  have hr := B.returns
  have hts := atoms_spec (ws := wsX9_prune) B.pre
  have hown : s.vm.findClass RX9 = some m.cls := findClass_of_methodNamed B.named
  have hlocks := B.notSynchronized
  have hC : rC p s m args c cX9_prune G tys cI wsX9_prune := ⟨hx, hb, hts, (by decide +kernel), hown, hK, hT⟩
  have k_sessionChanges := hts (.fieldLink RX9 51 "MirrorKeepModel" "sessionChanges" "[I") (by decide +kernel)
  have k_sessionTime := hts (.fieldLink RX9 48 "MirrorKeepModel" "sessionTime" "[I") (by decide +kernel)
  have k_sessions := hts (.fieldLink RX9 138 "MirrorKeepModel" "sessions" "I") (by decide +kernel)
  have k_state := hts (.fieldLink RX9 107 "MirrorKeepModel" "state" "I") (by decide +kernel)
  have k_thrown := hts (.fieldLink RX9 57 "MirrorKeepModel" "thrown" "I") (by decide +kernel)
  have hR : rR G A s.heap s.heap [] (rwx cI x q th (nI tp.length) (nI st) (nI ops) (nI cg) (nI ns) bg (bI cs) cm f_many f_bytes f_kinds f_modes f_times f_paths f_contentAt f_contents f_path f_content f_ready f_tape sT sC f_chosen) := ⟨hP, hD, va_S.rf⟩
  obtain ⟨Q, hQ⟩ : ∃ Q : State → Prop, Q = MQ below (rQ G A (fun r w => (st ≠ 0 ∧ r = some (.int (nI 0)) ∧ RW cI x q w (nI 1) Ts tp rd cs cp st ops cg ns bg sT sC) ∨ (st = 0 ∧ (ltst sT tm ns).toInt ≤ 0 ∧ r = some (.int (nI 0)) ∧ RW cI x q w (nI 0) Ts tp rd cs cp st ops cg ns bg sT sC) ∨ ∃ (k : Nat) (T2 : Nat → List En) (g1 g2 : Nat → Int32), st = 0 ∧ 0 < k ∧ k < ns ∧ ltst sT tm ns = nI k ∧ r = some (.int (nI k)) ∧ (∀ i, i < 6 → T2 i = Ts i) ∧ (∀ i, i < ns - k → T2 (6 + i) = Ts (6 + i + k)) ∧ (∀ i, i < ns - k → g1 i = sT (i + k)) ∧ (∀ i, i < ns - k → g2 i = sC (i + k)) ∧ RW cI x q w (nI 0) T2 tp rd cs cp st ops cg (ns - k) bg g1 g2)) args s 0 0 A := ⟨_, rfl⟩
  change W p l e ({ frames := 3, cells := 0, slots := 0, locals := 70 } : Room) s m args below meth c s.heap [] 0 0 (MQ below (rQ G A (fun r w => (st ≠ 0 ∧ r = some (.int (nI 0)) ∧ RW cI x q w (nI 1) Ts tp rd cs cp st ops cg ns bg sT sC) ∨ (st = 0 ∧ (ltst sT tm ns).toInt ≤ 0 ∧ r = some (.int (nI 0)) ∧ RW cI x q w (nI 0) Ts tp rd cs cp st ops cg ns bg sT sC) ∨ ∃ (k : Nat) (T2 : Nat → List En) (g1 g2 : Nat → Int32), st = 0 ∧ 0 < k ∧ k < ns ∧ ltst sT tm ns = nI k ∧ r = some (.int (nI k)) ∧ (∀ i, i < 6 → T2 i = Ts i) ∧ (∀ i, i < ns - k → T2 (6 + i) = Ts (6 + i + k)) ∧ (∀ i, i < ns - k → g1 i = sT (i + k)) ∧ (∀ i, i < ns - k → g2 i = sC (i + k)) ∧ RW cI x q w (nI 0) T2 tp rd cs cp st ops cg (ns - k) bg g1 g2)) args s 0 0 A) (entryFrame m args 4)
  rw [← hQ]
  refine nn_entry hargs (Nat.le_of_ble_eq_true rfl) (lv := [(0, .ref x), (1, .int tm)]) rfl (fun ls hl => ?_)
  refine lv_aload_n hx hb dX9_prune_0 rfl (lv_at hl 0 rfl) ?_
  refine lv_aload_n hx hb dX9_prune_1 rfl (lv_at hl 0 rfl) ?_
  refine rg_state hC hR.1 k_state dX9_prune_2 ?_
  refine nz_eq hx hb dX9_prune_5 (tgt := 12) (by decide) (by omega) (fun c_1 => ?_) (fun c_1 => ?_)
  · refine lv_iconst (v := nI 0) hx hb dX9_prune_12 rfl ?_
    refine rp_thrown hC hR k_thrown dX9_prune_13 (fun H locs hR => ?_)
    refine lv_aload_n hx hb dX9_prune_16 rfl (lv_at hl 0 rfl) ?_
    refine lv_iload_n hx hb dX9_prune_17 rfl (lv_at hl 1 rfl) ?_
    refine pf_callV (C := RX9) (As := [.int tm]) (rest := []) (m_latest l hT ns hns tm) ⟨hx, hb, hml, hown, hts⟩ (cwV 1 hts gX9_prune_X9_latest rfl rfl rfl (by decide +kernel) ⟨Nat.le_of_ble_eq_true rfl, Nat.le_of_ble_eq_true rfl⟩) hK hR.1 (r_recv hK hR.1) rfl hl.1 rfl (Nat.le_of_ble_eq_true rfl) dX9_prune_18 ⟨Nat.le_of_ble_eq_true rfl, Nat.le_of_ble_eq_true rfl⟩ (fun r_2 hr_2 => ?_)
    subst hr_2
    refine lv_istore_n (lv' := [(2, .int (ltst sT tm ns)), (0, .ref x), (1, .int tm)]) hx hb dX9_prune_21 rfl hl (by decide) rfl (fun ls hl => ?_)
    refine lv_aload_n hx hb dX9_prune_22 rfl (lv_at hl 1 rfl) ?_
    refine rg_thrown hC hR.1 k_thrown dX9_prune_23 ?_
    refine nz_gt hx hb dX9_prune_26 (tgt := 33) (by decide) (by omega) (fun c_3 => ?_) (fun c_3 => ?_)
    · exact absurd c_3 (by omega)
    · refine lv_iload_n hx hb dX9_prune_29 rfl (lv_at hl 0 rfl) ?_
      refine zi_gt hx hb rfl dX9_prune_30 (tgt := 35) (by decide) (fun c_4 => ?_) (fun c_4 => ?_)
      · obtain ⟨k, hk, hk1, hk2⟩ := ltst_pos (sT := sT) (tm := tm) (n := ns) (by omega) (by omega)
        have hk4 := hk1
        rw [hk1] at hl
        have hkp : 0 < k := by have h9 := nI_toInt (n := k) (by omega); rw [← hk4] at h9; omega
        refine lv_iload_n hx hb dX9_prune_35 rfl (lv_at hl 0 rfl) ?_
        refine lv_istore_n (lv' := [(3, .int (nI k)), (2, .int (nI k)), (0, .ref x), (1, .int tm)]) hx hb dX9_prune_36 rfl hl (by decide) rfl (fun ls hl => ?_)
        have lp_37 : ∀ (n_37 : Nat) (j : Nat) (T2 : Nat → List En) (g1 : Nat → Int32) (g2 : Nat → Int32) (a_many : Nat → Int32) (a_bytes : Nat → Int32) (a_kinds : Nat → Int32) (a_modes : Nat → Int32) (a_times : Nat → Int32) (a_paths : Nat → Int32) (a_contentAt : Nat → Int32) (a_contents : Nat → Int32) (a_path : Nat → Int32) (a_content : Nat → Int32) (H : Heap) (locs : List Loc) (ls : Array Slot), (ns - j) < n_37 → (k ≤ j) → (j ≤ ns) → ((∀ i, i < 6 → T2 i = Ts i) ∧ (∀ i, i < j - k → T2 (6 + i) = Ts (6 + i + k)) ∧ ∀ i, j ≤ i → T2 (6 + i) = Ts (6 + i)) → ((∀ i, i < j - k → g1 i = sT (i + k)) ∧ ∀ i, j ≤ i → g1 i = sT i) → ((∀ i, i < j - k → g2 i = sC (i + k)) ∧ ∀ i, j ≤ i → g2 i = sC i) → (RT a_many a_bytes a_kinds a_modes a_times a_paths a_contentAt a_contents a_path a_content T2) → rR G A s.heap H locs (rwx cI x q (nI 0) (nI tp.length) (nI st) (nI ops) (nI cg) (nI ns) bg (bI cs) cm a_many a_bytes a_kinds a_modes a_times a_paths a_contentAt a_contents a_path a_content f_ready f_tape g1 g2 f_chosen) → lv_has ls 4 [(3, .int (nI j)), (2, .int (nI k)), (0, .ref x), (1, .int tm)] → W p l e ({ frames := 3, cells := 0, slots := 0, locals := 70 } : Room) s m args below meth c H locs 0 0 Q (F0 m 37 ls []) := by
          intro n_37
          induction n_37 with
          | zero => intro j T2 g1 g2 a_many a_bytes a_kinds a_modes a_times a_paths a_contentAt a_contents a_path a_content H locs ls h0; exact absurd h0 (Nat.not_lt_zero _)
          | succ n_37 ih_37 =>
            intro j T2 g1 g2 a_many a_bytes a_kinds a_modes a_times a_paths a_contentAt a_contents a_path a_content H locs ls hm_37 hj hj2 hT2 hg1 hg2 hRT hR hl
            refine lv_iload_n hx hb dX9_prune_37 rfl (lv_at hl 0 rfl) ?_
            refine lv_aload_n hx hb dX9_prune_38 rfl (lv_at hl 2 rfl) ?_
            refine rg_sessions hC hR.1 k_sessions dX9_prune_39 ?_
            refine nn_ge hx hb dX9_prune_42 (tgt := 93) (by decide) (by omega) (by omega) (fun c_5 => ?_) (fun c_5 => ?_)
            · refine lv_aload_n hx hb dX9_prune_93 rfl (lv_at hl 2 rfl) ?_
              refine lv_dup hx hb dX9_prune_94 rfl ?_
              refine rg_sessions hC hR.1 k_sessions dX9_prune_95 ?_
              refine lv_iload_n hx hb dX9_prune_98 rfl (lv_at hl 1 rfl) ?_
              refine nn_sub hx hb (by omega) dX9_prune_99 ?_
              refine rp_sessions hC hR k_sessions dX9_prune_100 (fun H locs hR => ?_)
              refine lv_iload_n hx hb dX9_prune_103 rfl (lv_at hl 1 rfl) ?_
              rw [hQ]
              have hj3 : j = ns := by omega
              exact rf_iret hx hb hr hlocks hR (Or.inr (Or.inr ⟨k, T2, g1, g2, by omega, by omega, hk, hk4, rfl, hT2.1, fun i hi => hT2.2.1 i (by omega), fun i hi => hg1.1 i (by omega), fun i hi => hg2.1 i (by omega), ⟨_, _, _, _, _, _, _, _, _, _, _, _, _, _, rfl, hRT, ⟨htp, htl, htb⟩, ⟨hrd, hrl, hrb⟩, hch⟩⟩)) dX9_prune_104
            · refine lv_aload_n hx hb dX9_prune_45 rfl (lv_at hl 2 rfl) ?_
              refine lv_bipush (v := nI 6) hx hb dX9_prune_46 (by decide) ?_
              refine lv_iload_n hx hb dX9_prune_48 rfl (lv_at hl 0 rfl) ?_
              refine nn_add hx hb dX9_prune_49 ?_
              refine lv_bipush (v := nI 6) hx hb dX9_prune_50 (by decide) ?_
              refine lv_iload_n hx hb dX9_prune_52 rfl (lv_at hl 0 rfl) ?_
              refine nn_add hx hb dX9_prune_53 ?_
              refine lv_iload_n hx hb dX9_prune_54 rfl (lv_at hl 1 rfl) ?_
              refine nn_sub hx hb (by omega) dX9_prune_55 ?_
              refine rf_callV (C := RX9) (As := [.int (nI (6 + j)), .int (nI ((6 + j) - k))]) (rest := []) (m_copy l hT T2 (6 + j) (6 + j - k) hRT (by omega) (by omega) (by omega)) ⟨hx, hb, hml, hown, hts⟩ (cwV 2 hts gX9_prune_X9_copy rfl rfl rfl (by decide +kernel) ⟨Nat.le_of_ble_eq_true rfl, Nat.le_of_ble_eq_true rfl⟩) hK hR (r_recv hK hR.1) rfl hl.1 rfl (Nat.le_of_ble_eq_true rfl) dX9_prune_56 ⟨Nat.le_of_ble_eq_true rfl, Nat.le_of_ble_eq_true rfl⟩ (fun r_6 w_r_6 H locs hr_6 hR => ?_)
              obtain ⟨rfl, g_many_7, g_bytes_7, g_kinds_7, g_modes_7, g_times_7, g_paths_7, g_contentAt_7, g_contents_7, g_path_7, g_content_7, rfl, hRT⟩ := hr_6
              refine lv_aload_n hx hb dX9_prune_59 rfl (lv_at hl 2 rfl) ?_
              refine rg_sessionTime hC hR.1 k_sessionTime dX9_prune_60 ?_
              refine lv_iload_n hx hb dX9_prune_63 rfl (lv_at hl 0 rfl) ?_
              refine lv_iload_n hx hb dX9_prune_64 rfl (lv_at hl 1 rfl) ?_
              refine nn_sub hx hb (by omega) dX9_prune_65 ?_
              refine lv_aload_n hx hb dX9_prune_66 rfl (lv_at hl 2 rfl) ?_
              refine rg_sessionTime hC hR.1 k_sessionTime dX9_prune_67 ?_
              refine lv_iload_n hx hb dX9_prune_70 rfl (lv_at hl 0 rfl) ?_
              refine rl_sessionTime hC hR.1 (by omega) dX9_prune_71 ?_
              refine rs_sessionTime hC hR (by omega) dX9_prune_72 (fun H locs hR => ?_)
              refine lv_aload_n hx hb dX9_prune_73 rfl (lv_at hl 2 rfl) ?_
              refine rg_sessionChanges hC hR.1 k_sessionChanges dX9_prune_74 ?_
              refine lv_iload_n hx hb dX9_prune_77 rfl (lv_at hl 0 rfl) ?_
              refine lv_iload_n hx hb dX9_prune_78 rfl (lv_at hl 1 rfl) ?_
              refine nn_sub hx hb (by omega) dX9_prune_79 ?_
              refine lv_aload_n hx hb dX9_prune_80 rfl (lv_at hl 2 rfl) ?_
              refine rg_sessionChanges hC hR.1 k_sessionChanges dX9_prune_81 ?_
              refine lv_iload_n hx hb dX9_prune_84 rfl (lv_at hl 0 rfl) ?_
              refine rl_sessionChanges hC hR.1 (by omega) dX9_prune_85 ?_
              refine rs_sessionChanges hC hR (by omega) dX9_prune_86 (fun H locs hR => ?_)
              refine lv_iinc (v := nI (j + 1)) (lv' := [(3, .int (nI (j + 1))), (2, .int (nI k)), (0, .ref x), (1, .int tm)]) hx hb dX9_prune_87 hl (k := 0) rfl (nI_add j 1) (by decide) rfl (fun ls hl => ?_)
              refine lv_goto (tgt := 37) hx hb dX9_prune_90 (by decide) ?_
              exact ih_37 (j + 1) (va_up T2 (6 + j - k) (T2 (6 + j))) (upd g1 (j - k) (g1 j)) (upd g2 (j - k) (g2 j)) g_many_7 g_bytes_7 g_kinds_7 g_modes_7 g_times_7 g_paths_7 g_contentAt_7 g_contents_7 g_path_7 g_content_7 _ _ _ (by omega) (by omega) (by omega) (pr_T hkp hj hT2) (pr_g hkp hj hg1) (pr_g hkp hj hg2) hRT hR (lv_sub hl [0, 1, 2, 3] rfl)
        exact lp_37 (((ns - k)) + 1) k Ts sT sC f_many f_bytes f_kinds f_modes f_times f_paths f_contentAt f_contents f_path f_content _ _ _ (Nat.lt_succ_self _) (Nat.le_refl _) (by omega) ⟨fun _ _ => rfl, fun i hi => absurd hi (by omega), fun _ _ => rfl⟩ ⟨fun i hi => absurd hi (by omega), fun _ _ => rfl⟩ ⟨fun i hi => absurd hi (by omega), fun _ _ => rfl⟩ hRT hR (lv_sub hl [0, 1, 2, 3] rfl)
      · refine lv_iconst (v := nI 0) hx hb dX9_prune_33 rfl ?_
        rw [hQ]
        exact rf_iret hx hb hr hlocks hR (Or.inr (Or.inl ⟨by omega, by omega, rfl, ⟨_, _, _, _, _, _, _, _, _, _, _, _, _, _, rfl, hRT, ⟨htp, htl, htb⟩, ⟨hrd, hrl, hrb⟩, hch⟩⟩)) dX9_prune_34
  · refine lv_iconst (v := nI 1) hx hb dX9_prune_8 rfl ?_
    refine lv_goto (tgt := 13) hx hb dX9_prune_9 (by decide) ?_
    refine rp_thrown hC hR k_thrown dX9_prune_13 (fun H locs hR => ?_)
    refine lv_aload_n hx hb dX9_prune_16 rfl (lv_at hl 0 rfl) ?_
    refine lv_iload_n hx hb dX9_prune_17 rfl (lv_at hl 1 rfl) ?_
    refine pf_callV (C := RX9) (As := [.int tm]) (rest := []) (m_latest l hT ns hns tm) ⟨hx, hb, hml, hown, hts⟩ (cwV 1 hts gX9_prune_X9_latest rfl rfl rfl (by decide +kernel) ⟨Nat.le_of_ble_eq_true rfl, Nat.le_of_ble_eq_true rfl⟩) hK hR.1 (r_recv hK hR.1) rfl hl.1 rfl (Nat.le_of_ble_eq_true rfl) dX9_prune_18 ⟨Nat.le_of_ble_eq_true rfl, Nat.le_of_ble_eq_true rfl⟩ (fun r_8 hr_8 => ?_)
    subst hr_8
    refine lv_istore_n (lv' := [(2, .int (ltst sT tm ns)), (0, .ref x), (1, .int tm)]) hx hb dX9_prune_21 rfl hl (by decide) rfl (fun ls hl => ?_)
    refine lv_aload_n hx hb dX9_prune_22 rfl (lv_at hl 1 rfl) ?_
    refine rg_thrown hC hR.1 k_thrown dX9_prune_23 ?_
    refine nz_gt hx hb dX9_prune_26 (tgt := 33) (by decide) (by omega) (fun c_9 => ?_) (fun c_9 => ?_)
    · refine lv_iconst (v := nI 0) hx hb dX9_prune_33 rfl ?_
      rw [hQ]
      exact rf_iret hx hb hr hlocks hR (Or.inl ⟨by omega, rfl, ⟨_, _, _, _, _, _, _, _, _, _, _, _, _, _, rfl, hRT, ⟨htp, htl, htb⟩, ⟨hrd, hrl, hrb⟩, hch⟩⟩) dX9_prune_34
    · exact absurd c_9 (by omega)
set_option maxHeartbeats 4000000 in
set_option maxRecDepth 100000 in
theorem F_choose (l : Launch) {G : va_G} {tys : List (ClassId × FieldType)} {cI : ClassId} (hT : tys[1]? = some (cI, .int)) {A : Nat → Prop} {x : Nat} {q : Nat → Nat} {w : va_W} {th : Int32} {Ts : Nat → List En} {tp rd : List Nat} {cs : Bool} {cp : List Nat} {st ops cg ns : Nat} {bg : Int32} {sT sC : Nat → Int32} (hW : RW cI x q w th Ts tp rd cs cp st ops cg ns bg sT sC)  : rMet l yX9_choose wsX9_choose ({ frames := 3, cells := 0, slots := 0, locals := 74 } : Room) G tys A [.ref x] w (fun r w => ((fndr (Ts 0) tp (Ts 0).length).toInt < 0 ∧ r = some (.int (-1)) ∧ RW cI x q w (nI 0) Ts ([]) rd false cp st ops cg ns bg sT sC) ∨ ∃ i, i < (Ts 0).length ∧ fndr (Ts 0) tp (Ts 0).length = nI i ∧ ((Ts 0).getD i e0).1 = tp ∧ r = some (.int ((Ts 0).getD i e0).2.1) ∧ RW cI x q w (nI 0) Ts ([]) rd true tp st ops cg ns bg sT sC) := by
  obtain ⟨cm, f_many, f_bytes, f_kinds, f_modes, f_times, f_paths, f_contentAt, f_contents, f_path, f_content, f_ready, f_tape, f_chosen, rfl, hRT, ⟨htp, htl, htb⟩, ⟨hrd, hrl, hrb⟩, hch⟩ := hW
  refine Met.ofW (cc := cX9_choose) (maxL := 3) (ret := (some .int)) (by decide) rfl ?_
  intro p e s m args below meth c s₁ B hml hv
  obtain ⟨hargs, hP, hK, hD⟩ := hv
  have hx := B.exec
  have hb := B.bytes
  have hr := B.returns
  have hts := atoms_spec (ws := wsX9_choose) B.pre
  have hown : s.vm.findClass RX9 = some m.cls := findClass_of_methodNamed B.named
  have hlocks := B.notSynchronized
  have hC : rC p s m args c cX9_choose G tys cI wsX9_choose := ⟨hx, hb, hts, (by decide +kernel), hown, hK, hT⟩
  have k_isChosen := hts (.fieldLink RX9 96 "MirrorKeepModel" "isChosen" "Z") (by decide +kernel)
  have k_kinds := hts (.fieldLink RX9 16 "MirrorKeepModel" "kinds" "[I") (by decide +kernel)
  have k_tape := hts (.fieldLink RX9 45 "MirrorKeepModel" "tape" "[I") (by decide +kernel)
  have k_taped := hts (.fieldLink RX9 61 "MirrorKeepModel" "taped" "I") (by decide +kernel)
  have k_thrown := hts (.fieldLink RX9 57 "MirrorKeepModel" "thrown" "I") (by decide +kernel)
  have hR : rR G A s.heap s.heap [] (rwx cI x q th (nI tp.length) (nI st) (nI ops) (nI cg) (nI ns) bg (bI cs) cm f_many f_bytes f_kinds f_modes f_times f_paths f_contentAt f_contents f_path f_content f_ready f_tape sT sC f_chosen) := ⟨hP, hD, va_S.rf⟩
  obtain ⟨Q, hQ⟩ : ∃ Q : State → Prop, Q = MQ below (rQ G A (fun r w => ((fndr (Ts 0) tp (Ts 0).length).toInt < 0 ∧ r = some (.int (-1)) ∧ RW cI x q w (nI 0) Ts ([]) rd false cp st ops cg ns bg sT sC) ∨ ∃ i, i < (Ts 0).length ∧ fndr (Ts 0) tp (Ts 0).length = nI i ∧ ((Ts 0).getD i e0).1 = tp ∧ r = some (.int ((Ts 0).getD i e0).2.1) ∧ RW cI x q w (nI 0) Ts ([]) rd true tp st ops cg ns bg sT sC)) args s 0 0 A := ⟨_, rfl⟩
  change W p l e ({ frames := 3, cells := 0, slots := 0, locals := 74 } : Room) s m args below meth c s.heap [] 0 0 (MQ below (rQ G A (fun r w => ((fndr (Ts 0) tp (Ts 0).length).toInt < 0 ∧ r = some (.int (-1)) ∧ RW cI x q w (nI 0) Ts ([]) rd false cp st ops cg ns bg sT sC) ∨ ∃ i, i < (Ts 0).length ∧ fndr (Ts 0) tp (Ts 0).length = nI i ∧ ((Ts 0).getD i e0).1 = tp ∧ r = some (.int ((Ts 0).getD i e0).2.1) ∧ RW cI x q w (nI 0) Ts ([]) rd true tp st ops cg ns bg sT sC)) args s 0 0 A) (entryFrame m args 3)
  rw [← hQ]
  refine nn_entry hargs (Nat.le_of_ble_eq_true rfl) (lv := [(0, .ref x)]) rfl (fun ls hl => ?_)
  obtain ⟨a1, a2, a3, a4, a5⟩ := hRT 0 (by decide)
  refine lv_aload_n hx hb dX9_choose_0 rfl (lv_at hl 0 rfl) ?_
  refine lv_iconst (v := nI 0) hx hb dX9_choose_1 rfl ?_
  refine rp_thrown hC hR k_thrown dX9_choose_2 (fun H locs hR => ?_)
  refine lv_aload_n hx hb dX9_choose_5 rfl (lv_at hl 0 rfl) ?_
  refine rg_taped hC hR.1 k_taped dX9_choose_6 ?_
  refine lv_istore_n (lv' := [(1, .int (nI tp.length)), (0, .ref x)]) hx hb dX9_choose_9 rfl hl (by decide) rfl (fun ls hl => ?_)
  refine lv_aload_n hx hb dX9_choose_10 rfl (lv_at hl 1 rfl) ?_
  refine lv_iconst (v := nI 0) hx hb dX9_choose_11 rfl ?_
  refine rp_taped hC hR k_taped dX9_choose_12 (fun H locs hR => ?_)
  refine lv_aload_n hx hb dX9_choose_15 rfl (lv_at hl 1 rfl) ?_
  refine lv_iconst (v := nI 0) hx hb dX9_choose_16 rfl ?_
  refine lv_aload_n hx hb dX9_choose_17 rfl (lv_at hl 1 rfl) ?_
  refine rg_tape hC hR.1 k_tape dX9_choose_18 ?_
  refine lv_iload_n hx hb dX9_choose_21 rfl (lv_at hl 0 rfl) ?_
  refine pf_callV (C := RX9) (As := [.int (nI 0), .ref (q 11), .int (nI tp.length)]) (rest := []) (m_find l hT Ts 0 hRT (by decide) (k2 := 12) rfl (by decide) tp htp htl htb) ⟨hx, hb, hml, hown, hts⟩ (cwV 3 hts gX9_choose_X9_find rfl rfl rfl (by decide +kernel) ⟨Nat.le_of_ble_eq_true rfl, Nat.le_of_ble_eq_true rfl⟩) hK hR.1 (r_recv hK hR.1) rfl hl.1 rfl (Nat.le_of_ble_eq_true rfl) dX9_choose_22 ⟨Nat.le_of_ble_eq_true rfl, Nat.le_of_ble_eq_true rfl⟩ (fun r_1 hr_1 => ?_)
  subst hr_1
  refine lv_istore_n (lv' := [(2, .int (fndr (Ts 0) tp (Ts 0).length)), (1, .int (nI tp.length)), (0, .ref x)]) hx hb dX9_choose_25 rfl hl (by decide) rfl (fun ls hl => ?_)
  refine lv_aload_n hx hb dX9_choose_26 rfl (lv_at hl 2 rfl) ?_
  refine lv_iload_n hx hb dX9_choose_27 rfl (lv_at hl 0 rfl) ?_
  refine zi_lt hx hb rfl dX9_choose_28 (tgt := 35) (by decide) (fun c_2 => ?_) (fun c_2 => ?_)
  · refine lv_iconst (v := bI false) hx hb dX9_choose_35 rfl ?_
    refine rp_isChosen hC hR k_isChosen (bI_01 _) dX9_choose_36 (fun H locs hR => ?_)
    refine lv_iload_n hx hb dX9_choose_39 rfl (lv_at hl 0 rfl) ?_
    refine zi_ge hx hb rfl dX9_choose_40 (tgt := 45) (by decide) (fun c_3 => ?_) (fun c_3 => ?_)
    · exact absurd c_3 (by omega)
    · refine lv_iconst (v := (-1)) hx hb dX9_choose_43 rfl ?_
      rw [hQ]
      exact rf_iret hx hb hr hlocks hR (Or.inl ⟨by omega, rfl, ⟨_, _, _, _, _, _, _, _, _, _, _, _, _, _, rfl, hRT, ⟨en_nil _ _, by decide, fun b h => by cases h⟩, ⟨hrd, hrl, hrb⟩, (fun h => by cases h)⟩⟩) dX9_choose_44
  · refine lv_iconst (v := bI true) hx hb dX9_choose_31 rfl ?_
    refine lv_goto (tgt := 36) hx hb dX9_choose_32 (by decide) ?_
    refine rp_isChosen hC hR k_isChosen (bI_01 _) dX9_choose_36 (fun H locs hR => ?_)
    refine lv_iload_n hx hb dX9_choose_39 rfl (lv_at hl 0 rfl) ?_
    refine zi_ge hx hb rfl dX9_choose_40 (tgt := 45) (by decide) (fun c_4 => ?_) (fun c_4 => ?_)
    · obtain ⟨i, hi0, hi1, hi2⟩ := fndr_pos (L := Ts 0) (P := tp) (n := (Ts 0).length) (by omega) (by omega)
      have hi4 := hi1
      rw [hi1] at hl
      obtain ⟨d1, d2, d3, d4, d5, d6, d7, d8, d9, d10, d11⟩ := a5 i hi0
      have hlc : tp.length ≤ 150 := by rw [hi2] at d5; exact d5
      refine lv_aload_n hx hb dX9_choose_45 rfl (lv_at hl 2 rfl) ?_
      refine lv_iload_n hx hb dX9_choose_46 rfl (lv_at hl 1 rfl) ?_
      refine rf_callV (C := RX9) (As := [.int (nI tp.length)]) (rest := []) (m_chooseTape l hT tp htp hlc) ⟨hx, hb, hml, hown, hts⟩ (cwV 1 hts gX9_choose_X9_chooseTape rfl rfl rfl (by decide +kernel) ⟨Nat.le_of_ble_eq_true rfl, Nat.le_of_ble_eq_true rfl⟩) hK hR (r_recv hK hR.1) rfl hl.1 rfl (Nat.le_of_ble_eq_true rfl) dX9_choose_47 ⟨Nat.le_of_ble_eq_true rfl, Nat.le_of_ble_eq_true rfl⟩ (fun r_5 w_r_5 H locs hr_5 hR => ?_)
      obtain ⟨rfl, gc, rfl, hgc⟩ := hr_5
      refine lv_aload_n hx hb dX9_choose_50 rfl (lv_at hl 2 rfl) ?_
      refine rg_kinds hC hR.1 k_kinds dX9_choose_51 ?_
      refine lv_iconst (v := nI 0) hx hb dX9_choose_54 rfl ?_
      refine lv_iload_n hx hb dX9_choose_55 rfl (lv_at hl 0 rfl) ?_
      refine pf_callS (As := [.int (nI 0), .int (nI i)]) (rest := [.ref (q 2)]) (m_place l hT 0 i) ⟨hx, hb, hml, hown, hts⟩ (va_cwS 2 hts gX9_choose_X9_place rfl rfl rfl (by decide +kernel) ⟨Nat.le_of_ble_eq_true rfl, Nat.le_of_ble_eq_true rfl⟩) hK nn_nil rfl hl.1 rfl (Nat.le_of_ble_eq_true rfl) dX9_choose_56 ⟨Nat.le_of_ble_eq_true rfl, Nat.le_of_ble_eq_true rfl⟩ (fun r_6 hr_6 => ?_)
      subst hr_6
      refine rl_kinds hC hR.1 (by omega) dX9_choose_59 ?_
      refine nn_eqi (y := ((Ts 0).getD i e0).2.1) d1 ?_
      rw [hQ]
      exact rf_iret hx hb hr hlocks hR (Or.inr ⟨i, hi0, hi4, hi2, rfl, ⟨_, _, _, _, _, _, _, _, _, _, _, _, _, _, rfl, hRT, ⟨en_nil _ _, by decide, fun b h => by cases h⟩, ⟨hrd, hrl, hrb⟩, (fun _ => ⟨rfl, hgc, hlc, htb⟩)⟩⟩) dX9_choose_60
    · exact absurd c_4 (by omega)
set_option maxHeartbeats 4000000 in
set_option maxRecDepth 100000 in
theorem F_set (l : Launch) {G : va_G} {tys : List (ClassId × FieldType)} {cI : ClassId} (hT : tys[1]? = some (cI, .int)) {A : Nat → Prop} {x : Nat} {q : Nat → Nat} {w : va_W} {th : Int32} {Ts : Nat → List En} {tp rd : List Nat} {cs : Bool} {cp : List Nat} {st ops cg ns : Nat} {bg : Int32} {sT sC : Nat → Int32} (hW : RW cI x q w th Ts tp rd cs cp st ops cg ns bg sT sC) (md tm : Int32) (hst : st ≤ 2) : rMet l yX9_set wsX9_set ({ frames := 4, cells := 0, slots := 0, locals := 94 } : Room) G tys A [.ref x, .int md, .int tm] w (fun r w => r = none ∧ (((st = 1 ∨ (cAt (Ts 0) cs cp).toInt < 0) ∧ RW cI x q w (nI 2) Ts tp rd cs cp st ops cg ns bg sT sC) ∨ (¬ (st = 1 ∨ (cAt (Ts 0) cs cp).toInt < 0) ∧ (md.toInt < 0 ∨ 4095 < md.toInt ∨ tm.toInt < 0) ∧ RW cI x q w (nI 1) Ts tp rd cs cp st ops cg ns bg sT sC) ∨ (¬ (st = 1 ∨ (cAt (Ts 0) cs cp).toInt < 0) ∧ ¬ (md.toInt < 0 ∨ 4095 < md.toInt ∨ tm.toInt < 0) ∧ ∃ i, i < (Ts 0).length ∧ (cAt (Ts 0) cs cp) = nI i ∧ RW cI x q w (nI 0) (va_up Ts 0 ((Ts 0).set i (((Ts 0).getD i e0).1, ((Ts 0).getD i e0).2.1, md, tm, ct ((Ts 0).getD i e0)))) tp rd cs cp st ops cg ns bg sT sC))) := by
  obtain ⟨cm, f_many, f_bytes, f_kinds, f_modes, f_times, f_paths, f_contentAt, f_contents, f_path, f_content, f_ready, f_tape, f_chosen, rfl, hRT, ⟨htp, htl, htb⟩, ⟨hrd, hrl, hrb⟩, hch⟩ := hW
  refine Met.ofW (cc := cX9_set) (maxL := 4) (ret := none) (by decide) rfl ?_
  intro p e s m args below meth c s₁ B hml hv
  obtain ⟨hargs, hP, hK, hD⟩ := hv
  have hx := B.exec
  have hb := B.bytes
  have hr := B.returns
  have hts := atoms_spec (ws := wsX9_set) B.pre
  have hown : s.vm.findClass RX9 = some m.cls := findClass_of_methodNamed B.named
  have hlocks := B.notSynchronized
  have hC : rC p s m args c cX9_set G tys cI wsX9_set := ⟨hx, hb, hts, (by decide +kernel), hown, hK, hT⟩
  have k_modes := hts (.fieldLink RX9 19 "MirrorKeepModel" "modes" "[I") (by decide +kernel)
  have k_state := hts (.fieldLink RX9 107 "MirrorKeepModel" "state" "I") (by decide +kernel)
  have k_thrown := hts (.fieldLink RX9 57 "MirrorKeepModel" "thrown" "I") (by decide +kernel)
  have k_times := hts (.fieldLink RX9 22 "MirrorKeepModel" "times" "[I") (by decide +kernel)
  have hR : rR G A s.heap s.heap [] (rwx cI x q th (nI tp.length) (nI st) (nI ops) (nI cg) (nI ns) bg (bI cs) cm f_many f_bytes f_kinds f_modes f_times f_paths f_contentAt f_contents f_path f_content f_ready f_tape sT sC f_chosen) := ⟨hP, hD, va_S.rf⟩
  obtain ⟨Q, hQ⟩ : ∃ Q : State → Prop, Q = MQ below (rQ G A (fun r w => r = none ∧ (((st = 1 ∨ (cAt (Ts 0) cs cp).toInt < 0) ∧ RW cI x q w (nI 2) Ts tp rd cs cp st ops cg ns bg sT sC) ∨ (¬ (st = 1 ∨ (cAt (Ts 0) cs cp).toInt < 0) ∧ (md.toInt < 0 ∨ 4095 < md.toInt ∨ tm.toInt < 0) ∧ RW cI x q w (nI 1) Ts tp rd cs cp st ops cg ns bg sT sC) ∨ (¬ (st = 1 ∨ (cAt (Ts 0) cs cp).toInt < 0) ∧ ¬ (md.toInt < 0 ∨ 4095 < md.toInt ∨ tm.toInt < 0) ∧ ∃ i, i < (Ts 0).length ∧ (cAt (Ts 0) cs cp) = nI i ∧ RW cI x q w (nI 0) (va_up Ts 0 ((Ts 0).set i (((Ts 0).getD i e0).1, ((Ts 0).getD i e0).2.1, md, tm, ct ((Ts 0).getD i e0)))) tp rd cs cp st ops cg ns bg sT sC)))) args s 0 0 A := ⟨_, rfl⟩
  change W p l e ({ frames := 4, cells := 0, slots := 0, locals := 94 } : Room) s m args below meth c s.heap [] 0 0 (MQ below (rQ G A (fun r w => r = none ∧ (((st = 1 ∨ (cAt (Ts 0) cs cp).toInt < 0) ∧ RW cI x q w (nI 2) Ts tp rd cs cp st ops cg ns bg sT sC) ∨ (¬ (st = 1 ∨ (cAt (Ts 0) cs cp).toInt < 0) ∧ (md.toInt < 0 ∨ 4095 < md.toInt ∨ tm.toInt < 0) ∧ RW cI x q w (nI 1) Ts tp rd cs cp st ops cg ns bg sT sC) ∨ (¬ (st = 1 ∨ (cAt (Ts 0) cs cp).toInt < 0) ∧ ¬ (md.toInt < 0 ∨ 4095 < md.toInt ∨ tm.toInt < 0) ∧ ∃ i, i < (Ts 0).length ∧ (cAt (Ts 0) cs cp) = nI i ∧ RW cI x q w (nI 0) (va_up Ts 0 ((Ts 0).set i (((Ts 0).getD i e0).1, ((Ts 0).getD i e0).2.1, md, tm, ct ((Ts 0).getD i e0)))) tp rd cs cp st ops cg ns bg sT sC)))) args s 0 0 A) (entryFrame m args 4)
  rw [← hQ]
  refine nn_entry hargs (Nat.le_of_ble_eq_true rfl) (lv := [(0, .ref x), (1, .int md), (2, .int tm)]) rfl (fun ls hl => ?_)
  obtain ⟨a1, a2, a3, a4, a5⟩ := hRT 0 (by decide)
  refine lv_aload_n hx hb dX9_set_0 rfl (lv_at hl 0 rfl) ?_
  refine pf_callV (C := RX9) (As := []) (rest := []) (m_chosenAt l hT Ts hRT cs cp hch) ⟨hx, hb, hml, hown, hts⟩ (cwV 0 hts gX9_set_X9_chosenAt rfl rfl rfl (by decide +kernel) ⟨Nat.le_of_ble_eq_true rfl, Nat.le_of_ble_eq_true rfl⟩) hK hR.1 (r_recv hK hR.1) rfl hl.1 rfl (Nat.le_of_ble_eq_true rfl) dX9_set_1 ⟨Nat.le_of_ble_eq_true rfl, Nat.le_of_ble_eq_true rfl⟩ (fun r_1 hr_1 => ?_)
  subst hr_1
  refine lv_istore_n (lv' := [(3, .int (cAt (Ts 0) cs cp)), (0, .ref x), (1, .int md), (2, .int tm)]) hx hb dX9_set_4 rfl hl (by decide) rfl (fun ls hl => ?_)
  refine lv_aload_n hx hb dX9_set_5 rfl (lv_at hl 1 rfl) ?_
  refine lv_aload_n hx hb dX9_set_6 rfl (lv_at hl 1 rfl) ?_
  refine rg_state hC hR.1 k_state dX9_set_7 ?_
  refine lv_iconst (v := nI 1) hx hb dX9_set_10 rfl ?_
  refine nn_eq hx hb dX9_set_11 (tgt := 18) (by decide) (by omega) (by omega) (fun c_2 => ?_) (fun c_2 => ?_)
  · refine lv_iconst (v := nI 2) hx hb dX9_set_18 rfl ?_
    refine lv_goto (tgt := 42) hx hb dX9_set_19 (by decide) ?_
    refine rp_thrown hC hR k_thrown dX9_set_42 (fun H locs hR => ?_)
    refine lv_aload_n hx hb dX9_set_45 rfl (lv_at hl 1 rfl) ?_
    refine rg_thrown hC hR.1 k_thrown dX9_set_46 ?_
    refine nz_le hx hb dX9_set_49 (tgt := 53) (by decide) (by omega) (fun c_3 => ?_) (fun c_3 => ?_)
    · exact absurd c_3 (by omega)
    · rw [hQ]
      exact rf_vret hx hb hr hlocks hR ⟨rfl, Or.inl ⟨by omega, ⟨_, _, _, _, _, _, _, _, _, _, _, _, _, _, rfl, hRT, ⟨htp, htl, htb⟩, ⟨hrd, hrl, hrb⟩, hch⟩⟩⟩ dX9_set_52
  · refine lv_iload_n hx hb dX9_set_14 rfl (lv_at hl 0 rfl) ?_
    refine zi_ge hx hb rfl dX9_set_15 (tgt := 22) (by decide) (fun c_4 => ?_) (fun c_4 => ?_)
    · refine lv_iload_n hx hb dX9_set_22 rfl (lv_at hl 2 rfl) ?_
      refine zi_lt hx hb rfl dX9_set_23 (tgt := 37) (by decide) (fun c_5 => ?_) (fun c_5 => ?_)
      · refine lv_iconst (v := nI 1) hx hb dX9_set_37 rfl ?_
        refine lv_goto (tgt := 42) hx hb dX9_set_38 (by decide) ?_
        refine rp_thrown hC hR k_thrown dX9_set_42 (fun H locs hR => ?_)
        refine lv_aload_n hx hb dX9_set_45 rfl (lv_at hl 1 rfl) ?_
        refine rg_thrown hC hR.1 k_thrown dX9_set_46 ?_
        refine nz_le hx hb dX9_set_49 (tgt := 53) (by decide) (by omega) (fun c_6 => ?_) (fun c_6 => ?_)
        · exact absurd c_6 (by omega)
        · rw [hQ]
          exact rf_vret hx hb hr hlocks hR ⟨rfl, Or.inr (Or.inl ⟨by omega, by omega, ⟨_, _, _, _, _, _, _, _, _, _, _, _, _, _, rfl, hRT, ⟨htp, htl, htb⟩, ⟨hrd, hrl, hrb⟩, hch⟩⟩)⟩ dX9_set_52
      · refine lv_iload_n hx hb dX9_set_26 rfl (lv_at hl 2 rfl) ?_
        refine lv_sipush (v := nI 4095) hx hb dX9_set_27 (by decide) ?_
        refine zc_gt hx hb rfl (nI_toInt (by omega)) dX9_set_30 (tgt := 37) (by decide) (fun c_7 => ?_) (fun c_7 => ?_)
        · refine lv_iconst (v := nI 1) hx hb dX9_set_37 rfl ?_
          refine lv_goto (tgt := 42) hx hb dX9_set_38 (by decide) ?_
          refine rp_thrown hC hR k_thrown dX9_set_42 (fun H locs hR => ?_)
          refine lv_aload_n hx hb dX9_set_45 rfl (lv_at hl 1 rfl) ?_
          refine rg_thrown hC hR.1 k_thrown dX9_set_46 ?_
          refine nz_le hx hb dX9_set_49 (tgt := 53) (by decide) (by omega) (fun c_8 => ?_) (fun c_8 => ?_)
          · exact absurd c_8 (by omega)
          · rw [hQ]
            exact rf_vret hx hb hr hlocks hR ⟨rfl, Or.inr (Or.inl ⟨by omega, by omega, ⟨_, _, _, _, _, _, _, _, _, _, _, _, _, _, rfl, hRT, ⟨htp, htl, htb⟩, ⟨hrd, hrl, hrb⟩, hch⟩⟩)⟩ dX9_set_52
        · refine lv_iload_n hx hb dX9_set_33 rfl (lv_at hl 3 rfl) ?_
          refine zi_ge hx hb rfl dX9_set_34 (tgt := 41) (by decide) (fun c_9 => ?_) (fun c_9 => ?_)
          · refine lv_iconst (v := nI 0) hx hb dX9_set_41 rfl ?_
            refine rp_thrown hC hR k_thrown dX9_set_42 (fun H locs hR => ?_)
            refine lv_aload_n hx hb dX9_set_45 rfl (lv_at hl 1 rfl) ?_
            refine rg_thrown hC hR.1 k_thrown dX9_set_46 ?_
            refine nz_le hx hb dX9_set_49 (tgt := 53) (by decide) (by omega) (fun c_10 => ?_) (fun c_10 => ?_)
            · obtain ⟨hcs1, i, hi0, hi1, hi2⟩ := cAt_pos (L := Ts 0) (cs := cs) (cp := cp) (by omega) (by omega)
              have hi4 := hi1
              rw [hi1] at hl
              obtain ⟨d1, d2, d3, d4, d5, d6, d7, d8, d9, d10, d11⟩ := a5 i hi0
              have hct9 := csum_take (L := Ts 0) hi0
              refine lv_aload_n hx hb dX9_set_53 rfl (lv_at hl 1 rfl) ?_
              refine rg_modes hC hR.1 k_modes dX9_set_54 ?_
              refine lv_iconst (v := nI 0) hx hb dX9_set_57 rfl ?_
              refine lv_iload_n hx hb dX9_set_58 rfl (lv_at hl 0 rfl) ?_
              refine pf_callS (As := [.int (nI 0), .int (nI i)]) (rest := [.ref (q 3)]) (m_place l hT 0 i) ⟨hx, hb, hml, hown, hts⟩ (va_cwS 2 hts gX9_set_X9_place rfl rfl rfl (by decide +kernel) ⟨Nat.le_of_ble_eq_true rfl, Nat.le_of_ble_eq_true rfl⟩) hK nn_nil rfl hl.1 rfl (Nat.le_of_ble_eq_true rfl) dX9_set_59 ⟨Nat.le_of_ble_eq_true rfl, Nat.le_of_ble_eq_true rfl⟩ (fun r_11 hr_11 => ?_)
              subst hr_11
              refine lv_iload_n hx hb dX9_set_62 rfl (lv_at hl 2 rfl) ?_
              refine rs_modes hC hR (by omega) dX9_set_63 (fun H locs hR => ?_)
              refine lv_aload_n hx hb dX9_set_64 rfl (lv_at hl 1 rfl) ?_
              refine rg_times hC hR.1 k_times dX9_set_65 ?_
              refine lv_iconst (v := nI 0) hx hb dX9_set_68 rfl ?_
              refine lv_iload_n hx hb dX9_set_69 rfl (lv_at hl 0 rfl) ?_
              refine pf_callS (As := [.int (nI 0), .int (nI i)]) (rest := [.ref (q 4)]) (m_place l hT 0 i) ⟨hx, hb, hml, hown, hts⟩ (va_cwS 2 hts gX9_set_X9_place rfl rfl rfl (by decide +kernel) ⟨Nat.le_of_ble_eq_true rfl, Nat.le_of_ble_eq_true rfl⟩) hK nn_nil rfl hl.1 rfl (Nat.le_of_ble_eq_true rfl) dX9_set_70 ⟨Nat.le_of_ble_eq_true rfl, Nat.le_of_ble_eq_true rfl⟩ (fun r_12 hr_12 => ?_)
              subst hr_12
              refine lv_iload_n hx hb dX9_set_73 rfl (lv_at hl 3 rfl) ?_
              refine rs_times hC hR (by omega) dX9_set_74 (fun H locs hR => ?_)
              rw [hQ]
              exact rf_vret hx hb hr hlocks hR ⟨rfl, Or.inr (Or.inr ⟨by omega, by omega, i, hi0, hi4, ⟨_, _, _, _, _, _, _, _, _, _, _, _, _, _, rfl, (RT_set hRT hi0), ⟨htp, htl, htb⟩, ⟨hrd, hrl, hrb⟩, hch⟩⟩)⟩ dX9_set_75
            · exact absurd c_10 (by omega)
          · refine lv_iconst (v := nI 1) hx hb dX9_set_37 rfl ?_
            refine lv_goto (tgt := 42) hx hb dX9_set_38 (by decide) ?_
            refine rp_thrown hC hR k_thrown dX9_set_42 (fun H locs hR => ?_)
            refine lv_aload_n hx hb dX9_set_45 rfl (lv_at hl 1 rfl) ?_
            refine rg_thrown hC hR.1 k_thrown dX9_set_46 ?_
            refine nz_le hx hb dX9_set_49 (tgt := 53) (by decide) (by omega) (fun c_13 => ?_) (fun c_13 => ?_)
            · exact absurd c_13 (by omega)
            · rw [hQ]
              exact rf_vret hx hb hr hlocks hR ⟨rfl, Or.inr (Or.inl ⟨by omega, by omega, ⟨_, _, _, _, _, _, _, _, _, _, _, _, _, _, rfl, hRT, ⟨htp, htl, htb⟩, ⟨hrd, hrl, hrb⟩, hch⟩⟩)⟩ dX9_set_52
    · refine lv_iconst (v := nI 2) hx hb dX9_set_18 rfl ?_
      refine lv_goto (tgt := 42) hx hb dX9_set_19 (by decide) ?_
      refine rp_thrown hC hR k_thrown dX9_set_42 (fun H locs hR => ?_)
      refine lv_aload_n hx hb dX9_set_45 rfl (lv_at hl 1 rfl) ?_
      refine rg_thrown hC hR.1 k_thrown dX9_set_46 ?_
      refine nz_le hx hb dX9_set_49 (tgt := 53) (by decide) (by omega) (fun c_14 => ?_) (fun c_14 => ?_)
      · exact absurd c_14 (by omega)
      · rw [hQ]
        exact rf_vret hx hb hr hlocks hR ⟨rfl, Or.inl ⟨by omega, ⟨_, _, _, _, _, _, _, _, _, _, _, _, _, _, rfl, hRT, ⟨htp, htl, htb⟩, ⟨hrd, hrl, hrb⟩, hch⟩⟩⟩ dX9_set_52
