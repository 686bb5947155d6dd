set_option maxHeartbeats 4000000 in
set_option maxRecDepth 100000 in
theorem F_cut (l : Launch) {G : va_G} {tys : List (ClassId × FieldType)} {cI : ClassId} (hT : tys[1]? = some (cI, .int)) {A : Nat → Prop} {x : Nat} {q : Nat → Nat} {w : va_W} {th : Int32} {Ts : Nat → List En} {tp rd : List Nat} {cs : Bool} {cp : List Nat} {st ops cg ns : Nat} {bg : Int32} {sT sC : Nat → Int32} (hW : RW cI x q w th Ts tp rd cs cp st ops cg ns bg sT sC) (ln : Int32) (hst : st ≤ 2) : rMet l yX9_cut wsX9_cut ({ frames := 4, cells := 0, slots := 0, locals := 98 } : Room) G tys A [.ref x, .int ln] w (fun r w => r = none ∧ (((st = 1 ∨ (cAt (Ts 0) cs cp).toInt < 0 ∨ ∃ i, i < (Ts 0).length ∧ (cAt (Ts 0) cs cp) = nI i ∧ ((Ts 0).getD i e0).2.1 = 2) ∧ RW cI x q w (nI 2) Ts tp rd cs cp st ops cg ns bg sT sC) ∨ ∃ i, i < (Ts 0).length ∧ (cAt (Ts 0) cs cp) = nI i ∧ st ≠ 1 ∧ ¬ ((Ts 0).getD i e0).2.1 = 2 ∧ (((ln.toInt < 0 ∨ ((ct ((Ts 0).getD i e0)).length : Int) < ln.toInt) ∧ RW cI x q w (nI 1) Ts tp rd cs cp st ops cg ns bg sT sC) ∨ (¬ (ln.toInt < 0 ∨ ((ct ((Ts 0).getD i e0)).length : Int) < ln.toInt) ∧ RW cI x q w (nI 0) (va_up (va_up Ts 5 ((Ts 0).set i (((Ts 0).getD i e0).1, ((Ts 0).getD i e0).2.1, ((Ts 0).getD i e0).2.2.1, ((Ts 0).getD i e0).2.2.2.1, (ct ((Ts 0).getD i e0)).take ln.toInt.toNat))) 0 ((Ts 0).set i (((Ts 0).getD i e0).1, ((Ts 0).getD i e0).2.1, ((Ts 0).getD i e0).2.2.1, ((Ts 0).getD i e0).2.2.2.1, (ct ((Ts 0).getD i e0)).take ln.toInt.toNat))) tp rd cs cp st ops cg ns bg sT sC)))) := by
  obtain ⟨cm, f_many, f_bytes, f_kinds, f_modes, f_times, f_paths, f_contentAt, f_contents, f_path, f_content, f_ready, f_tape, f_chosen, rfl, hRT, ⟨htp, htl, htb⟩, ⟨hrd, hrl, hrb⟩, hch⟩ := hW
  refine Met.ofW (cc := cX9_cut) (maxL := 3) (ret := none) (by decide) rfl ?_
  intro p e s m args below meth c s₁ B hml hv
  obtain ⟨hargs, hP, hK, hD⟩ := hv
  have hx := B.exec
  have hb := B.bytes
  have hr := B.returns
  have hts := atoms_spec (ws := wsX9_cut) B.pre
  have hown : s.vm.findClass RX9 = some m.cls := findClass_of_methodNamed B.named
  have hlocks := B.notSynchronized
  have hC : rC p s m args c cX9_cut G tys cI wsX9_cut := ⟨hx, hb, hts, (by decide +kernel), hown, hK, hT⟩
  have k_contents := hts (.fieldLink RX9 31 "MirrorKeepModel" "contents" "[I") (by decide +kernel)
  have k_kinds := hts (.fieldLink RX9 16 "MirrorKeepModel" "kinds" "[I") (by decide +kernel)
  have k_state := hts (.fieldLink RX9 107 "MirrorKeepModel" "state" "I") (by decide +kernel)
  have k_thrown := hts (.fieldLink RX9 57 "MirrorKeepModel" "thrown" "I") (by decide +kernel)
  have hR : rR G A s.heap s.heap [] (rwx cI x q th (nI tp.length) (nI st) (nI ops) (nI cg) (nI ns) bg (bI cs) cm f_many f_bytes f_kinds f_modes f_times f_paths f_contentAt f_contents f_path f_content f_ready f_tape sT sC f_chosen) := ⟨hP, hD, va_S.rf⟩
  obtain ⟨Q, hQ⟩ : ∃ Q : State → Prop, Q = MQ below (rQ G A (fun r w => r = none ∧ (((st = 1 ∨ (cAt (Ts 0) cs cp).toInt < 0 ∨ ∃ i, i < (Ts 0).length ∧ (cAt (Ts 0) cs cp) = nI i ∧ ((Ts 0).getD i e0).2.1 = 2) ∧ RW cI x q w (nI 2) Ts tp rd cs cp st ops cg ns bg sT sC) ∨ ∃ i, i < (Ts 0).length ∧ (cAt (Ts 0) cs cp) = nI i ∧ st ≠ 1 ∧ ¬ ((Ts 0).getD i e0).2.1 = 2 ∧ (((ln.toInt < 0 ∨ ((ct ((Ts 0).getD i e0)).length : Int) < ln.toInt) ∧ RW cI x q w (nI 1) Ts tp rd cs cp st ops cg ns bg sT sC) ∨ (¬ (ln.toInt < 0 ∨ ((ct ((Ts 0).getD i e0)).length : Int) < ln.toInt) ∧ RW cI x q w (nI 0) (va_up (va_up Ts 5 ((Ts 0).set i (((Ts 0).getD i e0).1, ((Ts 0).getD i e0).2.1, ((Ts 0).getD i e0).2.2.1, ((Ts 0).getD i e0).2.2.2.1, (ct ((Ts 0).getD i e0)).take ln.toInt.toNat))) 0 ((Ts 0).set i (((Ts 0).getD i e0).1, ((Ts 0).getD i e0).2.1, ((Ts 0).getD i e0).2.2.1, ((Ts 0).getD i e0).2.2.2.1, (ct ((Ts 0).getD i e0)).take ln.toInt.toNat))) tp rd cs cp st ops cg ns bg sT sC))))) args s 0 0 A := ⟨_, rfl⟩
  change W p l e ({ frames := 4, cells := 0, slots := 0, locals := 98 } : Room) s m args below meth c s.heap [] 0 0 (MQ below (rQ G A (fun r w => r = none ∧ (((st = 1 ∨ (cAt (Ts 0) cs cp).toInt < 0 ∨ ∃ i, i < (Ts 0).length ∧ (cAt (Ts 0) cs cp) = nI i ∧ ((Ts 0).getD i e0).2.1 = 2) ∧ RW cI x q w (nI 2) Ts tp rd cs cp st ops cg ns bg sT sC) ∨ ∃ i, i < (Ts 0).length ∧ (cAt (Ts 0) cs cp) = nI i ∧ st ≠ 1 ∧ ¬ ((Ts 0).getD i e0).2.1 = 2 ∧ (((ln.toInt < 0 ∨ ((ct ((Ts 0).getD i e0)).length : Int) < ln.toInt) ∧ RW cI x q w (nI 1) Ts tp rd cs cp st ops cg ns bg sT sC) ∨ (¬ (ln.toInt < 0 ∨ ((ct ((Ts 0).getD i e0)).length : Int) < ln.toInt) ∧ RW cI x q w (nI 0) (va_up (va_up Ts 5 ((Ts 0).set i (((Ts 0).getD i e0).1, ((Ts 0).getD i e0).2.1, ((Ts 0).getD i e0).2.2.1, ((Ts 0).getD i e0).2.2.2.1, (ct ((Ts 0).getD i e0)).take ln.toInt.toNat))) 0 ((Ts 0).set i (((Ts 0).getD i e0).1, ((Ts 0).getD i e0).2.1, ((Ts 0).getD i e0).2.2.1, ((Ts 0).getD i e0).2.2.2.1, (ct ((Ts 0).getD i e0)).take ln.toInt.toNat))) tp rd cs cp st ops cg ns bg sT sC))))) args s 0 0 A) (entryFrame m args 3)
  rw [← hQ]
  refine nn_entry hargs (Nat.le_of_ble_eq_true rfl) (lv := [(0, .ref x), (1, .int ln)]) rfl (fun ls hl => ?_)
  obtain ⟨a1, a2, a3, a4, a5⟩ := hRT 0 (by decide)
  refine lv_aload_n hx hb dX9_cut_0 rfl (lv_at hl 0 rfl) ?_
  refine pf_callV (C := RX9) (As := []) (rest := []) (m_chosenAt l hT Ts hRT cs cp hch) ⟨hx, hb, hml, hown, hts⟩ (cwV 0 hts gX9_cut_X9_chosenAt rfl rfl rfl (by decide +kernel) ⟨Nat.le_of_ble_eq_true rfl, Nat.le_of_ble_eq_true rfl⟩) hK hR.1 (r_recv hK hR.1) rfl hl.1 rfl (Nat.le_of_ble_eq_true rfl) dX9_cut_1 ⟨Nat.le_of_ble_eq_true rfl, Nat.le_of_ble_eq_true rfl⟩ (fun r_1 hr_1 => ?_)
  subst hr_1
  refine lv_istore_n (lv' := [(2, .int (cAt (Ts 0) cs cp)), (0, .ref x), (1, .int ln)]) hx hb dX9_cut_4 rfl hl (by decide) rfl (fun ls hl => ?_)
  refine lv_aload_n hx hb dX9_cut_5 rfl (lv_at hl 1 rfl) ?_
  refine lv_aload_n hx hb dX9_cut_6 rfl (lv_at hl 1 rfl) ?_
  refine rg_state hC hR.1 k_state dX9_cut_7 ?_
  refine lv_iconst (v := nI 1) hx hb dX9_cut_10 rfl ?_
  refine nn_eq hx hb dX9_cut_11 (tgt := 32) (by decide) (by omega) (by omega) (fun c_2 => ?_) (fun c_2 => ?_)
  · refine lv_iconst (v := nI 2) hx hb dX9_cut_32 rfl ?_
    refine lv_goto (tgt := 59) hx hb dX9_cut_33 (by decide) ?_
    refine rp_thrown hC hR k_thrown dX9_cut_59 (fun H locs hR => ?_)
    refine lv_aload_n hx hb dX9_cut_62 rfl (lv_at hl 1 rfl) ?_
    refine rg_thrown hC hR.1 k_thrown dX9_cut_63 ?_
    refine nz_ne hx hb dX9_cut_66 (tgt := 77) (by decide) (by omega) (fun c_3 => ?_) (fun c_3 => ?_)
    · rw [hQ]
      exact rf_vret hx hb hr hlocks hR ⟨rfl, Or.inl ⟨by first | exact Or.inl (by omega) | exact Or.inr (Or.inl (by omega)) | exact Or.inr (Or.inr ⟨i, hi0, hi4, by assumption⟩), ⟨_, _, _, _, _, _, _, _, _, _, _, _, _, _, rfl, hRT, ⟨htp, htl, htb⟩, ⟨hrd, hrl, hrb⟩, hch⟩⟩⟩ dX9_cut_77
    · exact absurd c_3 (by omega)
  · refine lv_iload_n hx hb dX9_cut_14 rfl (lv_at hl 0 rfl) ?_
    refine zi_lt hx hb rfl dX9_cut_15 (tgt := 32) (by decide) (fun c_4 => ?_) (fun c_4 => ?_)
    · refine lv_iconst (v := nI 2) hx hb dX9_cut_32 rfl ?_
      refine lv_goto (tgt := 59) hx hb dX9_cut_33 (by decide) ?_
      refine rp_thrown hC hR k_thrown dX9_cut_59 (fun H locs hR => ?_)
      refine lv_aload_n hx hb dX9_cut_62 rfl (lv_at hl 1 rfl) ?_
      refine rg_thrown hC hR.1 k_thrown dX9_cut_63 ?_
      refine nz_ne hx hb dX9_cut_66 (tgt := 77) (by decide) (by omega) (fun c_5 => ?_) (fun c_5 => ?_)
      · rw [hQ]
        exact rf_vret hx hb hr hlocks hR ⟨rfl, Or.inl ⟨by first | exact Or.inl (by omega) | exact Or.inr (Or.inl (by omega)) | exact Or.inr (Or.inr ⟨i, hi0, hi4, by assumption⟩), ⟨_, _, _, _, _, _, _, _, _, _, _, _, _, _, rfl, hRT, ⟨htp, htl, htb⟩, ⟨hrd, hrl, hrb⟩, hch⟩⟩⟩ dX9_cut_77
      · exact absurd c_5 (by omega)
    · obtain ⟨hcs1, i, hi0, hi1, hi2⟩ := cAt_pos (L := Ts 0) (cs := cs) (cp := cp) (by omega) (by omega)
      have hi4 := hi1
      rw [hi1] at hl
      obtain ⟨d1, d2, d3, d4, d5, d6, d7, d8, d9, d10, d11⟩ := a5 i hi0
      have hct9 := csum_take (L := Ts 0) hi0
      refine lv_aload_n hx hb dX9_cut_18 rfl (lv_at hl 1 rfl) ?_
      refine rg_kinds hC hR.1 k_kinds dX9_cut_19 ?_
      refine lv_iconst (v := nI 0) hx hb dX9_cut_22 rfl ?_
      refine lv_iload_n hx hb dX9_cut_23 rfl (lv_at hl 0 rfl) ?_
      refine pf_callS (As := [.int (nI 0), .int (nI i)]) (rest := [.ref (q 2), .ref x]) (m_place l hT 0 i) ⟨hx, hb, hml, hown, hts⟩ (va_cwS 2 hts gX9_cut_X9_place rfl rfl rfl (by decide +kernel) ⟨Nat.le_of_ble_eq_true rfl, Nat.le_of_ble_eq_true rfl⟩) hK nn_nil rfl hl.1 rfl (Nat.le_of_ble_eq_true rfl) dX9_cut_24 ⟨Nat.le_of_ble_eq_true rfl, Nat.le_of_ble_eq_true rfl⟩ (fun r_6 hr_6 => ?_)
      subst hr_6
      refine rl_kinds hC hR.1 (by omega) dX9_cut_27 ?_
      refine nn_eqi (y := ((Ts 0).getD i e0).2.1) d1 ?_
      refine lv_iconst (v := nI 2) hx hb dX9_cut_28 rfl ?_
      refine lv_icmp_ne (tgt := 36) hx hb dX9_cut_29 (by decide) (fun c_7 => ?_) (fun c_7 => ?_)
      · refine lv_iload_n hx hb dX9_cut_36 rfl (lv_at hl 2 rfl) ?_
        refine zi_lt hx hb rfl dX9_cut_37 (tgt := 54) (by decide) (fun c_8 => ?_) (fun c_8 => ?_)
        · refine lv_iconst (v := nI 1) hx hb dX9_cut_54 rfl ?_
          refine lv_goto (tgt := 59) hx hb dX9_cut_55 (by decide) ?_
          refine rp_thrown hC hR k_thrown dX9_cut_59 (fun H locs hR => ?_)
          refine lv_aload_n hx hb dX9_cut_62 rfl (lv_at hl 1 rfl) ?_
          refine rg_thrown hC hR.1 k_thrown dX9_cut_63 ?_
          refine nz_ne hx hb dX9_cut_66 (tgt := 77) (by decide) (by omega) (fun c_9 => ?_) (fun c_9 => ?_)
          · rw [hQ]
            exact rf_vret hx hb hr hlocks hR ⟨rfl, Or.inr ⟨i, hi0, hi4, by omega, by assumption, Or.inl ⟨by omega, ⟨_, _, _, _, _, _, _, _, _, _, _, _, _, _, rfl, hRT, ⟨htp, htl, htb⟩, ⟨hrd, hrl, hrb⟩, hch⟩⟩⟩⟩ dX9_cut_77
          · exact absurd c_9 (by omega)
        · refine lv_iload_n hx hb dX9_cut_40 rfl (lv_at hl 2 rfl) ?_
          refine lv_aload_n hx hb dX9_cut_41 rfl (lv_at hl 1 rfl) ?_
          refine rg_contents hC hR.1 k_contents dX9_cut_42 ?_
          refine lv_iconst (v := nI 0) hx hb dX9_cut_45 rfl ?_
          refine lv_iload_n hx hb dX9_cut_46 rfl (lv_at hl 0 rfl) ?_
          refine pf_callS (As := [.int (nI 0), .int (nI i)]) (rest := [.ref (q 7), .int ln, .ref x]) (m_place l hT 0 i) ⟨hx, hb, hml, hown, hts⟩ (va_cwS 2 hts gX9_cut_X9_place rfl rfl rfl (by decide +kernel) ⟨Nat.le_of_ble_eq_true rfl, Nat.le_of_ble_eq_true rfl⟩) hK nn_nil rfl hl.1 rfl (Nat.le_of_ble_eq_true rfl) dX9_cut_47 ⟨Nat.le_of_ble_eq_true rfl, Nat.le_of_ble_eq_true rfl⟩ (fun r_10 hr_10 => ?_)
          subst hr_10
          refine rl_contents hC hR.1 (by omega) dX9_cut_50 ?_
          refine nn_eqi (y := nI ((ct ((Ts 0).getD i e0)).length)) d7 ?_
          refine zc_le hx hb rfl (nI_toInt (by omega)) dX9_cut_51 (tgt := 58) (by decide) (fun c_11 => ?_) (fun c_11 => ?_)
          · refine lv_iconst (v := nI 0) hx hb dX9_cut_58 rfl ?_
            refine rp_thrown hC hR k_thrown dX9_cut_59 (fun H locs hR => ?_)
            refine lv_aload_n hx hb dX9_cut_62 rfl (lv_at hl 1 rfl) ?_
            refine rg_thrown hC hR.1 k_thrown dX9_cut_63 ?_
            refine nz_ne hx hb dX9_cut_66 (tgt := 77) (by decide) (by omega) (fun c_12 => ?_) (fun c_12 => ?_)
            · exact absurd c_12 (by omega)
            · refine lv_aload_n hx hb dX9_cut_69 rfl (lv_at hl 1 rfl) ?_
              refine lv_iload_n hx hb dX9_cut_70 rfl (lv_at hl 0 rfl) ?_
              refine lv_iload_n hx hb dX9_cut_71 rfl (lv_at hl 2 rfl) ?_
              refine lv_iconst (v := nI 0) hx hb dX9_cut_72 rfl ?_
              refine lv_iconst (v := nI 0) hx hb dX9_cut_73 rfl ?_
              obtain ⟨l1, hl1, hl12, hl13⟩ := zn_ex (x := ln) (by omega)
              have hcl : ((ct ((Ts 0).getD i e0)).take l1).length = l1 := by rw [List.length_take]; omega
              rw [hl1, ← hcl]
              refine rf_callV (C := RX9) (As := [.int (nI i), .int (nI (((ct ((Ts 0).getD i e0)).take l1).length)), .int (nI 0), .int (nI (([] : List Nat).length))]) (rest := []) (m_change l hT Ts i 0 [] ((ct ((Ts 0).getD i e0)).take l1) hRT hi0 (en_nil _ _) (by decide) (fun k hk => by rw [if_neg (by simp), gd_take (by omega)]) (fun k hk => Or.inl (by omega)) (by have := csum_take (L := Ts 0) hi0; simp; omega) (by omega) (fun b hb => d11 b (List.mem_of_mem_take hb))) ⟨hx, hb, hml, hown, hts⟩ (cwV 4 hts gX9_cut_X9_change rfl rfl rfl (by decide +kernel) ⟨Nat.le_of_ble_eq_true rfl, Nat.le_of_ble_eq_true rfl⟩) hK hR (r_recv hK hR.1) rfl hl.1 rfl (Nat.le_of_ble_eq_true rfl) dX9_cut_74 ⟨Nat.le_of_ble_eq_true rfl, Nat.le_of_ble_eq_true rfl⟩ (fun r_13 w_r_13 H locs hr_13 hR => ?_)
              obtain ⟨rfl, g_many_14, g_bytes_14, g_kinds_14, g_modes_14, g_times_14, g_paths_14, g_contentAt_14, g_contents_14, g_path_14, g_content_14, rfl, hRT⟩ := hr_13
              rw [hQ]
              exact rf_vret hx hb hr hlocks hR ⟨rfl, Or.inr ⟨i, hi0, hi4, by omega, by assumption, Or.inr ⟨by omega, by rw [show ln.toInt.toNat = l1 by omega]; exact ⟨_, _, _, _, _, _, _, _, _, _, _, _, _, _, rfl, hRT, ⟨htp, htl, htb⟩, ⟨hrd, hrl, hrb⟩, hch⟩⟩⟩⟩ dX9_cut_77
          · refine lv_iconst (v := nI 1) hx hb dX9_cut_54 rfl ?_
            refine lv_goto (tgt := 59) hx hb dX9_cut_55 (by decide) ?_
            refine rp_thrown hC hR k_thrown dX9_cut_59 (fun H locs hR => ?_)
            refine lv_aload_n hx hb dX9_cut_62 rfl (lv_at hl 1 rfl) ?_
            refine rg_thrown hC hR.1 k_thrown dX9_cut_63 ?_
            refine nz_ne hx hb dX9_cut_66 (tgt := 77) (by decide) (by omega) (fun c_15 => ?_) (fun c_15 => ?_)
            · rw [hQ]
              exact rf_vret hx hb hr hlocks hR ⟨rfl, Or.inr ⟨i, hi0, hi4, by omega, by assumption, Or.inl ⟨by omega, ⟨_, _, _, _, _, _, _, _, _, _, _, _, _, _, rfl, hRT, ⟨htp, htl, htb⟩, ⟨hrd, hrl, hrb⟩, hch⟩⟩⟩⟩ dX9_cut_77
            · exact absurd c_15 (by omega)
      · refine lv_iconst (v := nI 2) hx hb dX9_cut_32 rfl ?_
        refine lv_goto (tgt := 59) hx hb dX9_cut_33 (by decide) ?_
        refine rp_thrown hC hR k_thrown dX9_cut_59 (fun H locs hR => ?_)
        refine lv_aload_n hx hb dX9_cut_62 rfl (lv_at hl 1 rfl) ?_
        refine rg_thrown hC hR.1 k_thrown dX9_cut_63 ?_
        refine nz_ne hx hb dX9_cut_66 (tgt := 77) (by decide) (by omega) (fun c_16 => ?_) (fun c_16 => ?_)
        · rw [hQ]
          exact rf_vret hx hb hr hlocks hR ⟨rfl, Or.inl ⟨by first | exact Or.inl (by omega) | exact Or.inr (Or.inl (by omega)) | exact Or.inr (Or.inr ⟨i, hi0, hi4, by assumption⟩), ⟨_, _, _, _, _, _, _, _, _, _, _, _, _, _, rfl, hRT, ⟨htp, htl, htb⟩, ⟨hrd, hrl, hrb⟩, hch⟩⟩⟩ dX9_cut_77
        · exact absurd c_16 (by omega)
set_option maxHeartbeats 4000000 in
set_option maxRecDepth 100000 in
theorem F_remove (l : Launch) {G : va_G} {tys : List (ClassId × FieldType)} {cI : ClassId} (hT : tys[1]? = some (cI, .int)) {A : Nat → Prop} {x : Nat} {q : Nat → Nat} {w : va_W} {th : Int32} {Ts : Nat → List En} {tp rd : List Nat} {cs : Bool} {cp : List Nat} {st ops cg ns : Nat} {bg : Int32} {sT sC : Nat → Int32} (hW : RW cI x q w th Ts tp rd cs cp st ops cg ns bg sT sC) (hst : st ≤ 2) : rMet l yX9_remove wsX9_remove ({ frames := 4, cells := 0, slots := 0, locals := 94 } : Room) G tys A [.ref x] w (fun r w => ((st = 1 ∨ (cAt (Ts 0) cs cp).toInt < 0) ∧ r = some (.int (nI 0)) ∧ RW cI x q w (nI 1) Ts tp rd cs cp st ops cg ns bg sT sC) ∨ (¬ (st = 1 ∨ (cAt (Ts 0) cs cp).toInt < 0) ∧ r = some (.int (nI ((Ts 0).length - ((Ts 0).filter (fun u => !blw u.1 cp)).length))) ∧ RW cI x q w (nI 0) (va_up (va_up Ts 5 ((Ts 0).filter (fun u => !blw u.1 cp))) 0 ((Ts 0).filter (fun u => !blw u.1 cp))) tp rd false cp st ops cg ns bg sT sC)) := by
  obtain ⟨cm, f_many, f_bytes, f_kinds, f_modes, f_times, f_paths, f_contentAt, f_contents, f_path, f_content, f_ready, f_tape, f_chosen, rfl, hRT, ⟨htp, htl, htb⟩, ⟨hrd, hrl, hrb⟩, hch⟩ := hW
  refine Met.ofW (cc := cX9_remove) (maxL := 2) (ret := (some .int)) (by decide) rfl ?_
  intro p e s m args below meth c s₁ B hml hv
  obtain ⟨hargs, hP, hK, hD⟩ := hv
  have hx := B.exec
  have hb := B.bytes
  have hr := B.returns
  have hts := atoms_spec (ws := wsX9_remove) B.pre
  have hown : s.vm.findClass RX9 = some m.cls := findClass_of_methodNamed B.named
  have hlocks := B.notSynchronized
  have hC : rC p s m args c cX9_remove G tys cI wsX9_remove := ⟨hx, hb, hts, (by decide +kernel), hown, hK, hT⟩
  have k_isChosen := hts (.fieldLink RX9 96 "MirrorKeepModel" "isChosen" "Z") (by decide +kernel)
  have k_many := hts (.fieldLink RX9 7 "MirrorKeepModel" "many" "[I") (by decide +kernel)
  have k_state := hts (.fieldLink RX9 107 "MirrorKeepModel" "state" "I") (by decide +kernel)
  have k_thrown := hts (.fieldLink RX9 57 "MirrorKeepModel" "thrown" "I") (by decide +kernel)
  have hR : rR G A s.heap s.heap [] (rwx cI x q th (nI tp.length) (nI st) (nI ops) (nI cg) (nI ns) bg (bI cs) cm f_many f_bytes f_kinds f_modes f_times f_paths f_contentAt f_contents f_path f_content f_ready f_tape sT sC f_chosen) := ⟨hP, hD, va_S.rf⟩
  obtain ⟨Q, hQ⟩ : ∃ Q : State → Prop, Q = MQ below (rQ G A (fun r w => ((st = 1 ∨ (cAt (Ts 0) cs cp).toInt < 0) ∧ r = some (.int (nI 0)) ∧ RW cI x q w (nI 1) Ts tp rd cs cp st ops cg ns bg sT sC) ∨ (¬ (st = 1 ∨ (cAt (Ts 0) cs cp).toInt < 0) ∧ r = some (.int (nI ((Ts 0).length - ((Ts 0).filter (fun u => !blw u.1 cp)).length))) ∧ RW cI x q w (nI 0) (va_up (va_up Ts 5 ((Ts 0).filter (fun u => !blw u.1 cp))) 0 ((Ts 0).filter (fun u => !blw u.1 cp))) tp rd false cp st ops cg ns bg sT sC))) args s 0 0 A := ⟨_, rfl⟩
  change W p l e ({ frames := 4, cells := 0, slots := 0, locals := 94 } : Room) s m args below meth c s.heap [] 0 0 (MQ below (rQ G A (fun r w => ((st = 1 ∨ (cAt (Ts 0) cs cp).toInt < 0) ∧ r = some (.int (nI 0)) ∧ RW cI x q w (nI 1) Ts tp rd cs cp st ops cg ns bg sT sC) ∨ (¬ (st = 1 ∨ (cAt (Ts 0) cs cp).toInt < 0) ∧ r = some (.int (nI ((Ts 0).length - ((Ts 0).filter (fun u => !blw u.1 cp)).length))) ∧ RW cI x q w (nI 0) (va_up (va_up Ts 5 ((Ts 0).filter (fun u => !blw u.1 cp))) 0 ((Ts 0).filter (fun u => !blw u.1 cp))) tp rd false cp st ops cg ns bg sT sC))) args s 0 0 A) (entryFrame m args 2)
  rw [← hQ]
  refine nn_entry hargs (Nat.le_of_ble_eq_true rfl) (lv := [(0, .ref x)]) rfl (fun ls hl => ?_)
  obtain ⟨a1, a2, a3, a4, a5⟩ := hRT 0 (by decide)
  refine lv_aload_n hx hb dX9_remove_0 rfl (lv_at hl 0 rfl) ?_
  refine lv_aload_n hx hb dX9_remove_1 rfl (lv_at hl 0 rfl) ?_
  refine rg_state hC hR.1 k_state dX9_remove_2 ?_
  refine lv_iconst (v := nI 1) hx hb dX9_remove_5 rfl ?_
  refine nn_eq hx hb dX9_remove_6 (tgt := 16) (by decide) (by omega) (by omega) (fun c_1 => ?_) (fun c_1 => ?_)
  · refine lv_iconst (v := nI 1) hx hb dX9_remove_16 rfl ?_
    refine lv_goto (tgt := 21) hx hb dX9_remove_17 (by decide) ?_
    refine rp_thrown hC hR k_thrown dX9_remove_21 (fun H locs hR => ?_)
    refine lv_aload_n hx hb dX9_remove_24 rfl (lv_at hl 0 rfl) ?_
    refine rg_thrown hC hR.1 k_thrown dX9_remove_25 ?_
    refine nz_le hx hb dX9_remove_28 (tgt := 33) (by decide) (by omega) (fun c_2 => ?_) (fun c_2 => ?_)
    · exact absurd c_2 (by omega)
    · refine lv_iconst (v := nI 0) hx hb dX9_remove_31 rfl ?_
      rw [hQ]
      exact rf_iret hx hb hr hlocks hR (Or.inl ⟨by omega, rfl, ⟨_, _, _, _, _, _, _, _, _, _, _, _, _, _, rfl, hRT, ⟨htp, htl, htb⟩, ⟨hrd, hrl, hrb⟩, hch⟩⟩) dX9_remove_32
  · refine lv_aload_n hx hb dX9_remove_9 rfl (lv_at hl 0 rfl) ?_
    refine pf_callV (C := RX9) (As := []) (rest := [.ref x]) (m_chosenAt l hT Ts hRT cs cp hch) ⟨hx, hb, hml, hown, hts⟩ (cwV 0 hts gX9_remove_X9_chosenAt rfl rfl rfl (by decide +kernel) ⟨Nat.le_of_ble_eq_true rfl, Nat.le_of_ble_eq_true rfl⟩) hK hR.1 (r_recv hK hR.1) rfl hl.1 rfl (Nat.le_of_ble_eq_true rfl) dX9_remove_10 ⟨Nat.le_of_ble_eq_true rfl, Nat.le_of_ble_eq_true rfl⟩ (fun r_3 hr_3 => ?_)
    subst hr_3
    refine zi_ge hx hb rfl dX9_remove_13 (tgt := 20) (by decide) (fun c_4 => ?_) (fun c_4 => ?_)
    · refine lv_iconst (v := nI 0) hx hb dX9_remove_20 rfl ?_
      refine rp_thrown hC hR k_thrown dX9_remove_21 (fun H locs hR => ?_)
      refine lv_aload_n hx hb dX9_remove_24 rfl (lv_at hl 0 rfl) ?_
      refine rg_thrown hC hR.1 k_thrown dX9_remove_25 ?_
      refine nz_le hx hb dX9_remove_28 (tgt := 33) (by decide) (by omega) (fun c_5 => ?_) (fun c_5 => ?_)
      · obtain ⟨hcs1, i, hi0, hi1, hi2⟩ := cAt_pos (L := Ts 0) (cs := cs) (cp := cp) (by omega) (by omega)
        obtain ⟨hc1, hc2, hc3, hc4⟩ := hch hcs1
        rw [hc1] at hR
        refine lv_aload_n hx hb dX9_remove_33 rfl (lv_at hl 0 rfl) ?_
        refine lv_iconst (v := nI 5) hx hb dX9_remove_34 rfl ?_
        refine rf_callV (C := RX9) (As := [.int (nI 5)]) (rest := []) (m_empty l hT Ts 5 (by decide) hRT) ⟨hx, hb, hml, hown, hts⟩ (cwV 1 hts gX9_remove_X9_empty rfl rfl rfl (by decide +kernel) ⟨Nat.le_of_ble_eq_true rfl, Nat.le_of_ble_eq_true rfl⟩) hK hR (r_recv hK hR.1) rfl hl.1 rfl (Nat.le_of_ble_eq_true rfl) dX9_remove_35 ⟨Nat.le_of_ble_eq_true rfl, Nat.le_of_ble_eq_true rfl⟩ (fun r_6 w_r_6 H locs hr_6 hR => ?_)
        obtain ⟨rfl, g_many_7, g_bytes_7, g_kinds_7, g_modes_7, g_times_7, g_paths_7, g_contentAt_7, g_contents_7, g_path_7, g_content_7, rfl, hRT⟩ := hr_6
        refine lv_iconst (v := nI 0) hx hb dX9_remove_38 rfl ?_
        refine lv_istore_n (lv' := [(1, .int (nI 0)), (0, .ref x)]) hx hb dX9_remove_39 rfl hl (by decide) rfl (fun ls hl => ?_)
        have lp_40 : ∀ (n_40 : Nat) (j : Nat) (a_many : Nat → Int32) (a_bytes : Nat → Int32) (a_kinds : Nat → Int32) (a_modes : Nat → Int32) (a_times : Nat → Int32) (a_paths : Nat → Int32) (a_contentAt : Nat → Int32) (a_contents : Nat → Int32) (a_path : Nat → Int32) (a_content : Nat → Int32) (H : Heap) (locs : List Loc) (ls : Array Slot), ((Ts 0).length - j) < n_40 → (j ≤ (Ts 0).length) → (RT a_many a_bytes a_kinds a_modes a_times a_paths a_contentAt a_contents a_path a_content (va_up Ts 5 (((Ts 0).take j).filter (fun u => !blw u.1 cp)))) → rR G A s.heap H locs (rwx cI x q (nI 0) (nI tp.length) (nI st) (nI ops) (nI cg) (nI ns) bg (bI cs) (nI cp.length) a_many a_bytes a_kinds a_modes a_times a_paths a_contentAt a_contents a_path a_content f_ready f_tape sT sC f_chosen) → lv_has ls 2 [(1, .int (nI j)), (0, .ref x)] → W p l e ({ frames := 4, cells := 0, slots := 0, locals := 94 } : Room) s m args below meth c H locs 0 0 Q (F0 m 40 ls []) := by
          intro n_40
          induction n_40 with
          | zero => intro j a_many a_bytes a_kinds a_modes a_times a_paths a_contentAt a_contents a_path a_content H locs ls h0; exact absurd h0 (Nat.not_lt_zero _)
          | succ n_40 ih_40 =>
            intro j a_many a_bytes a_kinds a_modes a_times a_paths a_contentAt a_contents a_path a_content H locs ls hm_40 hj hRT hR hl
            have hq1 := (hRT 0 (by decide)).1
            rw [va_up_ne _ _ (by decide)] at hq1
            refine lv_iload_n hx hb dX9_remove_40 rfl (lv_at hl 0 rfl) ?_
            refine lv_aload_n hx hb dX9_remove_41 rfl (lv_at hl 1 rfl) ?_
            refine rg_many hC hR.1 k_many dX9_remove_42 ?_
            refine lv_iconst (v := nI 0) hx hb dX9_remove_45 rfl ?_
            refine rl_many hC hR.1 (by omega) dX9_remove_46 ?_
            refine nn_eqi (y := nI ((Ts 0).length)) hq1 ?_
            refine nn_ge hx hb dX9_remove_47 (tgt := 71) (by decide) (by omega) (by omega) (fun c_8 => ?_) (fun c_8 => ?_)
            · have hjj : j = (Ts 0).length := by omega
              rw [hjj, List.take_length] at hRT
              have hq5 := (hRT 5 (by decide)).1
              rw [va_up_self] at hq5
              have hf1 := flt_len (L := Ts 0) (f := fun u => !blw u.1 cp)
              refine lv_aload_n hx hb dX9_remove_71 rfl (lv_at hl 1 rfl) ?_
              refine rg_many hC hR.1 k_many dX9_remove_72 ?_
              refine lv_iconst (v := nI 0) hx hb dX9_remove_75 rfl ?_
              refine rl_many hC hR.1 (by omega) dX9_remove_76 ?_
              refine nn_eqi (y := nI ((Ts 0).length)) hq1 ?_
              refine lv_aload_n hx hb dX9_remove_77 rfl (lv_at hl 1 rfl) ?_
              refine rg_many hC hR.1 k_many dX9_remove_78 ?_
              refine lv_iconst (v := nI 5) hx hb dX9_remove_81 rfl ?_
              refine rl_many hC hR.1 (by omega) dX9_remove_82 ?_
              refine nn_eqi (y := nI (((Ts 0).filter (fun u => !blw u.1 cp)).length)) hq5 ?_
              refine nn_sub hx hb (by omega) dX9_remove_83 ?_
              refine lv_istore_n (lv' := [(1, .int (nI (((Ts 0).length) - (((Ts 0).filter (fun u => !blw u.1 cp)).length)))), (0, .ref x)]) hx hb dX9_remove_84 rfl hl (by decide) rfl (fun ls hl => ?_)
              refine lv_aload_n hx hb dX9_remove_85 rfl (lv_at hl 1 rfl) ?_
              refine lv_iconst (v := nI 5) hx hb dX9_remove_86 rfl ?_
              refine lv_iconst (v := nI 0) hx hb dX9_remove_87 rfl ?_
              refine rf_callV (C := RX9) (As := [.int (nI 5), .int (nI 0)]) (rest := []) (m_copy l hT (va_up Ts 5 ((Ts 0).filter (fun u => !blw u.1 cp))) 5 0 hRT (by decide) (by decide) (by decide)) ⟨hx, hb, hml, hown, hts⟩ (cwV 2 hts gX9_remove_X9_copy rfl rfl rfl (by decide +kernel) ⟨Nat.le_of_ble_eq_true rfl, Nat.le_of_ble_eq_true rfl⟩) hK hR (r_recv hK hR.1) rfl hl.1 rfl (Nat.le_of_ble_eq_true rfl) dX9_remove_88 ⟨Nat.le_of_ble_eq_true rfl, Nat.le_of_ble_eq_true rfl⟩ (fun r_9 w_r_9 H locs hr_9 hR => ?_)
              obtain ⟨rfl, g_many_10, g_bytes_10, g_kinds_10, g_modes_10, g_times_10, g_paths_10, g_contentAt_10, g_contents_10, g_path_10, g_content_10, rfl, hRT⟩ := hr_9
              rw [va_up_self] at hRT
              refine lv_aload_n hx hb dX9_remove_91 rfl (lv_at hl 1 rfl) ?_
              refine lv_iconst (v := bI false) hx hb dX9_remove_92 rfl ?_
              refine rp_isChosen hC hR k_isChosen (bI_01 _) dX9_remove_93 (fun H locs hR => ?_)
              refine lv_iload_n hx hb dX9_remove_96 rfl (lv_at hl 0 rfl) ?_
              rw [hQ]
              exact rf_iret hx hb hr hlocks hR (Or.inr ⟨by omega, rfl, ⟨_, _, _, _, _, _, _, _, _, _, _, _, _, _, rfl, hRT, ⟨htp, htl, htb⟩, ⟨hrd, hrl, hrb⟩, (fun h => by cases h)⟩⟩) dX9_remove_97
            · refine lv_aload_n hx hb dX9_remove_50 rfl (lv_at hl 1 rfl) ?_
              refine lv_iload_n hx hb dX9_remove_51 rfl (lv_at hl 0 rfl) ?_
              refine pf_callV (C := RX9) (As := [.int (nI j)]) (rest := []) (m_isBelow l hT (va_up Ts 5 (((Ts 0).take j).filter (fun u => !blw u.1 cp))) hRT j (by rw [va_up_ne _ _ (by decide)]; omega) cp hc2 hc3 hc4) ⟨hx, hb, hml, hown, hts⟩ (cwV 1 hts gX9_remove_X9_isBelow rfl rfl rfl (by decide +kernel) ⟨Nat.le_of_ble_eq_true rfl, Nat.le_of_ble_eq_true rfl⟩) hK hR.1 (r_recv hK hR.1) rfl hl.1 rfl (Nat.le_of_ble_eq_true rfl) dX9_remove_52 ⟨Nat.le_of_ble_eq_true rfl, Nat.le_of_ble_eq_true rfl⟩ (fun r_11 hr_11 => ?_)
              rw [va_up_ne _ _ (show (0 : Nat) ≠ 5 by decide)] at hr_11
              subst hr_11
              refine nb_ifne hx hb dX9_remove_55 (tgt := 65) (by decide) (fun c_12 => ?_) (fun c_12 => ?_)
              · refine lv_iinc (v := nI (j + 1)) (lv' := [(1, .int (nI (j + 1))), (0, .ref x)]) hx hb dX9_remove_65 hl (k := 0) rfl (nI_add j 1) (by decide) rfl (fun ls hl => ?_)
                refine lv_goto (tgt := 40) hx hb dX9_remove_68 (by decide) ?_
                exact ih_40 (j + 1) a_many a_bytes a_kinds a_modes a_times a_paths a_contentAt a_contents a_path a_content _ _ _ (by omega) (by omega) (by rw [tk_succ (d := e0) (by omega), List.filter_append]; rw [flt_no (by show (!blw ((Ts 0).getD j e0).1 cp) = false; rw [show blw ((Ts 0).getD j e0).1 cp = true by assumption]; rfl), List.append_nil]; exact hRT) hR (lv_sub hl [0, 1] rfl)
              · refine lv_aload_n hx hb dX9_remove_58 rfl (lv_at hl 1 rfl) ?_
                refine lv_iconst (v := nI 0) hx hb dX9_remove_59 rfl ?_
                refine lv_iload_n hx hb dX9_remove_60 rfl (lv_at hl 0 rfl) ?_
                refine lv_iconst (v := nI 5) hx hb dX9_remove_61 rfl ?_
                have hf1 := flt_len (L := (Ts 0).take j) (f := fun u => !blw u.1 cp)
                have hf2 := flt_csum (L := (Ts 0).take j) (f := fun u => !blw u.1 cp)
                have hf3 := csum_take (L := Ts 0) (i := j) (by omega)
                rw [List.length_take] at hf1
                refine rf_callV (C := RX9) (As := [.int (nI 0), .int (nI j), .int (nI 5)]) (rest := []) (m_append l hT (va_up Ts 5 (((Ts 0).take j).filter (fun u => !blw u.1 cp))) 0 j 5 ((Ts 0).getD j e0) (((Ts 0).take j).filter (fun u => !blw u.1 cp)) hRT (by decide) (by decide) (by decide) (by rw [va_up_ne _ _ (by decide)]; omega) (by rw [va_up_ne _ _ (by decide)]) (va_up_self _ _ _) (by omega) (by omega)) ⟨hx, hb, hml, hown, hts⟩ (cwV 3 hts gX9_remove_X9_append rfl rfl rfl (by decide +kernel) ⟨Nat.le_of_ble_eq_true rfl, Nat.le_of_ble_eq_true rfl⟩) hK hR (r_recv hK hR.1) rfl hl.1 rfl (Nat.le_of_ble_eq_true rfl) dX9_remove_62 ⟨Nat.le_of_ble_eq_true rfl, Nat.le_of_ble_eq_true rfl⟩ (fun r_13 w_r_13 H locs hr_13 hR => ?_)
                obtain ⟨rfl, g_many_14, g_bytes_14, g_kinds_14, g_modes_14, g_times_14, g_paths_14, g_contentAt_14, g_contents_14, g_path_14, g_content_14, rfl, hRT⟩ := hr_13
                rw [bx_uu] at hRT
                refine lv_iinc (v := nI (j + 1)) (lv' := [(1, .int (nI (j + 1))), (0, .ref x)]) hx hb dX9_remove_65 hl (k := 0) rfl (nI_add j 1) (by decide) rfl (fun ls hl => ?_)
                refine lv_goto (tgt := 40) hx hb dX9_remove_68 (by decide) ?_
                exact ih_40 (j + 1) g_many_14 g_bytes_14 g_kinds_14 g_modes_14 g_times_14 g_paths_14 g_contentAt_14 g_contents_14 g_path_14 g_content_14 _ _ _ (by omega) (by omega) (by rw [tk_succ (d := e0) (by omega), List.filter_append]; rw [flt_one (by show (!blw ((Ts 0).getD j e0).1 cp) = true; rw [show blw ((Ts 0).getD j e0).1 cp = false by assumption]; rfl)]; exact hRT) hR (lv_sub hl [0, 1] rfl)
        exact lp_40 ((((Ts 0).length - 0)) + 1) 0 g_many_7 g_bytes_7 g_kinds_7 g_modes_7 g_times_7 g_paths_7 g_contentAt_7 g_contents_7 g_path_7 g_content_7 _ _ _ (Nat.lt_succ_self _) (Nat.zero_le _) hRT hR (lv_sub hl [0, 1] rfl)
      · exact absurd c_5 (by omega)
    · refine lv_iconst (v := nI 1) hx hb dX9_remove_16 rfl ?_
      refine lv_goto (tgt := 21) hx hb dX9_remove_17 (by decide) ?_
      refine rp_thrown hC hR k_thrown dX9_remove_21 (fun H locs hR => ?_)
      refine lv_aload_n hx hb dX9_remove_24 rfl (lv_at hl 0 rfl) ?_
      refine rg_thrown hC hR.1 k_thrown dX9_remove_25 ?_
      refine nz_le hx hb dX9_remove_28 (tgt := 33) (by decide) (by omega) (fun c_15 => ?_) (fun c_15 => ?_)
      · exact absurd c_15 (by omega)
      · refine lv_iconst (v := nI 0) hx hb dX9_remove_31 rfl ?_
        rw [hQ]
        exact rf_iret hx hb hr hlocks hR (Or.inl ⟨by omega, rfl, ⟨_, _, _, _, _, _, _, _, _, _, _, _, _, _, rfl, hRT, ⟨htp, htl, htb⟩, ⟨hrd, hrl, hrb⟩, hch⟩⟩) dX9_remove_32
