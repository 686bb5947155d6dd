set_option maxHeartbeats 4000000 in
set_option maxRecDepth 100000 in
theorem F_write (l : Launch) {G : va_G} {tys : List (ClassId × FieldType)} {cI : ClassId} (hT : tys[1]? = some (cI, .int)) {A : Nat → Prop} {x : Nat} {q : Nat → Nat} {w : va_W} {th : Int32} {Ts : Nat → List En} {tp rd : List Nat} {cs : Bool} {cp : List Nat} {st ops cg ns : Nat} {bg : Int32} {sT sC : Nat → Int32} (hW : RW cI x q w th Ts tp rd cs cp st ops cg ns bg sT sC) (f0 : Int32) (hst : st ≤ 2) : rMet l yX9_write wsX9_write ({ frames := 4, cells := 0, slots := 0, locals := 98 } : Room) G tys A [.ref x, .int f0] w (fun r w => (st = 1 ∧ r = some (.int (nI 0)) ∧ RW cI x q w (nI 2) Ts tp rd cs cp st ops cg ns bg sT sC) ∨ (st ≠ 1 ∧ ((cAt (Ts 0) cs cp).toInt < 0 ∨ ∃ i, i < (Ts 0).length ∧ (cAt (Ts 0) cs cp) = nI i ∧ ((Ts 0).getD i e0).2.1 = 2) ∧ r = some (.int (nI 0)) ∧ RW cI x q w (nI 2) Ts ([]) rd cs cp st ops cg ns bg sT sC) ∨ ∃ i, i < (Ts 0).length ∧ (cAt (Ts 0) cs cp) = nI i ∧ st ≠ 1 ∧ ¬ ((Ts 0).getD i e0).2.1 = 2 ∧ (((wlim ((Ts 0).getD i e0).2.1 < nowI f0 tp.length (ct ((Ts 0).getD i e0)).length ∨ 4000 < (csum (Ts 0) : Int) - (ct ((Ts 0).getD i e0)).length + nowI f0 tp.length (ct ((Ts 0).getD i e0)).length) ∧ r = some (.int (nI 0)) ∧ RW cI x q w (nI 2) Ts ([]) rd cs cp st ops cg ns bg sT sC) ∨ (¬ (wlim ((Ts 0).getD i e0).2.1 < nowI f0 tp.length (ct ((Ts 0).getD i e0)).length ∨ 4000 < (csum (Ts 0) : Int) - (ct ((Ts 0).getD i e0)).length + nowI f0 tp.length (ct ((Ts 0).getD i e0)).length) ∧ (f0.toInt < 0 ∨ ((ct ((Ts 0).getD i e0)).length : Int) < f0.toInt) ∧ r = some (.int (nI 0)) ∧ RW cI x q w (nI 1) Ts ([]) rd cs cp st ops cg ns bg sT sC) ∨ (¬ (wlim ((Ts 0).getD i e0).2.1 < nowI f0 tp.length (ct ((Ts 0).getD i e0)).length ∨ 4000 < (csum (Ts 0) : Int) - (ct ((Ts 0).getD i e0)).length + nowI f0 tp.length (ct ((Ts 0).getD i e0)).length) ∧ ¬ (f0.toInt < 0 ∨ ((ct ((Ts 0).getD i e0)).length : Int) < f0.toInt) ∧ r = some (.int (nI (ovl (ct ((Ts 0).getD i e0)) f0.toInt.toNat tp).length)) ∧ RW cI x q w (nI 0) (va_up (va_up Ts 5 ((Ts 0).set i (((Ts 0).getD i e0).1, ((Ts 0).getD i e0).2.1, ((Ts 0).getD i e0).2.2.1, ((Ts 0).getD i e0).2.2.2.1, (ovl (ct ((Ts 0).getD i e0)) f0.toInt.toNat tp)))) 0 ((Ts 0).set i (((Ts 0).getD i e0).1, ((Ts 0).getD i e0).2.1, ((Ts 0).getD i e0).2.2.1, ((Ts 0).getD i e0).2.2.2.1, (ovl (ct ((Ts 0).getD i e0)) f0.toInt.toNat tp)))) ([]) rd cs cp st ops cg ns bg sT sC))) := by
  obtain ⟨cm, f_many, f_bytes, f_kinds, f_modes, f_times, f_paths, f_contentAt, f_contents, f_path, f_content, f_ready, f_tape, f_chosen, rfl, hRT, ⟨htp, htl, htb⟩, ⟨hrd, hrl, hrb⟩, hch⟩ := hW
  refine Met.ofW (cc := cX9_write) (maxL := 10) (ret := (some .int)) (by decide) rfl ?_
  intro p e s m args below meth c s₁ B hml hv
  obtain ⟨hargs, hP, hK, hD⟩ := hv
  have hx := B.exec
  have hb := B.bytes
  have hr := B.returns
  have hts := atoms_spec (ws := wsX9_write) B.pre
  have hown : s.vm.findClass RX9 = some m.cls := findClass_of_methodNamed B.named
  have hlocks := B.notSynchronized
  have hC : rC p s m args c cX9_write G tys cI wsX9_write := ⟨hx, hb, hts, (by decide +kernel), hown, hK, hT⟩
  have k_bytes := hts (.fieldLink RX9 13 "MirrorKeepModel" "bytes" "[I") (by decide +kernel)
  have k_contents := hts (.fieldLink RX9 31 "MirrorKeepModel" "contents" "[I") (by decide +kernel)
  have k_kinds := hts (.fieldLink RX9 16 "MirrorKeepModel" "kinds" "[I") (by decide +kernel)
  have k_state := hts (.fieldLink RX9 107 "MirrorKeepModel" "state" "I") (by decide +kernel)
  have k_taped := hts (.fieldLink RX9 61 "MirrorKeepModel" "taped" "I") (by decide +kernel)
  have k_thrown := hts (.fieldLink RX9 57 "MirrorKeepModel" "thrown" "I") (by decide +kernel)
  have hR : rR G A s.heap s.heap [] (rwx cI x q th (nI tp.length) (nI st) (nI ops) (nI cg) (nI ns) bg (bI cs) cm f_many f_bytes f_kinds f_modes f_times f_paths f_contentAt f_contents f_path f_content f_ready f_tape sT sC f_chosen) := ⟨hP, hD, va_S.rf⟩
  obtain ⟨Q, hQ⟩ : ∃ Q : State → Prop, Q = MQ below (rQ G A (fun r w => (st = 1 ∧ r = some (.int (nI 0)) ∧ RW cI x q w (nI 2) Ts tp rd cs cp st ops cg ns bg sT sC) ∨ (st ≠ 1 ∧ ((cAt (Ts 0) cs cp).toInt < 0 ∨ ∃ i, i < (Ts 0).length ∧ (cAt (Ts 0) cs cp) = nI i ∧ ((Ts 0).getD i e0).2.1 = 2) ∧ r = some (.int (nI 0)) ∧ RW cI x q w (nI 2) Ts ([]) rd cs cp st ops cg ns bg sT sC) ∨ ∃ i, i < (Ts 0).length ∧ (cAt (Ts 0) cs cp) = nI i ∧ st ≠ 1 ∧ ¬ ((Ts 0).getD i e0).2.1 = 2 ∧ (((wlim ((Ts 0).getD i e0).2.1 < nowI f0 tp.length (ct ((Ts 0).getD i e0)).length ∨ 4000 < (csum (Ts 0) : Int) - (ct ((Ts 0).getD i e0)).length + nowI f0 tp.length (ct ((Ts 0).getD i e0)).length) ∧ r = some (.int (nI 0)) ∧ RW cI x q w (nI 2) Ts ([]) rd cs cp st ops cg ns bg sT sC) ∨ (¬ (wlim ((Ts 0).getD i e0).2.1 < nowI f0 tp.length (ct ((Ts 0).getD i e0)).length ∨ 4000 < (csum (Ts 0) : Int) - (ct ((Ts 0).getD i e0)).length + nowI f0 tp.length (ct ((Ts 0).getD i e0)).length) ∧ (f0.toInt < 0 ∨ ((ct ((Ts 0).getD i e0)).length : Int) < f0.toInt) ∧ r = some (.int (nI 0)) ∧ RW cI x q w (nI 1) Ts ([]) rd cs cp st ops cg ns bg sT sC) ∨ (¬ (wlim ((Ts 0).getD i e0).2.1 < nowI f0 tp.length (ct ((Ts 0).getD i e0)).length ∨ 4000 < (csum (Ts 0) : Int) - (ct ((Ts 0).getD i e0)).length + nowI f0 tp.length (ct ((Ts 0).getD i e0)).length) ∧ ¬ (f0.toInt < 0 ∨ ((ct ((Ts 0).getD i e0)).length : Int) < f0.toInt) ∧ r = some (.int (nI (ovl (ct ((Ts 0).getD i e0)) f0.toInt.toNat tp).length)) ∧ RW cI x q w (nI 0) (va_up (va_up Ts 5 ((Ts 0).set i (((Ts 0).getD i e0).1, ((Ts 0).getD i e0).2.1, ((Ts 0).getD i e0).2.2.1, ((Ts 0).getD i e0).2.2.2.1, (ovl (ct ((Ts 0).getD i e0)) f0.toInt.toNat tp)))) 0 ((Ts 0).set i (((Ts 0).getD i e0).1, ((Ts 0).getD i e0).2.1, ((Ts 0).getD i e0).2.2.1, ((Ts 0).getD i e0).2.2.2.1, (ovl (ct ((Ts 0).getD i e0)) f0.toInt.toNat tp)))) ([]) rd cs cp st ops cg ns bg sT sC)))) args s 0 0 A := ⟨_, rfl⟩
  change W p l e ({ frames := 4, cells := 0, slots := 0, locals := 98 } : Room) s m args below meth c s.heap [] 0 0 (MQ below (rQ G A (fun r w => (st = 1 ∧ r = some (.int (nI 0)) ∧ RW cI x q w (nI 2) Ts tp rd cs cp st ops cg ns bg sT sC) ∨ (st ≠ 1 ∧ ((cAt (Ts 0) cs cp).toInt < 0 ∨ ∃ i, i < (Ts 0).length ∧ (cAt (Ts 0) cs cp) = nI i ∧ ((Ts 0).getD i e0).2.1 = 2) ∧ r = some (.int (nI 0)) ∧ RW cI x q w (nI 2) Ts ([]) rd cs cp st ops cg ns bg sT sC) ∨ ∃ i, i < (Ts 0).length ∧ (cAt (Ts 0) cs cp) = nI i ∧ st ≠ 1 ∧ ¬ ((Ts 0).getD i e0).2.1 = 2 ∧ (((wlim ((Ts 0).getD i e0).2.1 < nowI f0 tp.length (ct ((Ts 0).getD i e0)).length ∨ 4000 < (csum (Ts 0) : Int) - (ct ((Ts 0).getD i e0)).length + nowI f0 tp.length (ct ((Ts 0).getD i e0)).length) ∧ r = some (.int (nI 0)) ∧ RW cI x q w (nI 2) Ts ([]) rd cs cp st ops cg ns bg sT sC) ∨ (¬ (wlim ((Ts 0).getD i e0).2.1 < nowI f0 tp.length (ct ((Ts 0).getD i e0)).length ∨ 4000 < (csum (Ts 0) : Int) - (ct ((Ts 0).getD i e0)).length + nowI f0 tp.length (ct ((Ts 0).getD i e0)).length) ∧ (f0.toInt < 0 ∨ ((ct ((Ts 0).getD i e0)).length : Int) < f0.toInt) ∧ r = some (.int (nI 0)) ∧ RW cI x q w (nI 1) Ts ([]) rd cs cp st ops cg ns bg sT sC) ∨ (¬ (wlim ((Ts 0).getD i e0).2.1 < nowI f0 tp.length (ct ((Ts 0).getD i e0)).length ∨ 4000 < (csum (Ts 0) : Int) - (ct ((Ts 0).getD i e0)).length + nowI f0 tp.length (ct ((Ts 0).getD i e0)).length) ∧ ¬ (f0.toInt < 0 ∨ ((ct ((Ts 0).getD i e0)).length : Int) < f0.toInt) ∧ r = some (.int (nI (ovl (ct ((Ts 0).getD i e0)) f0.toInt.toNat tp).length)) ∧ RW cI x q w (nI 0) (va_up (va_up Ts 5 ((Ts 0).set i (((Ts 0).getD i e0).1, ((Ts 0).getD i e0).2.1, ((Ts 0).getD i e0).2.2.1, ((Ts 0).getD i e0).2.2.2.1, (ovl (ct ((Ts 0).getD i e0)) f0.toInt.toNat tp)))) 0 ((Ts 0).set i (((Ts 0).getD i e0).1, ((Ts 0).getD i e0).2.1, ((Ts 0).getD i e0).2.2.1, ((Ts 0).getD i e0).2.2.2.1, (ovl (ct ((Ts 0).getD i e0)) f0.toInt.toNat tp)))) ([]) rd cs cp st ops cg ns bg sT sC)))) args s 0 0 A) (entryFrame m args 10)
  rw [← hQ]
  refine nn_entry hargs (Nat.le_of_ble_eq_true rfl) (lv := [(0, .ref x), (1, .int f0)]) rfl (fun ls hl => ?_)
  obtain ⟨a1, a2, a3, a4, a5⟩ := hRT 0 (by decide)
  have hfa := Int32.le_toInt f0
  have hfb := Int32.toInt_lt f0
  refine lv_aload_n hx hb dX9_write_0 rfl (lv_at hl 0 rfl) ?_
  refine lv_aload_n hx hb dX9_write_1 rfl (lv_at hl 0 rfl) ?_
  refine rg_state hC hR.1 k_state dX9_write_2 ?_
  refine lv_iconst (v := nI 1) hx hb dX9_write_5 rfl ?_
  refine nn_ne hx hb dX9_write_6 (tgt := 13) (by decide) (by omega) (by omega) (fun c_1 => ?_) (fun c_1 => ?_)
  · refine lv_iconst (v := nI 0) hx hb dX9_write_13 rfl ?_
    refine rp_thrown hC hR k_thrown dX9_write_14 (fun H locs hR => ?_)
    refine lv_aload_n hx hb dX9_write_17 rfl (lv_at hl 0 rfl) ?_
    refine rg_thrown hC hR.1 k_thrown dX9_write_18 ?_
    refine nz_le hx hb dX9_write_21 (tgt := 26) (by decide) (by omega) (fun c_2 => ?_) (fun c_2 => ?_)
    · refine lv_aload_n hx hb dX9_write_26 rfl (lv_at hl 0 rfl) ?_
      refine rg_taped hC hR.1 k_taped dX9_write_27 ?_
      refine lv_istore_n (lv' := [(2, .int (nI tp.length)), (0, .ref x), (1, .int f0)]) hx hb dX9_write_30 rfl hl (by decide) rfl (fun ls hl => ?_)
      refine lv_aload_n hx hb dX9_write_31 rfl (lv_at hl 1 rfl) ?_
      refine lv_iconst (v := nI 0) hx hb dX9_write_32 rfl ?_
      refine rp_taped hC hR k_taped dX9_write_33 (fun H locs hR => ?_)
      refine lv_aload_n hx hb dX9_write_36 rfl (lv_at hl 1 rfl) ?_
      refine pf_callV (C := RX9) (As := []) (rest := []) (m_chosenAt l hT Ts hRT cs cp hch) ⟨hx, hb, hml, hown, hts⟩ (cwV 0 hts gX9_write_X9_chosenAt rfl rfl rfl (by decide +kernel) ⟨Nat.le_of_ble_eq_true rfl, Nat.le_of_ble_eq_true rfl⟩) hK hR.1 (r_recv hK hR.1) rfl hl.1 rfl (Nat.le_of_ble_eq_true rfl) dX9_write_37 ⟨Nat.le_of_ble_eq_true rfl, Nat.le_of_ble_eq_true rfl⟩ (fun r_3 hr_3 => ?_)
      subst hr_3
      refine lv_istore_n (lv' := [(3, .int (cAt (Ts 0) cs cp)), (2, .int (nI tp.length)), (0, .ref x), (1, .int f0)]) hx hb dX9_write_40 rfl hl (by decide) rfl (fun ls hl => ?_)
      refine lv_iload_n hx hb dX9_write_41 rfl (lv_at hl 0 rfl) ?_
      refine zi_ge hx hb rfl dX9_write_42 (tgt := 49) (by decide) (fun c_4 => ?_) (fun c_4 => ?_)
      · obtain ⟨hcs1, i, hi0, hi1, hi2⟩ := cAt_pos (L := Ts 0) (cs := cs) (cp := cp) (by omega) (by omega)
        have hi4 := hi1
        rw [hi1] at hl
        obtain ⟨d1, d2, d3, d4, d5, d6, d7, d8, d9, d10, d11⟩ := a5 i hi0
        have hct9 := csum_take (L := Ts 0) hi0
        refine lv_aload_n hx hb dX9_write_49 rfl (lv_at hl 2 rfl) ?_
        refine rg_kinds hC hR.1 k_kinds dX9_write_50 ?_
        refine lv_iconst (v := nI 0) hx hb dX9_write_53 rfl ?_
        refine lv_iload_n hx hb dX9_write_54 rfl (lv_at hl 0 rfl) ?_
        refine pf_callS (As := [.int (nI 0), .int (nI i)]) (rest := [.ref (q 2)]) (m_place l hT 0 i) ⟨hx, hb, hml, hown, hts⟩ (va_cwS 2 hts gX9_write_X9_place rfl rfl rfl (by decide +kernel) ⟨Nat.le_of_ble_eq_true rfl, Nat.le_of_ble_eq_true rfl⟩) hK nn_nil rfl hl.1 rfl (Nat.le_of_ble_eq_true rfl) dX9_write_55 ⟨Nat.le_of_ble_eq_true rfl, Nat.le_of_ble_eq_true rfl⟩ (fun r_5 hr_5 => ?_)
        subst hr_5
        refine rl_kinds hC hR.1 (by omega) dX9_write_58 ?_
        refine nn_eqi (y := ((Ts 0).getD i e0).2.1) d1 ?_
        refine lv_istore (lv' := [(4, .int (((Ts 0).getD i e0).2.1)), (3, .int (nI i)), (2, .int (nI tp.length)), (0, .ref x), (1, .int f0)]) hx hb dX9_write_59 hl (by decide) rfl (fun ls hl => ?_)
        refine lv_aload_n hx hb dX9_write_61 rfl (lv_at hl 3 rfl) ?_
        refine lv_iload hx hb dX9_write_62 (lv_at hl 0 rfl) ?_
        refine lv_iconst (v := nI 2) hx hb dX9_write_64 rfl ?_
        refine lv_icmp_ne (tgt := 72) hx hb dX9_write_65 (by decide) (fun c_6 => ?_) (fun c_6 => ?_)
        · refine lv_iconst (v := nI 0) hx hb dX9_write_72 rfl ?_
          refine rp_thrown hC hR k_thrown dX9_write_73 (fun H locs hR => ?_)
          refine lv_aload_n hx hb dX9_write_76 rfl (lv_at hl 3 rfl) ?_
          refine rg_thrown hC hR.1 k_thrown dX9_write_77 ?_
          refine nz_le hx hb dX9_write_80 (tgt := 85) (by decide) (by omega) (fun c_7 => ?_) (fun c_7 => ?_)
          · refine lv_aload_n hx hb dX9_write_85 rfl (lv_at hl 3 rfl) ?_
            refine rg_contents hC hR.1 k_contents dX9_write_86 ?_
            refine lv_iconst (v := nI 0) hx hb dX9_write_89 rfl ?_
            refine lv_iload_n hx hb dX9_write_90 rfl (lv_at hl 1 rfl) ?_
            refine pf_callS (As := [.int (nI 0), .int (nI i)]) (rest := [.ref (q 7)]) (m_place l hT 0 i) ⟨hx, hb, hml, hown, hts⟩ (va_cwS 2 hts gX9_write_X9_place rfl rfl rfl (by decide +kernel) ⟨Nat.le_of_ble_eq_true rfl, Nat.le_of_ble_eq_true rfl⟩) hK nn_nil rfl hl.1 rfl (Nat.le_of_ble_eq_true rfl) dX9_write_91 ⟨Nat.le_of_ble_eq_true rfl, Nat.le_of_ble_eq_true rfl⟩ (fun r_8 hr_8 => ?_)
            subst hr_8
            refine rl_contents hC hR.1 (by omega) dX9_write_94 ?_
            refine nn_eqi (y := nI ((ct ((Ts 0).getD i e0)).length)) d7 ?_
            refine lv_istore (lv' := [(5, .int (nI ((ct ((Ts 0).getD i e0)).length))), (4, .int (((Ts 0).getD i e0).2.1)), (3, .int (nI i)), (2, .int (nI tp.length)), (0, .ref x), (1, .int f0)]) hx hb dX9_write_95 hl (by decide) rfl (fun ls hl => ?_)
            refine lv_iload_n hx hb dX9_write_97 rfl (lv_at hl 5 rfl) ?_
            refine lv_i2l hx hb dX9_write_98 rfl ?_
            refine lv_iload_n hx hb dX9_write_99 rfl (lv_at hl 3 rfl) ?_
            refine lv_i2l hx hb dX9_write_100 rfl ?_
            refine lv_ladd hx hb dX9_write_101 ?_
            refine lv_lstore (lv' := [(6, .long (f0.toInt64 + ((nI tp.length).toInt64))), (5, .int (nI ((ct ((Ts 0).getD i e0)).length))), (4, .int (((Ts 0).getD i e0).2.1)), (3, .int (nI i)), (2, .int (nI tp.length)), (0, .ref x), (1, .int f0)]) hx hb dX9_write_102 hl (by decide) rfl (fun ls hl => ?_)
            refine lv_lload hx hb dX9_write_104 (lv_at hl 0 rfl) ?_
            refine lv_iload hx hb dX9_write_106 (lv_at hl 1 rfl) ?_
            refine lv_i2l hx hb dX9_write_108 rfl ?_
            refine zl_le hx hb (l_add (i64 rfl) (i64 (nI_toInt (by omega))) (by omega) (by omega)) (i64 (nI_toInt (by omega))) dX9_write_109 dX9_write_110 (tgt := 118) (by decide) (fun c_9 => ?_) (fun c_9 => ?_)
            · have hN : nowI f0 tp.length (ct ((Ts 0).getD i e0)).length = (ct ((Ts 0).getD i e0)).length := if_neg (by omega)
              refine lv_iload hx hb dX9_write_118 (lv_at hl 1 rfl) ?_
              refine lv_i2l hx hb dX9_write_120 rfl ?_
              refine lv_lstore (lv' := [(8, .long ((nI ((ct ((Ts 0).getD i e0)).length)).toInt64)), (6, .long (f0.toInt64 + ((nI tp.length).toInt64))), (5, .int (nI ((ct ((Ts 0).getD i e0)).length))), (4, .int (((Ts 0).getD i e0).2.1)), (3, .int (nI i)), (2, .int (nI tp.length)), (0, .ref x), (1, .int f0)]) hx hb dX9_write_121 hl (by decide) rfl (fun ls hl => ?_)
              refine lv_lload hx hb dX9_write_123 (lv_at hl 0 rfl) ?_
              refine lv_iload hx hb dX9_write_125 (lv_at hl 3 rfl) ?_
              refine lv_iconst (v := nI 1) hx hb dX9_write_127 rfl ?_
              refine lv_icmp_ne (tgt := 137) hx hb dX9_write_128 (by decide) (fun c_10 => ?_) (fun c_10 => ?_)
              · have hKd : wlim ((Ts 0).getD i e0).2.1 = 100 := if_neg (by assumption)
                refine lv_bipush (v := nI 100) hx hb dX9_write_137 (by decide) ?_
                refine lv_i2l hx hb dX9_write_139 rfl ?_
                refine zl_gt hx hb (i64 (nI_toInt (by omega))) (i64 (nI_toInt (by omega))) dX9_write_140 dX9_write_141 (tgt := 164) (by decide) (fun c_11 => ?_) (fun c_11 => ?_)
                · refine lv_aload_n hx hb dX9_write_164 rfl (lv_at hl 6 rfl) ?_
                  refine lv_iconst (v := nI 2) hx hb dX9_write_165 rfl ?_
                  refine rp_thrown hC hR k_thrown dX9_write_166 (fun H locs hR => ?_)
                  refine lv_goto (tgt := 187) hx hb dX9_write_169 (by decide) ?_
                  refine lv_aload_n hx hb dX9_write_187 rfl (lv_at hl 6 rfl) ?_
                  refine rg_thrown hC hR.1 k_thrown dX9_write_188 ?_
                  refine nz_le hx hb dX9_write_191 (tgt := 196) (by decide) (by omega) (fun c_12 => ?_) (fun c_12 => ?_)
                  · exact absurd c_12 (by omega)
                  · refine lv_iconst (v := nI 0) hx hb dX9_write_194 rfl ?_
                    rw [hQ]
                    exact rf_iret hx hb hr hlocks hR (Or.inr (Or.inr ⟨i, hi0, hi4, by omega, by assumption, Or.inl ⟨by rw [hN, hKd]; omega, rfl, ⟨_, _, _, _, _, _, _, _, _, _, _, _, _, _, rfl, hRT, ⟨en_nil _ _, by decide, fun b h => by cases h⟩, ⟨hrd, hrl, hrb⟩, hch⟩⟩⟩)) dX9_write_195
                · refine lv_aload_n hx hb dX9_write_144 rfl (lv_at hl 6 rfl) ?_
                  refine rg_bytes hC hR.1 k_bytes dX9_write_145 ?_
                  refine lv_iconst (v := nI 0) hx hb dX9_write_148 rfl ?_
                  refine rl_bytes hC hR.1 (by omega) dX9_write_149 ?_
                  refine nn_eqi (y := nI (csum (Ts 0))) a2 ?_
                  refine lv_iload hx hb dX9_write_150 (lv_at hl 2 rfl) ?_
                  refine nn_sub hx hb (by omega) dX9_write_152 ?_
                  refine lv_i2l hx hb dX9_write_153 rfl ?_
                  refine lv_lload hx hb dX9_write_154 (lv_at hl 0 rfl) ?_
                  refine lv_ladd hx hb dX9_write_156 ?_
                  refine lv_ldc2 (v := 4000) hx hb hown (hts (.constantLong RX9 129 4000) (by decide +kernel)) dX9_write_157 ?_
                  refine zl_le hx hb (l_add (i64 (nI_toInt (by omega))) (i64 (nI_toInt (by omega))) (by omega) (by omega)) (show (4000 : Int64).toInt = 4000 from rfl) dX9_write_160 dX9_write_161 (tgt := 172) (by decide) (fun c_13 => ?_) (fun c_13 => ?_)
                  · refine lv_iload_n hx hb dX9_write_172 rfl (lv_at hl 7 rfl) ?_
                    refine zi_lt hx hb rfl dX9_write_173 (tgt := 182) (by decide) (fun c_14 => ?_) (fun c_14 => ?_)
                    · refine lv_aload_n hx hb dX9_write_182 rfl (lv_at hl 6 rfl) ?_
                      refine lv_iconst (v := nI 1) hx hb dX9_write_183 rfl ?_
                      refine rp_thrown hC hR k_thrown dX9_write_184 (fun H locs hR => ?_)
                      refine lv_aload_n hx hb dX9_write_187 rfl (lv_at hl 6 rfl) ?_
                      refine rg_thrown hC hR.1 k_thrown dX9_write_188 ?_
                      refine nz_le hx hb dX9_write_191 (tgt := 196) (by decide) (by omega) (fun c_15 => ?_) (fun c_15 => ?_)
                      · exact absurd c_15 (by omega)
                      · refine lv_iconst (v := nI 0) hx hb dX9_write_194 rfl ?_
                        rw [hQ]
                        exact rf_iret hx hb hr hlocks hR (Or.inr (Or.inr ⟨i, hi0, hi4, by omega, by assumption, Or.inr (Or.inl ⟨by rw [hN, hKd]; omega, by omega, rfl, ⟨_, _, _, _, _, _, _, _, _, _, _, _, _, _, rfl, hRT, ⟨en_nil _ _, by decide, fun b h => by cases h⟩, ⟨hrd, hrl, hrb⟩, hch⟩⟩)⟩)) dX9_write_195
                    · refine lv_iload_n hx hb dX9_write_176 rfl (lv_at hl 7 rfl) ?_
                      refine lv_iload hx hb dX9_write_177 (lv_at hl 2 rfl) ?_
                      refine zc_le hx hb rfl (nI_toInt (by omega)) dX9_write_179 (tgt := 187) (by decide) (fun c_16 => ?_) (fun c_16 => ?_)
                      · refine lv_aload_n hx hb dX9_write_187 rfl (lv_at hl 6 rfl) ?_
                        refine rg_thrown hC hR.1 k_thrown dX9_write_188 ?_
                        refine nz_le hx hb dX9_write_191 (tgt := 196) (by decide) (by omega) (fun c_17 => ?_) (fun c_17 => ?_)
                        · obtain ⟨f1, hf1, hf12, hf13⟩ := zn_ex (x := f0) (by omega)
                          have hol2 : (ovl (ct ((Ts 0).getD i e0)) f1 tp).length < 5000 := by rw [ovl_len (by omega)]; split <;> omega
                          refine lv_aload_n hx hb dX9_write_196 rfl (lv_at hl 6 rfl) ?_
                          refine lv_iload_n hx hb dX9_write_197 rfl (lv_at hl 4 rfl) ?_
                          refine lv_lload hx hb dX9_write_198 (lv_at hl 0 rfl) ?_
                          refine lv_l2i hx hb dX9_write_200 (l_i32 (n := (ovl (ct ((Ts 0).getD i e0)) f1 tp).length) (Eq.trans (i64 (nI_toInt (by omega))) (by rw [ovl_len (by omega)]; split <;> omega)) (by omega)) ?_
                          refine lv_iload_n hx hb dX9_write_201 rfl (lv_at hl 7 rfl) ?_
                          refine nn_eqi (y := nI f1) hf1 ?_
                          refine lv_iload_n hx hb dX9_write_202 rfl (lv_at hl 5 rfl) ?_
                          refine rf_callV (C := RX9) (As := [.int (nI i), .int (nI ((ovl (ct ((Ts 0).getD i e0)) f1 tp).length)), .int (nI f1), .int (nI tp.length)]) (rest := []) (m_change l hT Ts i f1 tp (ovl (ct ((Ts 0).getD i e0)) f1 tp) hRT hi0 htp htl (fun k hk => ovl_get (by omega) hk) (fun k hk => ovl_cov (by omega) hk) (by omega) (by rw [ovl_len (by omega)]; split <;> omega) (ovl_mem d11 htb)) ⟨hx, hb, hml, hown, hts⟩ (cwV 4 hts gX9_write_X9_change rfl rfl rfl (by decide +kernel) ⟨Nat.le_of_ble_eq_true rfl, Nat.le_of_ble_eq_true rfl⟩) hK hR (r_recv hK hR.1) rfl hl.1 rfl (Nat.le_of_ble_eq_true rfl) dX9_write_203 ⟨Nat.le_of_ble_eq_true rfl, Nat.le_of_ble_eq_true rfl⟩ (fun r_18 w_r_18 H locs hr_18 hR => ?_)
                          obtain ⟨rfl, g_many_19, g_bytes_19, g_kinds_19, g_modes_19, g_times_19, g_paths_19, g_contentAt_19, g_contents_19, g_path_19, g_content_19, rfl, hRT⟩ := hr_18
                          refine lv_lload hx hb dX9_write_206 (lv_at hl 0 rfl) ?_
                          refine lv_l2i hx hb dX9_write_208 (l_i32 (n := (ovl (ct ((Ts 0).getD i e0)) f1 tp).length) (Eq.trans (i64 (nI_toInt (by omega))) (by rw [ovl_len (by omega)]; split <;> omega)) (by omega)) ?_
                          rw [hQ]
                          exact rf_iret hx hb hr hlocks hR (Or.inr (Or.inr ⟨i, hi0, hi4, by omega, by assumption, Or.inr (Or.inr ⟨by rw [hN, hKd]; omega, by omega, by rw [show f0.toInt.toNat = f1 by omega], by rw [show f0.toInt.toNat = f1 by omega]; exact ⟨_, _, _, _, _, _, _, _, _, _, _, _, _, _, rfl, hRT, ⟨en_nil _ _, by decide, fun b h => by cases h⟩, ⟨hrd, hrl, hrb⟩, hch⟩⟩)⟩)) dX9_write_209
                        · exact absurd c_17 (by omega)
                      · refine lv_aload_n hx hb dX9_write_182 rfl (lv_at hl 6 rfl) ?_
                        refine lv_iconst (v := nI 1) hx hb dX9_write_183 rfl ?_
                        refine rp_thrown hC hR k_thrown dX9_write_184 (fun H locs hR => ?_)
                        refine lv_aload_n hx hb dX9_write_187 rfl (lv_at hl 6 rfl) ?_
                        refine rg_thrown hC hR.1 k_thrown dX9_write_188 ?_
                        refine nz_le hx hb dX9_write_191 (tgt := 196) (by decide) (by omega) (fun c_20 => ?_) (fun c_20 => ?_)
                        · exact absurd c_20 (by omega)
                        · refine lv_iconst (v := nI 0) hx hb dX9_write_194 rfl ?_
                          rw [hQ]
                          exact rf_iret hx hb hr hlocks hR (Or.inr (Or.inr ⟨i, hi0, hi4, by omega, by assumption, Or.inr (Or.inl ⟨by rw [hN, hKd]; omega, by omega, rfl, ⟨_, _, _, _, _, _, _, _, _, _, _, _, _, _, rfl, hRT, ⟨en_nil _ _, by decide, fun b h => by cases h⟩, ⟨hrd, hrl, hrb⟩, hch⟩⟩)⟩)) dX9_write_195
                  · refine lv_aload_n hx hb dX9_write_164 rfl (lv_at hl 6 rfl) ?_
                    refine lv_iconst (v := nI 2) hx hb dX9_write_165 rfl ?_
                    refine rp_thrown hC hR k_thrown dX9_write_166 (fun H locs hR => ?_)
                    refine lv_goto (tgt := 187) hx hb dX9_write_169 (by decide) ?_
                    refine lv_aload_n hx hb dX9_write_187 rfl (lv_at hl 6 rfl) ?_
                    refine rg_thrown hC hR.1 k_thrown dX9_write_188 ?_
                    refine nz_le hx hb dX9_write_191 (tgt := 196) (by decide) (by omega) (fun c_21 => ?_) (fun c_21 => ?_)
                    · exact absurd c_21 (by omega)
                    · refine lv_iconst (v := nI 0) hx hb dX9_write_194 rfl ?_
                      rw [hQ]
                      exact rf_iret hx hb hr hlocks hR (Or.inr (Or.inr ⟨i, hi0, hi4, by omega, by assumption, Or.inl ⟨by rw [hN, hKd]; omega, rfl, ⟨_, _, _, _, _, _, _, _, _, _, _, _, _, _, rfl, hRT, ⟨en_nil _ _, by decide, fun b h => by cases h⟩, ⟨hrd, hrl, hrb⟩, hch⟩⟩⟩)) dX9_write_195
              · have hKd : wlim ((Ts 0).getD i e0).2.1 = 1500 := if_pos (by assumption)
                refine lv_sipush (v := nI 1500) hx hb dX9_write_131 (by decide) ?_
                refine lv_goto (tgt := 139) hx hb dX9_write_134 (by decide) ?_
                refine lv_i2l hx hb dX9_write_139 rfl ?_
                refine zl_gt hx hb (i64 (nI_toInt (by omega))) (i64 (nI_toInt (by omega))) dX9_write_140 dX9_write_141 (tgt := 164) (by decide) (fun c_22 => ?_) (fun c_22 => ?_)
                · refine lv_aload_n hx hb dX9_write_164 rfl (lv_at hl 6 rfl) ?_
                  refine lv_iconst (v := nI 2) hx hb dX9_write_165 rfl ?_
                  refine rp_thrown hC hR k_thrown dX9_write_166 (fun H locs hR => ?_)
                  refine lv_goto (tgt := 187) hx hb dX9_write_169 (by decide) ?_
                  refine lv_aload_n hx hb dX9_write_187 rfl (lv_at hl 6 rfl) ?_
                  refine rg_thrown hC hR.1 k_thrown dX9_write_188 ?_
                  refine nz_le hx hb dX9_write_191 (tgt := 196) (by decide) (by omega) (fun c_23 => ?_) (fun c_23 => ?_)
                  · exact absurd c_23 (by omega)
                  · refine lv_iconst (v := nI 0) hx hb dX9_write_194 rfl ?_
                    rw [hQ]
                    exact rf_iret hx hb hr hlocks hR (Or.inr (Or.inr ⟨i, hi0, hi4, by omega, by assumption, Or.inl ⟨by rw [hN, hKd]; omega, rfl, ⟨_, _, _, _, _, _, _, _, _, _, _, _, _, _, rfl, hRT, ⟨en_nil _ _, by decide, fun b h => by cases h⟩, ⟨hrd, hrl, hrb⟩, hch⟩⟩⟩)) dX9_write_195
                · refine lv_aload_n hx hb dX9_write_144 rfl (lv_at hl 6 rfl) ?_
                  refine rg_bytes hC hR.1 k_bytes dX9_write_145 ?_
                  refine lv_iconst (v := nI 0) hx hb dX9_write_148 rfl ?_
                  refine rl_bytes hC hR.1 (by omega) dX9_write_149 ?_
                  refine nn_eqi (y := nI (csum (Ts 0))) a2 ?_
                  refine lv_iload hx hb dX9_write_150 (lv_at hl 2 rfl) ?_
                  refine nn_sub hx hb (by omega) dX9_write_152 ?_
                  refine lv_i2l hx hb dX9_write_153 rfl ?_
                  refine lv_lload hx hb dX9_write_154 (lv_at hl 0 rfl) ?_
                  refine lv_ladd hx hb dX9_write_156 ?_
                  refine lv_ldc2 (v := 4000) hx hb hown (hts (.constantLong RX9 129 4000) (by decide +kernel)) dX9_write_157 ?_
                  refine zl_le hx hb (l_add (i64 (nI_toInt (by omega))) (i64 (nI_toInt (by omega))) (by omega) (by omega)) (show (4000 : Int64).toInt = 4000 from rfl) dX9_write_160 dX9_write_161 (tgt := 172) (by decide) (fun c_24 => ?_) (fun c_24 => ?_)
                  · refine lv_iload_n hx hb dX9_write_172 rfl (lv_at hl 7 rfl) ?_
                    refine zi_lt hx hb rfl dX9_write_173 (tgt := 182) (by decide) (fun c_25 => ?_) (fun c_25 => ?_)
                    · refine lv_aload_n hx hb dX9_write_182 rfl (lv_at hl 6 rfl) ?_
                      refine lv_iconst (v := nI 1) hx hb dX9_write_183 rfl ?_
                      refine rp_thrown hC hR k_thrown dX9_write_184 (fun H locs hR => ?_)
                      refine lv_aload_n hx hb dX9_write_187 rfl (lv_at hl 6 rfl) ?_
                      refine rg_thrown hC hR.1 k_thrown dX9_write_188 ?_
                      refine nz_le hx hb dX9_write_191 (tgt := 196) (by decide) (by omega) (fun c_26 => ?_) (fun c_26 => ?_)
                      · exact absurd c_26 (by omega)
                      · refine lv_iconst (v := nI 0) hx hb dX9_write_194 rfl ?_
                        rw [hQ]
                        exact rf_iret hx hb hr hlocks hR (Or.inr (Or.inr ⟨i, hi0, hi4, by omega, by assumption, Or.inr (Or.inl ⟨by rw [hN, hKd]; omega, by omega, rfl, ⟨_, _, _, _, _, _, _, _, _, _, _, _, _, _, rfl, hRT, ⟨en_nil _ _, by decide, fun b h => by cases h⟩, ⟨hrd, hrl, hrb⟩, hch⟩⟩)⟩)) dX9_write_195
                    · refine lv_iload_n hx hb dX9_write_176 rfl (lv_at hl 7 rfl) ?_
                      refine lv_iload hx hb dX9_write_177 (lv_at hl 2 rfl) ?_
                      refine zc_le hx hb rfl (nI_toInt (by omega)) dX9_write_179 (tgt := 187) (by decide) (fun c_27 => ?_) (fun c_27 => ?_)
                      · refine lv_aload_n hx hb dX9_write_187 rfl (lv_at hl 6 rfl) ?_
                        refine rg_thrown hC hR.1 k_thrown dX9_write_188 ?_
                        refine nz_le hx hb dX9_write_191 (tgt := 196) (by decide) (by omega) (fun c_28 => ?_) (fun c_28 => ?_)
                        · obtain ⟨f1, hf1, hf12, hf13⟩ := zn_ex (x := f0) (by omega)
                          have hol2 : (ovl (ct ((Ts 0).getD i e0)) f1 tp).length < 5000 := by rw [ovl_len (by omega)]; split <;> omega
                          refine lv_aload_n hx hb dX9_write_196 rfl (lv_at hl 6 rfl) ?_
                          refine lv_iload_n hx hb dX9_write_197 rfl (lv_at hl 4 rfl) ?_
                          refine lv_lload hx hb dX9_write_198 (lv_at hl 0 rfl) ?_
                          refine lv_l2i hx hb dX9_write_200 (l_i32 (n := (ovl (ct ((Ts 0).getD i e0)) f1 tp).length) (Eq.trans (i64 (nI_toInt (by omega))) (by rw [ovl_len (by omega)]; split <;> omega)) (by omega)) ?_
                          refine lv_iload_n hx hb dX9_write_201 rfl (lv_at hl 7 rfl) ?_
                          refine nn_eqi (y := nI f1) hf1 ?_
                          refine lv_iload_n hx hb dX9_write_202 rfl (lv_at hl 5 rfl) ?_
                          refine rf_callV (C := RX9) (As := [.int (nI i), .int (nI ((ovl (ct ((Ts 0).getD i e0)) f1 tp).length)), .int (nI f1), .int (nI tp.length)]) (rest := []) (m_change l hT Ts i f1 tp (ovl (ct ((Ts 0).getD i e0)) f1 tp) hRT hi0 htp htl (fun k hk => ovl_get (by omega) hk) (fun k hk => ovl_cov (by omega) hk) (by omega) (by rw [ovl_len (by omega)]; split <;> omega) (ovl_mem d11 htb)) ⟨hx, hb, hml, hown, hts⟩ (cwV 4 hts gX9_write_X9_change rfl rfl rfl (by decide +kernel) ⟨Nat.le_of_ble_eq_true rfl, Nat.le_of_ble_eq_true rfl⟩) hK hR (r_recv hK hR.1) rfl hl.1 rfl (Nat.le_of_ble_eq_true rfl) dX9_write_203 ⟨Nat.le_of_ble_eq_true rfl, Nat.le_of_ble_eq_true rfl⟩ (fun r_29 w_r_29 H locs hr_29 hR => ?_)
                          obtain ⟨rfl, g_many_30, g_bytes_30, g_kinds_30, g_modes_30, g_times_30, g_paths_30, g_contentAt_30, g_contents_30, g_path_30, g_content_30, rfl, hRT⟩ := hr_29
                          refine lv_lload hx hb dX9_write_206 (lv_at hl 0 rfl) ?_
                          refine lv_l2i hx hb dX9_write_208 (l_i32 (n := (ovl (ct ((Ts 0).getD i e0)) f1 tp).length) (Eq.trans (i64 (nI_toInt (by omega))) (by rw [ovl_len (by omega)]; split <;> omega)) (by omega)) ?_
                          rw [hQ]
                          exact rf_iret hx hb hr hlocks hR (Or.inr (Or.inr ⟨i, hi0, hi4, by omega, by assumption, Or.inr (Or.inr ⟨by rw [hN, hKd]; omega, by omega, by rw [show f0.toInt.toNat = f1 by omega], by rw [show f0.toInt.toNat = f1 by omega]; exact ⟨_, _, _, _, _, _, _, _, _, _, _, _, _, _, rfl, hRT, ⟨en_nil _ _, by decide, fun b h => by cases h⟩, ⟨hrd, hrl, hrb⟩, hch⟩⟩)⟩)) dX9_write_209
                        · exact absurd c_28 (by omega)
                      · refine lv_aload_n hx hb dX9_write_182 rfl (lv_at hl 6 rfl) ?_
                        refine lv_iconst (v := nI 1) hx hb dX9_write_183 rfl ?_
                        refine rp_thrown hC hR k_thrown dX9_write_184 (fun H locs hR => ?_)
                        refine lv_aload_n hx hb dX9_write_187 rfl (lv_at hl 6 rfl) ?_
                        refine rg_thrown hC hR.1 k_thrown dX9_write_188 ?_
                        refine nz_le hx hb dX9_write_191 (tgt := 196) (by decide) (by omega) (fun c_31 => ?_) (fun c_31 => ?_)
                        · exact absurd c_31 (by omega)
                        · refine lv_iconst (v := nI 0) hx hb dX9_write_194 rfl ?_
                          rw [hQ]
                          exact rf_iret hx hb hr hlocks hR (Or.inr (Or.inr ⟨i, hi0, hi4, by omega, by assumption, Or.inr (Or.inl ⟨by rw [hN, hKd]; omega, by omega, rfl, ⟨_, _, _, _, _, _, _, _, _, _, _, _, _, _, rfl, hRT, ⟨en_nil _ _, by decide, fun b h => by cases h⟩, ⟨hrd, hrl, hrb⟩, hch⟩⟩)⟩)) dX9_write_195
                  · refine lv_aload_n hx hb dX9_write_164 rfl (lv_at hl 6 rfl) ?_
                    refine lv_iconst (v := nI 2) hx hb dX9_write_165 rfl ?_
                    refine rp_thrown hC hR k_thrown dX9_write_166 (fun H locs hR => ?_)
                    refine lv_goto (tgt := 187) hx hb dX9_write_169 (by decide) ?_
                    refine lv_aload_n hx hb dX9_write_187 rfl (lv_at hl 6 rfl) ?_
                    refine rg_thrown hC hR.1 k_thrown dX9_write_188 ?_
                    refine nz_le hx hb dX9_write_191 (tgt := 196) (by decide) (by omega) (fun c_32 => ?_) (fun c_32 => ?_)
                    · exact absurd c_32 (by omega)
                    · refine lv_iconst (v := nI 0) hx hb dX9_write_194 rfl ?_
                      rw [hQ]
                      exact rf_iret hx hb hr hlocks hR (Or.inr (Or.inr ⟨i, hi0, hi4, by omega, by assumption, Or.inl ⟨by rw [hN, hKd]; omega, rfl, ⟨_, _, _, _, _, _, _, _, _, _, _, _, _, _, rfl, hRT, ⟨en_nil _ _, by decide, fun b h => by cases h⟩, ⟨hrd, hrl, hrb⟩, hch⟩⟩⟩)) dX9_write_195
            · have hN : nowI f0 tp.length (ct ((Ts 0).getD i e0)).length = f0.toInt + tp.length := if_pos (by omega)
              refine lv_lload hx hb dX9_write_113 (lv_at hl 0 rfl) ?_
              refine lv_goto (tgt := 121) hx hb dX9_write_115 (by decide) ?_
              refine lv_lstore (lv' := [(8, .long (f0.toInt64 + ((nI tp.length).toInt64))), (6, .long (f0.toInt64 + ((nI tp.length).toInt64))), (5, .int (nI ((ct ((Ts 0).getD i e0)).length))), (4, .int (((Ts 0).getD i e0).2.1)), (3, .int (nI i)), (2, .int (nI tp.length)), (0, .ref x), (1, .int f0)]) hx hb dX9_write_121 hl (by decide) rfl (fun ls hl => ?_)
              refine lv_lload hx hb dX9_write_123 (lv_at hl 0 rfl) ?_
              refine lv_iload hx hb dX9_write_125 (lv_at hl 3 rfl) ?_
              refine lv_iconst (v := nI 1) hx hb dX9_write_127 rfl ?_
              refine lv_icmp_ne (tgt := 137) hx hb dX9_write_128 (by decide) (fun c_33 => ?_) (fun c_33 => ?_)
              · have hKd : wlim ((Ts 0).getD i e0).2.1 = 100 := if_neg (by assumption)
                refine lv_bipush (v := nI 100) hx hb dX9_write_137 (by decide) ?_
                refine lv_i2l hx hb dX9_write_139 rfl ?_
                refine zl_gt hx hb (l_add (i64 rfl) (i64 (nI_toInt (by omega))) (by omega) (by omega)) (i64 (nI_toInt (by omega))) dX9_write_140 dX9_write_141 (tgt := 164) (by decide) (fun c_34 => ?_) (fun c_34 => ?_)
                · refine lv_aload_n hx hb dX9_write_164 rfl (lv_at hl 6 rfl) ?_
                  refine lv_iconst (v := nI 2) hx hb dX9_write_165 rfl ?_
                  refine rp_thrown hC hR k_thrown dX9_write_166 (fun H locs hR => ?_)
                  refine lv_goto (tgt := 187) hx hb dX9_write_169 (by decide) ?_
                  refine lv_aload_n hx hb dX9_write_187 rfl (lv_at hl 6 rfl) ?_
                  refine rg_thrown hC hR.1 k_thrown dX9_write_188 ?_
                  refine nz_le hx hb dX9_write_191 (tgt := 196) (by decide) (by omega) (fun c_35 => ?_) (fun c_35 => ?_)
                  · exact absurd c_35 (by omega)
                  · refine lv_iconst (v := nI 0) hx hb dX9_write_194 rfl ?_
                    rw [hQ]
                    exact rf_iret hx hb hr hlocks hR (Or.inr (Or.inr ⟨i, hi0, hi4, by omega, by assumption, Or.inl ⟨by rw [hN, hKd]; omega, rfl, ⟨_, _, _, _, _, _, _, _, _, _, _, _, _, _, rfl, hRT, ⟨en_nil _ _, by decide, fun b h => by cases h⟩, ⟨hrd, hrl, hrb⟩, hch⟩⟩⟩)) dX9_write_195
                · refine lv_aload_n hx hb dX9_write_144 rfl (lv_at hl 6 rfl) ?_
                  refine rg_bytes hC hR.1 k_bytes dX9_write_145 ?_
                  refine lv_iconst (v := nI 0) hx hb dX9_write_148 rfl ?_
                  refine rl_bytes hC hR.1 (by omega) dX9_write_149 ?_
                  refine nn_eqi (y := nI (csum (Ts 0))) a2 ?_
                  refine lv_iload hx hb dX9_write_150 (lv_at hl 2 rfl) ?_
                  refine nn_sub hx hb (by omega) dX9_write_152 ?_
                  refine lv_i2l hx hb dX9_write_153 rfl ?_
                  refine lv_lload hx hb dX9_write_154 (lv_at hl 0 rfl) ?_
                  refine lv_ladd hx hb dX9_write_156 ?_
                  refine lv_ldc2 (v := 4000) hx hb hown (hts (.constantLong RX9 129 4000) (by decide +kernel)) dX9_write_157 ?_
                  refine zl_le hx hb (l_add (i64 (nI_toInt (by omega))) (l_add (i64 rfl) (i64 (nI_toInt (by omega))) (by omega) (by omega)) (by omega) (by omega)) (show (4000 : Int64).toInt = 4000 from rfl) dX9_write_160 dX9_write_161 (tgt := 172) (by decide) (fun c_36 => ?_) (fun c_36 => ?_)
                  · refine lv_iload_n hx hb dX9_write_172 rfl (lv_at hl 7 rfl) ?_
                    refine zi_lt hx hb rfl dX9_write_173 (tgt := 182) (by decide) (fun c_37 => ?_) (fun c_37 => ?_)
                    · refine lv_aload_n hx hb dX9_write_182 rfl (lv_at hl 6 rfl) ?_
                      refine lv_iconst (v := nI 1) hx hb dX9_write_183 rfl ?_
                      refine rp_thrown hC hR k_thrown dX9_write_184 (fun H locs hR => ?_)
                      refine lv_aload_n hx hb dX9_write_187 rfl (lv_at hl 6 rfl) ?_
                      refine rg_thrown hC hR.1 k_thrown dX9_write_188 ?_
                      refine nz_le hx hb dX9_write_191 (tgt := 196) (by decide) (by omega) (fun c_38 => ?_) (fun c_38 => ?_)
                      · exact absurd c_38 (by omega)
                      · refine lv_iconst (v := nI 0) hx hb dX9_write_194 rfl ?_
                        rw [hQ]
                        exact rf_iret hx hb hr hlocks hR (Or.inr (Or.inr ⟨i, hi0, hi4, by omega, by assumption, Or.inr (Or.inl ⟨by rw [hN, hKd]; omega, by omega, rfl, ⟨_, _, _, _, _, _, _, _, _, _, _, _, _, _, rfl, hRT, ⟨en_nil _ _, by decide, fun b h => by cases h⟩, ⟨hrd, hrl, hrb⟩, hch⟩⟩)⟩)) dX9_write_195
                    · refine lv_iload_n hx hb dX9_write_176 rfl (lv_at hl 7 rfl) ?_
                      refine lv_iload hx hb dX9_write_177 (lv_at hl 2 rfl) ?_
                      refine zc_le hx hb rfl (nI_toInt (by omega)) dX9_write_179 (tgt := 187) (by decide) (fun c_39 => ?_) (fun c_39 => ?_)
                      · refine lv_aload_n hx hb dX9_write_187 rfl (lv_at hl 6 rfl) ?_
                        refine rg_thrown hC hR.1 k_thrown dX9_write_188 ?_
                        refine nz_le hx hb dX9_write_191 (tgt := 196) (by decide) (by omega) (fun c_40 => ?_) (fun c_40 => ?_)
                        · obtain ⟨f1, hf1, hf12, hf13⟩ := zn_ex (x := f0) (by omega)
                          have hol2 : (ovl (ct ((Ts 0).getD i e0)) f1 tp).length < 5000 := by rw [ovl_len (by omega)]; split <;> omega
                          refine lv_aload_n hx hb dX9_write_196 rfl (lv_at hl 6 rfl) ?_
                          refine lv_iload_n hx hb dX9_write_197 rfl (lv_at hl 4 rfl) ?_
                          refine lv_lload hx hb dX9_write_198 (lv_at hl 0 rfl) ?_
                          refine lv_l2i hx hb dX9_write_200 (l_i32 (n := (ovl (ct ((Ts 0).getD i e0)) f1 tp).length) (Eq.trans (l_add (i64 rfl) (i64 (nI_toInt (by omega))) (by omega) (by omega)) (by rw [ovl_len (by omega)]; split <;> omega)) (by omega)) ?_
                          refine lv_iload_n hx hb dX9_write_201 rfl (lv_at hl 7 rfl) ?_
                          refine nn_eqi (y := nI f1) hf1 ?_
                          refine lv_iload_n hx hb dX9_write_202 rfl (lv_at hl 5 rfl) ?_
                          refine rf_callV (C := RX9) (As := [.int (nI i), .int (nI ((ovl (ct ((Ts 0).getD i e0)) f1 tp).length)), .int (nI f1), .int (nI tp.length)]) (rest := []) (m_change l hT Ts i f1 tp (ovl (ct ((Ts 0).getD i e0)) f1 tp) hRT hi0 htp htl (fun k hk => ovl_get (by omega) hk) (fun k hk => ovl_cov (by omega) hk) (by omega) (by rw [ovl_len (by omega)]; split <;> omega) (ovl_mem d11 htb)) ⟨hx, hb, hml, hown, hts⟩ (cwV 4 hts gX9_write_X9_change rfl rfl rfl (by decide +kernel) ⟨Nat.le_of_ble_eq_true rfl, Nat.le_of_ble_eq_true rfl⟩) hK hR (r_recv hK hR.1) rfl hl.1 rfl (Nat.le_of_ble_eq_true rfl) dX9_write_203 ⟨Nat.le_of_ble_eq_true rfl, Nat.le_of_ble_eq_true rfl⟩ (fun r_41 w_r_41 H locs hr_41 hR => ?_)
                          obtain ⟨rfl, g_many_42, g_bytes_42, g_kinds_42, g_modes_42, g_times_42, g_paths_42, g_contentAt_42, g_contents_42, g_path_42, g_content_42, rfl, hRT⟩ := hr_41
                          refine lv_lload hx hb dX9_write_206 (lv_at hl 0 rfl) ?_
                          refine lv_l2i hx hb dX9_write_208 (l_i32 (n := (ovl (ct ((Ts 0).getD i e0)) f1 tp).length) (Eq.trans (l_add (i64 rfl) (i64 (nI_toInt (by omega))) (by omega) (by omega)) (by rw [ovl_len (by omega)]; split <;> omega)) (by omega)) ?_
                          rw [hQ]
                          exact rf_iret hx hb hr hlocks hR (Or.inr (Or.inr ⟨i, hi0, hi4, by omega, by assumption, Or.inr (Or.inr ⟨by rw [hN, hKd]; omega, by omega, by rw [show f0.toInt.toNat = f1 by omega], by rw [show f0.toInt.toNat = f1 by omega]; exact ⟨_, _, _, _, _, _, _, _, _, _, _, _, _, _, rfl, hRT, ⟨en_nil _ _, by decide, fun b h => by cases h⟩, ⟨hrd, hrl, hrb⟩, hch⟩⟩)⟩)) dX9_write_209
                        · exact absurd c_40 (by omega)
                      · refine lv_aload_n hx hb dX9_write_182 rfl (lv_at hl 6 rfl) ?_
                        refine lv_iconst (v := nI 1) hx hb dX9_write_183 rfl ?_
                        refine rp_thrown hC hR k_thrown dX9_write_184 (fun H locs hR => ?_)
                        refine lv_aload_n hx hb dX9_write_187 rfl (lv_at hl 6 rfl) ?_
                        refine rg_thrown hC hR.1 k_thrown dX9_write_188 ?_
                        refine nz_le hx hb dX9_write_191 (tgt := 196) (by decide) (by omega) (fun c_43 => ?_) (fun c_43 => ?_)
                        · exact absurd c_43 (by omega)
                        · refine lv_iconst (v := nI 0) hx hb dX9_write_194 rfl ?_
                          rw [hQ]
                          exact rf_iret hx hb hr hlocks hR (Or.inr (Or.inr ⟨i, hi0, hi4, by omega, by assumption, Or.inr (Or.inl ⟨by rw [hN, hKd]; omega, by omega, rfl, ⟨_, _, _, _, _, _, _, _, _, _, _, _, _, _, rfl, hRT, ⟨en_nil _ _, by decide, fun b h => by cases h⟩, ⟨hrd, hrl, hrb⟩, hch⟩⟩)⟩)) dX9_write_195
                  · refine lv_aload_n hx hb dX9_write_164 rfl (lv_at hl 6 rfl) ?_
                    refine lv_iconst (v := nI 2) hx hb dX9_write_165 rfl ?_
                    refine rp_thrown hC hR k_thrown dX9_write_166 (fun H locs hR => ?_)
                    refine lv_goto (tgt := 187) hx hb dX9_write_169 (by decide) ?_
                    refine lv_aload_n hx hb dX9_write_187 rfl (lv_at hl 6 rfl) ?_
                    refine rg_thrown hC hR.1 k_thrown dX9_write_188 ?_
                    refine nz_le hx hb dX9_write_191 (tgt := 196) (by decide) (by omega) (fun c_44 => ?_) (fun c_44 => ?_)
                    · exact absurd c_44 (by omega)
                    · refine lv_iconst (v := nI 0) hx hb dX9_write_194 rfl ?_
                      rw [hQ]
                      exact rf_iret hx hb hr hlocks hR (Or.inr (Or.inr ⟨i, hi0, hi4, by omega, by assumption, Or.inl ⟨by rw [hN, hKd]; omega, rfl, ⟨_, _, _, _, _, _, _, _, _, _, _, _, _, _, rfl, hRT, ⟨en_nil _ _, by decide, fun b h => by cases h⟩, ⟨hrd, hrl, hrb⟩, hch⟩⟩⟩)) dX9_write_195
              · have hKd : wlim ((Ts 0).getD i e0).2.1 = 1500 := if_pos (by assumption)
                refine lv_sipush (v := nI 1500) hx hb dX9_write_131 (by decide) ?_
                refine lv_goto (tgt := 139) hx hb dX9_write_134 (by decide) ?_
                refine lv_i2l hx hb dX9_write_139 rfl ?_
                refine zl_gt hx hb (l_add (i64 rfl) (i64 (nI_toInt (by omega))) (by omega) (by omega)) (i64 (nI_toInt (by omega))) dX9_write_140 dX9_write_141 (tgt := 164) (by decide) (fun c_45 => ?_) (fun c_45 => ?_)
                · refine lv_aload_n hx hb dX9_write_164 rfl (lv_at hl 6 rfl) ?_
                  refine lv_iconst (v := nI 2) hx hb dX9_write_165 rfl ?_
                  refine rp_thrown hC hR k_thrown dX9_write_166 (fun H locs hR => ?_)
                  refine lv_goto (tgt := 187) hx hb dX9_write_169 (by decide) ?_
                  refine lv_aload_n hx hb dX9_write_187 rfl (lv_at hl 6 rfl) ?_
                  refine rg_thrown hC hR.1 k_thrown dX9_write_188 ?_
                  refine nz_le hx hb dX9_write_191 (tgt := 196) (by decide) (by omega) (fun c_46 => ?_) (fun c_46 => ?_)
                  · exact absurd c_46 (by omega)
                  · refine lv_iconst (v := nI 0) hx hb dX9_write_194 rfl ?_
                    rw [hQ]
                    exact rf_iret hx hb hr hlocks hR (Or.inr (Or.inr ⟨i, hi0, hi4, by omega, by assumption, Or.inl ⟨by rw [hN, hKd]; omega, rfl, ⟨_, _, _, _, _, _, _, _, _, _, _, _, _, _, rfl, hRT, ⟨en_nil _ _, by decide, fun b h => by cases h⟩, ⟨hrd, hrl, hrb⟩, hch⟩⟩⟩)) dX9_write_195
                · refine lv_aload_n hx hb dX9_write_144 rfl (lv_at hl 6 rfl) ?_
                  refine rg_bytes hC hR.1 k_bytes dX9_write_145 ?_
                  refine lv_iconst (v := nI 0) hx hb dX9_write_148 rfl ?_
                  refine rl_bytes hC hR.1 (by omega) dX9_write_149 ?_
                  refine nn_eqi (y := nI (csum (Ts 0))) a2 ?_
                  refine lv_iload hx hb dX9_write_150 (lv_at hl 2 rfl) ?_
                  refine nn_sub hx hb (by omega) dX9_write_152 ?_
                  refine lv_i2l hx hb dX9_write_153 rfl ?_
                  refine lv_lload hx hb dX9_write_154 (lv_at hl 0 rfl) ?_
                  refine lv_ladd hx hb dX9_write_156 ?_
                  refine lv_ldc2 (v := 4000) hx hb hown (hts (.constantLong RX9 129 4000) (by decide +kernel)) dX9_write_157 ?_
                  refine zl_le hx hb (l_add (i64 (nI_toInt (by omega))) (l_add (i64 rfl) (i64 (nI_toInt (by omega))) (by omega) (by omega)) (by omega) (by omega)) (show (4000 : Int64).toInt = 4000 from rfl) dX9_write_160 dX9_write_161 (tgt := 172) (by decide) (fun c_47 => ?_) (fun c_47 => ?_)
                  · refine lv_iload_n hx hb dX9_write_172 rfl (lv_at hl 7 rfl) ?_
                    refine zi_lt hx hb rfl dX9_write_173 (tgt := 182) (by decide) (fun c_48 => ?_) (fun c_48 => ?_)
                    · refine lv_aload_n hx hb dX9_write_182 rfl (lv_at hl 6 rfl) ?_
                      refine lv_iconst (v := nI 1) hx hb dX9_write_183 rfl ?_
                      refine rp_thrown hC hR k_thrown dX9_write_184 (fun H locs hR => ?_)
                      refine lv_aload_n hx hb dX9_write_187 rfl (lv_at hl 6 rfl) ?_
                      refine rg_thrown hC hR.1 k_thrown dX9_write_188 ?_
                      refine nz_le hx hb dX9_write_191 (tgt := 196) (by decide) (by omega) (fun c_49 => ?_) (fun c_49 => ?_)
                      · exact absurd c_49 (by omega)
                      · refine lv_iconst (v := nI 0) hx hb dX9_write_194 rfl ?_
                        rw [hQ]
                        exact rf_iret hx hb hr hlocks hR (Or.inr (Or.inr ⟨i, hi0, hi4, by omega, by assumption, Or.inr (Or.inl ⟨by rw [hN, hKd]; omega, by omega, rfl, ⟨_, _, _, _, _, _, _, _, _, _, _, _, _, _, rfl, hRT, ⟨en_nil _ _, by decide, fun b h => by cases h⟩, ⟨hrd, hrl, hrb⟩, hch⟩⟩)⟩)) dX9_write_195
                    · refine lv_iload_n hx hb dX9_write_176 rfl (lv_at hl 7 rfl) ?_
                      refine lv_iload hx hb dX9_write_177 (lv_at hl 2 rfl) ?_
                      refine zc_le hx hb rfl (nI_toInt (by omega)) dX9_write_179 (tgt := 187) (by decide) (fun c_50 => ?_) (fun c_50 => ?_)
                      · refine lv_aload_n hx hb dX9_write_187 rfl (lv_at hl 6 rfl) ?_
                        refine rg_thrown hC hR.1 k_thrown dX9_write_188 ?_
                        refine nz_le hx hb dX9_write_191 (tgt := 196) (by decide) (by omega) (fun c_51 => ?_) (fun c_51 => ?_)
                        · obtain ⟨f1, hf1, hf12, hf13⟩ := zn_ex (x := f0) (by omega)
                          have hol2 : (ovl (ct ((Ts 0).getD i e0)) f1 tp).length < 5000 := by rw [ovl_len (by omega)]; split <;> omega
                          refine lv_aload_n hx hb dX9_write_196 rfl (lv_at hl 6 rfl) ?_
                          refine lv_iload_n hx hb dX9_write_197 rfl (lv_at hl 4 rfl) ?_
                          refine lv_lload hx hb dX9_write_198 (lv_at hl 0 rfl) ?_
                          refine lv_l2i hx hb dX9_write_200 (l_i32 (n := (ovl (ct ((Ts 0).getD i e0)) f1 tp).length) (Eq.trans (l_add (i64 rfl) (i64 (nI_toInt (by omega))) (by omega) (by omega)) (by rw [ovl_len (by omega)]; split <;> omega)) (by omega)) ?_
                          refine lv_iload_n hx hb dX9_write_201 rfl (lv_at hl 7 rfl) ?_
                          refine nn_eqi (y := nI f1) hf1 ?_
                          refine lv_iload_n hx hb dX9_write_202 rfl (lv_at hl 5 rfl) ?_
                          refine rf_callV (C := RX9) (As := [.int (nI i), .int (nI ((ovl (ct ((Ts 0).getD i e0)) f1 tp).length)), .int (nI f1), .int (nI tp.length)]) (rest := []) (m_change l hT Ts i f1 tp (ovl (ct ((Ts 0).getD i e0)) f1 tp) hRT hi0 htp htl (fun k hk => ovl_get (by omega) hk) (fun k hk => ovl_cov (by omega) hk) (by omega) (by rw [ovl_len (by omega)]; split <;> omega) (ovl_mem d11 htb)) ⟨hx, hb, hml, hown, hts⟩ (cwV 4 hts gX9_write_X9_change rfl rfl rfl (by decide +kernel) ⟨Nat.le_of_ble_eq_true rfl, Nat.le_of_ble_eq_true rfl⟩) hK hR (r_recv hK hR.1) rfl hl.1 rfl (Nat.le_of_ble_eq_true rfl) dX9_write_203 ⟨Nat.le_of_ble_eq_true rfl, Nat.le_of_ble_eq_true rfl⟩ (fun r_52 w_r_52 H locs hr_52 hR => ?_)
                          obtain ⟨rfl, g_many_53, g_bytes_53, g_kinds_53, g_modes_53, g_times_53, g_paths_53, g_contentAt_53, g_contents_53, g_path_53, g_content_53, rfl, hRT⟩ := hr_52
                          refine lv_lload hx hb dX9_write_206 (lv_at hl 0 rfl) ?_
                          refine lv_l2i hx hb dX9_write_208 (l_i32 (n := (ovl (ct ((Ts 0).getD i e0)) f1 tp).length) (Eq.trans (l_add (i64 rfl) (i64 (nI_toInt (by omega))) (by omega) (by omega)) (by rw [ovl_len (by omega)]; split <;> omega)) (by omega)) ?_
                          rw [hQ]
                          exact rf_iret hx hb hr hlocks hR (Or.inr (Or.inr ⟨i, hi0, hi4, by omega, by assumption, Or.inr (Or.inr ⟨by rw [hN, hKd]; omega, by omega, by rw [show f0.toInt.toNat = f1 by omega], by rw [show f0.toInt.toNat = f1 by omega]; exact ⟨_, _, _, _, _, _, _, _, _, _, _, _, _, _, rfl, hRT, ⟨en_nil _ _, by decide, fun b h => by cases h⟩, ⟨hrd, hrl, hrb⟩, hch⟩⟩)⟩)) dX9_write_209
                        · exact absurd c_51 (by omega)
                      · refine lv_aload_n hx hb dX9_write_182 rfl (lv_at hl 6 rfl) ?_
                        refine lv_iconst (v := nI 1) hx hb dX9_write_183 rfl ?_
                        refine rp_thrown hC hR k_thrown dX9_write_184 (fun H locs hR => ?_)
                        refine lv_aload_n hx hb dX9_write_187 rfl (lv_at hl 6 rfl) ?_
                        refine rg_thrown hC hR.1 k_thrown dX9_write_188 ?_
                        refine nz_le hx hb dX9_write_191 (tgt := 196) (by decide) (by omega) (fun c_54 => ?_) (fun c_54 => ?_)
                        · exact absurd c_54 (by omega)
                        · refine lv_iconst (v := nI 0) hx hb dX9_write_194 rfl ?_
                          rw [hQ]
                          exact rf_iret hx hb hr hlocks hR (Or.inr (Or.inr ⟨i, hi0, hi4, by omega, by assumption, Or.inr (Or.inl ⟨by rw [hN, hKd]; omega, by omega, rfl, ⟨_, _, _, _, _, _, _, _, _, _, _, _, _, _, rfl, hRT, ⟨en_nil _ _, by decide, fun b h => by cases h⟩, ⟨hrd, hrl, hrb⟩, hch⟩⟩)⟩)) dX9_write_195
                  · refine lv_aload_n hx hb dX9_write_164 rfl (lv_at hl 6 rfl) ?_
                    refine lv_iconst (v := nI 2) hx hb dX9_write_165 rfl ?_
                    refine rp_thrown hC hR k_thrown dX9_write_166 (fun H locs hR => ?_)
                    refine lv_goto (tgt := 187) hx hb dX9_write_169 (by decide) ?_
                    refine lv_aload_n hx hb dX9_write_187 rfl (lv_at hl 6 rfl) ?_
                    refine rg_thrown hC hR.1 k_thrown dX9_write_188 ?_
                    refine nz_le hx hb dX9_write_191 (tgt := 196) (by decide) (by omega) (fun c_55 => ?_) (fun c_55 => ?_)
                    · exact absurd c_55 (by omega)
                    · refine lv_iconst (v := nI 0) hx hb dX9_write_194 rfl ?_
                      rw [hQ]
                      exact rf_iret hx hb hr hlocks hR (Or.inr (Or.inr ⟨i, hi0, hi4, by omega, by assumption, Or.inl ⟨by rw [hN, hKd]; omega, rfl, ⟨_, _, _, _, _, _, _, _, _, _, _, _, _, _, rfl, hRT, ⟨en_nil _ _, by decide, fun b h => by cases h⟩, ⟨hrd, hrl, hrb⟩, hch⟩⟩⟩)) dX9_write_195
          · exact absurd c_7 (by omega)
        · refine lv_iconst (v := nI 2) hx hb dX9_write_68 rfl ?_
          refine lv_goto (tgt := 73) hx hb dX9_write_69 (by decide) ?_
          refine rp_thrown hC hR k_thrown dX9_write_73 (fun H locs hR => ?_)
          refine lv_aload_n hx hb dX9_write_76 rfl (lv_at hl 3 rfl) ?_
          refine rg_thrown hC hR.1 k_thrown dX9_write_77 ?_
          refine nz_le hx hb dX9_write_80 (tgt := 85) (by decide) (by omega) (fun c_56 => ?_) (fun c_56 => ?_)
          · exact absurd c_56 (by omega)
          · refine lv_iconst (v := nI 0) hx hb dX9_write_83 rfl ?_
            rw [hQ]
            exact rf_iret hx hb hr hlocks hR (Or.inr (Or.inl ⟨by omega, by first | exact Or.inl (by omega) | exact Or.inr ⟨i, hi0, hi4, by assumption⟩, rfl, ⟨_, _, _, _, _, _, _, _, _, _, _, _, _, _, rfl, hRT, ⟨en_nil _ _, by decide, fun b h => by cases h⟩, ⟨hrd, hrl, hrb⟩, hch⟩⟩)) dX9_write_84
      · refine lv_iconst (v := nI 2) hx hb dX9_write_45 rfl ?_
        refine lv_goto (tgt := 59) hx hb dX9_write_46 (by decide) ?_
        refine lv_istore (lv' := [(4, .int (nI 2)), (3, .int (cAt (Ts 0) cs cp)), (2, .int (nI tp.length)), (0, .ref x), (1, .int f0)]) hx hb dX9_write_59 hl (by decide) rfl (fun ls hl => ?_)
        refine lv_aload_n hx hb dX9_write_61 rfl (lv_at hl 3 rfl) ?_
        refine lv_iload hx hb dX9_write_62 (lv_at hl 0 rfl) ?_
        refine lv_iconst (v := nI 2) hx hb dX9_write_64 rfl ?_
        refine nn_ne hx hb dX9_write_65 (tgt := 72) (by decide) (by omega) (by omega) (fun c_57 => ?_) (fun c_57 => ?_)
        · exact absurd rfl c_57
        · refine lv_iconst (v := nI 2) hx hb dX9_write_68 rfl ?_
          refine lv_goto (tgt := 73) hx hb dX9_write_69 (by decide) ?_
          refine rp_thrown hC hR k_thrown dX9_write_73 (fun H locs hR => ?_)
          refine lv_aload_n hx hb dX9_write_76 rfl (lv_at hl 3 rfl) ?_
          refine rg_thrown hC hR.1 k_thrown dX9_write_77 ?_
          refine nz_le hx hb dX9_write_80 (tgt := 85) (by decide) (by omega) (fun c_58 => ?_) (fun c_58 => ?_)
          · exact absurd c_58 (by omega)
          · refine lv_iconst (v := nI 0) hx hb dX9_write_83 rfl ?_
            rw [hQ]
            exact rf_iret hx hb hr hlocks hR (Or.inr (Or.inl ⟨by omega, by first | exact Or.inl (by omega) | exact Or.inr ⟨i, hi0, hi4, by assumption⟩, rfl, ⟨_, _, _, _, _, _, _, _, _, _, _, _, _, _, rfl, hRT, ⟨en_nil _ _, by decide, fun b h => by cases h⟩, ⟨hrd, hrl, hrb⟩, hch⟩⟩)) dX9_write_84
    · exact absurd c_2 (by omega)
  · refine lv_iconst (v := nI 2) hx hb dX9_write_9 rfl ?_
    refine lv_goto (tgt := 14) hx hb dX9_write_10 (by decide) ?_
    refine rp_thrown hC hR k_thrown dX9_write_14 (fun H locs hR => ?_)
    refine lv_aload_n hx hb dX9_write_17 rfl (lv_at hl 0 rfl) ?_
    refine rg_thrown hC hR.1 k_thrown dX9_write_18 ?_
    refine nz_le hx hb dX9_write_21 (tgt := 26) (by decide) (by omega) (fun c_59 => ?_) (fun c_59 => ?_)
    · exact absurd c_59 (by omega)
    · refine lv_iconst (v := nI 0) hx hb dX9_write_24 rfl ?_
      rw [hQ]
      exact rf_iret hx hb hr hlocks hR (Or.inl ⟨by omega, rfl, ⟨_, _, _, _, _, _, _, _, _, _, _, _, _, _, rfl, hRT, ⟨htp, htl, htb⟩, ⟨hrd, hrl, hrb⟩, hch⟩⟩) dX9_write_25
