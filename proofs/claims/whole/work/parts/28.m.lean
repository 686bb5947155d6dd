set_option maxHeartbeats 4000000 in
set_option maxRecDepth 100000 in
theorem F_entry (l : Launch) {G : va_G} {tys : List (ClassId × FieldType)} {cI : ClassId} (hT : tys[1]? = some (cI, .int)) {A : Nat → Prop} {x : Nat} {q : Nat → Nat} {w : va_W} {th : Int32} {Ts : Nat → List En} {tp rd : List Nat} {cs : Bool} {cp : List Nat} {st ops cg ns : Nat} {bg : Int32} {sT sC : Nat → Int32} (hW : RW cI x q w th Ts tp rd cs cp st ops cg ns bg sT sC) (tr ix w0 : Int32) : rMet l yX9_entry wsX9_entry ({ frames := 1, cells := 0, slots := 0, locals := 22 } : Room) G tys A [.ref x, .int tr, .int ix, .int w0] w (fun r w => r = some (.int (enA Ts tr ix w0)) ∧ RW cI x q w (nI 0) Ts tp rd cs cp st ops cg ns bg sT sC) := by
  obtain ⟨cm, f_many, f_bytes, f_kinds, f_modes, f_times, f_paths, f_contentAt, f_contents, f_path, f_content, f_ready, f_tape, f_chosen, rfl, hRT, ⟨htp, htl, htb⟩, ⟨hrd, hrl, hrb⟩, hch⟩ := hW
  refine Met.ofW (cc := cX9_entry) (maxL := 5) (ret := (some .int)) (by decide) rfl ?_
  intro p e s m args below meth c s₁ B hml hv
  obtain ⟨hargs, hP, hK, hD⟩ := hv
  have hx := B.exec
  have hb := B.bytes
  have hr := B.returns
  have hts := atoms_spec (ws := wsX9_entry) B.pre
  have hown : s.vm.findClass RX9 = some m.cls := findClass_of_methodNamed B.named
  have hlocks := B.notSynchronized
  have hC : rC p s m args c cX9_entry G tys cI wsX9_entry := ⟨hx, hb, hts, (by decide +kernel), hown, hK, hT⟩
  have k_contents := hts (.fieldLink RX9 31 "MirrorKeepModel" "contents" "[I") (by decide +kernel)
  have k_kinds := hts (.fieldLink RX9 16 "MirrorKeepModel" "kinds" "[I") (by decide +kernel)
  have k_modes := hts (.fieldLink RX9 19 "MirrorKeepModel" "modes" "[I") (by decide +kernel)
  have k_paths := hts (.fieldLink RX9 25 "MirrorKeepModel" "paths" "[I") (by decide +kernel)
  have k_thrown := hts (.fieldLink RX9 57 "MirrorKeepModel" "thrown" "I") (by decide +kernel)
  have k_times := hts (.fieldLink RX9 22 "MirrorKeepModel" "times" "[I") (by decide +kernel)
  have hR : rR G A s.heap s.heap [] (rwx cI x q th (nI tp.length) (nI st) (nI ops) (nI cg) (nI ns) bg (bI cs) cm f_many f_bytes f_kinds f_modes f_times f_paths f_contentAt f_contents f_path f_content f_ready f_tape sT sC f_chosen) := ⟨hP, hD, va_S.rf⟩
  obtain ⟨Q, hQ⟩ : ∃ Q : State → Prop, Q = MQ below (rQ G A (fun r w => r = some (.int (enA Ts tr ix w0)) ∧ RW cI x q w (nI 0) Ts tp rd cs cp st ops cg ns bg sT sC)) args s 0 0 A := ⟨_, rfl⟩
  change W p l e ({ frames := 1, cells := 0, slots := 0, locals := 22 } : Room) s m args below meth c s.heap [] 0 0 (MQ below (rQ G A (fun r w => r = some (.int (enA Ts tr ix w0)) ∧ RW cI x q w (nI 0) Ts tp rd cs cp st ops cg ns bg sT sC)) args s 0 0 A) (entryFrame m args 5)
  rw [← hQ]
  refine nn_entry hargs (Nat.le_of_ble_eq_true rfl) (lv := [(0, .ref x), (1, .int tr), (2, .int ix), (3, .int w0)]) rfl (fun ls hl => ?_)
  refine lv_aload_n hx hb dX9_entry_0 rfl (lv_at hl 0 rfl) ?_
  refine lv_iconst (v := nI 0) hx hb dX9_entry_1 rfl ?_
  refine rp_thrown hC hR k_thrown dX9_entry_2 (fun H locs hR => ?_)
  refine lv_aload_n hx hb dX9_entry_5 rfl (lv_at hl 0 rfl) ?_
  refine lv_iload_n hx hb dX9_entry_6 rfl (lv_at hl 1 rfl) ?_
  refine lv_iload_n hx hb dX9_entry_7 rfl (lv_at hl 2 rfl) ?_
  refine pf_callV (C := RX9) (As := [.int tr, .int ix]) (rest := []) (m_isEntry l hT Ts hRT tr ix) ⟨hx, hb, hml, hown, hts⟩ (cwV 2 hts gX9_entry_X9_isEntry rfl rfl rfl (by decide +kernel) ⟨Nat.le_of_ble_eq_true rfl, Nat.le_of_ble_eq_true rfl⟩) hK hR.1 (r_recv hK hR.1) rfl hl.1 rfl (Nat.le_of_ble_eq_true rfl) dX9_entry_8 ⟨Nat.le_of_ble_eq_true rfl, Nat.le_of_ble_eq_true rfl⟩ (fun r_1 hr_1 => ?_)
  subst hr_1
  refine nb_ifne hx hb dX9_entry_11 (tgt := 16) (by decide) (fun c_2 => ?_) (fun c_2 => ?_)
  · obtain ⟨hv1, hv2, hv3, hv4⟩ := of_decide_eq_true (by assumption : decide (0 ≤ tr.toInt ∧ tr.toInt < 3 ∧ 0 ≤ ix.toInt ∧ ix.toInt < (Ts tr.toInt.toNat).length) = true)
    obtain ⟨t1, ht1, ht12, ht13⟩ := zn_ex (x := tr) (by omega)
    rw [ht1] at hl
    obtain ⟨i1, hi1, hi12, hi13⟩ := zn_ex (x := ix) (by omega)
    rw [hi1] at hl
    have e1 : tr.toInt.toNat = t1 := by omega
    have e2 : ix.toInt.toNat = i1 := by omega
    have hv5 := hv4
    rw [e1] at hv5
    obtain ⟨b1, b2, b3, b4, b5⟩ := hRT t1 (by omega)
    obtain ⟨d1, d2, d3, d4, d5, d6, d7, d8, d9, d10, d11⟩ := b5 i1 (by omega)
    have hof := csum_take (L := Ts t1) (i := i1) (by omega)
    refine lv_iload_n hx hb dX9_entry_16 rfl (lv_at hl 1 rfl) ?_
    refine lv_iload_n hx hb dX9_entry_17 rfl (lv_at hl 2 rfl) ?_
    refine pf_callS (As := [.int (nI t1), .int (nI i1)]) (rest := []) (m_place l hT t1 i1) ⟨hx, hb, hml, hown, hts⟩ (va_cwS 2 hts gX9_entry_X9_place rfl rfl rfl (by decide +kernel) ⟨Nat.le_of_ble_eq_true rfl, Nat.le_of_ble_eq_true rfl⟩) hK nn_nil rfl hl.1 rfl (Nat.le_of_ble_eq_true rfl) dX9_entry_18 ⟨Nat.le_of_ble_eq_true rfl, Nat.le_of_ble_eq_true rfl⟩ (fun r_3 hr_3 => ?_)
    subst hr_3
    refine lv_istore (lv' := [(4, .int (nI (120 * t1 + i1))), (0, .ref x), (1, .int (nI t1)), (2, .int (nI i1)), (3, .int w0)]) hx hb dX9_entry_21 hl (by decide) rfl (fun ls hl => ?_)
    refine lv_iload_n hx hb dX9_entry_23 rfl (lv_at hl 4 rfl) ?_
    rcases (show w0.toInt = 0 ∨ w0.toInt = 1 ∨ w0.toInt = 2 ∨ w0.toInt = 3 ∨ w0.toInt = 4 ∨ (w0.toInt < 0 ∨ 4 < w0.toInt) by omega) with hsw | hsw | hsw | hsw | hsw | hsw
    · refine lv_tableIn (tgt := 60) hx hb dX9_entry_24 (by omega) (by omega) (by rw [hsw]; rfl) (by decide) ?_
      refine lv_aload_n hx hb dX9_entry_60 rfl (lv_at hl 1 rfl) ?_
      refine rg_kinds hC hR.1 k_kinds dX9_entry_61 ?_
      refine lv_iload hx hb dX9_entry_64 (lv_at hl 0 rfl) ?_
      refine rl_kinds hC hR.1 (by omega) dX9_entry_66 ?_
      refine nn_eqi (y := ((Ts t1).getD i1 e0).2.1) d1 ?_
      rw [hQ]
      exact rf_iret hx hb hr hlocks hR ⟨by rw [enA, if_pos ⟨hv1, hv2, hv3, hv4⟩, e1, e2, if_pos (by omega)], ⟨_, _, _, _, _, _, _, _, _, _, _, _, _, _, rfl, hRT, ⟨htp, htl, htb⟩, ⟨hrd, hrl, hrb⟩, hch⟩⟩ dX9_entry_67
    · refine lv_tableIn (tgt := 68) hx hb dX9_entry_24 (by omega) (by omega) (by rw [hsw]; rfl) (by decide) ?_
      refine lv_aload_n hx hb dX9_entry_68 rfl (lv_at hl 1 rfl) ?_
      refine rg_modes hC hR.1 k_modes dX9_entry_69 ?_
      refine lv_iload hx hb dX9_entry_72 (lv_at hl 0 rfl) ?_
      refine rl_modes hC hR.1 (by omega) dX9_entry_74 ?_
      refine nn_eqi (y := ((Ts t1).getD i1 e0).2.2.1) d2 ?_
      rw [hQ]
      exact rf_iret hx hb hr hlocks hR ⟨by rw [enA, if_pos ⟨hv1, hv2, hv3, hv4⟩, e1, e2, if_neg (by omega), if_pos (by omega)], ⟨_, _, _, _, _, _, _, _, _, _, _, _, _, _, rfl, hRT, ⟨htp, htl, htb⟩, ⟨hrd, hrl, hrb⟩, hch⟩⟩ dX9_entry_75
    · refine lv_tableIn (tgt := 76) hx hb dX9_entry_24 (by omega) (by omega) (by rw [hsw]; rfl) (by decide) ?_
      refine lv_aload_n hx hb dX9_entry_76 rfl (lv_at hl 1 rfl) ?_
      refine rg_times hC hR.1 k_times dX9_entry_77 ?_
      refine lv_iload hx hb dX9_entry_80 (lv_at hl 0 rfl) ?_
      refine rl_times hC hR.1 (by omega) dX9_entry_82 ?_
      refine nn_eqi (y := ((Ts t1).getD i1 e0).2.2.2.1) d3 ?_
      rw [hQ]
      exact rf_iret hx hb hr hlocks hR ⟨by rw [enA, if_pos ⟨hv1, hv2, hv3, hv4⟩, e1, e2, if_neg (by omega), if_neg (by omega), if_pos (by omega)], ⟨_, _, _, _, _, _, _, _, _, _, _, _, _, _, rfl, hRT, ⟨htp, htl, htb⟩, ⟨hrd, hrl, hrb⟩, hch⟩⟩ dX9_entry_83
    · refine lv_tableIn (tgt := 84) hx hb dX9_entry_24 (by omega) (by omega) (by rw [hsw]; rfl) (by decide) ?_
      refine lv_aload_n hx hb dX9_entry_84 rfl (lv_at hl 1 rfl) ?_
      refine rg_contents hC hR.1 k_contents dX9_entry_85 ?_
      refine lv_iload hx hb dX9_entry_88 (lv_at hl 0 rfl) ?_
      refine rl_contents hC hR.1 (by omega) dX9_entry_90 ?_
      refine nn_eqi (y := nI ((ct ((Ts t1).getD i1 e0)).length)) d7 ?_
      rw [hQ]
      exact rf_iret hx hb hr hlocks hR ⟨by rw [enA, if_pos ⟨hv1, hv2, hv3, hv4⟩, e1, e2, if_neg (by omega), if_neg (by omega), if_neg (by omega), if_pos (by omega)], ⟨_, _, _, _, _, _, _, _, _, _, _, _, _, _, rfl, hRT, ⟨htp, htl, htb⟩, ⟨hrd, hrl, hrb⟩, hch⟩⟩ dX9_entry_91
    · refine lv_tableIn (tgt := 92) hx hb dX9_entry_24 (by omega) (by omega) (by rw [hsw]; rfl) (by decide) ?_
      refine lv_aload_n hx hb dX9_entry_92 rfl (lv_at hl 1 rfl) ?_
      refine rg_paths hC hR.1 k_paths dX9_entry_93 ?_
      refine lv_iload hx hb dX9_entry_96 (lv_at hl 0 rfl) ?_
      refine rl_paths hC hR.1 (by omega) dX9_entry_98 ?_
      refine nn_eqi (y := nI (((Ts t1).getD i1 e0).1.length)) d4 ?_
      rw [hQ]
      exact rf_iret hx hb hr hlocks hR ⟨by rw [enA, if_pos ⟨hv1, hv2, hv3, hv4⟩, e1, e2, if_neg (by omega), if_neg (by omega), if_neg (by omega), if_neg (by omega), if_pos (by omega)], ⟨_, _, _, _, _, _, _, _, _, _, _, _, _, _, rfl, hRT, ⟨htp, htl, htb⟩, ⟨hrd, hrl, hrb⟩, hch⟩⟩ dX9_entry_99
    · refine lv_tableOut (tgt := 100) hx hb dX9_entry_24 hsw (by decide) ?_
      refine lv_iconst (v := (-1)) hx hb dX9_entry_100 rfl ?_
      rw [hQ]
      exact rf_iret hx hb hr hlocks hR ⟨by rw [enA, if_pos ⟨hv1, hv2, hv3, hv4⟩, e1, e2, if_neg (by omega), if_neg (by omega), if_neg (by omega), if_neg (by omega), if_neg (by omega)], ⟨_, _, _, _, _, _, _, _, _, _, _, _, _, _, rfl, hRT, ⟨htp, htl, htb⟩, ⟨hrd, hrl, hrb⟩, hch⟩⟩ dX9_entry_101
  · refine lv_iconst (v := (-1)) hx hb dX9_entry_14 rfl ?_
    rw [hQ]
    exact rf_iret hx hb hr hlocks hR ⟨by rw [enA, if_neg (of_decide_eq_false (by assumption : decide (0 ≤ tr.toInt ∧ tr.toInt < 3 ∧ 0 ≤ ix.toInt ∧ ix.toInt < (Ts tr.toInt.toNat).length) = false))], ⟨_, _, _, _, _, _, _, _, _, _, _, _, _, _, rfl, hRT, ⟨htp, htl, htb⟩, ⟨hrd, hrl, hrb⟩, hch⟩⟩ dX9_entry_15
set_option maxHeartbeats 4000000 in
set_option maxRecDepth 100000 in
theorem F_at (l : Launch) {G : va_G} {tys : List (ClassId × FieldType)} {cI : ClassId} (hT : tys[1]? = some (cI, .int)) {A : Nat → Prop} {x : Nat} {q : Nat → Nat} {w : va_W} {th : Int32} {Ts : Nat → List En} {tp rd : List Nat} {cs : Bool} {cp : List Nat} {st ops cg ns : Nat} {bg : Int32} {sT sC : Nat → Int32} (hW : RW cI x q w th Ts tp rd cs cp st ops cg ns bg sT sC) (tr ix k0 : Int32) (pb : Bool) : rMet l yX9_at wsX9_at ({ frames := 1, cells := 0, slots := 0, locals := 22 } : Room) G tys A [.ref x, .int tr, .int ix, .int (bI pb), .int k0] w (fun r w => r = some (.int (atA Ts tr ix pb k0)) ∧ RW cI x q w (nI 0) Ts tp rd cs cp st ops cg ns bg sT sC) := by
  obtain ⟨cm, f_many, f_bytes, f_kinds, f_modes, f_times, f_paths, f_contentAt, f_contents, f_path, f_content, f_ready, f_tape, f_chosen, rfl, hRT, ⟨htp, htl, htb⟩, ⟨hrd, hrl, hrb⟩, hch⟩ := hW
  refine Met.ofW (cc := cX9_at) (maxL := 6) (ret := (some .int)) (by decide) rfl ?_
  intro p e s m args below meth c s₁ B hml hv
  obtain ⟨hargs, hP, hK, hD⟩ := hv
  have hx := B.exec
  have hb := B.bytes
  have hr := B.returns
  have hts := atoms_spec (ws := wsX9_at) B.pre
  have hown : s.vm.findClass RX9 = some m.cls := findClass_of_methodNamed B.named
  have hlocks := B.notSynchronized
  have hC : rC p s m args c cX9_at G tys cI wsX9_at := ⟨hx, hb, hts, (by decide +kernel), hown, hK, hT⟩
  have k_content := hts (.fieldLink RX9 39 "MirrorKeepModel" "content" "[I") (by decide +kernel)
  have k_contentAt := hts (.fieldLink RX9 28 "MirrorKeepModel" "contentAt" "[I") (by decide +kernel)
  have k_contents := hts (.fieldLink RX9 31 "MirrorKeepModel" "contents" "[I") (by decide +kernel)
  have k_path := hts (.fieldLink RX9 35 "MirrorKeepModel" "path" "[I") (by decide +kernel)
  have k_paths := hts (.fieldLink RX9 25 "MirrorKeepModel" "paths" "[I") (by decide +kernel)
  have k_thrown := hts (.fieldLink RX9 57 "MirrorKeepModel" "thrown" "I") (by decide +kernel)
  have hR : rR G A s.heap s.heap [] (rwx cI x q th (nI tp.length) (nI st) (nI ops) (nI cg) (nI ns) bg (bI cs) cm f_many f_bytes f_kinds f_modes f_times f_paths f_contentAt f_contents f_path f_content f_ready f_tape sT sC f_chosen) := ⟨hP, hD, va_S.rf⟩
  obtain ⟨Q, hQ⟩ : ∃ Q : State → Prop, Q = MQ below (rQ G A (fun r w => r = some (.int (atA Ts tr ix pb k0)) ∧ RW cI x q w (nI 0) Ts tp rd cs cp st ops cg ns bg sT sC)) args s 0 0 A := ⟨_, rfl⟩
  change W p l e ({ frames := 1, cells := 0, slots := 0, locals := 22 } : Room) s m args below meth c s.heap [] 0 0 (MQ below (rQ G A (fun r w => r = some (.int (atA Ts tr ix pb k0)) ∧ RW cI x q w (nI 0) Ts tp rd cs cp st ops cg ns bg sT sC)) args s 0 0 A) (entryFrame m args 6)
  rw [← hQ]
  refine nn_entry hargs (Nat.le_of_ble_eq_true rfl) (lv := [(0, .ref x), (1, .int tr), (2, .int ix), (3, .int (bI pb)), (4, .int k0)]) rfl (fun ls hl => ?_)
  refine lv_aload_n hx hb dX9_at_0 rfl (lv_at hl 0 rfl) ?_
  refine lv_iconst (v := nI 0) hx hb dX9_at_1 rfl ?_
  refine rp_thrown hC hR k_thrown dX9_at_2 (fun H locs hR => ?_)
  refine lv_aload_n hx hb dX9_at_5 rfl (lv_at hl 0 rfl) ?_
  refine lv_iload_n hx hb dX9_at_6 rfl (lv_at hl 1 rfl) ?_
  refine lv_iload_n hx hb dX9_at_7 rfl (lv_at hl 2 rfl) ?_
  refine pf_callV (C := RX9) (As := [.int tr, .int ix]) (rest := []) (m_isEntry l hT Ts hRT tr ix) ⟨hx, hb, hml, hown, hts⟩ (cwV 2 hts gX9_at_X9_isEntry rfl rfl rfl (by decide +kernel) ⟨Nat.le_of_ble_eq_true rfl, Nat.le_of_ble_eq_true rfl⟩) hK hR.1 (r_recv hK hR.1) rfl hl.1 rfl (Nat.le_of_ble_eq_true rfl) dX9_at_8 ⟨Nat.le_of_ble_eq_true rfl, Nat.le_of_ble_eq_true rfl⟩ (fun r_1 hr_1 => ?_)
  subst hr_1
  refine nb_ifeq hx hb dX9_at_11 (tgt := 19) (by decide) (fun c_2 => ?_) (fun c_2 => ?_)
  · refine lv_iconst (v := (-1)) hx hb dX9_at_19 rfl ?_
    rw [hQ]
    exact rf_iret hx hb hr hlocks hR ⟨by rw [atA, if_neg (by first | (intro h; exact absurd h.1 (of_decide_eq_false (by assumption : decide (0 ≤ tr.toInt ∧ tr.toInt < 3 ∧ 0 ≤ ix.toInt ∧ ix.toInt < (Ts tr.toInt.toNat).length) = false))) | (intro h; omega))], ⟨_, _, _, _, _, _, _, _, _, _, _, _, _, _, rfl, hRT, ⟨htp, htl, htb⟩, ⟨hrd, hrl, hrb⟩, hch⟩⟩ dX9_at_20
  · refine lv_iload hx hb dX9_at_14 (lv_at hl 4 rfl) ?_
    refine zi_ge hx hb rfl dX9_at_16 (tgt := 21) (by decide) (fun c_3 => ?_) (fun c_3 => ?_)
    · obtain ⟨hv1, hv2, hv3, hv4⟩ := of_decide_eq_true (by assumption : decide (0 ≤ tr.toInt ∧ tr.toInt < 3 ∧ 0 ≤ ix.toInt ∧ ix.toInt < (Ts tr.toInt.toNat).length) = true)
      obtain ⟨t1, ht1, ht12, ht13⟩ := zn_ex (x := tr) (by omega)
      rw [ht1] at hl
      obtain ⟨i1, hi1, hi12, hi13⟩ := zn_ex (x := ix) (by omega)
      rw [hi1] at hl
      have e1 : tr.toInt.toNat = t1 := by omega
      have e2 : ix.toInt.toNat = i1 := by omega
      have hv5 := hv4
      rw [e1] at hv5
      obtain ⟨b1, b2, b3, b4, b5⟩ := hRT t1 (by omega)
      obtain ⟨d1, d2, d3, d4, d5, d6, d7, d8, d9, d10, d11⟩ := b5 i1 (by omega)
      have hof := csum_take (L := Ts t1) (i := i1) (by omega)
      obtain ⟨k1, hk1, hk12, hk13⟩ := zn_ex (x := k0) (by omega)
      rw [hk1] at hl
      refine lv_bipush (v := nI 120) hx hb dX9_at_21 (by decide) ?_
      refine lv_iload_n hx hb dX9_at_23 rfl (lv_at hl 1 rfl) ?_
      refine nn_mul hx hb dX9_at_24 ?_
      refine lv_iload_n hx hb dX9_at_25 rfl (lv_at hl 2 rfl) ?_
      refine nn_add hx hb dX9_at_26 ?_
      refine lv_istore (lv' := [(5, .int (nI ((120 * t1) + i1))), (0, .ref x), (1, .int (nI t1)), (2, .int (nI i1)), (3, .int (bI pb)), (4, .int (nI k1))]) hx hb dX9_at_27 hl (by decide) rfl (fun ls hl => ?_)
      refine lv_iload_n hx hb dX9_at_29 rfl (lv_at hl 4 rfl) ?_
      refine nb_ifeq hx hb dX9_at_30 (tgt := 64) (by decide) (fun c_4 => ?_) (fun c_4 => ?_)
      · refine lv_iload hx hb dX9_at_64 (lv_at hl 5 rfl) ?_
        refine lv_aload_n hx hb dX9_at_66 rfl (lv_at hl 1 rfl) ?_
        refine rg_contents hC hR.1 k_contents dX9_at_67 ?_
        refine lv_iload hx hb dX9_at_70 (lv_at hl 0 rfl) ?_
        refine rl_contents hC hR.1 (by omega) dX9_at_72 ?_
        refine nn_eqi (y := nI ((ct ((Ts t1).getD i1 e0)).length)) d7 ?_
        refine nn_ge hx hb dX9_at_73 (tgt := 100) (by decide) (by omega) (by omega) (fun c_5 => ?_) (fun c_5 => ?_)
        · refine lv_iconst (v := (-1)) hx hb dX9_at_100 rfl ?_
          rw [hQ]
          exact rf_iret hx hb hr hlocks hR ⟨by rw [atA, if_pos ⟨⟨hv1, hv2, hv3, hv4⟩, by omega⟩, e1, e2, show k0.toInt.toNat = k1 by omega, if_neg (by rw [show pb = false by assumption]; decide), if_neg (by omega)], ⟨_, _, _, _, _, _, _, _, _, _, _, _, _, _, rfl, hRT, ⟨htp, htl, htb⟩, ⟨hrd, hrl, hrb⟩, hch⟩⟩ dX9_at_101
        · refine lv_aload_n hx hb dX9_at_76 rfl (lv_at hl 1 rfl) ?_
          refine rg_content hC hR.1 k_content dX9_at_77 ?_
          refine lv_sipush (v := nI 8000) hx hb dX9_at_80 (by decide) ?_
          refine lv_iload_n hx hb dX9_at_83 rfl (lv_at hl 2 rfl) ?_
          refine nn_mul hx hb dX9_at_84 ?_
          refine lv_aload_n hx hb dX9_at_85 rfl (lv_at hl 1 rfl) ?_
          refine rg_contentAt hC hR.1 k_contentAt dX9_at_86 ?_
          refine lv_iload hx hb dX9_at_89 (lv_at hl 0 rfl) ?_
          refine rl_contentAt hC hR.1 (by omega) dX9_at_91 ?_
          refine nn_eqi (y := nI (csum ((Ts t1).take i1))) d6 ?_
          refine nn_add hx hb dX9_at_92 ?_
          refine lv_iload hx hb dX9_at_93 (lv_at hl 5 rfl) ?_
          refine nn_add hx hb dX9_at_95 ?_
          refine rl_content hC hR.1 (by omega) dX9_at_96 ?_
          refine nn_eqi (y := nI ((ct ((Ts t1).getD i1 e0)).getD k1 0)) (d9 k1 (by omega)) ?_
          refine lv_goto (tgt := 101) hx hb dX9_at_97 (by decide) ?_
          rw [hQ]
          exact rf_iret hx hb hr hlocks hR ⟨by rw [atA, if_pos ⟨⟨hv1, hv2, hv3, hv4⟩, by omega⟩, e1, e2, show k0.toInt.toNat = k1 by omega, if_neg (by rw [show pb = false by assumption]; decide), if_pos (by omega)], ⟨_, _, _, _, _, _, _, _, _, _, _, _, _, _, rfl, hRT, ⟨htp, htl, htb⟩, ⟨hrd, hrl, hrb⟩, hch⟩⟩ dX9_at_101
      · refine lv_iload hx hb dX9_at_33 (lv_at hl 5 rfl) ?_
        refine lv_aload_n hx hb dX9_at_35 rfl (lv_at hl 1 rfl) ?_
        refine rg_paths hC hR.1 k_paths dX9_at_36 ?_
        refine lv_iload hx hb dX9_at_39 (lv_at hl 0 rfl) ?_
        refine rl_paths hC hR.1 (by omega) dX9_at_41 ?_
        refine nn_eqi (y := nI (((Ts t1).getD i1 e0).1.length)) d4 ?_
        refine nn_ge hx hb dX9_at_42 (tgt := 62) (by decide) (by omega) (by omega) (fun c_6 => ?_) (fun c_6 => ?_)
        · refine lv_iconst (v := (-1)) hx hb dX9_at_62 rfl ?_
          rw [hQ]
          exact rf_iret hx hb hr hlocks hR ⟨by rw [atA, if_pos ⟨⟨hv1, hv2, hv3, hv4⟩, by omega⟩, e1, e2, show k0.toInt.toNat = k1 by omega, if_pos (by assumption : pb = true), if_neg (by omega)], ⟨_, _, _, _, _, _, _, _, _, _, _, _, _, _, rfl, hRT, ⟨htp, htl, htb⟩, ⟨hrd, hrl, hrb⟩, hch⟩⟩ dX9_at_63
        · refine lv_aload_n hx hb dX9_at_45 rfl (lv_at hl 1 rfl) ?_
          refine rg_path hC hR.1 k_path dX9_at_46 ?_
          refine lv_sipush (v := nI 150) hx hb dX9_at_49 (by decide) ?_
          refine lv_iload hx hb dX9_at_52 (lv_at hl 0 rfl) ?_
          refine nn_mul hx hb dX9_at_54 ?_
          refine lv_iload hx hb dX9_at_55 (lv_at hl 5 rfl) ?_
          refine nn_add hx hb dX9_at_57 ?_
          refine rl_path hC hR.1 (by omega) dX9_at_58 ?_
          refine nn_eqi (y := nI (((Ts t1).getD i1 e0).1.getD k1 0)) (d8 k1 (by omega)) ?_
          refine lv_goto (tgt := 63) hx hb dX9_at_59 (by decide) ?_
          rw [hQ]
          exact rf_iret hx hb hr hlocks hR ⟨by rw [atA, if_pos ⟨⟨hv1, hv2, hv3, hv4⟩, by omega⟩, e1, e2, show k0.toInt.toNat = k1 by omega, if_pos (by assumption : pb = true), if_pos (by omega)], ⟨_, _, _, _, _, _, _, _, _, _, _, _, _, _, rfl, hRT, ⟨htp, htl, htb⟩, ⟨hrd, hrl, hrb⟩, hch⟩⟩ dX9_at_63
    · refine lv_iconst (v := (-1)) hx hb dX9_at_19 rfl ?_
      rw [hQ]
      exact rf_iret hx hb hr hlocks hR ⟨by rw [atA, if_neg (by first | (intro h; exact absurd h.1 (of_decide_eq_false (by assumption : decide (0 ≤ tr.toInt ∧ tr.toInt < 3 ∧ 0 ≤ ix.toInt ∧ ix.toInt < (Ts tr.toInt.toNat).length) = false))) | (intro h; omega))], ⟨_, _, _, _, _, _, _, _, _, _, _, _, _, _, rfl, hRT, ⟨htp, htl, htb⟩, ⟨hrd, hrl, hrb⟩, hch⟩⟩ dX9_at_20
set_option maxHeartbeats 4000000 in
set_option maxRecDepth 100000 in
theorem F_about (l : Launch) {G : va_G} {tys : List (ClassId × FieldType)} {cI : ClassId} (hT : tys[1]? = some (cI, .int)) {A : Nat → Prop} {x : Nat} {q : Nat → Nat} {w : va_W} {th : Int32} {Ts : Nat → List En} {tp rd : List Nat} {cs : Bool} {cp : List Nat} {st ops cg ns : Nat} {bg : Int32} {sT sC : Nat → Int32} (hW : RW cI x q w th Ts tp rd cs cp st ops cg ns bg sT sC) (w0 : Int32) (ho : ops < 1000) (hcg : cg < 1000) (hns : ns ≤ 40) (hst : st ≤ 2) : rMet l yX9_about wsX9_about ({ frames := 1, cells := 0, slots := 0, locals := 20 } : Room) G tys A [.ref x, .int w0] w (fun r w => r = some (.int (abA Ts tp st ops cg ns sC w0)) ∧ RW cI x q w (nI 0) Ts tp rd cs cp st ops cg ns bg sT sC) := by
  obtain ⟨cm, f_many, f_bytes, f_kinds, f_modes, f_times, f_paths, f_contentAt, f_contents, f_path, f_content, f_ready, f_tape, f_chosen, rfl, hRT, ⟨htp, htl, htb⟩, ⟨hrd, hrl, hrb⟩, hch⟩ := hW
  refine Met.ofW (cc := cX9_about) (maxL := 4) (ret := (some .int)) (by decide) rfl ?_
  intro p e s m args below meth c s₁ B hml hv
  obtain ⟨hargs, hP, hK, hD⟩ := hv
  have hx := B.exec
  have hb := B.bytes
  have hr := B.returns
  have hts := atoms_spec (ws := wsX9_about) B.pre
  have hown : s.vm.findClass RX9 = some m.cls := findClass_of_methodNamed B.named
  have hlocks := B.notSynchronized
  have hC : rC p s m args c cX9_about G tys cI wsX9_about := ⟨hx, hb, hts, (by decide +kernel), hown, hK, hT⟩
  have k_bytes := hts (.fieldLink RX9 13 "MirrorKeepModel" "bytes" "[I") (by decide +kernel)
  have k_many := hts (.fieldLink RX9 7 "MirrorKeepModel" "many" "[I") (by decide +kernel)
  have k_operations := hts (.fieldLink RX9 141 "MirrorKeepModel" "operations" "I") (by decide +kernel)
  have k_sessionChanges := hts (.fieldLink RX9 51 "MirrorKeepModel" "sessionChanges" "[I") (by decide +kernel)
  have k_sessions := hts (.fieldLink RX9 138 "MirrorKeepModel" "sessions" "I") (by decide +kernel)
  have k_state := hts (.fieldLink RX9 107 "MirrorKeepModel" "state" "I") (by decide +kernel)
  have k_taped := hts (.fieldLink RX9 61 "MirrorKeepModel" "taped" "I") (by decide +kernel)
  have k_thrown := hts (.fieldLink RX9 57 "MirrorKeepModel" "thrown" "I") (by decide +kernel)
  have hR : rR G A s.heap s.heap [] (rwx cI x q th (nI tp.length) (nI st) (nI ops) (nI cg) (nI ns) bg (bI cs) cm f_many f_bytes f_kinds f_modes f_times f_paths f_contentAt f_contents f_path f_content f_ready f_tape sT sC f_chosen) := ⟨hP, hD, va_S.rf⟩
  obtain ⟨Q, hQ⟩ : ∃ Q : State → Prop, Q = MQ below (rQ G A (fun r w => r = some (.int (abA Ts tp st ops cg ns sC w0)) ∧ RW cI x q w (nI 0) Ts tp rd cs cp st ops cg ns bg sT sC)) args s 0 0 A := ⟨_, rfl⟩
  change W p l e ({ frames := 1, cells := 0, slots := 0, locals := 20 } : Room) s m args below meth c s.heap [] 0 0 (MQ below (rQ G A (fun r w => r = some (.int (abA Ts tp st ops cg ns sC w0)) ∧ RW cI x q w (nI 0) Ts tp rd cs cp st ops cg ns bg sT sC)) args s 0 0 A) (entryFrame m args 4)
  rw [← hQ]
  refine nn_entry hargs (Nat.le_of_ble_eq_true rfl) (lv := [(0, .ref x), (1, .int w0)]) rfl (fun ls hl => ?_)
  have a1 := (hRT 0 (by decide)).1
  have a2 := (hRT 1 (by decide)).1
  have a3 := (hRT 2 (by decide)).1
  have a4 := (hRT 0 (by decide)).2.1
  refine lv_aload_n hx hb dX9_about_0 rfl (lv_at hl 0 rfl) ?_
  refine lv_iconst (v := nI 0) hx hb dX9_about_1 rfl ?_
  refine rp_thrown hC hR k_thrown dX9_about_2 (fun H locs hR => ?_)
  refine lv_iload_n hx hb dX9_about_5 rfl (lv_at hl 1 rfl) ?_
  rcases (show w0.toInt = 0 ∨ w0.toInt = 1 ∨ w0.toInt = 2 ∨ w0.toInt = 3 ∨ w0.toInt = 4 ∨ w0.toInt = 5 ∨ w0.toInt = 6 ∨ w0.toInt = 7 ∨ w0.toInt = 8 ∨ (w0.toInt < 0 ∨ 8 < w0.toInt) by omega) with hsw | hsw | hsw | hsw | hsw | hsw | hsw | hsw | hsw | hsw
  · refine lv_tableIn (tgt := 56) hx hb dX9_about_6 (by omega) (by omega) (by rw [hsw]; rfl) (by decide) ?_
    refine lv_aload_n hx hb dX9_about_56 rfl (lv_at hl 0 rfl) ?_
    refine rg_state hC hR.1 k_state dX9_about_57 ?_
    rw [hQ]
    exact rf_iret hx hb hr hlocks hR ⟨by rw [abA, if_pos (by omega)], ⟨_, _, _, _, _, _, _, _, _, _, _, _, _, _, rfl, hRT, ⟨htp, htl, htb⟩, ⟨hrd, hrl, hrb⟩, hch⟩⟩ dX9_about_60
  · refine lv_tableIn (tgt := 61) hx hb dX9_about_6 (by omega) (by omega) (by rw [hsw]; rfl) (by decide) ?_
    refine lv_aload_n hx hb dX9_about_61 rfl (lv_at hl 0 rfl) ?_
    refine rg_sessions hC hR.1 k_sessions dX9_about_62 ?_
    rw [hQ]
    exact rf_iret hx hb hr hlocks hR ⟨by rw [abA, if_neg (by omega), if_pos (by omega)], ⟨_, _, _, _, _, _, _, _, _, _, _, _, _, _, rfl, hRT, ⟨htp, htl, htb⟩, ⟨hrd, hrl, hrb⟩, hch⟩⟩ dX9_about_65
  · refine lv_tableIn (tgt := 66) hx hb dX9_about_6 (by omega) (by omega) (by rw [hsw]; rfl) (by decide) ?_
    refine lv_aload_n hx hb dX9_about_66 rfl (lv_at hl 0 rfl) ?_
    refine rg_operations hC hR.1 k_operations dX9_about_67 ?_
    rw [hQ]
    exact rf_iret hx hb hr hlocks hR ⟨by rw [abA, if_neg (by omega), if_neg (by omega), if_pos (by omega)], ⟨_, _, _, _, _, _, _, _, _, _, _, _, _, _, rfl, hRT, ⟨htp, htl, htb⟩, ⟨hrd, hrl, hrb⟩, hch⟩⟩ dX9_about_70
  · refine lv_tableIn (tgt := 71) hx hb dX9_about_6 (by omega) (by omega) (by rw [hsw]; rfl) (by decide) ?_
    refine lv_aload_n hx hb dX9_about_71 rfl (lv_at hl 0 rfl) ?_
    refine rg_many hC hR.1 k_many dX9_about_72 ?_
    refine lv_iconst (v := nI 0) hx hb dX9_about_75 rfl ?_
    refine rl_many hC hR.1 (by omega) dX9_about_76 ?_
    refine nn_eqi (y := nI ((Ts 0).length)) a1 ?_
    rw [hQ]
    exact rf_iret hx hb hr hlocks hR ⟨by rw [abA, if_neg (by omega), if_neg (by omega), if_neg (by omega), if_pos (by omega)], ⟨_, _, _, _, _, _, _, _, _, _, _, _, _, _, rfl, hRT, ⟨htp, htl, htb⟩, ⟨hrd, hrl, hrb⟩, hch⟩⟩ dX9_about_77
  · refine lv_tableIn (tgt := 78) hx hb dX9_about_6 (by omega) (by omega) (by rw [hsw]; rfl) (by decide) ?_
    refine lv_aload_n hx hb dX9_about_78 rfl (lv_at hl 0 rfl) ?_
    refine rg_many hC hR.1 k_many dX9_about_79 ?_
    refine lv_iconst (v := nI 1) hx hb dX9_about_82 rfl ?_
    refine rl_many hC hR.1 (by omega) dX9_about_83 ?_
    refine nn_eqi (y := nI ((Ts 1).length)) a2 ?_
    rw [hQ]
    exact rf_iret hx hb hr hlocks hR ⟨by rw [abA, if_neg (by omega), if_neg (by omega), if_neg (by omega), if_neg (by omega), if_pos (by omega)], ⟨_, _, _, _, _, _, _, _, _, _, _, _, _, _, rfl, hRT, ⟨htp, htl, htb⟩, ⟨hrd, hrl, hrb⟩, hch⟩⟩ dX9_about_84
  · refine lv_tableIn (tgt := 85) hx hb dX9_about_6 (by omega) (by omega) (by rw [hsw]; rfl) (by decide) ?_
    refine lv_aload_n hx hb dX9_about_85 rfl (lv_at hl 0 rfl) ?_
    refine rg_many hC hR.1 k_many dX9_about_86 ?_
    refine lv_iconst (v := nI 2) hx hb dX9_about_89 rfl ?_
    refine rl_many hC hR.1 (by omega) dX9_about_90 ?_
    refine nn_eqi (y := nI ((Ts 2).length)) a3 ?_
    rw [hQ]
    exact rf_iret hx hb hr hlocks hR ⟨by rw [abA, if_neg (by omega), if_neg (by omega), if_neg (by omega), if_neg (by omega), if_neg (by omega), if_pos (by omega)], ⟨_, _, _, _, _, _, _, _, _, _, _, _, _, _, rfl, hRT, ⟨htp, htl, htb⟩, ⟨hrd, hrl, hrb⟩, hch⟩⟩ dX9_about_91
  · refine lv_tableIn (tgt := 92) hx hb dX9_about_6 (by omega) (by omega) (by rw [hsw]; rfl) (by decide) ?_
    refine lv_aload_n hx hb dX9_about_92 rfl (lv_at hl 0 rfl) ?_
    refine rg_bytes hC hR.1 k_bytes dX9_about_93 ?_
    refine lv_iconst (v := nI 0) hx hb dX9_about_96 rfl ?_
    refine rl_bytes hC hR.1 (by omega) dX9_about_97 ?_
    refine nn_eqi (y := nI (csum (Ts 0))) a4 ?_
    rw [hQ]
    exact rf_iret hx hb hr hlocks hR ⟨by rw [abA, if_neg (by omega), if_neg (by omega), if_neg (by omega), if_neg (by omega), if_neg (by omega), if_neg (by omega), if_pos (by omega)], ⟨_, _, _, _, _, _, _, _, _, _, _, _, _, _, rfl, hRT, ⟨htp, htl, htb⟩, ⟨hrd, hrl, hrb⟩, hch⟩⟩ dX9_about_98
  · refine lv_tableIn (tgt := 99) hx hb dX9_about_6 (by omega) (by omega) (by rw [hsw]; rfl) (by decide) ?_
    refine lv_aload_n hx hb dX9_about_99 rfl (lv_at hl 0 rfl) ?_
    refine rg_state hC hR.1 k_state dX9_about_100 ?_
    refine nz_ne hx hb dX9_about_103 (tgt := 110) (by decide) (by omega) (fun c_1 => ?_) (fun c_1 => ?_)
    · refine lv_aload_n hx hb dX9_about_110 rfl (lv_at hl 0 rfl) ?_
      refine pf_callV (C := RX9) (As := []) (rest := []) (m_increments l hT ops cg ho hcg) ⟨hx, hb, hml, hown, hts⟩ (cwV 0 hts gX9_about_X9_increments rfl rfl rfl (by decide +kernel) ⟨Nat.le_of_ble_eq_true rfl, Nat.le_of_ble_eq_true rfl⟩) hK hR.1 (r_recv hK hR.1) rfl hl.1 rfl (Nat.le_of_ble_eq_true rfl) dX9_about_111 ⟨Nat.le_of_ble_eq_true rfl, Nat.le_of_ble_eq_true rfl⟩ (fun r_2 hr_2 => ?_)
      subst hr_2
      refine lv_istore_n (lv' := [(2, .int (nI (incs ops cg))), (0, .ref x), (1, .int w0)]) hx hb dX9_about_114 rfl hl (by decide) rfl (fun ls hl => ?_)
      refine lv_iconst (v := nI 1) hx hb dX9_about_115 rfl ?_
      refine lv_istore_n (lv' := [(3, .int (nI 1)), (2, .int (nI (incs ops cg))), (0, .ref x), (1, .int w0)]) hx hb dX9_about_116 rfl hl (by decide) rfl (fun ls hl => ?_)
      have lp_117 : ∀ (n_117 : Nat) (k : Nat) (sm : Int32) (H : Heap) (locs : List Loc) (ls : Array Slot), (ns - k) < n_117 → (1 ≤ k) → (k ≤ ns ∨ k = 1) → (sm = ssm sC (nI (incs ops cg)) k) → rR G A s.heap H locs (rwx cI x q (nI 0) (nI tp.length) (nI st) (nI ops) (nI cg) (nI ns) bg (bI cs) cm f_many f_bytes f_kinds f_modes f_times f_paths f_contentAt f_contents f_path f_content f_ready f_tape sT sC f_chosen) → lv_has ls 4 [(3, .int (nI k)), (2, .int sm), (0, .ref x), (1, .int w0)] → W p l e ({ frames := 1, cells := 0, slots := 0, locals := 20 } : Room) s m args below meth c H locs 0 0 Q (F0 m 117 ls []) := by
        intro n_117
        induction n_117 with
        | zero => intro k sm H locs ls h0; exact absurd h0 (Nat.not_lt_zero _)
        | succ n_117 ih_117 =>
          intro k sm H locs ls hm_117 hk1 hk2 hsm hR hl
          refine lv_iload_n hx hb dX9_about_117 rfl (lv_at hl 0 rfl) ?_
          refine lv_aload_n hx hb dX9_about_118 rfl (lv_at hl 2 rfl) ?_
          refine rg_sessions hC hR.1 k_sessions dX9_about_119 ?_
          refine nn_ge hx hb dX9_about_122 (tgt := 140) (by decide) (by omega) (by omega) (fun c_3 => ?_) (fun c_3 => ?_)
          · refine lv_iload_n hx hb dX9_about_140 rfl (lv_at hl 1 rfl) ?_
            rw [hQ]
            exact rf_iret hx hb hr hlocks hR ⟨by rw [abA, if_neg (by omega), if_neg (by omega), if_neg (by omega), if_neg (by omega), if_neg (by omega), if_neg (by omega), if_neg (by omega), if_pos (by omega)]; exact congrArg (fun z => some (Value.int z)) (ab7 hk1 hk2 (by omega) hsm (if_neg (by omega))), ⟨_, _, _, _, _, _, _, _, _, _, _, _, _, _, rfl, hRT, ⟨htp, htl, htb⟩, ⟨hrd, hrl, hrb⟩, hch⟩⟩ dX9_about_141
          · refine lv_iload_n hx hb dX9_about_125 rfl (lv_at hl 1 rfl) ?_
            refine lv_aload_n hx hb dX9_about_126 rfl (lv_at hl 2 rfl) ?_
            refine rg_sessionChanges hC hR.1 k_sessionChanges dX9_about_127 ?_
            refine lv_iload_n hx hb dX9_about_130 rfl (lv_at hl 0 rfl) ?_
            refine rl_sessionChanges hC hR.1 (by omega) dX9_about_131 ?_
            refine lv_iadd hx hb dX9_about_132 ?_
            refine lv_istore_n (lv' := [(2, .int (sm + (sC k))), (3, .int (nI k)), (0, .ref x), (1, .int w0)]) hx hb dX9_about_133 rfl hl (by decide) rfl (fun ls hl => ?_)
            refine lv_iinc (v := nI (k + 1)) (lv' := [(3, .int (nI (k + 1))), (2, .int (sm + (sC k))), (0, .ref x), (1, .int w0)]) hx hb dX9_about_134 hl (k := 1) rfl (nI_add k 1) (by decide) rfl (fun ls hl => ?_)
            refine lv_goto (tgt := 117) hx hb dX9_about_137 (by decide) ?_
            exact ih_117 (k + 1) (sm + (sC k)) _ _ _ (by omega) (by omega) (by omega) (by rw [ssm, if_neg (by omega), hsm]) hR (lv_sub hl [0, 1, 2, 3] rfl)
      exact lp_117 (((ns - 1)) + 1) 1 (nI (incs ops cg)) _ _ _ (Nat.lt_succ_self _) (Nat.le_refl _) (Or.inr rfl) rfl hR (lv_sub hl [0, 1, 2, 3] rfl)
    · refine lv_iconst (v := nI 0) hx hb dX9_about_106 rfl ?_
      refine lv_goto (tgt := 114) hx hb dX9_about_107 (by decide) ?_
      refine lv_istore_n (lv' := [(2, .int (nI 0)), (0, .ref x), (1, .int w0)]) hx hb dX9_about_114 rfl hl (by decide) rfl (fun ls hl => ?_)
      refine lv_iconst (v := nI 1) hx hb dX9_about_115 rfl ?_
      refine lv_istore_n (lv' := [(3, .int (nI 1)), (2, .int (nI 0)), (0, .ref x), (1, .int w0)]) hx hb dX9_about_116 rfl hl (by decide) rfl (fun ls hl => ?_)
      have lp_117 : ∀ (n_117 : Nat) (k : Nat) (sm : Int32) (H : Heap) (locs : List Loc) (ls : Array Slot), (ns - k) < n_117 → (1 ≤ k) → (k ≤ ns ∨ k = 1) → (sm = ssm sC (nI 0) k) → rR G A s.heap H locs (rwx cI x q (nI 0) (nI tp.length) (nI st) (nI ops) (nI cg) (nI ns) bg (bI cs) cm f_many f_bytes f_kinds f_modes f_times f_paths f_contentAt f_contents f_path f_content f_ready f_tape sT sC f_chosen) → lv_has ls 4 [(3, .int (nI k)), (2, .int sm), (0, .ref x), (1, .int w0)] → W p l e ({ frames := 1, cells := 0, slots := 0, locals := 20 } : Room) s m args below meth c H locs 0 0 Q (F0 m 117 ls []) := by
        intro n_117
        induction n_117 with
        | zero => intro k sm H locs ls h0; exact absurd h0 (Nat.not_lt_zero _)
        | succ n_117 ih_117 =>
          intro k sm H locs ls hm_117 hk1 hk2 hsm hR hl
          refine lv_iload_n hx hb dX9_about_117 rfl (lv_at hl 0 rfl) ?_
          refine lv_aload_n hx hb dX9_about_118 rfl (lv_at hl 2 rfl) ?_
          refine rg_sessions hC hR.1 k_sessions dX9_about_119 ?_
          refine nn_ge hx hb dX9_about_122 (tgt := 140) (by decide) (by omega) (by omega) (fun c_4 => ?_) (fun c_4 => ?_)
          · refine lv_iload_n hx hb dX9_about_140 rfl (lv_at hl 1 rfl) ?_
            rw [hQ]
            exact rf_iret hx hb hr hlocks hR ⟨by rw [abA, if_neg (by omega), if_neg (by omega), if_neg (by omega), if_neg (by omega), if_neg (by omega), if_neg (by omega), if_neg (by omega), if_pos (by omega)]; exact congrArg (fun z => some (Value.int z)) (ab7 hk1 hk2 (by omega) hsm (if_pos (by assumption))), ⟨_, _, _, _, _, _, _, _, _, _, _, _, _, _, rfl, hRT, ⟨htp, htl, htb⟩, ⟨hrd, hrl, hrb⟩, hch⟩⟩ dX9_about_141
          · refine lv_iload_n hx hb dX9_about_125 rfl (lv_at hl 1 rfl) ?_
            refine lv_aload_n hx hb dX9_about_126 rfl (lv_at hl 2 rfl) ?_
            refine rg_sessionChanges hC hR.1 k_sessionChanges dX9_about_127 ?_
            refine lv_iload_n hx hb dX9_about_130 rfl (lv_at hl 0 rfl) ?_
            refine rl_sessionChanges hC hR.1 (by omega) dX9_about_131 ?_
            refine lv_iadd hx hb dX9_about_132 ?_
            refine lv_istore_n (lv' := [(2, .int (sm + (sC k))), (3, .int (nI k)), (0, .ref x), (1, .int w0)]) hx hb dX9_about_133 rfl hl (by decide) rfl (fun ls hl => ?_)
            refine lv_iinc (v := nI (k + 1)) (lv' := [(3, .int (nI (k + 1))), (2, .int (sm + (sC k))), (0, .ref x), (1, .int w0)]) hx hb dX9_about_134 hl (k := 1) rfl (nI_add k 1) (by decide) rfl (fun ls hl => ?_)
            refine lv_goto (tgt := 117) hx hb dX9_about_137 (by decide) ?_
            exact ih_117 (k + 1) (sm + (sC k)) _ _ _ (by omega) (by omega) (by omega) (by rw [ssm, if_neg (by omega), hsm]) hR (lv_sub hl [0, 1, 2, 3] rfl)
      exact lp_117 (((ns - 1)) + 1) 1 (nI 0) _ _ _ (Nat.lt_succ_self _) (Nat.le_refl _) (Or.inr rfl) rfl hR (lv_sub hl [0, 1, 2, 3] rfl)
  · refine lv_tableIn (tgt := 142) hx hb dX9_about_6 (by omega) (by omega) (by rw [hsw]; rfl) (by decide) ?_
    refine lv_aload_n hx hb dX9_about_142 rfl (lv_at hl 0 rfl) ?_
    refine rg_taped hC hR.1 k_taped dX9_about_143 ?_
    rw [hQ]
    exact rf_iret hx hb hr hlocks hR ⟨by rw [abA, if_neg (by omega), if_neg (by omega), if_neg (by omega), if_neg (by omega), if_neg (by omega), if_neg (by omega), if_neg (by omega), if_neg (by omega), if_pos (by omega)], ⟨_, _, _, _, _, _, _, _, _, _, _, _, _, _, rfl, hRT, ⟨htp, htl, htb⟩, ⟨hrd, hrl, hrb⟩, hch⟩⟩ dX9_about_146
  · refine lv_tableOut (tgt := 147) hx hb dX9_about_6 hsw (by decide) ?_
    refine lv_iconst (v := (-1)) hx hb dX9_about_147 rfl ?_
    rw [hQ]
    exact rf_iret hx hb hr hlocks hR ⟨by rw [abA, if_neg (by omega), if_neg (by omega), if_neg (by omega), if_neg (by omega), if_neg (by omega), if_neg (by omega), if_neg (by omega), if_neg (by omega), if_neg (by omega)], ⟨_, _, _, _, _, _, _, _, _, _, _, _, _, _, rfl, hRT, ⟨htp, htl, htb⟩, ⟨hrd, hrl, hrb⟩, hch⟩⟩ dX9_about_148
set_option maxHeartbeats 4000000 in
set_option maxRecDepth 100000 in
theorem F_begin (l : Launch) {G : va_G} {tys : List (ClassId × FieldType)} {cI : ClassId} (hT : tys[1]? = some (cI, .int)) {A : Nat → Prop} {x : Nat} {q : Nat → Nat} {w : va_W} {th : Int32} {Ts : Nat → List En} {tp rd : List Nat} {cs : Bool} {cp : List Nat} {st ops cg ns : Nat} {bg : Int32} {sT sC : Nat → Int32} (hW : RW cI x q w th Ts tp rd cs cp st ops cg ns bg sT sC) (tm : Int32) (hst : st ≤ 2) (hns : ns ≤ 40) : rMet l yX9_begin wsX9_begin ({ frames := 4, cells := 0, slots := 0, locals := 103 } : Room) G tys A [.ref x, .int tm] w (fun r w => ((st ≠ 0 ∨ ns = 40) ∧ r = some (.int (nI 0)) ∧ RW cI x q w (nI 2) Ts tp rd cs cp st ops cg ns bg sT sC) ∨ (¬ (st ≠ 0 ∨ ns = 40) ∧ (tm.toInt < 0 ∨ (0 < ns ∧ tm.toInt ≤ (sT (ns - 1)).toInt)) ∧ r = some (.int (nI 0)) ∧ RW cI x q w (nI 1) Ts tp rd cs cp st ops cg ns bg sT sC) ∨ (¬ (st ≠ 0 ∨ ns = 40) ∧ ¬ (tm.toInt < 0 ∨ (0 < ns ∧ tm.toInt ≤ (sT (ns - 1)).toInt)) ∧ r = some (.int (nI (2 * (jn (Ts 1) (Ts 0) 0).1 + 3))) ∧ RW cI x q w (nI 0) (va_up (va_up Ts 3 (Ts 1)) 4 (Ts 0)) tp rd cs cp 1 0 ((jn (Ts 1) (Ts 0) 0).1) ns tm sT sC)) := by
  obtain ⟨cm, f_many, f_bytes, f_kinds, f_modes, f_times, f_paths, f_contentAt, f_contents, f_path, f_content, f_ready, f_tape, f_chosen, rfl, hRT, ⟨htp, htl, htb⟩, ⟨hrd, hrl, hrb⟩, hch⟩ := hW
  refine Met.ofW (cc := cX9_begin) (maxL := 2) (ret := (some .int)) (by decide) rfl ?_
  intro p e s m args below meth c s₁ B hml hv
  obtain ⟨hargs, hP, hK, hD⟩ := hv
  have hx := B.exec
  have hb := B.bytes
  have hr := B.returns
  have hts := atoms_spec (ws := wsX9_begin) B.pre
  have hown : s.vm.findClass RX9 = some m.cls := findClass_of_methodNamed B.named
  have hlocks := B.notSynchronized
  have hC : rC p s m args c cX9_begin G tys cI wsX9_begin := ⟨hx, hb, hts, (by decide +kernel), hown, hK, hT⟩
  have k_begun := hts (.fieldLink RX9 144 "MirrorKeepModel" "begun" "I") (by decide +kernel)
  have k_changes := hts (.fieldLink RX9 150 "MirrorKeepModel" "changes" "I") (by decide +kernel)
  have k_operations := hts (.fieldLink RX9 141 "MirrorKeepModel" "operations" "I") (by decide +kernel)
  have k_sessionTime := hts (.fieldLink RX9 48 "MirrorKeepModel" "sessionTime" "[I") (by decide +kernel)
  have k_sessions := hts (.fieldLink RX9 138 "MirrorKeepModel" "sessions" "I") (by decide +kernel)
  have k_state := hts (.fieldLink RX9 107 "MirrorKeepModel" "state" "I") (by decide +kernel)
  have k_thrown := hts (.fieldLink RX9 57 "MirrorKeepModel" "thrown" "I") (by decide +kernel)
  have hR : rR G A s.heap s.heap [] (rwx cI x q th (nI tp.length) (nI st) (nI ops) (nI cg) (nI ns) bg (bI cs) cm f_many f_bytes f_kinds f_modes f_times f_paths f_contentAt f_contents f_path f_content f_ready f_tape sT sC f_chosen) := ⟨hP, hD, va_S.rf⟩
  obtain ⟨Q, hQ⟩ : ∃ Q : State → Prop, Q = MQ below (rQ G A (fun r w => ((st ≠ 0 ∨ ns = 40) ∧ r = some (.int (nI 0)) ∧ RW cI x q w (nI 2) Ts tp rd cs cp st ops cg ns bg sT sC) ∨ (¬ (st ≠ 0 ∨ ns = 40) ∧ (tm.toInt < 0 ∨ (0 < ns ∧ tm.toInt ≤ (sT (ns - 1)).toInt)) ∧ r = some (.int (nI 0)) ∧ RW cI x q w (nI 1) Ts tp rd cs cp st ops cg ns bg sT sC) ∨ (¬ (st ≠ 0 ∨ ns = 40) ∧ ¬ (tm.toInt < 0 ∨ (0 < ns ∧ tm.toInt ≤ (sT (ns - 1)).toInt)) ∧ r = some (.int (nI (2 * (jn (Ts 1) (Ts 0) 0).1 + 3))) ∧ RW cI x q w (nI 0) (va_up (va_up Ts 3 (Ts 1)) 4 (Ts 0)) tp rd cs cp 1 0 ((jn (Ts 1) (Ts 0) 0).1) ns tm sT sC))) args s 0 0 A := ⟨_, rfl⟩
  change W p l e ({ frames := 4, cells := 0, slots := 0, locals := 103 } : Room) s m args below meth c s.heap [] 0 0 (MQ below (rQ G A (fun r w => ((st ≠ 0 ∨ ns = 40) ∧ r = some (.int (nI 0)) ∧ RW cI x q w (nI 2) Ts tp rd cs cp st ops cg ns bg sT sC) ∨ (¬ (st ≠ 0 ∨ ns = 40) ∧ (tm.toInt < 0 ∨ (0 < ns ∧ tm.toInt ≤ (sT (ns - 1)).toInt)) ∧ r = some (.int (nI 0)) ∧ RW cI x q w (nI 1) Ts tp rd cs cp st ops cg ns bg sT sC) ∨ (¬ (st ≠ 0 ∨ ns = 40) ∧ ¬ (tm.toInt < 0 ∨ (0 < ns ∧ tm.toInt ≤ (sT (ns - 1)).toInt)) ∧ r = some (.int (nI (2 * (jn (Ts 1) (Ts 0) 0).1 + 3))) ∧ RW cI x q w (nI 0) (va_up (va_up Ts 3 (Ts 1)) 4 (Ts 0)) tp rd cs cp 1 0 ((jn (Ts 1) (Ts 0) 0).1) ns tm sT sC))) args s 0 0 A) (entryFrame m args 2)
  rw [← hQ]
  refine nn_entry hargs (Nat.le_of_ble_eq_true rfl) (lv := [(0, .ref x), (1, .int tm)]) rfl (fun ls hl => ?_)
  refine lv_aload_n hx hb dX9_begin_0 rfl (lv_at hl 0 rfl) ?_
  refine lv_aload_n hx hb dX9_begin_1 rfl (lv_at hl 0 rfl) ?_
  refine rg_state hC hR.1 k_state dX9_begin_2 ?_
  refine nz_ne hx hb dX9_begin_5 (tgt := 17) (by decide) (by omega) (fun c_1 => ?_) (fun c_1 => ?_)
  · refine lv_iconst (v := nI 2) hx hb dX9_begin_17 rfl ?_
    refine lv_goto (tgt := 52) hx hb dX9_begin_18 (by decide) ?_
    refine rp_thrown hC hR k_thrown dX9_begin_52 (fun H locs hR => ?_)
    refine lv_aload_n hx hb dX9_begin_55 rfl (lv_at hl 0 rfl) ?_
    refine rg_thrown hC hR.1 k_thrown dX9_begin_56 ?_
    refine nz_le hx hb dX9_begin_59 (tgt := 64) (by decide) (by omega) (fun c_2 => ?_) (fun c_2 => ?_)
    · exact absurd c_2 (by omega)
    · refine lv_iconst (v := nI 0) hx hb dX9_begin_62 rfl ?_
      rw [hQ]
      exact rf_iret hx hb hr hlocks hR (Or.inl ⟨by omega, rfl, ⟨_, _, _, _, _, _, _, _, _, _, _, _, _, _, rfl, hRT, ⟨htp, htl, htb⟩, ⟨hrd, hrl, hrb⟩, hch⟩⟩) dX9_begin_63
  · refine lv_aload_n hx hb dX9_begin_8 rfl (lv_at hl 0 rfl) ?_
    refine rg_sessions hC hR.1 k_sessions dX9_begin_9 ?_
    refine lv_bipush (v := nI 40) hx hb dX9_begin_12 (by decide) ?_
    refine nn_ne hx hb dX9_begin_14 (tgt := 21) (by decide) (by omega) (by omega) (fun c_3 => ?_) (fun c_3 => ?_)
    · refine lv_iload_n hx hb dX9_begin_21 rfl (lv_at hl 1 rfl) ?_
      refine zi_lt hx hb rfl dX9_begin_22 (tgt := 47) (by decide) (fun c_4 => ?_) (fun c_4 => ?_)
      · refine lv_iconst (v := nI 1) hx hb dX9_begin_47 rfl ?_
        refine lv_goto (tgt := 52) hx hb dX9_begin_48 (by decide) ?_
        refine rp_thrown hC hR k_thrown dX9_begin_52 (fun H locs hR => ?_)
        refine lv_aload_n hx hb dX9_begin_55 rfl (lv_at hl 0 rfl) ?_
        refine rg_thrown hC hR.1 k_thrown dX9_begin_56 ?_
        refine nz_le hx hb dX9_begin_59 (tgt := 64) (by decide) (by omega) (fun c_5 => ?_) (fun c_5 => ?_)
        · exact absurd c_5 (by omega)
        · refine lv_iconst (v := nI 0) hx hb dX9_begin_62 rfl ?_
          rw [hQ]
          exact rf_iret hx hb hr hlocks hR (Or.inr (Or.inl ⟨by omega, by omega, rfl, ⟨_, _, _, _, _, _, _, _, _, _, _, _, _, _, rfl, hRT, ⟨htp, htl, htb⟩, ⟨hrd, hrl, hrb⟩, hch⟩⟩)) dX9_begin_63
      · refine lv_aload_n hx hb dX9_begin_25 rfl (lv_at hl 0 rfl) ?_
        refine rg_sessions hC hR.1 k_sessions dX9_begin_26 ?_
        refine nz_le hx hb dX9_begin_29 (tgt := 51) (by decide) (by omega) (fun c_6 => ?_) (fun c_6 => ?_)
        · refine lv_iconst (v := nI 0) hx hb dX9_begin_51 rfl ?_
          refine rp_thrown hC hR k_thrown dX9_begin_52 (fun H locs hR => ?_)
          refine lv_aload_n hx hb dX9_begin_55 rfl (lv_at hl 0 rfl) ?_
          refine rg_thrown hC hR.1 k_thrown dX9_begin_56 ?_
          refine nz_le hx hb dX9_begin_59 (tgt := 64) (by decide) (by omega) (fun c_7 => ?_) (fun c_7 => ?_)
          · refine lv_aload_n hx hb dX9_begin_64 rfl (lv_at hl 0 rfl) ?_
            refine lv_iconst (v := nI 1) hx hb dX9_begin_65 rfl ?_
            refine rp_state hC hR k_state dX9_begin_66 (fun H locs hR => ?_)
            refine lv_aload_n hx hb dX9_begin_69 rfl (lv_at hl 0 rfl) ?_
            refine lv_iconst (v := nI 0) hx hb dX9_begin_70 rfl ?_
            refine rp_operations hC hR k_operations dX9_begin_71 (fun H locs hR => ?_)
            refine lv_aload_n hx hb dX9_begin_74 rfl (lv_at hl 0 rfl) ?_
            refine lv_iload_n hx hb dX9_begin_75 rfl (lv_at hl 1 rfl) ?_
            refine rp_begun hC hR k_begun dX9_begin_76 (fun H locs hR => ?_)
            refine lv_aload_n hx hb dX9_begin_79 rfl (lv_at hl 0 rfl) ?_
            refine lv_iconst (v := nI 1) hx hb dX9_begin_80 rfl ?_
            refine lv_iconst (v := nI 3) hx hb dX9_begin_81 rfl ?_
            refine rf_callV (C := RX9) (As := [.int (nI 1), .int (nI 3)]) (rest := []) (m_copy l hT Ts 1 3 hRT (by omega) (by omega) (by omega)) ⟨hx, hb, hml, hown, hts⟩ (cwV 2 hts gX9_begin_X9_copy rfl rfl rfl (by decide +kernel) ⟨Nat.le_of_ble_eq_true rfl, Nat.le_of_ble_eq_true rfl⟩) hK hR (r_recv hK hR.1) rfl hl.1 rfl (Nat.le_of_ble_eq_true rfl) dX9_begin_82 ⟨Nat.le_of_ble_eq_true rfl, Nat.le_of_ble_eq_true rfl⟩ (fun r_8 w_r_8 H locs hr_8 hR => ?_)
            obtain ⟨rfl, g_many_9, g_bytes_9, g_kinds_9, g_modes_9, g_times_9, g_paths_9, g_contentAt_9, g_contents_9, g_path_9, g_content_9, rfl, hRT⟩ := hr_8
            refine lv_aload_n hx hb dX9_begin_85 rfl (lv_at hl 0 rfl) ?_
            refine lv_iconst (v := nI 0) hx hb dX9_begin_86 rfl ?_
            refine lv_iconst (v := nI 4) hx hb dX9_begin_87 rfl ?_
            refine rf_callV (C := RX9) (As := [.int (nI 0), .int (nI 4)]) (rest := []) (m_copy l hT (va_up Ts 3 (Ts 1)) 0 4 hRT (by omega) (by omega) (by omega)) ⟨hx, hb, hml, hown, hts⟩ (cwV 2 hts gX9_begin_X9_copy rfl rfl rfl (by decide +kernel) ⟨Nat.le_of_ble_eq_true rfl, Nat.le_of_ble_eq_true rfl⟩) hK hR (r_recv hK hR.1) rfl hl.1 rfl (Nat.le_of_ble_eq_true rfl) dX9_begin_88 ⟨Nat.le_of_ble_eq_true rfl, Nat.le_of_ble_eq_true rfl⟩ (fun r_10 w_r_10 H locs hr_10 hR => ?_)
            obtain ⟨rfl, g_many_11, g_bytes_11, g_kinds_11, g_modes_11, g_times_11, g_paths_11, g_contentAt_11, g_contents_11, g_path_11, g_content_11, rfl, hRT⟩ := hr_10
            refine lv_aload_n hx hb dX9_begin_91 rfl (lv_at hl 0 rfl) ?_
            refine lv_aload_n hx hb dX9_begin_92 rfl (lv_at hl 0 rfl) ?_
            refine lv_iconst (v := nI 3) hx hb dX9_begin_93 rfl ?_
            refine lv_iconst (v := nI 4) hx hb dX9_begin_94 rfl ?_
            refine lv_iconst (v := nI 0) hx hb dX9_begin_95 rfl ?_
            refine lv_iconst (v := (-1)) hx hb dX9_begin_96 rfl ?_
            refine pf_callV (C := RX9) (As := [.int (nI 3), .int (nI 4), .int (nI 0), .int (-1)]) (rest := [.ref x]) (m_joinB l hT (va_up (va_up Ts 3 (Ts 1)) 4 ((va_up Ts 3 (Ts 1)) 0)) 3 4 0 hRT (by decide) (by decide) (by decide)) ⟨hx, hb, hml, hown, hts⟩ (cwV 4 hts gX9_begin_X9_join rfl rfl rfl (by decide +kernel) ⟨Nat.le_of_ble_eq_true rfl, Nat.le_of_ble_eq_true rfl⟩) hK hR.1 (r_recv hK hR.1) rfl hl.1 rfl (Nat.le_of_ble_eq_true rfl) dX9_begin_97 ⟨Nat.le_of_ble_eq_true rfl, Nat.le_of_ble_eq_true rfl⟩ (fun r_12 hr_12 => ?_)
            subst hr_12
            refine rp_changes hC hR k_changes dX9_begin_100 (fun H locs hR => ?_)
            refine lv_iconst (v := nI 2) hx hb dX9_begin_103 rfl ?_
            refine lv_aload_n hx hb dX9_begin_104 rfl (lv_at hl 0 rfl) ?_
            refine rg_changes hC hR.1 k_changes dX9_begin_105 ?_
            refine nn_mul hx hb dX9_begin_108 ?_
            refine lv_iconst (v := nI 3) hx hb dX9_begin_109 rfl ?_
            refine nn_add hx hb dX9_begin_110 ?_
            rw [hQ]
            rw [bg_j] at hR ⊢
            exact rf_iret hx hb hr hlocks hR (Or.inr (Or.inr ⟨by omega, by omega, rfl, ⟨_, _, _, _, _, _, _, _, _, _, _, _, _, _, rfl, hRT, ⟨htp, htl, htb⟩, ⟨hrd, hrl, hrb⟩, hch⟩⟩)) dX9_begin_111
          · exact absurd c_7 (by omega)
        · refine lv_iload_n hx hb dX9_begin_32 rfl (lv_at hl 1 rfl) ?_
          refine lv_aload_n hx hb dX9_begin_33 rfl (lv_at hl 0 rfl) ?_
          refine rg_sessionTime hC hR.1 k_sessionTime dX9_begin_34 ?_
          refine lv_aload_n hx hb dX9_begin_37 rfl (lv_at hl 0 rfl) ?_
          refine rg_sessions hC hR.1 k_sessions dX9_begin_38 ?_
          refine lv_iconst (v := nI 1) hx hb dX9_begin_41 rfl ?_
          refine nn_sub hx hb (by omega) dX9_begin_42 ?_
          refine rl_sessionTime hC hR.1 (by omega) dX9_begin_43 ?_
          refine zc_gt hx hb rfl rfl dX9_begin_44 (tgt := 51) (by decide) (fun c_13 => ?_) (fun c_13 => ?_)
          · refine lv_iconst (v := nI 0) hx hb dX9_begin_51 rfl ?_
            refine rp_thrown hC hR k_thrown dX9_begin_52 (fun H locs hR => ?_)
            refine lv_aload_n hx hb dX9_begin_55 rfl (lv_at hl 0 rfl) ?_
            refine rg_thrown hC hR.1 k_thrown dX9_begin_56 ?_
            refine nz_le hx hb dX9_begin_59 (tgt := 64) (by decide) (by omega) (fun c_14 => ?_) (fun c_14 => ?_)
            · refine lv_aload_n hx hb dX9_begin_64 rfl (lv_at hl 0 rfl) ?_
              refine lv_iconst (v := nI 1) hx hb dX9_begin_65 rfl ?_
              refine rp_state hC hR k_state dX9_begin_66 (fun H locs hR => ?_)
              refine lv_aload_n hx hb dX9_begin_69 rfl (lv_at hl 0 rfl) ?_
              refine lv_iconst (v := nI 0) hx hb dX9_begin_70 rfl ?_
              refine rp_operations hC hR k_operations dX9_begin_71 (fun H locs hR => ?_)
              refine lv_aload_n hx hb dX9_begin_74 rfl (lv_at hl 0 rfl) ?_
              refine lv_iload_n hx hb dX9_begin_75 rfl (lv_at hl 1 rfl) ?_
              refine rp_begun hC hR k_begun dX9_begin_76 (fun H locs hR => ?_)
              refine lv_aload_n hx hb dX9_begin_79 rfl (lv_at hl 0 rfl) ?_
              refine lv_iconst (v := nI 1) hx hb dX9_begin_80 rfl ?_
              refine lv_iconst (v := nI 3) hx hb dX9_begin_81 rfl ?_
              refine rf_callV (C := RX9) (As := [.int (nI 1), .int (nI 3)]) (rest := []) (m_copy l hT Ts 1 3 hRT (by omega) (by omega) (by omega)) ⟨hx, hb, hml, hown, hts⟩ (cwV 2 hts gX9_begin_X9_copy rfl rfl rfl (by decide +kernel) ⟨Nat.le_of_ble_eq_true rfl, Nat.le_of_ble_eq_true rfl⟩) hK hR (r_recv hK hR.1) rfl hl.1 rfl (Nat.le_of_ble_eq_true rfl) dX9_begin_82 ⟨Nat.le_of_ble_eq_true rfl, Nat.le_of_ble_eq_true rfl⟩ (fun r_15 w_r_15 H locs hr_15 hR => ?_)
              obtain ⟨rfl, g_many_16, g_bytes_16, g_kinds_16, g_modes_16, g_times_16, g_paths_16, g_contentAt_16, g_contents_16, g_path_16, g_content_16, rfl, hRT⟩ := hr_15
              refine lv_aload_n hx hb dX9_begin_85 rfl (lv_at hl 0 rfl) ?_
              refine lv_iconst (v := nI 0) hx hb dX9_begin_86 rfl ?_
              refine lv_iconst (v := nI 4) hx hb dX9_begin_87 rfl ?_
              refine rf_callV (C := RX9) (As := [.int (nI 0), .int (nI 4)]) (rest := []) (m_copy l hT (va_up Ts 3 (Ts 1)) 0 4 hRT (by omega) (by omega) (by omega)) ⟨hx, hb, hml, hown, hts⟩ (cwV 2 hts gX9_begin_X9_copy rfl rfl rfl (by decide +kernel) ⟨Nat.le_of_ble_eq_true rfl, Nat.le_of_ble_eq_true rfl⟩) hK hR (r_recv hK hR.1) rfl hl.1 rfl (Nat.le_of_ble_eq_true rfl) dX9_begin_88 ⟨Nat.le_of_ble_eq_true rfl, Nat.le_of_ble_eq_true rfl⟩ (fun r_17 w_r_17 H locs hr_17 hR => ?_)
              obtain ⟨rfl, g_many_18, g_bytes_18, g_kinds_18, g_modes_18, g_times_18, g_paths_18, g_contentAt_18, g_contents_18, g_path_18, g_content_18, rfl, hRT⟩ := hr_17
              refine lv_aload_n hx hb dX9_begin_91 rfl (lv_at hl 0 rfl) ?_
              refine lv_aload_n hx hb dX9_begin_92 rfl (lv_at hl 0 rfl) ?_
              refine lv_iconst (v := nI 3) hx hb dX9_begin_93 rfl ?_
              refine lv_iconst (v := nI 4) hx hb dX9_begin_94 rfl ?_
              refine lv_iconst (v := nI 0) hx hb dX9_begin_95 rfl ?_
              refine lv_iconst (v := (-1)) hx hb dX9_begin_96 rfl ?_
              refine pf_callV (C := RX9) (As := [.int (nI 3), .int (nI 4), .int (nI 0), .int (-1)]) (rest := [.ref x]) (m_joinB l hT (va_up (va_up Ts 3 (Ts 1)) 4 ((va_up Ts 3 (Ts 1)) 0)) 3 4 0 hRT (by decide) (by decide) (by decide)) ⟨hx, hb, hml, hown, hts⟩ (cwV 4 hts gX9_begin_X9_join rfl rfl rfl (by decide +kernel) ⟨Nat.le_of_ble_eq_true rfl, Nat.le_of_ble_eq_true rfl⟩) hK hR.1 (r_recv hK hR.1) rfl hl.1 rfl (Nat.le_of_ble_eq_true rfl) dX9_begin_97 ⟨Nat.le_of_ble_eq_true rfl, Nat.le_of_ble_eq_true rfl⟩ (fun r_19 hr_19 => ?_)
              subst hr_19
              refine rp_changes hC hR k_changes dX9_begin_100 (fun H locs hR => ?_)
              refine lv_iconst (v := nI 2) hx hb dX9_begin_103 rfl ?_
              refine lv_aload_n hx hb dX9_begin_104 rfl (lv_at hl 0 rfl) ?_
              refine rg_changes hC hR.1 k_changes dX9_begin_105 ?_
              refine nn_mul hx hb dX9_begin_108 ?_
              refine lv_iconst (v := nI 3) hx hb dX9_begin_109 rfl ?_
              refine nn_add hx hb dX9_begin_110 ?_
              rw [hQ]
              rw [bg_j] at hR ⊢
              exact rf_iret hx hb hr hlocks hR (Or.inr (Or.inr ⟨by omega, by omega, rfl, ⟨_, _, _, _, _, _, _, _, _, _, _, _, _, _, rfl, hRT, ⟨htp, htl, htb⟩, ⟨hrd, hrl, hrb⟩, hch⟩⟩)) dX9_begin_111
            · exact absurd c_14 (by omega)
          · refine lv_iconst (v := nI 1) hx hb dX9_begin_47 rfl ?_
            refine lv_goto (tgt := 52) hx hb dX9_begin_48 (by decide) ?_
            refine rp_thrown hC hR k_thrown dX9_begin_52 (fun H locs hR => ?_)
            refine lv_aload_n hx hb dX9_begin_55 rfl (lv_at hl 0 rfl) ?_
            refine rg_thrown hC hR.1 k_thrown dX9_begin_56 ?_
            refine nz_le hx hb dX9_begin_59 (tgt := 64) (by decide) (by omega) (fun c_20 => ?_) (fun c_20 => ?_)
            · exact absurd c_20 (by omega)
            · refine lv_iconst (v := nI 0) hx hb dX9_begin_62 rfl ?_
              rw [hQ]
              exact rf_iret hx hb hr hlocks hR (Or.inr (Or.inl ⟨by omega, by omega, rfl, ⟨_, _, _, _, _, _, _, _, _, _, _, _, _, _, rfl, hRT, ⟨htp, htl, htb⟩, ⟨hrd, hrl, hrb⟩, hch⟩⟩)) dX9_begin_63
    · refine lv_iconst (v := nI 2) hx hb dX9_begin_17 rfl ?_
      refine lv_goto (tgt := 52) hx hb dX9_begin_18 (by decide) ?_
      refine rp_thrown hC hR k_thrown dX9_begin_52 (fun H locs hR => ?_)
      refine lv_aload_n hx hb dX9_begin_55 rfl (lv_at hl 0 rfl) ?_
      refine rg_thrown hC hR.1 k_thrown dX9_begin_56 ?_
      refine nz_le hx hb dX9_begin_59 (tgt := 64) (by decide) (by omega) (fun c_21 => ?_) (fun c_21 => ?_)
      · exact absurd c_21 (by omega)
      · refine lv_iconst (v := nI 0) hx hb dX9_begin_62 rfl ?_
        rw [hQ]
        exact rf_iret hx hb hr hlocks hR (Or.inl ⟨by omega, rfl, ⟨_, _, _, _, _, _, _, _, _, _, _, _, _, _, rfl, hRT, ⟨htp, htl, htb⟩, ⟨hrd, hrl, hrb⟩, hch⟩⟩) dX9_begin_63
set_option maxHeartbeats 4000000 in
set_option maxRecDepth 100000 in
theorem m_mirror (l : Launch) {G : va_G} {tys : List (ClassId × FieldType)} {cI : ClassId} (hT : tys[1]? = some (cI, .int)) {A : Nat → Prop} {x : Nat} {q : Nat → Nat} {v_thrown v_taped v_state v_sessions v_begun v_isChosen v_chosenMany : Int32} {f_many f_bytes f_kinds f_modes f_times f_paths f_contentAt f_contents f_path f_content f_ready f_tape f_sessionTime f_sessionChanges f_chosen : Nat → Int32} (Ts : Nat → List En) (ops cg : Nat) (hRT : RT f_many f_bytes f_kinds f_modes f_times f_paths f_contentAt f_contents f_path f_content Ts) (ho : ops < 1000) (hcg : cg < 1000) (hlen : (Ts 3).length + (Ts 4).length ≤ 120) (hcs : csum (Ts 3) + csum (Ts 4) ≤ 8000) : rMet l yX9_mirror wsX9_mirror ({ frames := 4, cells := 0, slots := 0, locals := 103 } : Room) G tys A [.ref x] (rwx cI x q v_thrown v_taped v_state (nI ops) (nI cg) v_sessions v_begun v_isChosen v_chosenMany f_many f_bytes f_kinds f_modes f_times f_paths f_contentAt f_contents f_path f_content f_ready f_tape f_sessionTime f_sessionChanges f_chosen) (fun r w => r = none ∧ ∃ g_many g_bytes g_kinds g_modes g_times g_paths g_contentAt g_contents g_path g_content : Nat → Int32, w = rwx cI x q v_thrown v_taped v_state (nI ops) (nI cg) v_sessions v_begun v_isChosen v_chosenMany g_many g_bytes g_kinds g_modes g_times g_paths g_contentAt g_contents g_path g_content f_ready f_tape f_sessionTime f_sessionChanges f_chosen ∧ RT g_many g_bytes g_kinds g_modes g_times g_paths g_contentAt g_contents g_path g_content (va_up Ts 1 (jn (Ts 3) (Ts 4) (upds ops cg)).2)) := by
  refine Met.ofW (cc := cX9_mirror) (maxL := 1) (ret := none) (by decide) rfl ?_
  intro p e s m args below meth c s₁ B hml hv
  obtain ⟨hargs, hP, hK, hD⟩ := hv
  have hx := B.exec
  have hb := B.bytes
  have hr := B.returns
  have hts := atoms_spec (ws := wsX9_mirror) B.pre
  have hown : s.vm.findClass RX9 = some m.cls := findClass_of_methodNamed B.named
  have hlocks := B.notSynchronized
  have hR : rR G A s.heap s.heap [] (rwx cI x q v_thrown v_taped v_state (nI ops) (nI cg) v_sessions v_begun v_isChosen v_chosenMany f_many f_bytes f_kinds f_modes f_times f_paths f_contentAt f_contents f_path f_content f_ready f_tape f_sessionTime f_sessionChanges f_chosen) := ⟨hP, hD, va_S.rf⟩
  obtain ⟨Q, hQ⟩ : ∃ Q : State → Prop, Q = MQ below (rQ G A (fun r w => r = none ∧ ∃ g_many g_bytes g_kinds g_modes g_times g_paths g_contentAt g_contents g_path g_content : Nat → Int32, w = rwx cI x q v_thrown v_taped v_state (nI ops) (nI cg) v_sessions v_begun v_isChosen v_chosenMany g_many g_bytes g_kinds g_modes g_times g_paths g_contentAt g_contents g_path g_content f_ready f_tape f_sessionTime f_sessionChanges f_chosen ∧ RT g_many g_bytes g_kinds g_modes g_times g_paths g_contentAt g_contents g_path g_content (va_up Ts 1 (jn (Ts 3) (Ts 4) (upds ops cg)).2))) args s 0 0 A := ⟨_, rfl⟩
  change W p l e ({ frames := 4, cells := 0, slots := 0, locals := 103 } : Room) s m args below meth c s.heap [] 0 0 (MQ below (rQ G A (fun r w => r = none ∧ ∃ g_many g_bytes g_kinds g_modes g_times g_paths g_contentAt g_contents g_path g_content : Nat → Int32, w = rwx cI x q v_thrown v_taped v_state (nI ops) (nI cg) v_sessions v_begun v_isChosen v_chosenMany g_many g_bytes g_kinds g_modes g_times g_paths g_contentAt g_contents g_path g_content f_ready f_tape f_sessionTime f_sessionChanges f_chosen ∧ RT g_many g_bytes g_kinds g_modes g_times g_paths g_contentAt g_contents g_path g_content (va_up Ts 1 (jn (Ts 3) (Ts 4) (upds ops cg)).2))) args s 0 0 A) (entryFrame m args 1)
  rw [← hQ]
  refine nn_entry hargs (Nat.le_of_ble_eq_true rfl) (lv := [(0, .ref x)]) rfl (fun ls hl => ?_)
  refine lv_aload_n hx hb dX9_mirror_0 rfl (lv_at hl 0 rfl) ?_
  refine lv_iconst (v := nI 3) hx hb dX9_mirror_1 rfl ?_
  refine lv_iconst (v := nI 4) hx hb dX9_mirror_2 rfl ?_
  refine lv_aload_n hx hb dX9_mirror_3 rfl (lv_at hl 0 rfl) ?_
  refine pf_callV (C := RX9) (As := []) (rest := [.int (nI 4), .int (nI 3), .ref x]) (m_updates l hT ops cg ho hcg) ⟨hx, hb, hml, hown, hts⟩ (cwV 0 hts gX9_mirror_X9_updates rfl rfl rfl (by decide +kernel) ⟨Nat.le_of_ble_eq_true rfl, Nat.le_of_ble_eq_true rfl⟩) hK hR.1 (r_recv hK hR.1) rfl hl.1 rfl (Nat.le_of_ble_eq_true rfl) dX9_mirror_4 ⟨Nat.le_of_ble_eq_true rfl, Nat.le_of_ble_eq_true rfl⟩ (fun r_1 hr_1 => ?_)
  subst hr_1
  refine lv_iconst (v := nI 1) hx hb dX9_mirror_7 rfl ?_
  refine rf_callV (C := RX9) (As := [.int (nI 3), .int (nI 4), .int (nI (upds ops cg)), .int (nI 1)]) (rest := []) (m_joinA l hT Ts 3 4 (upds ops cg) 1 hRT (by decide) (by decide) (by decide) (by decide) (by decide) hlen hcs (by have := upds_le ops cg; omega)) ⟨hx, hb, hml, hown, hts⟩ (cwV 4 hts gX9_mirror_X9_join rfl rfl rfl (by decide +kernel) ⟨Nat.le_of_ble_eq_true rfl, Nat.le_of_ble_eq_true rfl⟩) hK hR (r_recv hK hR.1) rfl hl.1 rfl (Nat.le_of_ble_eq_true rfl) dX9_mirror_8 ⟨Nat.le_of_ble_eq_true rfl, Nat.le_of_ble_eq_true rfl⟩ (fun r_2 w_r_2 H locs hr_2 hR => ?_)
  obtain ⟨rfl, g_many_3, g_bytes_3, g_kinds_3, g_modes_3, g_times_3, g_paths_3, g_contentAt_3, g_contents_3, g_path_3, g_content_3, rfl, hRT⟩ := hr_2
  refine lv_pop hx hb dX9_mirror_11 rfl ?_
  rw [hQ]
  exact rf_vret hx hb hr hlocks hR ⟨rfl, _, _, _, _, _, _, _, _, _, _, rfl, hRT⟩ dX9_mirror_12
