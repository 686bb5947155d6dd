set_option maxHeartbeats 4000000 in
set_option maxRecDepth 100000 in
theorem F_make (l : Launch) {G : va_G} {tys : List (ClassId × FieldType)} {cI : ClassId} (hT : tys[1]? = some (cI, .int)) {A : Nat → Prop} {x : Nat} {q : Nat → Nat} {w : va_W} {th : Int32} {Ts : Nat → List En} {tp rd : List Nat} {cs : Bool} {cp : List Nat} {st ops cg ns : Nat} {bg : Int32} {sT sC : Nat → Int32} (hW : RW cI x q w th Ts tp rd cs cp st ops cg ns bg sT sC) (kd md tm : Int32) (hst : st ≤ 2) (hsl : (Ts 0).length ≤ 60) : rMet l yX9_make wsX9_make ({ frames := 4, cells := 0, slots := 0, locals := 97 } : Room) G tys A [.ref x, .int kd, .int md, .int tm] w (fun r w => (st = 1 ∧ r = some (.int (nI 0)) ∧ RW cI x q w (nI 2) Ts tp rd cs cp st ops cg ns bg sT sC) ∨ (st ≠ 1 ∧ ¬ (1 ≤ kd.toInt ∧ kd.toInt ≤ 3 ∧ 0 ≤ md.toInt ∧ md.toInt < 4096 ∧ 0 ≤ tm.toInt ∧ pathOK tp = true) ∧ r = some (.int (nI 0)) ∧ RW cI x q w (nI 1) Ts ([]) rd cs cp st ops cg ns bg sT sC) ∨ (st ≠ 1 ∧ (1 ≤ kd.toInt ∧ kd.toInt ≤ 3 ∧ 0 ≤ md.toInt ∧ md.toInt < 4096 ∧ 0 ≤ tm.toInt ∧ pathOK tp = true) ∧ (0 ≤ (fndr (Ts 0) tp (Ts 0).length).toInt ∨ dirOK (Ts 0) tp = false ∨ (Ts 0).length = 60) ∧ r = some (.int (nI 0)) ∧ RW cI x q w (nI 2) Ts ([]) rd cs cp st ops cg ns bg sT sC) ∨ (st ≠ 1 ∧ (1 ≤ kd.toInt ∧ kd.toInt ≤ 3 ∧ 0 ≤ md.toInt ∧ md.toInt < 4096 ∧ 0 ≤ tm.toInt ∧ pathOK tp = true) ∧ ¬ (0 ≤ (fndr (Ts 0) tp (Ts 0).length).toInt ∨ dirOK (Ts 0) tp = false ∨ (Ts 0).length = 60) ∧ r = some (.int (nI ((Ts 0).take (insI tp (Ts 0)) ++ [(tp, kd, md, tm, [])] ++ (Ts 0).drop (insI tp (Ts 0))).length)) ∧ RW cI x q w (nI 0) (va_up (va_up Ts 5 ((Ts 0).take (insI tp (Ts 0)) ++ [(tp, kd, md, tm, [])] ++ (Ts 0).drop (insI tp (Ts 0)))) 0 ((Ts 0).take (insI tp (Ts 0)) ++ [(tp, kd, md, tm, [])] ++ (Ts 0).drop (insI tp (Ts 0)))) ([]) rd true tp st ops cg ns bg sT sC)) := by
  obtain ⟨cm, f_many, f_bytes, f_kinds, f_modes, f_times, f_paths, f_contentAt, f_contents, f_path, f_content, f_ready, f_tape, f_chosen, rfl, hRT, ⟨htp, htl, htb⟩, ⟨hrd, hrl, hrb⟩, hch⟩ := hW
  refine Met.ofW (cc := cX9_make) (maxL := 9) (ret := (some .int)) (by decide) rfl ?_
  intro p e s m args below meth c s₁ B hml hv
  obtain ⟨hargs, hP, hK, hD⟩ := hv
  have hx := B.exec
  have hb := B.bytes
  have hr := B.returns
  have hts := atoms_spec (ws := wsX9_make) B.pre
  have hown : s.vm.findClass RX9 = some m.cls := findClass_of_methodNamed B.named
  have hlocks := B.notSynchronized
  have hC : rC p s m args c cX9_make G tys cI wsX9_make := ⟨hx, hb, hts, (by decide +kernel), hown, hK, hT⟩
  have k_bytes := hts (.fieldLink RX9 13 "MirrorKeepModel" "bytes" "[I") (by decide +kernel)
  have k_contentAt := hts (.fieldLink RX9 28 "MirrorKeepModel" "contentAt" "[I") (by decide +kernel)
  have k_contents := hts (.fieldLink RX9 31 "MirrorKeepModel" "contents" "[I") (by decide +kernel)
  have k_kinds := hts (.fieldLink RX9 16 "MirrorKeepModel" "kinds" "[I") (by decide +kernel)
  have k_many := hts (.fieldLink RX9 7 "MirrorKeepModel" "many" "[I") (by decide +kernel)
  have k_modes := hts (.fieldLink RX9 19 "MirrorKeepModel" "modes" "[I") (by decide +kernel)
  have k_path := hts (.fieldLink RX9 35 "MirrorKeepModel" "path" "[I") (by decide +kernel)
  have k_paths := hts (.fieldLink RX9 25 "MirrorKeepModel" "paths" "[I") (by decide +kernel)
  have k_state := hts (.fieldLink RX9 107 "MirrorKeepModel" "state" "I") (by decide +kernel)
  have k_tape := hts (.fieldLink RX9 45 "MirrorKeepModel" "tape" "[I") (by decide +kernel)
  have k_taped := hts (.fieldLink RX9 61 "MirrorKeepModel" "taped" "I") (by decide +kernel)
  have k_thrown := hts (.fieldLink RX9 57 "MirrorKeepModel" "thrown" "I") (by decide +kernel)
  have k_times := hts (.fieldLink RX9 22 "MirrorKeepModel" "times" "[I") (by decide +kernel)
  have hR : rR G A s.heap s.heap [] (rwx cI x q th (nI tp.length) (nI st) (nI ops) (nI cg) (nI ns) bg (bI cs) cm f_many f_bytes f_kinds f_modes f_times f_paths f_contentAt f_contents f_path f_content f_ready f_tape sT sC f_chosen) := ⟨hP, hD, va_S.rf⟩
  obtain ⟨Q, hQ⟩ : ∃ Q : State → Prop, Q = MQ below (rQ G A (fun r w => (st = 1 ∧ r = some (.int (nI 0)) ∧ RW cI x q w (nI 2) Ts tp rd cs cp st ops cg ns bg sT sC) ∨ (st ≠ 1 ∧ ¬ (1 ≤ kd.toInt ∧ kd.toInt ≤ 3 ∧ 0 ≤ md.toInt ∧ md.toInt < 4096 ∧ 0 ≤ tm.toInt ∧ pathOK tp = true) ∧ r = some (.int (nI 0)) ∧ RW cI x q w (nI 1) Ts ([]) rd cs cp st ops cg ns bg sT sC) ∨ (st ≠ 1 ∧ (1 ≤ kd.toInt ∧ kd.toInt ≤ 3 ∧ 0 ≤ md.toInt ∧ md.toInt < 4096 ∧ 0 ≤ tm.toInt ∧ pathOK tp = true) ∧ (0 ≤ (fndr (Ts 0) tp (Ts 0).length).toInt ∨ dirOK (Ts 0) tp = false ∨ (Ts 0).length = 60) ∧ r = some (.int (nI 0)) ∧ RW cI x q w (nI 2) Ts ([]) rd cs cp st ops cg ns bg sT sC) ∨ (st ≠ 1 ∧ (1 ≤ kd.toInt ∧ kd.toInt ≤ 3 ∧ 0 ≤ md.toInt ∧ md.toInt < 4096 ∧ 0 ≤ tm.toInt ∧ pathOK tp = true) ∧ ¬ (0 ≤ (fndr (Ts 0) tp (Ts 0).length).toInt ∨ dirOK (Ts 0) tp = false ∨ (Ts 0).length = 60) ∧ r = some (.int (nI ((Ts 0).take (insI tp (Ts 0)) ++ [(tp, kd, md, tm, [])] ++ (Ts 0).drop (insI tp (Ts 0))).length)) ∧ RW cI x q w (nI 0) (va_up (va_up Ts 5 ((Ts 0).take (insI tp (Ts 0)) ++ [(tp, kd, md, tm, [])] ++ (Ts 0).drop (insI tp (Ts 0)))) 0 ((Ts 0).take (insI tp (Ts 0)) ++ [(tp, kd, md, tm, [])] ++ (Ts 0).drop (insI tp (Ts 0)))) ([]) rd true tp st ops cg ns bg sT sC))) args s 0 0 A := ⟨_, rfl⟩
  change W p l e ({ frames := 4, cells := 0, slots := 0, locals := 97 } : Room) s m args below meth c s.heap [] 0 0 (MQ below (rQ G A (fun r w => (st = 1 ∧ r = some (.int (nI 0)) ∧ RW cI x q w (nI 2) Ts tp rd cs cp st ops cg ns bg sT sC) ∨ (st ≠ 1 ∧ ¬ (1 ≤ kd.toInt ∧ kd.toInt ≤ 3 ∧ 0 ≤ md.toInt ∧ md.toInt < 4096 ∧ 0 ≤ tm.toInt ∧ pathOK tp = true) ∧ r = some (.int (nI 0)) ∧ RW cI x q w (nI 1) Ts ([]) rd cs cp st ops cg ns bg sT sC) ∨ (st ≠ 1 ∧ (1 ≤ kd.toInt ∧ kd.toInt ≤ 3 ∧ 0 ≤ md.toInt ∧ md.toInt < 4096 ∧ 0 ≤ tm.toInt ∧ pathOK tp = true) ∧ (0 ≤ (fndr (Ts 0) tp (Ts 0).length).toInt ∨ dirOK (Ts 0) tp = false ∨ (Ts 0).length = 60) ∧ r = some (.int (nI 0)) ∧ RW cI x q w (nI 2) Ts ([]) rd cs cp st ops cg ns bg sT sC) ∨ (st ≠ 1 ∧ (1 ≤ kd.toInt ∧ kd.toInt ≤ 3 ∧ 0 ≤ md.toInt ∧ md.toInt < 4096 ∧ 0 ≤ tm.toInt ∧ pathOK tp = true) ∧ ¬ (0 ≤ (fndr (Ts 0) tp (Ts 0).length).toInt ∨ dirOK (Ts 0) tp = false ∨ (Ts 0).length = 60) ∧ r = some (.int (nI ((Ts 0).take (insI tp (Ts 0)) ++ [(tp, kd, md, tm, [])] ++ (Ts 0).drop (insI tp (Ts 0))).length)) ∧ RW cI x q w (nI 0) (va_up (va_up Ts 5 ((Ts 0).take (insI tp (Ts 0)) ++ [(tp, kd, md, tm, [])] ++ (Ts 0).drop (insI tp (Ts 0)))) 0 ((Ts 0).take (insI tp (Ts 0)) ++ [(tp, kd, md, tm, [])] ++ (Ts 0).drop (insI tp (Ts 0)))) ([]) rd true tp st ops cg ns bg sT sC))) args s 0 0 A) (entryFrame m args 9)
  rw [← hQ]
  refine nn_entry hargs (Nat.le_of_ble_eq_true rfl) (lv := [(0, .ref x), (1, .int kd), (2, .int md), (3, .int tm)]) rfl (fun ls hl => ?_)
  obtain ⟨a1, a2, a3, a4, a5⟩ := hRT 0 (by decide)
  refine lv_aload_n hx hb dX9_make_0 rfl (lv_at hl 0 rfl) ?_
  refine lv_aload_n hx hb dX9_make_1 rfl (lv_at hl 0 rfl) ?_
  refine rg_state hC hR.1 k_state dX9_make_2 ?_
  refine lv_iconst (v := nI 1) hx hb dX9_make_5 rfl ?_
  refine nn_ne hx hb dX9_make_6 (tgt := 13) (by decide) (by omega) (by omega) (fun c_1 => ?_) (fun c_1 => ?_)
  · refine lv_iconst (v := nI 0) hx hb dX9_make_13 rfl ?_
    refine rp_thrown hC hR k_thrown dX9_make_14 (fun H locs hR => ?_)
    refine lv_aload_n hx hb dX9_make_17 rfl (lv_at hl 0 rfl) ?_
    refine rg_thrown hC hR.1 k_thrown dX9_make_18 ?_
    refine nz_le hx hb dX9_make_21 (tgt := 26) (by decide) (by omega) (fun c_2 => ?_) (fun c_2 => ?_)
    · refine lv_aload_n hx hb dX9_make_26 rfl (lv_at hl 0 rfl) ?_
      refine rg_taped hC hR.1 k_taped dX9_make_27 ?_
      refine lv_istore (lv' := [(4, .int (nI tp.length)), (0, .ref x), (1, .int kd), (2, .int md), (3, .int tm)]) hx hb dX9_make_30 hl (by decide) rfl (fun ls hl => ?_)
      refine lv_aload_n hx hb dX9_make_32 rfl (lv_at hl 1 rfl) ?_
      refine lv_iconst (v := nI 0) hx hb dX9_make_33 rfl ?_
      refine rp_taped hC hR k_taped dX9_make_34 (fun H locs hR => ?_)
      refine lv_iload_n hx hb dX9_make_37 rfl (lv_at hl 2 rfl) ?_
      refine lv_iconst (v := nI 1) hx hb dX9_make_38 rfl ?_
      refine zc_lt hx hb rfl (nI_toInt (by omega)) dX9_make_39 (tgt := 75) (by decide) (fun c_3 => ?_) (fun c_3 => ?_)
      · refine lv_iconst (v := bI false) hx hb dX9_make_75 rfl ?_
        refine lv_istore (lv' := [(5, .int (bI false)), (4, .int (nI tp.length)), (0, .ref x), (1, .int kd), (2, .int md), (3, .int tm)]) hx hb dX9_make_76 hl (by decide) rfl (fun ls hl => ?_)
        refine lv_aload_n hx hb dX9_make_78 rfl (lv_at hl 2 rfl) ?_
        refine lv_iload hx hb dX9_make_79 (lv_at hl 0 rfl) ?_
        refine nb_ifne hx hb dX9_make_81 (tgt := 88) (by decide) (fun c_4 => ?_) (fun c_4 => ?_)
        · cases c_4
        · refine lv_iconst (v := nI 1) hx hb dX9_make_84 rfl ?_
          refine lv_goto (tgt := 127) hx hb dX9_make_85 (by decide) ?_
          refine rp_thrown hC hR k_thrown dX9_make_127 (fun H locs hR => ?_)
          refine lv_aload_n hx hb dX9_make_130 rfl (lv_at hl 2 rfl) ?_
          refine rg_thrown hC hR.1 k_thrown dX9_make_131 ?_
          refine nz_le hx hb dX9_make_134 (tgt := 139) (by decide) (by omega) (fun c_5 => ?_) (fun c_5 => ?_)
          · exact absurd c_5 (by omega)
          · refine lv_iconst (v := nI 0) hx hb dX9_make_137 rfl ?_
            rw [hQ]
            exact rf_iret hx hb hr hlocks hR (Or.inr (Or.inl ⟨by omega, by first | (intro h9; omega) | (intro h9; rw [h9.2.2.2.2.2] at *; contradiction) | simp [*], rfl, ⟨_, _, _, _, _, _, _, _, _, _, _, _, _, _, rfl, hRT, ⟨en_nil _ _, by decide, fun b h => by cases h⟩, ⟨hrd, hrl, hrb⟩, hch⟩⟩)) dX9_make_138
      · refine lv_iload_n hx hb dX9_make_42 rfl (lv_at hl 2 rfl) ?_
        refine lv_iconst (v := nI 3) hx hb dX9_make_43 rfl ?_
        refine zc_gt hx hb rfl (nI_toInt (by omega)) dX9_make_44 (tgt := 75) (by decide) (fun c_6 => ?_) (fun c_6 => ?_)
        · refine lv_iconst (v := bI false) hx hb dX9_make_75 rfl ?_
          refine lv_istore (lv' := [(5, .int (bI false)), (4, .int (nI tp.length)), (0, .ref x), (1, .int kd), (2, .int md), (3, .int tm)]) hx hb dX9_make_76 hl (by decide) rfl (fun ls hl => ?_)
          refine lv_aload_n hx hb dX9_make_78 rfl (lv_at hl 2 rfl) ?_
          refine lv_iload hx hb dX9_make_79 (lv_at hl 0 rfl) ?_
          refine nb_ifne hx hb dX9_make_81 (tgt := 88) (by decide) (fun c_7 => ?_) (fun c_7 => ?_)
          · cases c_7
          · refine lv_iconst (v := nI 1) hx hb dX9_make_84 rfl ?_
            refine lv_goto (tgt := 127) hx hb dX9_make_85 (by decide) ?_
            refine rp_thrown hC hR k_thrown dX9_make_127 (fun H locs hR => ?_)
            refine lv_aload_n hx hb dX9_make_130 rfl (lv_at hl 2 rfl) ?_
            refine rg_thrown hC hR.1 k_thrown dX9_make_131 ?_
            refine nz_le hx hb dX9_make_134 (tgt := 139) (by decide) (by omega) (fun c_8 => ?_) (fun c_8 => ?_)
            · exact absurd c_8 (by omega)
            · refine lv_iconst (v := nI 0) hx hb dX9_make_137 rfl ?_
              rw [hQ]
              exact rf_iret hx hb hr hlocks hR (Or.inr (Or.inl ⟨by omega, by first | (intro h9; omega) | (intro h9; rw [h9.2.2.2.2.2] at *; contradiction) | simp [*], rfl, ⟨_, _, _, _, _, _, _, _, _, _, _, _, _, _, rfl, hRT, ⟨en_nil _ _, by decide, fun b h => by cases h⟩, ⟨hrd, hrl, hrb⟩, hch⟩⟩)) dX9_make_138
        · refine lv_iload_n hx hb dX9_make_47 rfl (lv_at hl 3 rfl) ?_
          refine zi_lt hx hb rfl dX9_make_48 (tgt := 75) (by decide) (fun c_9 => ?_) (fun c_9 => ?_)
          · refine lv_iconst (v := bI false) hx hb dX9_make_75 rfl ?_
            refine lv_istore (lv' := [(5, .int (bI false)), (4, .int (nI tp.length)), (0, .ref x), (1, .int kd), (2, .int md), (3, .int tm)]) hx hb dX9_make_76 hl (by decide) rfl (fun ls hl => ?_)
            refine lv_aload_n hx hb dX9_make_78 rfl (lv_at hl 2 rfl) ?_
            refine lv_iload hx hb dX9_make_79 (lv_at hl 0 rfl) ?_
            refine nb_ifne hx hb dX9_make_81 (tgt := 88) (by decide) (fun c_10 => ?_) (fun c_10 => ?_)
            · cases c_10
            · refine lv_iconst (v := nI 1) hx hb dX9_make_84 rfl ?_
              refine lv_goto (tgt := 127) hx hb dX9_make_85 (by decide) ?_
              refine rp_thrown hC hR k_thrown dX9_make_127 (fun H locs hR => ?_)
              refine lv_aload_n hx hb dX9_make_130 rfl (lv_at hl 2 rfl) ?_
              refine rg_thrown hC hR.1 k_thrown dX9_make_131 ?_
              refine nz_le hx hb dX9_make_134 (tgt := 139) (by decide) (by omega) (fun c_11 => ?_) (fun c_11 => ?_)
              · exact absurd c_11 (by omega)
              · refine lv_iconst (v := nI 0) hx hb dX9_make_137 rfl ?_
                rw [hQ]
                exact rf_iret hx hb hr hlocks hR (Or.inr (Or.inl ⟨by omega, by first | (intro h9; omega) | (intro h9; rw [h9.2.2.2.2.2] at *; contradiction) | simp [*], rfl, ⟨_, _, _, _, _, _, _, _, _, _, _, _, _, _, rfl, hRT, ⟨en_nil _ _, by decide, fun b h => by cases h⟩, ⟨hrd, hrl, hrb⟩, hch⟩⟩)) dX9_make_138
          · refine lv_iload_n hx hb dX9_make_51 rfl (lv_at hl 3 rfl) ?_
            refine lv_sipush (v := nI 4096) hx hb dX9_make_52 (by decide) ?_
            refine zc_ge hx hb rfl (nI_toInt (by omega)) dX9_make_55 (tgt := 75) (by decide) (fun c_12 => ?_) (fun c_12 => ?_)
            · refine lv_iconst (v := bI false) hx hb dX9_make_75 rfl ?_
              refine lv_istore (lv' := [(5, .int (bI false)), (4, .int (nI tp.length)), (0, .ref x), (1, .int kd), (2, .int md), (3, .int tm)]) hx hb dX9_make_76 hl (by decide) rfl (fun ls hl => ?_)
              refine lv_aload_n hx hb dX9_make_78 rfl (lv_at hl 2 rfl) ?_
              refine lv_iload hx hb dX9_make_79 (lv_at hl 0 rfl) ?_
              refine nb_ifne hx hb dX9_make_81 (tgt := 88) (by decide) (fun c_13 => ?_) (fun c_13 => ?_)
              · cases c_13
              · refine lv_iconst (v := nI 1) hx hb dX9_make_84 rfl ?_
                refine lv_goto (tgt := 127) hx hb dX9_make_85 (by decide) ?_
                refine rp_thrown hC hR k_thrown dX9_make_127 (fun H locs hR => ?_)
                refine lv_aload_n hx hb dX9_make_130 rfl (lv_at hl 2 rfl) ?_
                refine rg_thrown hC hR.1 k_thrown dX9_make_131 ?_
                refine nz_le hx hb dX9_make_134 (tgt := 139) (by decide) (by omega) (fun c_14 => ?_) (fun c_14 => ?_)
                · exact absurd c_14 (by omega)
                · refine lv_iconst (v := nI 0) hx hb dX9_make_137 rfl ?_
                  rw [hQ]
                  exact rf_iret hx hb hr hlocks hR (Or.inr (Or.inl ⟨by omega, by first | (intro h9; omega) | (intro h9; rw [h9.2.2.2.2.2] at *; contradiction) | simp [*], rfl, ⟨_, _, _, _, _, _, _, _, _, _, _, _, _, _, rfl, hRT, ⟨en_nil _ _, by decide, fun b h => by cases h⟩, ⟨hrd, hrl, hrb⟩, hch⟩⟩)) dX9_make_138
            · refine lv_iload_n hx hb dX9_make_58 rfl (lv_at hl 4 rfl) ?_
              refine zi_lt hx hb rfl dX9_make_59 (tgt := 75) (by decide) (fun c_15 => ?_) (fun c_15 => ?_)
              · refine lv_iconst (v := bI false) hx hb dX9_make_75 rfl ?_
                refine lv_istore (lv' := [(5, .int (bI false)), (4, .int (nI tp.length)), (0, .ref x), (1, .int kd), (2, .int md), (3, .int tm)]) hx hb dX9_make_76 hl (by decide) rfl (fun ls hl => ?_)
                refine lv_aload_n hx hb dX9_make_78 rfl (lv_at hl 2 rfl) ?_
                refine lv_iload hx hb dX9_make_79 (lv_at hl 0 rfl) ?_
                refine nb_ifne hx hb dX9_make_81 (tgt := 88) (by decide) (fun c_16 => ?_) (fun c_16 => ?_)
                · cases c_16
                · refine lv_iconst (v := nI 1) hx hb dX9_make_84 rfl ?_
                  refine lv_goto (tgt := 127) hx hb dX9_make_85 (by decide) ?_
                  refine rp_thrown hC hR k_thrown dX9_make_127 (fun H locs hR => ?_)
                  refine lv_aload_n hx hb dX9_make_130 rfl (lv_at hl 2 rfl) ?_
                  refine rg_thrown hC hR.1 k_thrown dX9_make_131 ?_
                  refine nz_le hx hb dX9_make_134 (tgt := 139) (by decide) (by omega) (fun c_17 => ?_) (fun c_17 => ?_)
                  · exact absurd c_17 (by omega)
                  · refine lv_iconst (v := nI 0) hx hb dX9_make_137 rfl ?_
                    rw [hQ]
                    exact rf_iret hx hb hr hlocks hR (Or.inr (Or.inl ⟨by omega, by first | (intro h9; omega) | (intro h9; rw [h9.2.2.2.2.2] at *; contradiction) | simp [*], rfl, ⟨_, _, _, _, _, _, _, _, _, _, _, _, _, _, rfl, hRT, ⟨en_nil _ _, by decide, fun b h => by cases h⟩, ⟨hrd, hrl, hrb⟩, hch⟩⟩)) dX9_make_138
              · refine lv_aload_n hx hb dX9_make_62 rfl (lv_at hl 1 rfl) ?_
                refine lv_iload hx hb dX9_make_63 (lv_at hl 0 rfl) ?_
                refine pf_callV (C := RX9) (As := [.int (nI tp.length)]) (rest := []) (m_isPath l hT tp htp htl htb) ⟨hx, hb, hml, hown, hts⟩ (cwV 1 hts gX9_make_X9_isPath rfl rfl rfl (by decide +kernel) ⟨Nat.le_of_ble_eq_true rfl, Nat.le_of_ble_eq_true rfl⟩) hK hR.1 (r_recv hK hR.1) rfl hl.1 rfl (Nat.le_of_ble_eq_true rfl) dX9_make_65 ⟨Nat.le_of_ble_eq_true rfl, Nat.le_of_ble_eq_true rfl⟩ (fun r_18 hr_18 => ?_)
                subst hr_18
                refine nb_ifeq hx hb dX9_make_68 (tgt := 75) (by decide) (fun c_19 => ?_) (fun c_19 => ?_)
                · refine lv_iconst (v := bI false) hx hb dX9_make_75 rfl ?_
                  refine lv_istore (lv' := [(5, .int (bI false)), (4, .int (nI tp.length)), (0, .ref x), (1, .int kd), (2, .int md), (3, .int tm)]) hx hb dX9_make_76 hl (by decide) rfl (fun ls hl => ?_)
                  refine lv_aload_n hx hb dX9_make_78 rfl (lv_at hl 2 rfl) ?_
                  refine lv_iload hx hb dX9_make_79 (lv_at hl 0 rfl) ?_
                  refine nb_ifne hx hb dX9_make_81 (tgt := 88) (by decide) (fun c_20 => ?_) (fun c_20 => ?_)
                  · cases c_20
                  · refine lv_iconst (v := nI 1) hx hb dX9_make_84 rfl ?_
                    refine lv_goto (tgt := 127) hx hb dX9_make_85 (by decide) ?_
                    refine rp_thrown hC hR k_thrown dX9_make_127 (fun H locs hR => ?_)
                    refine lv_aload_n hx hb dX9_make_130 rfl (lv_at hl 2 rfl) ?_
                    refine rg_thrown hC hR.1 k_thrown dX9_make_131 ?_
                    refine nz_le hx hb dX9_make_134 (tgt := 139) (by decide) (by omega) (fun c_21 => ?_) (fun c_21 => ?_)
                    · exact absurd c_21 (by omega)
                    · refine lv_iconst (v := nI 0) hx hb dX9_make_137 rfl ?_
                      rw [hQ]
                      exact rf_iret hx hb hr hlocks hR (Or.inr (Or.inl ⟨by omega, by first | (intro h9; omega) | (intro h9; rw [h9.2.2.2.2.2] at *; contradiction) | simp [*], rfl, ⟨_, _, _, _, _, _, _, _, _, _, _, _, _, _, rfl, hRT, ⟨en_nil _ _, by decide, fun b h => by cases h⟩, ⟨hrd, hrl, hrb⟩, hch⟩⟩)) dX9_make_138
                · refine lv_iconst (v := bI true) hx hb dX9_make_71 rfl ?_
                  refine lv_goto (tgt := 76) hx hb dX9_make_72 (by decide) ?_
                  refine lv_istore (lv' := [(5, .int (bI true)), (4, .int (nI tp.length)), (0, .ref x), (1, .int kd), (2, .int md), (3, .int tm)]) hx hb dX9_make_76 hl (by decide) rfl (fun ls hl => ?_)
                  refine lv_aload_n hx hb dX9_make_78 rfl (lv_at hl 2 rfl) ?_
                  refine lv_iload hx hb dX9_make_79 (lv_at hl 0 rfl) ?_
                  refine nb_ifne hx hb dX9_make_81 (tgt := 88) (by decide) (fun c_22 => ?_) (fun c_22 => ?_)
                  · have hpl := pathOK_len (P := tp) (by assumption)
                    refine lv_aload_n hx hb dX9_make_88 rfl (lv_at hl 2 rfl) ?_
                    refine lv_iconst (v := nI 0) hx hb dX9_make_89 rfl ?_
                    refine lv_aload_n hx hb dX9_make_90 rfl (lv_at hl 2 rfl) ?_
                    refine rg_tape hC hR.1 k_tape dX9_make_91 ?_
                    refine lv_iload hx hb dX9_make_94 (lv_at hl 1 rfl) ?_
                    refine pf_callV (C := RX9) (As := [.int (nI 0), .ref (q 11), .int (nI tp.length)]) (rest := [.ref x]) (m_find l hT Ts 0 hRT (by decide) (k2 := 12) rfl (by decide) tp htp htl htb) ⟨hx, hb, hml, hown, hts⟩ (cwV 3 hts gX9_make_X9_find rfl rfl rfl (by decide +kernel) ⟨Nat.le_of_ble_eq_true rfl, Nat.le_of_ble_eq_true rfl⟩) hK hR.1 (r_recv hK hR.1) rfl hl.1 rfl (Nat.le_of_ble_eq_true rfl) dX9_make_96 ⟨Nat.le_of_ble_eq_true rfl, Nat.le_of_ble_eq_true rfl⟩ (fun r_23 hr_23 => ?_)
                    subst hr_23
                    refine zi_ge hx hb rfl dX9_make_99 (tgt := 122) (by decide) (fun c_24 => ?_) (fun c_24 => ?_)
                    · refine lv_iconst (v := nI 2) hx hb dX9_make_122 rfl ?_
                      refine lv_goto (tgt := 127) hx hb dX9_make_123 (by decide) ?_
                      refine rp_thrown hC hR k_thrown dX9_make_127 (fun H locs hR => ?_)
                      refine lv_aload_n hx hb dX9_make_130 rfl (lv_at hl 2 rfl) ?_
                      refine rg_thrown hC hR.1 k_thrown dX9_make_131 ?_
                      refine nz_le hx hb dX9_make_134 (tgt := 139) (by decide) (by omega) (fun c_25 => ?_) (fun c_25 => ?_)
                      · exact absurd c_25 (by omega)
                      · refine lv_iconst (v := nI 0) hx hb dX9_make_137 rfl ?_
                        rw [hQ]
                        exact rf_iret hx hb hr hlocks hR (Or.inr (Or.inr (Or.inl ⟨by omega, ⟨by omega, by omega, by omega, by omega, by omega, by assumption⟩, by first | exact Or.inl (by omega) | exact Or.inr (Or.inl (by assumption)) | exact Or.inr (Or.inr (by omega)), rfl, ⟨_, _, _, _, _, _, _, _, _, _, _, _, _, _, rfl, hRT, ⟨en_nil _ _, by decide, fun b h => by cases h⟩, ⟨hrd, hrl, hrb⟩, hch⟩⟩))) dX9_make_138
                    · refine lv_aload_n hx hb dX9_make_102 rfl (lv_at hl 2 rfl) ?_
                      refine lv_iload hx hb dX9_make_103 (lv_at hl 1 rfl) ?_
                      refine pf_callV (C := RX9) (As := [.int (nI tp.length)]) (rest := [.ref x]) (m_hasDirectory l hT Ts hRT tp htp htl htb (by omega)) ⟨hx, hb, hml, hown, hts⟩ (cwV 1 hts gX9_make_X9_hasDirectory rfl rfl rfl (by decide +kernel) ⟨Nat.le_of_ble_eq_true rfl, Nat.le_of_ble_eq_true rfl⟩) hK hR.1 (r_recv hK hR.1) rfl hl.1 rfl (Nat.le_of_ble_eq_true rfl) dX9_make_105 ⟨Nat.le_of_ble_eq_true rfl, Nat.le_of_ble_eq_true rfl⟩ (fun r_26 hr_26 => ?_)
                      subst hr_26
                      refine nb_ifeq hx hb dX9_make_108 (tgt := 122) (by decide) (fun c_27 => ?_) (fun c_27 => ?_)
                      · refine lv_iconst (v := nI 2) hx hb dX9_make_122 rfl ?_
                        refine lv_goto (tgt := 127) hx hb dX9_make_123 (by decide) ?_
                        refine rp_thrown hC hR k_thrown dX9_make_127 (fun H locs hR => ?_)
                        refine lv_aload_n hx hb dX9_make_130 rfl (lv_at hl 2 rfl) ?_
                        refine rg_thrown hC hR.1 k_thrown dX9_make_131 ?_
                        refine nz_le hx hb dX9_make_134 (tgt := 139) (by decide) (by omega) (fun c_28 => ?_) (fun c_28 => ?_)
                        · exact absurd c_28 (by omega)
                        · refine lv_iconst (v := nI 0) hx hb dX9_make_137 rfl ?_
                          rw [hQ]
                          exact rf_iret hx hb hr hlocks hR (Or.inr (Or.inr (Or.inl ⟨by omega, ⟨by omega, by omega, by omega, by omega, by omega, by assumption⟩, by first | exact Or.inl (by omega) | exact Or.inr (Or.inl (by assumption)) | exact Or.inr (Or.inr (by omega)), rfl, ⟨_, _, _, _, _, _, _, _, _, _, _, _, _, _, rfl, hRT, ⟨en_nil _ _, by decide, fun b h => by cases h⟩, ⟨hrd, hrl, hrb⟩, hch⟩⟩))) dX9_make_138
                      · refine lv_aload_n hx hb dX9_make_111 rfl (lv_at hl 2 rfl) ?_
                        refine rg_many hC hR.1 k_many dX9_make_112 ?_
                        refine lv_iconst (v := nI 0) hx hb dX9_make_115 rfl ?_
                        refine rl_many hC hR.1 (by omega) dX9_make_116 ?_
                        refine nn_eqi (y := nI ((Ts 0).length)) a1 ?_
                        refine lv_bipush (v := nI 60) hx hb dX9_make_117 (by decide) ?_
                        refine nn_ne hx hb dX9_make_119 (tgt := 126) (by decide) (by omega) (by omega) (fun c_29 => ?_) (fun c_29 => ?_)
                        · refine lv_iconst (v := nI 0) hx hb dX9_make_126 rfl ?_
                          refine rp_thrown hC hR k_thrown dX9_make_127 (fun H locs hR => ?_)
                          refine lv_aload_n hx hb dX9_make_130 rfl (lv_at hl 2 rfl) ?_
                          refine rg_thrown hC hR.1 k_thrown dX9_make_131 ?_
                          refine nz_le hx hb dX9_make_134 (tgt := 139) (by decide) (by omega) (fun c_30 => ?_) (fun c_30 => ?_)
                          · have hlc : tp.length ≤ 150 := by omega
                            refine lv_aload_n hx hb dX9_make_139 rfl (lv_at hl 2 rfl) ?_
                            refine lv_iconst (v := nI 5) hx hb dX9_make_140 rfl ?_
                            refine rf_callV (C := RX9) (As := [.int (nI 5)]) (rest := []) (m_empty l hT Ts 5 (by decide) hRT) ⟨hx, hb, hml, hown, hts⟩ (cwV 1 hts gX9_make_X9_empty rfl rfl rfl (by decide +kernel) ⟨Nat.le_of_ble_eq_true rfl, Nat.le_of_ble_eq_true rfl⟩) hK hR (r_recv hK hR.1) rfl hl.1 rfl (Nat.le_of_ble_eq_true rfl) dX9_make_141 ⟨Nat.le_of_ble_eq_true rfl, Nat.le_of_ble_eq_true rfl⟩ (fun r_31 w_r_31 H locs hr_31 hR => ?_)
                            obtain ⟨rfl, g_many_32, g_bytes_32, g_kinds_32, g_modes_32, g_times_32, g_paths_32, g_contentAt_32, g_contents_32, g_path_32, g_content_32, rfl, hRT⟩ := hr_31
                            refine lv_iconst (v := nI 0) hx hb dX9_make_144 rfl ?_
                            refine lv_istore (lv' := [(6, .int (nI 0)), (5, .int (bI true)), (4, .int (nI tp.length)), (0, .ref x), (1, .int kd), (2, .int md), (3, .int tm)]) hx hb dX9_make_145 hl (by decide) rfl (fun ls hl => ?_)
                            have lp_147 : ∀ (n_147 : Nat) (i : Nat) (a_many : Nat → Int32) (a_bytes : Nat → Int32) (a_kinds : Nat → Int32) (a_modes : Nat → Int32) (a_times : Nat → Int32) (a_paths : Nat → Int32) (a_contentAt : Nat → Int32) (a_contents : Nat → Int32) (a_path : Nat → Int32) (a_content : Nat → Int32) (H : Heap) (locs : List Loc) (ls : Array Slot), ((Ts 0).length - i) < n_147 → (i ≤ (Ts 0).length) → (∀ j9, j9 < i → pcm ((Ts 0).getD j9 e0).1 tp < 0) → (RT a_many a_bytes a_kinds a_modes a_times a_paths a_contentAt a_contents a_path a_content (va_up Ts 5 ((Ts 0).take i))) → rR G A s.heap H locs (rwx cI x q (nI 0) (nI 0) (nI st) (nI ops) (nI cg) (nI ns) bg (bI cs) cm a_many a_bytes a_kinds a_modes a_times a_paths a_contentAt a_contents a_path a_content f_ready f_tape sT sC f_chosen) → lv_has ls 9 [(6, .int (nI i)), (5, .int (bI true)), (4, .int (nI tp.length)), (0, .ref x), (1, .int kd), (2, .int md), (3, .int tm)] → W p l e ({ frames := 4, cells := 0, slots := 0, locals := 97 } : Room) s m args below meth c H locs 0 0 Q (F0 m 147 ls []) := by
                              intro n_147
                              induction n_147 with
                              | zero => intro i a_many a_bytes a_kinds a_modes a_times a_paths a_contentAt a_contents a_path a_content H locs ls h0; exact absurd h0 (Nat.not_lt_zero _)
                              | succ n_147 ih_147 =>
                                intro i a_many a_bytes a_kinds a_modes a_times a_paths a_contentAt a_contents a_path a_content H locs ls hm_147 hi hlt hRT hR hl
                                have hq1 := hRT 0 (by decide)
                                rw [va_up_ne _ _ (by decide)] at hq1
                                obtain ⟨b1, b2, b3, b4, b5⟩ := hq1
                                refine lv_iload hx hb dX9_make_147 (lv_at hl 0 rfl) ?_
                                refine lv_aload_n hx hb dX9_make_149 rfl (lv_at hl 3 rfl) ?_
                                refine rg_many hC hR.1 k_many dX9_make_150 ?_
                                refine lv_iconst (v := nI 0) hx hb dX9_make_153 rfl ?_
                                refine rl_many hC hR.1 (by omega) dX9_make_154 ?_
                                refine nn_eqi (y := nI ((Ts 0).length)) b1 ?_
                                refine nn_ge hx hb dX9_make_155 (tgt := 210) (by decide) (by omega) (by omega) (fun c_33 => ?_) (fun c_33 => ?_)
                                · have hin : insI tp (Ts 0) = i := insI_eq hlt (by omega) (by omega)
                                  have hmt : ((Ts 0).take i).length = i := by rw [List.length_take]; omega
                                  obtain ⟨q1, q2, q3, q4, q5⟩ := hRT 5 (by decide)
                                  rw [va_up_self] at q1 q2
                                  rw [hmt] at q1
                                  refine lv_iconst (v := nI 5) hx hb dX9_make_210 rfl ?_
                                  refine lv_aload_n hx hb dX9_make_211 rfl (lv_at hl 3 rfl) ?_
                                  refine rg_many hC hR.1 k_many dX9_make_212 ?_
                                  refine lv_iconst (v := nI 5) hx hb dX9_make_215 rfl ?_
                                  refine rl_many hC hR.1 (by omega) dX9_make_216 ?_
                                  refine nn_eqi (y := nI i) q1 ?_
                                  refine pf_callS (As := [.int (nI 5), .int (nI i)]) (rest := []) (m_place l hT 5 i) ⟨hx, hb, hml, hown, hts⟩ (va_cwS 2 hts gX9_make_X9_place rfl rfl rfl (by decide +kernel) ⟨Nat.le_of_ble_eq_true rfl, Nat.le_of_ble_eq_true rfl⟩) hK nn_nil rfl hl.1 rfl (Nat.le_of_ble_eq_true rfl) dX9_make_217 ⟨Nat.le_of_ble_eq_true rfl, Nat.le_of_ble_eq_true rfl⟩ (fun r_34 hr_34 => ?_)
                                  subst hr_34
                                  refine lv_istore (lv' := [(7, .int (nI (120 * 5 + i))), (6, .int (nI i)), (5, .int (bI true)), (4, .int (nI tp.length)), (0, .ref x), (1, .int kd), (2, .int md), (3, .int tm)]) hx hb dX9_make_220 hl (by decide) rfl (fun ls hl => ?_)
                                  refine lv_aload_n hx hb dX9_make_222 rfl (lv_at hl 4 rfl) ?_
                                  refine rg_kinds hC hR.1 k_kinds dX9_make_223 ?_
                                  refine lv_iload hx hb dX9_make_226 (lv_at hl 0 rfl) ?_
                                  refine lv_iload_n hx hb dX9_make_228 rfl (lv_at hl 5 rfl) ?_
                                  refine rs_kinds hC hR (by omega) dX9_make_229 (fun H locs hR => ?_)
                                  refine lv_aload_n hx hb dX9_make_230 rfl (lv_at hl 4 rfl) ?_
                                  refine rg_modes hC hR.1 k_modes dX9_make_231 ?_
                                  refine lv_iload hx hb dX9_make_234 (lv_at hl 0 rfl) ?_
                                  refine lv_iload_n hx hb dX9_make_236 rfl (lv_at hl 6 rfl) ?_
                                  refine rs_modes hC hR (by omega) dX9_make_237 (fun H locs hR => ?_)
                                  refine lv_aload_n hx hb dX9_make_238 rfl (lv_at hl 4 rfl) ?_
                                  refine rg_times hC hR.1 k_times dX9_make_239 ?_
                                  refine lv_iload hx hb dX9_make_242 (lv_at hl 0 rfl) ?_
                                  refine lv_iload_n hx hb dX9_make_244 rfl (lv_at hl 7 rfl) ?_
                                  refine rs_times hC hR (by omega) dX9_make_245 (fun H locs hR => ?_)
                                  refine lv_aload_n hx hb dX9_make_246 rfl (lv_at hl 4 rfl) ?_
                                  refine rg_paths hC hR.1 k_paths dX9_make_247 ?_
                                  refine lv_iload hx hb dX9_make_250 (lv_at hl 0 rfl) ?_
                                  refine lv_iload hx hb dX9_make_252 (lv_at hl 3 rfl) ?_
                                  refine rs_paths hC hR (by omega) dX9_make_254 (fun H locs hR => ?_)
                                  refine lv_iconst (v := nI 0) hx hb dX9_make_255 rfl ?_
                                  refine lv_istore (lv' := [(8, .int (nI 0)), (7, .int (nI (120 * 5 + i))), (6, .int (nI i)), (5, .int (bI true)), (4, .int (nI tp.length)), (0, .ref x), (1, .int kd), (2, .int md), (3, .int tm)]) hx hb dX9_make_256 hl (by decide) rfl (fun ls hl => ?_)
                                  have lp_258 : ∀ (n_258 : Nat) (k : Nat) (g : Nat → Int32) (H : Heap) (locs : List Loc) (ls : Array Slot), (tp.length - k) < n_258 → (k ≤ tp.length) → (∀ j9, j9 < k → g (150 * (120 * 5 + i) + j9) = nI (tp.getD j9 0)) → (∀ j9, (j9 < 150 * (120 * 5 + i) ∨ 150 * (120 * 5 + i) + k ≤ j9) → g j9 = a_path j9) → rR G A s.heap H locs (rwx cI x q (nI 0) (nI 0) (nI st) (nI ops) (nI cg) (nI ns) bg (bI cs) cm a_many a_bytes (upd a_kinds (120 * 5 + i) kd) (upd a_modes (120 * 5 + i) md) (upd a_times (120 * 5 + i) tm) (upd a_paths (120 * 5 + i) (nI tp.length)) a_contentAt a_contents g a_content f_ready f_tape sT sC f_chosen) → lv_has ls 9 [(8, .int (nI k)), (7, .int (nI (120 * 5 + i))), (6, .int (nI i)), (5, .int (bI true)), (4, .int (nI tp.length)), (0, .ref x), (1, .int kd), (2, .int md), (3, .int tm)] → W p l e ({ frames := 4, cells := 0, slots := 0, locals := 97 } : Room) s m args below meth c H locs 0 0 Q (F0 m 258 ls []) := by
                                    intro n_258
                                    induction n_258 with
                                    | zero => intro k g H locs ls h0; exact absurd h0 (Nat.not_lt_zero _)
                                    | succ n_258 ih_258 =>
                                      intro k g H locs ls hm_258 hk hgi hgx hR hl
                                      refine lv_iload hx hb dX9_make_258 (lv_at hl 0 rfl) ?_
                                      refine lv_iload hx hb dX9_make_260 (lv_at hl 4 rfl) ?_
                                      refine nn_ge hx hb dX9_make_262 (tgt := 292) (by decide) (by omega) (by omega) (fun c_35 => ?_) (fun c_35 => ?_)
                                      · have hkk : k = tp.length := by omega
                                        refine lv_aload_n hx hb dX9_make_292 rfl (lv_at hl 5 rfl) ?_
                                        refine rg_contents hC hR.1 k_contents dX9_make_293 ?_
                                        refine lv_iload hx hb dX9_make_296 (lv_at hl 1 rfl) ?_
                                        refine lv_iconst (v := nI 0) hx hb dX9_make_298 rfl ?_
                                        refine rs_contents hC hR (by omega) dX9_make_299 (fun H locs hR => ?_)
                                        refine lv_aload_n hx hb dX9_make_300 rfl (lv_at hl 5 rfl) ?_
                                        refine rg_contentAt hC hR.1 k_contentAt dX9_make_301 ?_
                                        refine lv_iload hx hb dX9_make_304 (lv_at hl 1 rfl) ?_
                                        refine lv_aload_n hx hb dX9_make_306 rfl (lv_at hl 5 rfl) ?_
                                        refine rg_bytes hC hR.1 k_bytes dX9_make_307 ?_
                                        refine lv_iconst (v := nI 5) hx hb dX9_make_310 rfl ?_
                                        refine rl_bytes hC hR.1 (by omega) dX9_make_311 ?_
                                        refine nn_eqi (y := nI (csum ((Ts 0).take i))) q2 ?_
                                        refine rs_contentAt hC hR (by omega) dX9_make_312 (fun H locs hR => ?_)
                                        refine lv_aload_n hx hb dX9_make_313 rfl (lv_at hl 5 rfl) ?_
                                        refine rg_many hC hR.1 k_many dX9_make_314 ?_
                                        refine lv_iconst (v := nI 5) hx hb dX9_make_317 rfl ?_
                                        refine lv_dup2_11 hx hb dX9_make_318 rfl rfl ?_
                                        refine rl_many hC hR.1 (by omega) dX9_make_319 ?_
                                        refine nn_eqi (y := nI i) q1 ?_
                                        refine lv_iconst (v := nI 1) hx hb dX9_make_320 rfl ?_
                                        refine nn_add hx hb dX9_make_321 ?_
                                        refine rs_many hC hR (by omega) dX9_make_322 (fun H locs hR => ?_)
                                        have hgE : en g (150 * (120 * 5 + ((Ts 0).take i).length)) tp := fun k9 hk9 => by rw [hmt]; exact hgi k9 (by omega)
                                        have hgO : ∀ j9, (j9 < 150 * (120 * 5 + ((Ts 0).take i).length) ∨ 150 * (120 * 5 + ((Ts 0).take i).length) + tp.length ≤ j9) → g j9 = a_path j9 := fun j9 hj9 => hgx _ (by rw [hmt] at hj9; omega)
                                        have hRT := RT_new (kd := kd) (md := md) (tm := tm) hRT (va_up_self _ _ _) (by rw [hmt]; omega) hlc htb hgE hgO
                                        rw [bx_uu, hmt] at hRT
                                        have lp_323 : ∀ (n_323 : Nat) (j : Nat) (a_many : Nat → Int32) (a_bytes : Nat → Int32) (a_kinds : Nat → Int32) (a_modes : Nat → Int32) (a_times : Nat → Int32) (a_paths : Nat → Int32) (a_contentAt : Nat → Int32) (a_contents : Nat → Int32) (a_path : Nat → Int32) (a_content : Nat → Int32) (H : Heap) (locs : List Loc) (ls : Array Slot), ((Ts 0).length - j) < n_323 → (i ≤ j) → (j ≤ (Ts 0).length) → (RT a_many a_bytes a_kinds a_modes a_times a_paths a_contentAt a_contents a_path a_content (va_up Ts 5 ((Ts 0).take i ++ [(tp, kd, md, tm, [])] ++ ((Ts 0).drop i).take (j - i)))) → rR G A s.heap H locs (rwx cI x q (nI 0) (nI 0) (nI st) (nI ops) (nI cg) (nI ns) bg (bI cs) cm a_many a_bytes a_kinds a_modes a_times a_paths a_contentAt a_contents a_path a_content f_ready f_tape sT sC f_chosen) → lv_has ls 9 [(0, .ref x), (1, .int kd), (2, .int md), (3, .int tm), (4, .int (nI tp.length)), (5, .int (bI true)), (6, .int (nI j))] → W p l e ({ frames := 4, cells := 0, slots := 0, locals := 97 } : Room) s m args below meth c H locs 0 0 Q (F0 m 323 ls []) := by
                                          intro n_323
                                          induction n_323 with
                                          | zero => intro j a_many a_bytes a_kinds a_modes a_times a_paths a_contentAt a_contents a_path a_content H locs ls h0; exact absurd h0 (Nat.not_lt_zero _)
                                          | succ n_323 ih_323 =>
                                            intro j a_many a_bytes a_kinds a_modes a_times a_paths a_contentAt a_contents a_path a_content H locs ls hm_323 hj hj2 hRT hR hl
                                            have hq1 := hRT 0 (by decide)
                                            rw [va_up_ne _ _ (by decide)] at hq1
                                            obtain ⟨b1, b2, b3, b4, b5⟩ := hq1
                                            refine lv_iload hx hb dX9_make_323 (lv_at hl 6 rfl) ?_
                                            refine lv_aload_n hx hb dX9_make_325 rfl (lv_at hl 0 rfl) ?_
                                            refine rg_many hC hR.1 k_many dX9_make_326 ?_
                                            refine lv_iconst (v := nI 0) hx hb dX9_make_329 rfl ?_
                                            refine rl_many hC hR.1 (by omega) dX9_make_330 ?_
                                            refine nn_eqi (y := nI ((Ts 0).length)) b1 ?_
                                            refine nn_ge hx hb dX9_make_331 (tgt := 348) (by decide) (by omega) (by omega) (fun c_36 => ?_) (fun c_36 => ?_)
                                            · refine lv_aload_n hx hb dX9_make_348 rfl (lv_at hl 0 rfl) ?_
                                              refine lv_iconst (v := nI 5) hx hb dX9_make_349 rfl ?_
                                              refine lv_iconst (v := nI 0) hx hb dX9_make_350 rfl ?_
                                              have hjj : j = (Ts 0).length := by omega
                                              rw [hjj, mk_fin (L := Ts 0) (i := i) (by omega), ← hin] at hRT
                                              refine rf_callV (C := RX9) (As := [.int (nI 5), .int (nI 0)]) (rest := []) (m_copy l hT (va_up Ts 5 ((Ts 0).take (insI tp (Ts 0)) ++ [(tp, kd, md, tm, [])] ++ (Ts 0).drop (insI tp (Ts 0)))) 5 0 hRT (by decide) (by decide) (by decide)) ⟨hx, hb, hml, hown, hts⟩ (cwV 2 hts gX9_make_X9_copy rfl rfl rfl (by decide +kernel) ⟨Nat.le_of_ble_eq_true rfl, Nat.le_of_ble_eq_true rfl⟩) hK hR (r_recv hK hR.1) rfl hl.1 rfl (Nat.le_of_ble_eq_true rfl) dX9_make_351 ⟨Nat.le_of_ble_eq_true rfl, Nat.le_of_ble_eq_true rfl⟩ (fun r_37 w_r_37 H locs hr_37 hR => ?_)
                                              obtain ⟨rfl, g_many_38, g_bytes_38, g_kinds_38, g_modes_38, g_times_38, g_paths_38, g_contentAt_38, g_contents_38, g_path_38, g_content_38, rfl, hRT⟩ := hr_37
                                              rw [va_up_self] at hRT
                                              refine lv_aload_n hx hb dX9_make_354 rfl (lv_at hl 0 rfl) ?_
                                              refine lv_iload hx hb dX9_make_355 (lv_at hl 4 rfl) ?_
                                              refine rf_callV (C := RX9) (As := [.int (nI tp.length)]) (rest := []) (m_chooseTape l hT tp htp hlc) ⟨hx, hb, hml, hown, hts⟩ (cwV 1 hts gX9_make_X9_chooseTape rfl rfl rfl (by decide +kernel) ⟨Nat.le_of_ble_eq_true rfl, Nat.le_of_ble_eq_true rfl⟩) hK hR (r_recv hK hR.1) rfl hl.1 rfl (Nat.le_of_ble_eq_true rfl) dX9_make_357 ⟨Nat.le_of_ble_eq_true rfl, Nat.le_of_ble_eq_true rfl⟩ (fun r_39 w_r_39 H locs hr_39 hR => ?_)
                                              obtain ⟨rfl, gc, rfl, hgc⟩ := hr_39
                                              refine lv_aload_n hx hb dX9_make_360 rfl (lv_at hl 0 rfl) ?_
                                              refine rg_many hC hR.1 k_many dX9_make_361 ?_
                                              refine lv_iconst (v := nI 0) hx hb dX9_make_364 rfl ?_
                                              refine rl_many hC hR.1 (by omega) dX9_make_365 ?_
                                              have hq9 := (hRT 0 (by decide)).1
                                              rw [va_up_self] at hq9
                                              refine nn_eqi (y := nI ((Ts 0).take (insI tp (Ts 0)) ++ [(tp, kd, md, tm, [])] ++ (Ts 0).drop (insI tp (Ts 0))).length) hq9 ?_
                                              rw [hQ]
                                              exact rf_iret hx hb hr hlocks hR (Or.inr (Or.inr (Or.inr ⟨by omega, ⟨by omega, by omega, by omega, by omega, by omega, by assumption⟩, by rw [show dirOK (Ts 0) tp = true by assumption]; simp; omega, rfl, ⟨_, _, _, _, _, _, _, _, _, _, _, _, _, _, rfl, hRT, ⟨en_nil _ _, by decide, fun b h => by cases h⟩, ⟨hrd, hrl, hrb⟩, (fun _ => ⟨rfl, hgc, hlc, htb⟩)⟩⟩))) dX9_make_366
                                            · refine lv_aload_n hx hb dX9_make_334 rfl (lv_at hl 0 rfl) ?_
                                              refine lv_iconst (v := nI 0) hx hb dX9_make_335 rfl ?_
                                              refine lv_iload hx hb dX9_make_336 (lv_at hl 6 rfl) ?_
                                              refine lv_iconst (v := nI 5) hx hb dX9_make_338 rfl ?_
                                              have hct := mk_cs (L := Ts 0) (i := i) (j := j) (u := (tp, kd, md, tm, [])) (by omega) (by omega) rfl
                                              have hml2 := mk_ln (L := Ts 0) (i := i) (j := j) (u := (tp, kd, md, tm, [])) (by omega) (by omega)
                                              refine rf_callV (C := RX9) (As := [.int (nI 0), .int (nI j), .int (nI 5)]) (rest := []) (m_append l hT (va_up Ts 5 ((Ts 0).take i ++ [(tp, kd, md, tm, [])] ++ ((Ts 0).drop i).take (j - i))) 0 j 5 ((Ts 0).getD j e0) ((Ts 0).take i ++ [(tp, kd, md, tm, [])] ++ ((Ts 0).drop i).take (j - i)) hRT (by decide) (by decide) (by decide) (by rw [va_up_ne _ _ (by decide)]; omega) (by rw [va_up_ne _ _ (by decide)]) (va_up_self _ _ _) (by omega) (by omega)) ⟨hx, hb, hml, hown, hts⟩ (cwV 3 hts gX9_make_X9_append rfl rfl rfl (by decide +kernel) ⟨Nat.le_of_ble_eq_true rfl, Nat.le_of_ble_eq_true rfl⟩) hK hR (r_recv hK hR.1) rfl hl.1 rfl (Nat.le_of_ble_eq_true rfl) dX9_make_339 ⟨Nat.le_of_ble_eq_true rfl, Nat.le_of_ble_eq_true rfl⟩ (fun r_40 w_r_40 H locs hr_40 hR => ?_)
                                              obtain ⟨rfl, g_many_41, g_bytes_41, g_kinds_41, g_modes_41, g_times_41, g_paths_41, g_contentAt_41, g_contents_41, g_path_41, g_content_41, rfl, hRT⟩ := hr_40
                                              rw [bx_uu] at hRT
                                              refine lv_iinc (v := nI (j + 1)) (lv' := [(6, .int (nI (j + 1))), (0, .ref x), (1, .int kd), (2, .int md), (3, .int tm), (4, .int (nI tp.length)), (5, .int (bI true))]) hx hb dX9_make_342 hl (k := 6) rfl (nI_add j 1) (by decide) rfl (fun ls hl => ?_)
                                              refine lv_goto (tgt := 323) hx hb dX9_make_345 (by decide) ?_
                                              exact ih_323 (j + 1) g_many_41 g_bytes_41 g_kinds_41 g_modes_41 g_times_41 g_paths_41 g_contentAt_41 g_contents_41 g_path_41 g_content_41 _ _ _ (by omega) (by omega) (by omega) (by rw [mk_st (by omega) (by omega)]; exact hRT) hR (lv_sub hl [1, 2, 3, 4, 5, 6, 0] rfl)
                                        exact lp_323 ((((Ts 0).length - i)) + 1) i (upd a_many 5 (nI (i + 1))) a_bytes (upd a_kinds (120 * 5 + i) kd) (upd a_modes (120 * 5 + i) md) (upd a_times (120 * 5 + i) tm) (upd a_paths (120 * 5 + i) (nI tp.length)) (upd a_contentAt (120 * 5 + i) (nI (csum ((Ts 0).take i)))) (upd a_contents (120 * 5 + i) (nI 0)) g a_content _ _ _ (Nat.lt_succ_self _) (Nat.le_refl _) (by omega) (by rw [Nat.sub_self, List.take_zero, List.append_nil]; exact hRT) hR (lv_sub hl [5, 6, 7, 8, 4, 3, 2] rfl)
                                      · refine lv_aload_n hx hb dX9_make_265 rfl (lv_at hl 5 rfl) ?_
                                        refine rg_path hC hR.1 k_path dX9_make_266 ?_
                                        refine lv_sipush (v := nI 150) hx hb dX9_make_269 (by decide) ?_
                                        refine lv_iload hx hb dX9_make_272 (lv_at hl 1 rfl) ?_
                                        refine nn_mul hx hb dX9_make_274 ?_
                                        refine lv_iload hx hb dX9_make_275 (lv_at hl 0 rfl) ?_
                                        refine nn_add hx hb dX9_make_277 ?_
                                        refine lv_aload_n hx hb dX9_make_278 rfl (lv_at hl 5 rfl) ?_
                                        refine rg_tape hC hR.1 k_tape dX9_make_279 ?_
                                        refine lv_iload hx hb dX9_make_282 (lv_at hl 0 rfl) ?_
                                        refine rl_tape hC hR.1 (by omega) dX9_make_284 ?_
                                        refine nn_eqi (y := nI (tp.getD k 0)) (by have := htp k (by omega); rwa [Nat.zero_add] at this) ?_
                                        refine rs_path hC hR (by omega) dX9_make_285 (fun H locs hR => ?_)
                                        refine lv_iinc (v := nI (k + 1)) (lv' := [(8, .int (nI (k + 1))), (7, .int (nI (120 * 5 + i))), (6, .int (nI i)), (5, .int (bI true)), (4, .int (nI tp.length)), (0, .ref x), (1, .int kd), (2, .int md), (3, .int tm)]) hx hb dX9_make_286 hl (k := 0) rfl (nI_add k 1) (by decide) rfl (fun ls hl => ?_)
                                        refine lv_goto (tgt := 258) hx hb dX9_make_289 (by decide) ?_
                                        exact ih_258 (k + 1) (upd g ((150 * (120 * 5 + i)) + k) (nI (tp.getD k 0))) _ _ _ (by omega) (by omega) (fun j9 hj9 => by by_cases h9 : j9 = k; (subst h9; rw [pk_us]); (rw [pk_un (by omega)]; exact hgi j9 (by omega))) (fun j9 hj9 => by rw [pk_un (by omega)]; exact hgx j9 (by omega)) hR (lv_sub hl [0, 1, 2, 3, 4, 5, 6, 7, 8] rfl)
                                  exact lp_258 (((tp.length - 0)) + 1) 0 a_path _ _ _ (Nat.lt_succ_self _) (Nat.zero_le _) (fun j9 h => absurd h (Nat.not_lt_zero _)) (fun _ _ => rfl) hR (lv_sub hl [0, 1, 2, 3, 4, 5, 6, 7, 8] rfl)
                                · obtain ⟨d1, d2, d3, d4, d5, d6, d7, d8, d9, d10, d11⟩ := b5 i (by omega)
                                  refine lv_aload_n hx hb dX9_make_158 rfl (lv_at hl 3 rfl) ?_
                                  refine rg_path hC hR.1 k_path dX9_make_159 ?_
                                  refine lv_sipush (v := nI 150) hx hb dX9_make_162 (by decide) ?_
                                  refine lv_iconst (v := nI 0) hx hb dX9_make_165 rfl ?_
                                  refine lv_iload hx hb dX9_make_166 (lv_at hl 0 rfl) ?_
                                  refine pf_callS (As := [.int (nI 0), .int (nI i)]) (rest := [.int (nI 150), .ref (q 8)]) (m_place l hT 0 i) ⟨hx, hb, hml, hown, hts⟩ (va_cwS 2 hts gX9_make_X9_place rfl rfl rfl (by decide +kernel) ⟨Nat.le_of_ble_eq_true rfl, Nat.le_of_ble_eq_true rfl⟩) hK nn_nil rfl hl.1 rfl (Nat.le_of_ble_eq_true rfl) dX9_make_168 ⟨Nat.le_of_ble_eq_true rfl, Nat.le_of_ble_eq_true rfl⟩ (fun r_42 hr_42 => ?_)
                                  subst hr_42
                                  refine nn_mul hx hb dX9_make_171 ?_
                                  refine lv_aload_n hx hb dX9_make_172 rfl (lv_at hl 3 rfl) ?_
                                  refine rg_paths hC hR.1 k_paths dX9_make_173 ?_
                                  refine lv_iconst (v := nI 0) hx hb dX9_make_176 rfl ?_
                                  refine lv_iload hx hb dX9_make_177 (lv_at hl 0 rfl) ?_
                                  refine pf_callS (As := [.int (nI 0), .int (nI i)]) (rest := [.ref (q 5), .int (nI (150 * (120 * 0 + i))), .ref (q 8)]) (m_place l hT 0 i) ⟨hx, hb, hml, hown, hts⟩ (va_cwS 2 hts gX9_make_X9_place rfl rfl rfl (by decide +kernel) ⟨Nat.le_of_ble_eq_true rfl, Nat.le_of_ble_eq_true rfl⟩) hK nn_nil rfl hl.1 rfl (Nat.le_of_ble_eq_true rfl) dX9_make_179 ⟨Nat.le_of_ble_eq_true rfl, Nat.le_of_ble_eq_true rfl⟩ (fun r_43 hr_43 => ?_)
                                  subst hr_43
                                  refine rl_paths hC hR.1 (by omega) dX9_make_182 ?_
                                  refine nn_eqi (y := nI (((Ts 0).getD i e0).1.length)) d4 ?_
                                  refine lv_aload_n hx hb dX9_make_183 rfl (lv_at hl 3 rfl) ?_
                                  refine rg_tape hC hR.1 k_tape dX9_make_184 ?_
                                  refine lv_iconst (v := nI 0) hx hb dX9_make_187 rfl ?_
                                  refine lv_iload hx hb dX9_make_188 (lv_at hl 2 rfl) ?_
                                  refine pf_callS (As := [.ref (q 8), .int (nI (150 * (120 * 0 + i))), .int (nI (((Ts 0).getD i e0).1.length)), .ref (q 11), .int (nI 0), .int (nI tp.length)]) (rest := []) (m_order l hT (k1 := 9) (k2 := 12) rfl rfl (by decide) (by decide) d8 htp (by omega) (by omega) d10 htb) ⟨hx, hb, hml, hown, hts⟩ (va_cwS 6 hts gX9_make_X9_order rfl rfl rfl (by decide +kernel) ⟨Nat.le_of_ble_eq_true rfl, Nat.le_of_ble_eq_true rfl⟩) hK hR.1 rfl hl.1 rfl (Nat.le_of_ble_eq_true rfl) dX9_make_190 ⟨Nat.le_of_ble_eq_true rfl, Nat.le_of_ble_eq_true rfl⟩ (fun r_44 hr_44 => ?_)
                                  obtain ⟨o_45, rfl, ho_45⟩ := hr_44
                                  refine zi_ge hx hb ho_45 dX9_make_193 (tgt := 210) (by decide) (fun c_46 => ?_) (fun c_46 => ?_)
                                  · have hin : insI tp (Ts 0) = i := insI_eq hlt (by omega) (by omega)
                                    have hmt : ((Ts 0).take i).length = i := by rw [List.length_take]; omega
                                    obtain ⟨q1, q2, q3, q4, q5⟩ := hRT 5 (by decide)
                                    rw [va_up_self] at q1 q2
                                    rw [hmt] at q1
                                    refine lv_iconst (v := nI 5) hx hb dX9_make_210 rfl ?_
                                    refine lv_aload_n hx hb dX9_make_211 rfl (lv_at hl 3 rfl) ?_
                                    refine rg_many hC hR.1 k_many dX9_make_212 ?_
                                    refine lv_iconst (v := nI 5) hx hb dX9_make_215 rfl ?_
                                    refine rl_many hC hR.1 (by omega) dX9_make_216 ?_
                                    refine nn_eqi (y := nI i) q1 ?_
                                    refine pf_callS (As := [.int (nI 5), .int (nI i)]) (rest := []) (m_place l hT 5 i) ⟨hx, hb, hml, hown, hts⟩ (va_cwS 2 hts gX9_make_X9_place rfl rfl rfl (by decide +kernel) ⟨Nat.le_of_ble_eq_true rfl, Nat.le_of_ble_eq_true rfl⟩) hK nn_nil rfl hl.1 rfl (Nat.le_of_ble_eq_true rfl) dX9_make_217 ⟨Nat.le_of_ble_eq_true rfl, Nat.le_of_ble_eq_true rfl⟩ (fun r_47 hr_47 => ?_)
                                    subst hr_47
                                    refine lv_istore (lv' := [(7, .int (nI (120 * 5 + i))), (6, .int (nI i)), (5, .int (bI true)), (4, .int (nI tp.length)), (0, .ref x), (1, .int kd), (2, .int md), (3, .int tm)]) hx hb dX9_make_220 hl (by decide) rfl (fun ls hl => ?_)
                                    refine lv_aload_n hx hb dX9_make_222 rfl (lv_at hl 4 rfl) ?_
                                    refine rg_kinds hC hR.1 k_kinds dX9_make_223 ?_
                                    refine lv_iload hx hb dX9_make_226 (lv_at hl 0 rfl) ?_
                                    refine lv_iload_n hx hb dX9_make_228 rfl (lv_at hl 5 rfl) ?_
                                    refine rs_kinds hC hR (by omega) dX9_make_229 (fun H locs hR => ?_)
                                    refine lv_aload_n hx hb dX9_make_230 rfl (lv_at hl 4 rfl) ?_
                                    refine rg_modes hC hR.1 k_modes dX9_make_231 ?_
                                    refine lv_iload hx hb dX9_make_234 (lv_at hl 0 rfl) ?_
                                    refine lv_iload_n hx hb dX9_make_236 rfl (lv_at hl 6 rfl) ?_
                                    refine rs_modes hC hR (by omega) dX9_make_237 (fun H locs hR => ?_)
                                    refine lv_aload_n hx hb dX9_make_238 rfl (lv_at hl 4 rfl) ?_
                                    refine rg_times hC hR.1 k_times dX9_make_239 ?_
                                    refine lv_iload hx hb dX9_make_242 (lv_at hl 0 rfl) ?_
                                    refine lv_iload_n hx hb dX9_make_244 rfl (lv_at hl 7 rfl) ?_
                                    refine rs_times hC hR (by omega) dX9_make_245 (fun H locs hR => ?_)
                                    refine lv_aload_n hx hb dX9_make_246 rfl (lv_at hl 4 rfl) ?_
                                    refine rg_paths hC hR.1 k_paths dX9_make_247 ?_
                                    refine lv_iload hx hb dX9_make_250 (lv_at hl 0 rfl) ?_
                                    refine lv_iload hx hb dX9_make_252 (lv_at hl 3 rfl) ?_
                                    refine rs_paths hC hR (by omega) dX9_make_254 (fun H locs hR => ?_)
                                    refine lv_iconst (v := nI 0) hx hb dX9_make_255 rfl ?_
                                    refine lv_istore (lv' := [(8, .int (nI 0)), (7, .int (nI (120 * 5 + i))), (6, .int (nI i)), (5, .int (bI true)), (4, .int (nI tp.length)), (0, .ref x), (1, .int kd), (2, .int md), (3, .int tm)]) hx hb dX9_make_256 hl (by decide) rfl (fun ls hl => ?_)
                                    have lp_258 : ∀ (n_258 : Nat) (k : Nat) (g : Nat → Int32) (H : Heap) (locs : List Loc) (ls : Array Slot), (tp.length - k) < n_258 → (k ≤ tp.length) → (∀ j9, j9 < k → g (150 * (120 * 5 + i) + j9) = nI (tp.getD j9 0)) → (∀ j9, (j9 < 150 * (120 * 5 + i) ∨ 150 * (120 * 5 + i) + k ≤ j9) → g j9 = a_path j9) → rR G A s.heap H locs (rwx cI x q (nI 0) (nI 0) (nI st) (nI ops) (nI cg) (nI ns) bg (bI cs) cm a_many a_bytes (upd a_kinds (120 * 5 + i) kd) (upd a_modes (120 * 5 + i) md) (upd a_times (120 * 5 + i) tm) (upd a_paths (120 * 5 + i) (nI tp.length)) a_contentAt a_contents g a_content f_ready f_tape sT sC f_chosen) → lv_has ls 9 [(8, .int (nI k)), (7, .int (nI (120 * 5 + i))), (6, .int (nI i)), (5, .int (bI true)), (4, .int (nI tp.length)), (0, .ref x), (1, .int kd), (2, .int md), (3, .int tm)] → W p l e ({ frames := 4, cells := 0, slots := 0, locals := 97 } : Room) s m args below meth c H locs 0 0 Q (F0 m 258 ls []) := by
                                      intro n_258
                                      induction n_258 with
                                      | zero => intro k g H locs ls h0; exact absurd h0 (Nat.not_lt_zero _)
                                      | succ n_258 ih_258 =>
                                        intro k g H locs ls hm_258 hk hgi hgx hR hl
                                        refine lv_iload hx hb dX9_make_258 (lv_at hl 0 rfl) ?_
                                        refine lv_iload hx hb dX9_make_260 (lv_at hl 4 rfl) ?_
                                        refine nn_ge hx hb dX9_make_262 (tgt := 292) (by decide) (by omega) (by omega) (fun c_48 => ?_) (fun c_48 => ?_)
                                        · have hkk : k = tp.length := by omega
                                          refine lv_aload_n hx hb dX9_make_292 rfl (lv_at hl 5 rfl) ?_
                                          refine rg_contents hC hR.1 k_contents dX9_make_293 ?_
                                          refine lv_iload hx hb dX9_make_296 (lv_at hl 1 rfl) ?_
                                          refine lv_iconst (v := nI 0) hx hb dX9_make_298 rfl ?_
                                          refine rs_contents hC hR (by omega) dX9_make_299 (fun H locs hR => ?_)
                                          refine lv_aload_n hx hb dX9_make_300 rfl (lv_at hl 5 rfl) ?_
                                          refine rg_contentAt hC hR.1 k_contentAt dX9_make_301 ?_
                                          refine lv_iload hx hb dX9_make_304 (lv_at hl 1 rfl) ?_
                                          refine lv_aload_n hx hb dX9_make_306 rfl (lv_at hl 5 rfl) ?_
                                          refine rg_bytes hC hR.1 k_bytes dX9_make_307 ?_
                                          refine lv_iconst (v := nI 5) hx hb dX9_make_310 rfl ?_
                                          refine rl_bytes hC hR.1 (by omega) dX9_make_311 ?_
                                          refine nn_eqi (y := nI (csum ((Ts 0).take i))) q2 ?_
                                          refine rs_contentAt hC hR (by omega) dX9_make_312 (fun H locs hR => ?_)
                                          refine lv_aload_n hx hb dX9_make_313 rfl (lv_at hl 5 rfl) ?_
                                          refine rg_many hC hR.1 k_many dX9_make_314 ?_
                                          refine lv_iconst (v := nI 5) hx hb dX9_make_317 rfl ?_
                                          refine lv_dup2_11 hx hb dX9_make_318 rfl rfl ?_
                                          refine rl_many hC hR.1 (by omega) dX9_make_319 ?_
                                          refine nn_eqi (y := nI i) q1 ?_
                                          refine lv_iconst (v := nI 1) hx hb dX9_make_320 rfl ?_
                                          refine nn_add hx hb dX9_make_321 ?_
                                          refine rs_many hC hR (by omega) dX9_make_322 (fun H locs hR => ?_)
                                          have hgE : en g (150 * (120 * 5 + ((Ts 0).take i).length)) tp := fun k9 hk9 => by rw [hmt]; exact hgi k9 (by omega)
                                          have hgO : ∀ j9, (j9 < 150 * (120 * 5 + ((Ts 0).take i).length) ∨ 150 * (120 * 5 + ((Ts 0).take i).length) + tp.length ≤ j9) → g j9 = a_path j9 := fun j9 hj9 => hgx _ (by rw [hmt] at hj9; omega)
                                          have hRT := RT_new (kd := kd) (md := md) (tm := tm) hRT (va_up_self _ _ _) (by rw [hmt]; omega) hlc htb hgE hgO
                                          rw [bx_uu, hmt] at hRT
                                          have lp_323 : ∀ (n_323 : Nat) (j : Nat) (a_many : Nat → Int32) (a_bytes : Nat → Int32) (a_kinds : Nat → Int32) (a_modes : Nat → Int32) (a_times : Nat → Int32) (a_paths : Nat → Int32) (a_contentAt : Nat → Int32) (a_contents : Nat → Int32) (a_path : Nat → Int32) (a_content : Nat → Int32) (H : Heap) (locs : List Loc) (ls : Array Slot), ((Ts 0).length - j) < n_323 → (i ≤ j) → (j ≤ (Ts 0).length) → (RT a_many a_bytes a_kinds a_modes a_times a_paths a_contentAt a_contents a_path a_content (va_up Ts 5 ((Ts 0).take i ++ [(tp, kd, md, tm, [])] ++ ((Ts 0).drop i).take (j - i)))) → rR G A s.heap H locs (rwx cI x q (nI 0) (nI 0) (nI st) (nI ops) (nI cg) (nI ns) bg (bI cs) cm a_many a_bytes a_kinds a_modes a_times a_paths a_contentAt a_contents a_path a_content f_ready f_tape sT sC f_chosen) → lv_has ls 9 [(0, .ref x), (1, .int kd), (2, .int md), (3, .int tm), (4, .int (nI tp.length)), (5, .int (bI true)), (6, .int (nI j))] → W p l e ({ frames := 4, cells := 0, slots := 0, locals := 97 } : Room) s m args below meth c H locs 0 0 Q (F0 m 323 ls []) := by
                                            intro n_323
                                            induction n_323 with
                                            | zero => intro j a_many a_bytes a_kinds a_modes a_times a_paths a_contentAt a_contents a_path a_content H locs ls h0; exact absurd h0 (Nat.not_lt_zero _)
                                            | succ n_323 ih_323 =>
                                              intro j a_many a_bytes a_kinds a_modes a_times a_paths a_contentAt a_contents a_path a_content H locs ls hm_323 hj hj2 hRT hR hl
                                              have hq1 := hRT 0 (by decide)
                                              rw [va_up_ne _ _ (by decide)] at hq1
                                              obtain ⟨b1, b2, b3, b4, b5⟩ := hq1
                                              refine lv_iload hx hb dX9_make_323 (lv_at hl 6 rfl) ?_
                                              refine lv_aload_n hx hb dX9_make_325 rfl (lv_at hl 0 rfl) ?_
                                              refine rg_many hC hR.1 k_many dX9_make_326 ?_
                                              refine lv_iconst (v := nI 0) hx hb dX9_make_329 rfl ?_
                                              refine rl_many hC hR.1 (by omega) dX9_make_330 ?_
                                              refine nn_eqi (y := nI ((Ts 0).length)) b1 ?_
                                              refine nn_ge hx hb dX9_make_331 (tgt := 348) (by decide) (by omega) (by omega) (fun c_49 => ?_) (fun c_49 => ?_)
                                              · refine lv_aload_n hx hb dX9_make_348 rfl (lv_at hl 0 rfl) ?_
                                                refine lv_iconst (v := nI 5) hx hb dX9_make_349 rfl ?_
                                                refine lv_iconst (v := nI 0) hx hb dX9_make_350 rfl ?_
                                                have hjj : j = (Ts 0).length := by omega
                                                rw [hjj, mk_fin (L := Ts 0) (i := i) (by omega), ← hin] at hRT
                                                refine rf_callV (C := RX9) (As := [.int (nI 5), .int (nI 0)]) (rest := []) (m_copy l hT (va_up Ts 5 ((Ts 0).take (insI tp (Ts 0)) ++ [(tp, kd, md, tm, [])] ++ (Ts 0).drop (insI tp (Ts 0)))) 5 0 hRT (by decide) (by decide) (by decide)) ⟨hx, hb, hml, hown, hts⟩ (cwV 2 hts gX9_make_X9_copy rfl rfl rfl (by decide +kernel) ⟨Nat.le_of_ble_eq_true rfl, Nat.le_of_ble_eq_true rfl⟩) hK hR (r_recv hK hR.1) rfl hl.1 rfl (Nat.le_of_ble_eq_true rfl) dX9_make_351 ⟨Nat.le_of_ble_eq_true rfl, Nat.le_of_ble_eq_true rfl⟩ (fun r_50 w_r_50 H locs hr_50 hR => ?_)
                                                obtain ⟨rfl, g_many_51, g_bytes_51, g_kinds_51, g_modes_51, g_times_51, g_paths_51, g_contentAt_51, g_contents_51, g_path_51, g_content_51, rfl, hRT⟩ := hr_50
                                                rw [va_up_self] at hRT
                                                refine lv_aload_n hx hb dX9_make_354 rfl (lv_at hl 0 rfl) ?_
                                                refine lv_iload hx hb dX9_make_355 (lv_at hl 4 rfl) ?_
                                                refine rf_callV (C := RX9) (As := [.int (nI tp.length)]) (rest := []) (m_chooseTape l hT tp htp hlc) ⟨hx, hb, hml, hown, hts⟩ (cwV 1 hts gX9_make_X9_chooseTape rfl rfl rfl (by decide +kernel) ⟨Nat.le_of_ble_eq_true rfl, Nat.le_of_ble_eq_true rfl⟩) hK hR (r_recv hK hR.1) rfl hl.1 rfl (Nat.le_of_ble_eq_true rfl) dX9_make_357 ⟨Nat.le_of_ble_eq_true rfl, Nat.le_of_ble_eq_true rfl⟩ (fun r_52 w_r_52 H locs hr_52 hR => ?_)
                                                obtain ⟨rfl, gc, rfl, hgc⟩ := hr_52
                                                refine lv_aload_n hx hb dX9_make_360 rfl (lv_at hl 0 rfl) ?_
                                                refine rg_many hC hR.1 k_many dX9_make_361 ?_
                                                refine lv_iconst (v := nI 0) hx hb dX9_make_364 rfl ?_
                                                refine rl_many hC hR.1 (by omega) dX9_make_365 ?_
                                                have hq9 := (hRT 0 (by decide)).1
                                                rw [va_up_self] at hq9
                                                refine nn_eqi (y := nI ((Ts 0).take (insI tp (Ts 0)) ++ [(tp, kd, md, tm, [])] ++ (Ts 0).drop (insI tp (Ts 0))).length) hq9 ?_
                                                rw [hQ]
                                                exact rf_iret hx hb hr hlocks hR (Or.inr (Or.inr (Or.inr ⟨by omega, ⟨by omega, by omega, by omega, by omega, by omega, by assumption⟩, by rw [show dirOK (Ts 0) tp = true by assumption]; simp; omega, rfl, ⟨_, _, _, _, _, _, _, _, _, _, _, _, _, _, rfl, hRT, ⟨en_nil _ _, by decide, fun b h => by cases h⟩, ⟨hrd, hrl, hrb⟩, (fun _ => ⟨rfl, hgc, hlc, htb⟩)⟩⟩))) dX9_make_366
                                              · refine lv_aload_n hx hb dX9_make_334 rfl (lv_at hl 0 rfl) ?_
                                                refine lv_iconst (v := nI 0) hx hb dX9_make_335 rfl ?_
                                                refine lv_iload hx hb dX9_make_336 (lv_at hl 6 rfl) ?_
                                                refine lv_iconst (v := nI 5) hx hb dX9_make_338 rfl ?_
                                                have hct := mk_cs (L := Ts 0) (i := i) (j := j) (u := (tp, kd, md, tm, [])) (by omega) (by omega) rfl
                                                have hml2 := mk_ln (L := Ts 0) (i := i) (j := j) (u := (tp, kd, md, tm, [])) (by omega) (by omega)
                                                refine rf_callV (C := RX9) (As := [.int (nI 0), .int (nI j), .int (nI 5)]) (rest := []) (m_append l hT (va_up Ts 5 ((Ts 0).take i ++ [(tp, kd, md, tm, [])] ++ ((Ts 0).drop i).take (j - i))) 0 j 5 ((Ts 0).getD j e0) ((Ts 0).take i ++ [(tp, kd, md, tm, [])] ++ ((Ts 0).drop i).take (j - i)) hRT (by decide) (by decide) (by decide) (by rw [va_up_ne _ _ (by decide)]; omega) (by rw [va_up_ne _ _ (by decide)]) (va_up_self _ _ _) (by omega) (by omega)) ⟨hx, hb, hml, hown, hts⟩ (cwV 3 hts gX9_make_X9_append rfl rfl rfl (by decide +kernel) ⟨Nat.le_of_ble_eq_true rfl, Nat.le_of_ble_eq_true rfl⟩) hK hR (r_recv hK hR.1) rfl hl.1 rfl (Nat.le_of_ble_eq_true rfl) dX9_make_339 ⟨Nat.le_of_ble_eq_true rfl, Nat.le_of_ble_eq_true rfl⟩ (fun r_53 w_r_53 H locs hr_53 hR => ?_)
                                                obtain ⟨rfl, g_many_54, g_bytes_54, g_kinds_54, g_modes_54, g_times_54, g_paths_54, g_contentAt_54, g_contents_54, g_path_54, g_content_54, rfl, hRT⟩ := hr_53
                                                rw [bx_uu] at hRT
                                                refine lv_iinc (v := nI (j + 1)) (lv' := [(6, .int (nI (j + 1))), (0, .ref x), (1, .int kd), (2, .int md), (3, .int tm), (4, .int (nI tp.length)), (5, .int (bI true))]) hx hb dX9_make_342 hl (k := 6) rfl (nI_add j 1) (by decide) rfl (fun ls hl => ?_)
                                                refine lv_goto (tgt := 323) hx hb dX9_make_345 (by decide) ?_
                                                exact ih_323 (j + 1) g_many_54 g_bytes_54 g_kinds_54 g_modes_54 g_times_54 g_paths_54 g_contentAt_54 g_contents_54 g_path_54 g_content_54 _ _ _ (by omega) (by omega) (by omega) (by rw [mk_st (by omega) (by omega)]; exact hRT) hR (lv_sub hl [1, 2, 3, 4, 5, 6, 0] rfl)
                                          exact lp_323 ((((Ts 0).length - i)) + 1) i (upd a_many 5 (nI (i + 1))) a_bytes (upd a_kinds (120 * 5 + i) kd) (upd a_modes (120 * 5 + i) md) (upd a_times (120 * 5 + i) tm) (upd a_paths (120 * 5 + i) (nI tp.length)) (upd a_contentAt (120 * 5 + i) (nI (csum ((Ts 0).take i)))) (upd a_contents (120 * 5 + i) (nI 0)) g a_content _ _ _ (Nat.lt_succ_self _) (Nat.le_refl _) (by omega) (by rw [Nat.sub_self, List.take_zero, List.append_nil]; exact hRT) hR (lv_sub hl [5, 6, 7, 8, 4, 3, 2] rfl)
                                        · refine lv_aload_n hx hb dX9_make_265 rfl (lv_at hl 5 rfl) ?_
                                          refine rg_path hC hR.1 k_path dX9_make_266 ?_
                                          refine lv_sipush (v := nI 150) hx hb dX9_make_269 (by decide) ?_
                                          refine lv_iload hx hb dX9_make_272 (lv_at hl 1 rfl) ?_
                                          refine nn_mul hx hb dX9_make_274 ?_
                                          refine lv_iload hx hb dX9_make_275 (lv_at hl 0 rfl) ?_
                                          refine nn_add hx hb dX9_make_277 ?_
                                          refine lv_aload_n hx hb dX9_make_278 rfl (lv_at hl 5 rfl) ?_
                                          refine rg_tape hC hR.1 k_tape dX9_make_279 ?_
                                          refine lv_iload hx hb dX9_make_282 (lv_at hl 0 rfl) ?_
                                          refine rl_tape hC hR.1 (by omega) dX9_make_284 ?_
                                          refine nn_eqi (y := nI (tp.getD k 0)) (by have := htp k (by omega); rwa [Nat.zero_add] at this) ?_
                                          refine rs_path hC hR (by omega) dX9_make_285 (fun H locs hR => ?_)
                                          refine lv_iinc (v := nI (k + 1)) (lv' := [(8, .int (nI (k + 1))), (7, .int (nI (120 * 5 + i))), (6, .int (nI i)), (5, .int (bI true)), (4, .int (nI tp.length)), (0, .ref x), (1, .int kd), (2, .int md), (3, .int tm)]) hx hb dX9_make_286 hl (k := 0) rfl (nI_add k 1) (by decide) rfl (fun ls hl => ?_)
                                          refine lv_goto (tgt := 258) hx hb dX9_make_289 (by decide) ?_
                                          exact ih_258 (k + 1) (upd g ((150 * (120 * 5 + i)) + k) (nI (tp.getD k 0))) _ _ _ (by omega) (by omega) (fun j9 hj9 => by by_cases h9 : j9 = k; (subst h9; rw [pk_us]); (rw [pk_un (by omega)]; exact hgi j9 (by omega))) (fun j9 hj9 => by rw [pk_un (by omega)]; exact hgx j9 (by omega)) hR (lv_sub hl [0, 1, 2, 3, 4, 5, 6, 7, 8] rfl)
                                    exact lp_258 (((tp.length - 0)) + 1) 0 a_path _ _ _ (Nat.lt_succ_self _) (Nat.zero_le _) (fun j9 h => absurd h (Nat.not_lt_zero _)) (fun _ _ => rfl) hR (lv_sub hl [0, 1, 2, 3, 4, 5, 6, 7, 8] rfl)
                                  · refine lv_aload_n hx hb dX9_make_196 rfl (lv_at hl 3 rfl) ?_
                                    refine lv_iconst (v := nI 0) hx hb dX9_make_197 rfl ?_
                                    refine lv_iload hx hb dX9_make_198 (lv_at hl 0 rfl) ?_
                                    refine lv_iconst (v := nI 5) hx hb dX9_make_200 rfl ?_
                                    have hct := csum_take (L := Ts 0) (i := i) (by omega)
                                    have hcl := csum_le (Ts 0) i
                                    refine rf_callV (C := RX9) (As := [.int (nI 0), .int (nI i), .int (nI 5)]) (rest := []) (m_append l hT (va_up Ts 5 ((Ts 0).take i)) 0 i 5 ((Ts 0).getD i e0) ((Ts 0).take i) hRT (by decide) (by decide) (by decide) (by rw [va_up_ne _ _ (by decide)]; omega) (by rw [va_up_ne _ _ (by decide)]) (va_up_self _ _ _) (by rw [List.length_take]; omega) (by omega)) ⟨hx, hb, hml, hown, hts⟩ (cwV 3 hts gX9_make_X9_append rfl rfl rfl (by decide +kernel) ⟨Nat.le_of_ble_eq_true rfl, Nat.le_of_ble_eq_true rfl⟩) hK hR (r_recv hK hR.1) rfl hl.1 rfl (Nat.le_of_ble_eq_true rfl) dX9_make_201 ⟨Nat.le_of_ble_eq_true rfl, Nat.le_of_ble_eq_true rfl⟩ (fun r_55 w_r_55 H locs hr_55 hR => ?_)
                                    obtain ⟨rfl, g_many_56, g_bytes_56, g_kinds_56, g_modes_56, g_times_56, g_paths_56, g_contentAt_56, g_contents_56, g_path_56, g_content_56, rfl, hRT⟩ := hr_55
                                    rw [bx_uu, ← tk_succ (by omega)] at hRT
                                    refine lv_iinc (v := nI (i + 1)) (lv' := [(6, .int (nI (i + 1))), (5, .int (bI true)), (4, .int (nI tp.length)), (0, .ref x), (1, .int kd), (2, .int md), (3, .int tm)]) hx hb dX9_make_204 hl (k := 0) rfl (nI_add i 1) (by decide) rfl (fun ls hl => ?_)
                                    refine lv_goto (tgt := 147) hx hb dX9_make_207 (by decide) ?_
                                    exact ih_147 (i + 1) g_many_56 g_bytes_56 g_kinds_56 g_modes_56 g_times_56 g_paths_56 g_contentAt_56 g_contents_56 g_path_56 g_content_56 _ _ _ (by omega) (by omega) (lt_s (p := fun j9 => pcm ((Ts 0).getD j9 e0).1 tp < 0) hlt (by assumption)) hRT hR (lv_sub hl [0, 1, 2, 3, 4, 5, 6] rfl)
                            exact lp_147 ((((Ts 0).length - 0)) + 1) 0 g_many_32 g_bytes_32 g_kinds_32 g_modes_32 g_times_32 g_paths_32 g_contentAt_32 g_contents_32 g_path_32 g_content_32 _ _ _ (Nat.lt_succ_self _) (Nat.zero_le _) (fun j9 h => absurd h (Nat.not_lt_zero _)) hRT hR (lv_sub hl [0, 1, 2, 3, 4, 5, 6] rfl)
                          · exact absurd c_30 (by omega)
                        · refine lv_iconst (v := nI 2) hx hb dX9_make_122 rfl ?_
                          refine lv_goto (tgt := 127) hx hb dX9_make_123 (by decide) ?_
                          refine rp_thrown hC hR k_thrown dX9_make_127 (fun H locs hR => ?_)
                          refine lv_aload_n hx hb dX9_make_130 rfl (lv_at hl 2 rfl) ?_
                          refine rg_thrown hC hR.1 k_thrown dX9_make_131 ?_
                          refine nz_le hx hb dX9_make_134 (tgt := 139) (by decide) (by omega) (fun c_57 => ?_) (fun c_57 => ?_)
                          · exact absurd c_57 (by omega)
                          · refine lv_iconst (v := nI 0) hx hb dX9_make_137 rfl ?_
                            rw [hQ]
                            exact rf_iret hx hb hr hlocks hR (Or.inr (Or.inr (Or.inl ⟨by omega, ⟨by omega, by omega, by omega, by omega, by omega, by assumption⟩, by first | exact Or.inl (by omega) | exact Or.inr (Or.inl (by assumption)) | exact Or.inr (Or.inr (by omega)), rfl, ⟨_, _, _, _, _, _, _, _, _, _, _, _, _, _, rfl, hRT, ⟨en_nil _ _, by decide, fun b h => by cases h⟩, ⟨hrd, hrl, hrb⟩, hch⟩⟩))) dX9_make_138
                  · cases c_22
    · exact absurd c_2 (by omega)
  · refine lv_iconst (v := nI 2) hx hb dX9_make_9 rfl ?_
    refine lv_goto (tgt := 14) hx hb dX9_make_10 (by decide) ?_
    refine rp_thrown hC hR k_thrown dX9_make_14 (fun H locs hR => ?_)
    refine lv_aload_n hx hb dX9_make_17 rfl (lv_at hl 0 rfl) ?_
    refine rg_thrown hC hR.1 k_thrown dX9_make_18 ?_
    refine nz_le hx hb dX9_make_21 (tgt := 26) (by decide) (by omega) (fun c_58 => ?_) (fun c_58 => ?_)
    · exact absurd c_58 (by omega)
    · refine lv_iconst (v := nI 0) hx hb dX9_make_24 rfl ?_
      rw [hQ]
      exact rf_iret hx hb hr hlocks hR (Or.inl ⟨by omega, rfl, ⟨_, _, _, _, _, _, _, _, _, _, _, _, _, _, rfl, hRT, ⟨htp, htl, htb⟩, ⟨hrd, hrl, hrb⟩, hch⟩⟩) dX9_make_25
