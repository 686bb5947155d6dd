set_option maxHeartbeats 4000000 in
set_option maxRecDepth 100000 in
theorem m_place (l : Launch) {G : va_G} {tys : List (ClassId × FieldType)} {cI : ClassId} (hT : tys[1]? = some (cI, .int)) (t i : Nat) : pMet l yX9_place wsX9_place ({ frames := 0, cells := 0, slots := 0, locals := 0 } : Room) G tys [.int (nI t), .int (nI i)] [] (fun r => r = .int (nI (120 * t + i))) := by
  refine Met.ofW (cc := cX9_place) (maxL := 2) (ret := (some .int)) (by decide) rfl ?_
  intro p e s m args below meth c s₁ B hml hv
  obtain ⟨hargs, hP, hK⟩ := hv
  have hx := B.exec
  have hb := B.bytes
  have hr := B.returns
  have hts := atoms_spec (ws := wsX9_place) B.pre
  have hown : s.vm.findClass RX9 = some m.cls := findClass_of_methodNamed B.named
  have hlocks := B.notSynchronized
  obtain ⟨Q, hQ⟩ : ∃ Q : State → Prop, Q = MQ below (pQ (fun r => r = .int (nI (120 * t + i)))) args s 0 0 (fun _ => False) := ⟨_, rfl⟩
  change W p l e ({ frames := 0, cells := 0, slots := 0, locals := 0 } : Room) s m args below meth c s.heap [] 0 0 (MQ below (pQ (fun r => r = .int (nI (120 * t + i)))) args s 0 0 (fun _ => False)) (entryFrame m args 2)
  rw [← hQ]
  refine nn_entry hargs (Nat.le_of_ble_eq_true rfl) (lv := [(0, .int (nI t)), (1, .int (nI i))]) rfl (fun ls hl => ?_)
  refine lv_bipush (v := nI 120) hx hb dX9_place_0 (by decide) ?_
  refine lv_iload_n hx hb dX9_place_2 rfl (lv_at hl 0 rfl) ?_
  refine nn_mul hx hb dX9_place_3 ?_
  refine lv_iload_n hx hb dX9_place_4 rfl (lv_at hl 1 rfl) ?_
  refine nn_add hx hb dX9_place_5 ?_
  rw [hQ]
  exact pf_iret hx hb hr hlocks rfl dX9_place_6
set_option maxHeartbeats 4000000 in
set_option maxRecDepth 100000 in
theorem m_empty0 (l : Launch) {G : va_G} {tys : List (ClassId × FieldType)} {cI : ClassId} (hT : tys[1]? = some (cI, .int)) {A : Nat → Prop} {x : Nat} {q : Nat → Nat} {v_thrown v_taped v_state v_operations v_changes v_sessions v_begun v_isChosen v_chosenMany : Int32} {f_many f_bytes f_kinds f_modes f_times f_paths f_contentAt f_contents f_path f_content f_ready f_tape f_sessionTime f_sessionChanges f_chosen : Nat → Int32} (t : Nat) (ht : t < 46) : rMet l yX9_empty wsX9_empty ({ frames := 0, cells := 0, slots := 0, locals := 0 } : Room) G tys A [.ref x, .int (nI t)] (rwx cI x q v_thrown v_taped v_state v_operations v_changes v_sessions v_begun v_isChosen v_chosenMany f_many f_bytes f_kinds f_modes f_times f_paths f_contentAt f_contents f_path f_content f_ready f_tape f_sessionTime f_sessionChanges f_chosen) (fun r w => r = none ∧ w = rwx cI x q v_thrown v_taped v_state v_operations v_changes v_sessions v_begun v_isChosen v_chosenMany (upd f_many t (nI 0)) (upd f_bytes t (nI 0)) f_kinds f_modes f_times f_paths f_contentAt f_contents f_path f_content f_ready f_tape f_sessionTime f_sessionChanges f_chosen) := by
  refine Met.ofW (cc := cX9_empty) (maxL := 2) (ret := none) (by decide) rfl ?_
  intro p e s m args below meth c s₁ B hml hv
  obtain ⟨hargs, hP, hK, hD⟩ := hv
  have hx := B.exec
  have hb := B.bytes
  have hr := B.returns
  have hts := atoms_spec (ws := wsX9_empty) B.pre
  have hown : s.vm.findClass RX9 = some m.cls := findClass_of_methodNamed B.named
  have hlocks := B.notSynchronized
  have hC : rC p s m args c cX9_empty G tys cI wsX9_empty := ⟨hx, hb, hts, (by decide +kernel), hown, hK, hT⟩
  have k_bytes := hts (.fieldLink RX9 13 "MirrorKeepModel" "bytes" "[I") (by decide +kernel)
  have k_many := hts (.fieldLink RX9 7 "MirrorKeepModel" "many" "[I") (by decide +kernel)
  have hR : rR G A s.heap s.heap [] (rwx cI x q v_thrown v_taped v_state v_operations v_changes v_sessions v_begun v_isChosen v_chosenMany f_many f_bytes f_kinds f_modes f_times f_paths f_contentAt f_contents f_path f_content f_ready f_tape f_sessionTime f_sessionChanges f_chosen) := ⟨hP, hD, va_S.rf⟩
  obtain ⟨Q, hQ⟩ : ∃ Q : State → Prop, Q = MQ below (rQ G A (fun r w => r = none ∧ w = rwx cI x q v_thrown v_taped v_state v_operations v_changes v_sessions v_begun v_isChosen v_chosenMany (upd f_many t (nI 0)) (upd f_bytes t (nI 0)) f_kinds f_modes f_times f_paths f_contentAt f_contents f_path f_content f_ready f_tape f_sessionTime f_sessionChanges f_chosen)) args s 0 0 A := ⟨_, rfl⟩
  change W p l e ({ frames := 0, cells := 0, slots := 0, locals := 0 } : Room) s m args below meth c s.heap [] 0 0 (MQ below (rQ G A (fun r w => r = none ∧ w = rwx cI x q v_thrown v_taped v_state v_operations v_changes v_sessions v_begun v_isChosen v_chosenMany (upd f_many t (nI 0)) (upd f_bytes t (nI 0)) f_kinds f_modes f_times f_paths f_contentAt f_contents f_path f_content f_ready f_tape f_sessionTime f_sessionChanges f_chosen)) args s 0 0 A) (entryFrame m args 2)
  rw [← hQ]
  refine nn_entry hargs (Nat.le_of_ble_eq_true rfl) (lv := [(0, .ref x), (1, .int (nI t))]) rfl (fun ls hl => ?_)
  refine lv_aload_n hx hb dX9_empty_0 rfl (lv_at hl 0 rfl) ?_
  refine rg_many hC hR.1 k_many dX9_empty_1 ?_
  refine lv_iload_n hx hb dX9_empty_4 rfl (lv_at hl 1 rfl) ?_
  refine lv_iconst (v := nI 0) hx hb dX9_empty_5 rfl ?_
  refine rs_many hC hR (by omega) dX9_empty_6 (fun H locs hR => ?_)
  refine lv_aload_n hx hb dX9_empty_7 rfl (lv_at hl 0 rfl) ?_
  refine rg_bytes hC hR.1 k_bytes dX9_empty_8 ?_
  refine lv_iload_n hx hb dX9_empty_11 rfl (lv_at hl 1 rfl) ?_
  refine lv_iconst (v := nI 0) hx hb dX9_empty_12 rfl ?_
  refine rs_bytes hC hR (by omega) dX9_empty_13 (fun H locs hR => ?_)
  rw [hQ]
  exact rf_vret hx hb hr hlocks hR ⟨rfl, rfl⟩ dX9_empty_14
set_option maxHeartbeats 4000000 in
set_option maxRecDepth 100000 in
theorem m_append0 (l : Launch) {G : va_G} {tys : List (ClassId × FieldType)} {cI : ClassId} (hT : tys[1]? = some (cI, .int)) {A : Nat → Prop} {x : Nat} {q : Nat → Nat} {v_thrown v_taped v_state v_operations v_changes v_sessions v_begun v_isChosen v_chosenMany : Int32} {f_many f_bytes f_kinds f_modes f_times f_paths f_contentAt f_contents f_path f_content f_ready f_tape f_sessionTime f_sessionChanges f_chosen : Nat → Int32} (fr i to mt pl cl ca bt : Nat) (hfr : fr < 46) (hto : to < 46) (hne : fr ≠ to) (hi : i < 120) (hm : f_many to = nI mt) (hmt : mt < 120) (hp : f_paths (120 * fr + i) = nI pl) (hpl : pl ≤ 150) (hc : f_contents (120 * fr + i) = nI cl) (hca : f_contentAt (120 * fr + i) = nI ca) (hbt : f_bytes to = nI bt) (h1 : ca + cl ≤ 8000) (h2 : bt + cl ≤ 8000) : rMet l yX9_append wsX9_append ({ frames := 1, cells := 0, slots := 0, locals := 21 } : Room) G tys A [.ref x, .int (nI fr), .int (nI i), .int (nI to)] (rwx cI x q v_thrown v_taped v_state v_operations v_changes v_sessions v_begun v_isChosen v_chosenMany f_many f_bytes f_kinds f_modes f_times f_paths f_contentAt f_contents f_path f_content f_ready f_tape f_sessionTime f_sessionChanges f_chosen) (fun r w => r = none ∧ w = rwx cI x q v_thrown v_taped v_state v_operations v_changes v_sessions v_begun v_isChosen v_chosenMany (upd f_many to (nI (mt + 1))) (upd f_bytes to (nI (bt + cl))) (upd f_kinds (120 * to + mt) (f_kinds (120 * fr + i))) (upd f_modes (120 * to + mt) (f_modes (120 * fr + i))) (upd f_times (120 * to + mt) (f_times (120 * fr + i))) (upd f_paths (120 * to + mt) (nI pl)) (upd f_contentAt (120 * to + mt) (nI bt)) (upd f_contents (120 * to + mt) (nI cl)) (va_cpy f_path f_path (150 * (120 * fr + i)) (150 * (120 * to + mt)) pl) (va_cpy f_content f_content (8000 * fr + ca) (8000 * to + bt) cl) f_ready f_tape f_sessionTime f_sessionChanges f_chosen) := by
  refine Met.ofW (cc := cX9_append) (maxL := 7) (ret := none) (by decide) rfl ?_
  intro p e s m args below meth c s₁ B hml hv
  obtain ⟨hargs, hP, hK, hD⟩ := hv
  have hx := B.exec
  have hb := B.bytes
  have hr := B.returns
  have hts := atoms_spec (ws := wsX9_append) B.pre
  have hown : s.vm.findClass RX9 = some m.cls := findClass_of_methodNamed B.named
  have hlocks := B.notSynchronized
  have hC : rC p s m args c cX9_append G tys cI wsX9_append := ⟨hx, hb, hts, (by decide +kernel), hown, hK, hT⟩
  have k_bytes := hts (.fieldLink RX9 13 "MirrorKeepModel" "bytes" "[I") (by decide +kernel)
  have k_content := hts (.fieldLink RX9 39 "MirrorKeepModel" "content" "[I") (by decide +kernel)
  have k_contentAt := hts (.fieldLink RX9 28 "MirrorKeepModel" "contentAt" "[I") (by decide +kernel)
  have k_contents := hts (.fieldLink RX9 31 "MirrorKeepModel" "contents" "[I") (by decide +kernel)
  have k_kinds := hts (.fieldLink RX9 16 "MirrorKeepModel" "kinds" "[I") (by decide +kernel)
  have k_many := hts (.fieldLink RX9 7 "MirrorKeepModel" "many" "[I") (by decide +kernel)
  have k_modes := hts (.fieldLink RX9 19 "MirrorKeepModel" "modes" "[I") (by decide +kernel)
  have k_path := hts (.fieldLink RX9 35 "MirrorKeepModel" "path" "[I") (by decide +kernel)
  have k_paths := hts (.fieldLink RX9 25 "MirrorKeepModel" "paths" "[I") (by decide +kernel)
  have k_times := hts (.fieldLink RX9 22 "MirrorKeepModel" "times" "[I") (by decide +kernel)
  have hR : rR G A s.heap s.heap [] (rwx cI x q v_thrown v_taped v_state v_operations v_changes v_sessions v_begun v_isChosen v_chosenMany f_many f_bytes f_kinds f_modes f_times f_paths f_contentAt f_contents f_path f_content f_ready f_tape f_sessionTime f_sessionChanges f_chosen) := ⟨hP, hD, va_S.rf⟩
  obtain ⟨Q, hQ⟩ : ∃ Q : State → Prop, Q = MQ below (rQ G A (fun r w => r = none ∧ w = rwx cI x q v_thrown v_taped v_state v_operations v_changes v_sessions v_begun v_isChosen v_chosenMany (upd f_many to (nI (mt + 1))) (upd f_bytes to (nI (bt + cl))) (upd f_kinds (120 * to + mt) (f_kinds (120 * fr + i))) (upd f_modes (120 * to + mt) (f_modes (120 * fr + i))) (upd f_times (120 * to + mt) (f_times (120 * fr + i))) (upd f_paths (120 * to + mt) (nI pl)) (upd f_contentAt (120 * to + mt) (nI bt)) (upd f_contents (120 * to + mt) (nI cl)) (va_cpy f_path f_path (150 * (120 * fr + i)) (150 * (120 * to + mt)) pl) (va_cpy f_content f_content (8000 * fr + ca) (8000 * to + bt) cl) f_ready f_tape f_sessionTime f_sessionChanges f_chosen)) args s 0 0 A := ⟨_, rfl⟩
  change W p l e ({ frames := 1, cells := 0, slots := 0, locals := 21 } : Room) s m args below meth c s.heap [] 0 0 (MQ below (rQ G A (fun r w => r = none ∧ w = rwx cI x q v_thrown v_taped v_state v_operations v_changes v_sessions v_begun v_isChosen v_chosenMany (upd f_many to (nI (mt + 1))) (upd f_bytes to (nI (bt + cl))) (upd f_kinds (120 * to + mt) (f_kinds (120 * fr + i))) (upd f_modes (120 * to + mt) (f_modes (120 * fr + i))) (upd f_times (120 * to + mt) (f_times (120 * fr + i))) (upd f_paths (120 * to + mt) (nI pl)) (upd f_contentAt (120 * to + mt) (nI bt)) (upd f_contents (120 * to + mt) (nI cl)) (va_cpy f_path f_path (150 * (120 * fr + i)) (150 * (120 * to + mt)) pl) (va_cpy f_content f_content (8000 * fr + ca) (8000 * to + bt) cl) f_ready f_tape f_sessionTime f_sessionChanges f_chosen)) args s 0 0 A) (entryFrame m args 7)
  rw [← hQ]
  refine nn_entry hargs (Nat.le_of_ble_eq_true rfl) (lv := [(0, .ref x), (1, .int (nI fr)), (2, .int (nI i)), (3, .int (nI to))]) rfl (fun ls hl => ?_)
  have hab : 120 * fr + i ≠ 120 * to + mt := by omega
  refine lv_iload_n hx hb dX9_append_0 rfl (lv_at hl 1 rfl) ?_
  refine lv_iload_n hx hb dX9_append_1 rfl (lv_at hl 2 rfl) ?_
  refine pf_callS (As := [.int (nI fr), .int (nI i)]) (rest := []) (m_place l hT fr i) ⟨hx, hb, hml, hown, hts⟩ (va_cwS 2 hts gX9_append_X9_place rfl rfl rfl (by decide +kernel) ⟨Nat.le_of_ble_eq_true rfl, Nat.le_of_ble_eq_true rfl⟩) hK nn_nil rfl hl.1 rfl (Nat.le_of_ble_eq_true rfl) dX9_append_2 ⟨Nat.le_of_ble_eq_true rfl, Nat.le_of_ble_eq_true rfl⟩ (fun r_1 hr_1 => ?_)
  subst hr_1
  refine lv_istore (lv' := [(4, .int (nI (120 * fr + i))), (0, .ref x), (1, .int (nI fr)), (2, .int (nI i)), (3, .int (nI to))]) hx hb dX9_append_5 hl (by decide) rfl (fun ls hl => ?_)
  refine lv_iload_n hx hb dX9_append_7 rfl (lv_at hl 4 rfl) ?_
  refine lv_aload_n hx hb dX9_append_8 rfl (lv_at hl 1 rfl) ?_
  refine rg_many hC hR.1 k_many dX9_append_9 ?_
  refine lv_iload_n hx hb dX9_append_12 rfl (lv_at hl 4 rfl) ?_
  refine rl_many hC hR.1 (by omega) dX9_append_13 ?_
  refine nn_eqi (y := nI mt) hm ?_
  refine pf_callS (As := [.int (nI to), .int (nI mt)]) (rest := []) (m_place l hT to mt) ⟨hx, hb, hml, hown, hts⟩ (va_cwS 2 hts gX9_append_X9_place rfl rfl rfl (by decide +kernel) ⟨Nat.le_of_ble_eq_true rfl, Nat.le_of_ble_eq_true rfl⟩) hK nn_nil rfl hl.1 rfl (Nat.le_of_ble_eq_true rfl) dX9_append_14 ⟨Nat.le_of_ble_eq_true rfl, Nat.le_of_ble_eq_true rfl⟩ (fun r_2 hr_2 => ?_)
  subst hr_2
  refine lv_istore (lv' := [(5, .int (nI (120 * to + mt))), (4, .int (nI (120 * fr + i))), (0, .ref x), (1, .int (nI fr)), (2, .int (nI i)), (3, .int (nI to))]) hx hb dX9_append_17 hl (by decide) rfl (fun ls hl => ?_)
  refine lv_aload_n hx hb dX9_append_19 rfl (lv_at hl 2 rfl) ?_
  refine rg_kinds hC hR.1 k_kinds dX9_append_20 ?_
  refine lv_iload hx hb dX9_append_23 (lv_at hl 0 rfl) ?_
  refine lv_aload_n hx hb dX9_append_25 rfl (lv_at hl 2 rfl) ?_
  refine rg_kinds hC hR.1 k_kinds dX9_append_26 ?_
  refine lv_iload hx hb dX9_append_29 (lv_at hl 1 rfl) ?_
  refine rl_kinds hC hR.1 (by omega) dX9_append_31 ?_
  refine rs_kinds hC hR (by omega) dX9_append_32 (fun H locs hR => ?_)
  refine lv_aload_n hx hb dX9_append_33 rfl (lv_at hl 2 rfl) ?_
  refine rg_modes hC hR.1 k_modes dX9_append_34 ?_
  refine lv_iload hx hb dX9_append_37 (lv_at hl 0 rfl) ?_
  refine lv_aload_n hx hb dX9_append_39 rfl (lv_at hl 2 rfl) ?_
  refine rg_modes hC hR.1 k_modes dX9_append_40 ?_
  refine lv_iload hx hb dX9_append_43 (lv_at hl 1 rfl) ?_
  refine rl_modes hC hR.1 (by omega) dX9_append_45 ?_
  refine rs_modes hC hR (by omega) dX9_append_46 (fun H locs hR => ?_)
  refine lv_aload_n hx hb dX9_append_47 rfl (lv_at hl 2 rfl) ?_
  refine rg_times hC hR.1 k_times dX9_append_48 ?_
  refine lv_iload hx hb dX9_append_51 (lv_at hl 0 rfl) ?_
  refine lv_aload_n hx hb dX9_append_53 rfl (lv_at hl 2 rfl) ?_
  refine rg_times hC hR.1 k_times dX9_append_54 ?_
  refine lv_iload hx hb dX9_append_57 (lv_at hl 1 rfl) ?_
  refine rl_times hC hR.1 (by omega) dX9_append_59 ?_
  refine rs_times hC hR (by omega) dX9_append_60 (fun H locs hR => ?_)
  refine lv_aload_n hx hb dX9_append_61 rfl (lv_at hl 2 rfl) ?_
  refine rg_paths hC hR.1 k_paths dX9_append_62 ?_
  refine lv_iload hx hb dX9_append_65 (lv_at hl 0 rfl) ?_
  refine lv_aload_n hx hb dX9_append_67 rfl (lv_at hl 2 rfl) ?_
  refine rg_paths hC hR.1 k_paths dX9_append_68 ?_
  refine lv_iload hx hb dX9_append_71 (lv_at hl 1 rfl) ?_
  refine rl_paths hC hR.1 (by omega) dX9_append_73 ?_
  refine nn_eqi (y := nI pl) hp ?_
  refine rs_paths hC hR (by omega) dX9_append_74 (fun H locs hR => ?_)
  refine lv_iconst (v := nI 0) hx hb dX9_append_75 rfl ?_
  refine lv_istore (lv' := [(6, .int (nI 0)), (5, .int (nI (120 * to + mt))), (4, .int (nI (120 * fr + i))), (0, .ref x), (1, .int (nI fr)), (2, .int (nI i)), (3, .int (nI to))]) hx hb dX9_append_76 hl (by decide) rfl (fun ls hl => ?_)
  have lp_78 : ∀ (n_78 : Nat) (k : Nat) (fp : Nat → Int32) (H : Heap) (locs : List Loc) (ls : Array Slot), (pl - k) < n_78 → (k ≤ pl) → (fp = va_cpy f_path f_path (150 * (120 * fr + i)) (150 * (120 * to + mt)) k) → rR G A s.heap H locs (rwx cI x q v_thrown v_taped v_state v_operations v_changes v_sessions v_begun v_isChosen v_chosenMany f_many f_bytes (upd f_kinds (120 * to + mt) (f_kinds (120 * fr + i))) (upd f_modes (120 * to + mt) (f_modes (120 * fr + i))) (upd f_times (120 * to + mt) (f_times (120 * fr + i))) (upd f_paths (120 * to + mt) (nI pl)) f_contentAt f_contents fp f_content f_ready f_tape f_sessionTime f_sessionChanges f_chosen) → lv_has ls 7 [(6, .int (nI k)), (5, .int (nI (120 * to + mt))), (4, .int (nI (120 * fr + i))), (0, .ref x), (1, .int (nI fr)), (2, .int (nI i)), (3, .int (nI to))] → W p l e ({ frames := 1, cells := 0, slots := 0, locals := 21 } : Room) s m args below meth c H locs 0 0 Q (F0 m 78 ls []) := by
    intro n_78
    induction n_78 with
    | zero => intro k fp H locs ls h0; exact absurd h0 (Nat.not_lt_zero _)
    | succ n_78 ih_78 =>
      intro k fp H locs ls hm_78 hk hfp hR hl
      refine lv_iload hx hb dX9_append_78 (lv_at hl 0 rfl) ?_
      refine lv_aload_n hx hb dX9_append_80 rfl (lv_at hl 3 rfl) ?_
      refine rg_paths hC hR.1 k_paths dX9_append_81 ?_
      refine lv_iload hx hb dX9_append_84 (lv_at hl 2 rfl) ?_
      refine rl_paths hC hR.1 (by omega) dX9_append_86 ?_
      refine nn_eqi (y := nI pl) (by rw [pk_un hab]; exact hp) ?_
      refine nn_ge hx hb dX9_append_87 (tgt := 124) (by decide) (by omega) (by omega) (fun c_3 => ?_) (fun c_3 => ?_)
      · have hk1 : k = pl := by omega
        refine lv_aload_n hx hb dX9_append_124 rfl (lv_at hl 3 rfl) ?_
        refine rg_contents hC hR.1 k_contents dX9_append_125 ?_
        refine lv_iload hx hb dX9_append_128 (lv_at hl 1 rfl) ?_
        refine lv_aload_n hx hb dX9_append_130 rfl (lv_at hl 3 rfl) ?_
        refine rg_contents hC hR.1 k_contents dX9_append_131 ?_
        refine lv_iload hx hb dX9_append_134 (lv_at hl 2 rfl) ?_
        refine rl_contents hC hR.1 (by omega) dX9_append_136 ?_
        refine nn_eqi (y := nI cl) hc ?_
        refine rs_contents hC hR (by omega) dX9_append_137 (fun H locs hR => ?_)
        refine lv_aload_n hx hb dX9_append_138 rfl (lv_at hl 3 rfl) ?_
        refine rg_contentAt hC hR.1 k_contentAt dX9_append_139 ?_
        refine lv_iload hx hb dX9_append_142 (lv_at hl 1 rfl) ?_
        refine lv_aload_n hx hb dX9_append_144 rfl (lv_at hl 3 rfl) ?_
        refine rg_bytes hC hR.1 k_bytes dX9_append_145 ?_
        refine lv_iload_n hx hb dX9_append_148 rfl (lv_at hl 6 rfl) ?_
        refine rl_bytes hC hR.1 (by omega) dX9_append_149 ?_
        refine nn_eqi (y := nI bt) hbt ?_
        refine rs_contentAt hC hR (by omega) dX9_append_150 (fun H locs hR => ?_)
        refine lv_iconst (v := nI 0) hx hb dX9_append_151 rfl ?_
        refine lv_istore (lv' := [(6, .int (nI 0)), (5, .int (nI (120 * to + mt))), (4, .int (nI (120 * fr + i))), (0, .ref x), (1, .int (nI fr)), (2, .int (nI i)), (3, .int (nI to))]) hx hb dX9_append_152 hl (by decide) rfl (fun ls hl => ?_)
        have lp_154 : ∀ (n_154 : Nat) (k2 : Nat) (fc : Nat → Int32) (H : Heap) (locs : List Loc) (ls : Array Slot), (cl - k2) < n_154 → (k2 ≤ cl) → (fc = va_cpy f_content f_content (8000 * fr + ca) (8000 * to + bt) k2) → rR G A s.heap H locs (rwx cI x q v_thrown v_taped v_state v_operations v_changes v_sessions v_begun v_isChosen v_chosenMany f_many f_bytes (upd f_kinds (120 * to + mt) (f_kinds (120 * fr + i))) (upd f_modes (120 * to + mt) (f_modes (120 * fr + i))) (upd f_times (120 * to + mt) (f_times (120 * fr + i))) (upd f_paths (120 * to + mt) (nI pl)) (upd f_contentAt (120 * to + mt) (nI bt)) (upd f_contents (120 * to + mt) (nI cl)) fp fc f_ready f_tape f_sessionTime f_sessionChanges f_chosen) → lv_has ls 7 [(6, .int (nI k2)), (5, .int (nI (120 * to + mt))), (4, .int (nI (120 * fr + i))), (0, .ref x), (1, .int (nI fr)), (2, .int (nI i)), (3, .int (nI to))] → W p l e ({ frames := 1, cells := 0, slots := 0, locals := 21 } : Room) s m args below meth c H locs 0 0 Q (F0 m 154 ls []) := by
          intro n_154
          induction n_154 with
          | zero => intro k2 fc H locs ls h0; exact absurd h0 (Nat.not_lt_zero _)
          | succ n_154 ih_154 =>
            intro k2 fc H locs ls hm_154 hk3 hfc hR hl
            refine lv_iload hx hb dX9_append_154 (lv_at hl 0 rfl) ?_
            refine lv_aload_n hx hb dX9_append_156 rfl (lv_at hl 3 rfl) ?_
            refine rg_contents hC hR.1 k_contents dX9_append_157 ?_
            refine lv_iload hx hb dX9_append_160 (lv_at hl 2 rfl) ?_
            refine rl_contents hC hR.1 (by omega) dX9_append_162 ?_
            refine nn_eqi (y := nI cl) (by rw [pk_un hab]; exact hc) ?_
            refine nn_ge hx hb dX9_append_163 (tgt := 213) (by decide) (by omega) (by omega) (fun c_4 => ?_) (fun c_4 => ?_)
            · have hk2 : k2 = cl := by omega
              refine lv_aload_n hx hb dX9_append_213 rfl (lv_at hl 3 rfl) ?_
              refine rg_bytes hC hR.1 k_bytes dX9_append_214 ?_
              refine lv_iload_n hx hb dX9_append_217 rfl (lv_at hl 6 rfl) ?_
              refine lv_dup2_11 hx hb dX9_append_218 rfl rfl ?_
              refine rl_bytes hC hR.1 (by omega) dX9_append_219 ?_
              refine nn_eqi (y := nI bt) hbt ?_
              refine lv_aload_n hx hb dX9_append_220 rfl (lv_at hl 3 rfl) ?_
              refine rg_contents hC hR.1 k_contents dX9_append_221 ?_
              refine lv_iload hx hb dX9_append_224 (lv_at hl 2 rfl) ?_
              refine rl_contents hC hR.1 (by omega) dX9_append_226 ?_
              refine nn_eqi (y := nI cl) (by rw [pk_un hab]; exact hc) ?_
              refine nn_add hx hb dX9_append_227 ?_
              refine rs_bytes hC hR (by omega) dX9_append_228 (fun H locs hR => ?_)
              refine lv_aload_n hx hb dX9_append_229 rfl (lv_at hl 3 rfl) ?_
              refine rg_many hC hR.1 k_many dX9_append_230 ?_
              refine lv_iload_n hx hb dX9_append_233 rfl (lv_at hl 6 rfl) ?_
              refine lv_dup2_11 hx hb dX9_append_234 rfl rfl ?_
              refine rl_many hC hR.1 (by omega) dX9_append_235 ?_
              refine nn_eqi (y := nI mt) hm ?_
              refine lv_iconst (v := nI 1) hx hb dX9_append_236 rfl ?_
              refine nn_add hx hb dX9_append_237 ?_
              refine rs_many hC hR (by omega) dX9_append_238 (fun H locs hR => ?_)
              rw [hQ]
              exact rf_vret hx hb hr hlocks hR ⟨rfl, by rw [hfp, hfc, hk1, hk2]⟩ dX9_append_239
            · refine lv_aload_n hx hb dX9_append_166 rfl (lv_at hl 3 rfl) ?_
              refine rg_content hC hR.1 k_content dX9_append_167 ?_
              refine lv_sipush (v := nI 8000) hx hb dX9_append_170 (by decide) ?_
              refine lv_iload_n hx hb dX9_append_173 rfl (lv_at hl 6 rfl) ?_
              refine nn_mul hx hb dX9_append_174 ?_
              refine lv_aload_n hx hb dX9_append_175 rfl (lv_at hl 3 rfl) ?_
              refine rg_bytes hC hR.1 k_bytes dX9_append_176 ?_
              refine lv_iload_n hx hb dX9_append_179 rfl (lv_at hl 6 rfl) ?_
              refine rl_bytes hC hR.1 (by omega) dX9_append_180 ?_
              refine nn_eqi (y := nI bt) hbt ?_
              refine nn_add hx hb dX9_append_181 ?_
              refine lv_iload hx hb dX9_append_182 (lv_at hl 0 rfl) ?_
              refine nn_add hx hb dX9_append_184 ?_
              refine lv_aload_n hx hb dX9_append_185 rfl (lv_at hl 3 rfl) ?_
              refine rg_content hC hR.1 k_content dX9_append_186 ?_
              refine lv_sipush (v := nI 8000) hx hb dX9_append_189 (by decide) ?_
              refine lv_iload_n hx hb dX9_append_192 rfl (lv_at hl 4 rfl) ?_
              refine nn_mul hx hb dX9_append_193 ?_
              refine lv_aload_n hx hb dX9_append_194 rfl (lv_at hl 3 rfl) ?_
              refine rg_contentAt hC hR.1 k_contentAt dX9_append_195 ?_
              refine lv_iload hx hb dX9_append_198 (lv_at hl 2 rfl) ?_
              refine rl_contentAt hC hR.1 (by omega) dX9_append_200 ?_
              refine nn_eqi (y := nI ca) (by rw [pk_un hab]; exact hca) ?_
              refine nn_add hx hb dX9_append_201 ?_
              refine lv_iload hx hb dX9_append_202 (lv_at hl 0 rfl) ?_
              refine nn_add hx hb dX9_append_204 ?_
              refine rl_content hC hR.1 (by omega) dX9_append_205 ?_
              refine rs_content hC hR (by omega) dX9_append_206 (fun H locs hR => ?_)
              refine lv_iinc (v := nI (k2 + 1)) (lv' := [(6, .int (nI (k2 + 1))), (5, .int (nI (120 * to + mt))), (4, .int (nI (120 * fr + i))), (0, .ref x), (1, .int (nI fr)), (2, .int (nI i)), (3, .int (nI to))]) hx hb dX9_append_207 hl (k := 0) rfl (nI_add k2 1) (by decide) rfl (fun ls hl => ?_)
              refine lv_goto (tgt := 154) hx hb dX9_append_210 (by decide) ?_
              exact ih_154 (k2 + 1) (upd fc (((8000 * to) + bt) + k2) (fc (((8000 * fr) + ca) + k2))) _ _ _ (by omega) (by omega) (by rw [hfc]; exact cpy_step _ _ _ _ (by omega)) hR (lv_sub hl [0, 1, 2, 3, 4, 5, 6] rfl)
        exact lp_154 (((cl - 0)) + 1) 0 f_content _ _ _ (Nat.lt_succ_self _) (Nat.zero_le _) (cpy_0 _ _ _ _).symm hR (lv_sub hl [0, 1, 2, 3, 4, 5, 6] rfl)
      · refine lv_aload_n hx hb dX9_append_90 rfl (lv_at hl 3 rfl) ?_
        refine rg_path hC hR.1 k_path dX9_append_91 ?_
        refine lv_sipush (v := nI 150) hx hb dX9_append_94 (by decide) ?_
        refine lv_iload hx hb dX9_append_97 (lv_at hl 1 rfl) ?_
        refine nn_mul hx hb dX9_append_99 ?_
        refine lv_iload hx hb dX9_append_100 (lv_at hl 0 rfl) ?_
        refine nn_add hx hb dX9_append_102 ?_
        refine lv_aload_n hx hb dX9_append_103 rfl (lv_at hl 3 rfl) ?_
        refine rg_path hC hR.1 k_path dX9_append_104 ?_
        refine lv_sipush (v := nI 150) hx hb dX9_append_107 (by decide) ?_
        refine lv_iload hx hb dX9_append_110 (lv_at hl 2 rfl) ?_
        refine nn_mul hx hb dX9_append_112 ?_
        refine lv_iload hx hb dX9_append_113 (lv_at hl 0 rfl) ?_
        refine nn_add hx hb dX9_append_115 ?_
        refine rl_path hC hR.1 (by omega) dX9_append_116 ?_
        refine rs_path hC hR (by omega) dX9_append_117 (fun H locs hR => ?_)
        refine lv_iinc (v := nI (k + 1)) (lv' := [(6, .int (nI (k + 1))), (5, .int (nI (120 * to + mt))), (4, .int (nI (120 * fr + i))), (0, .ref x), (1, .int (nI fr)), (2, .int (nI i)), (3, .int (nI to))]) hx hb dX9_append_118 hl (k := 0) rfl (nI_add k 1) (by decide) rfl (fun ls hl => ?_)
        refine lv_goto (tgt := 78) hx hb dX9_append_121 (by decide) ?_
        exact ih_78 (k + 1) (upd fp ((150 * (120 * to + mt)) + k) (fp ((150 * (120 * fr + i)) + k))) _ _ _ (by omega) (by omega) (by rw [hfp]; exact cpy_step _ _ _ _ (by omega)) hR (lv_sub hl [0, 1, 2, 3, 4, 5, 6] rfl)
  exact lp_78 (((pl - 0)) + 1) 0 f_path _ _ _ (Nat.lt_succ_self _) (Nat.zero_le _) (cpy_0 _ _ _ _).symm hR (lv_sub hl [0, 1, 2, 3, 4, 5, 6] rfl)
