set_option maxHeartbeats 4000000 in
set_option maxRecDepth 100000 in
theorem m_orderOf (l : Launch) {G : va_G} {tys : List (ClassId × FieldType)} {cI : ClassId} (hT : tys[1]? = some (cI, .int)) {x : Nat} {q : Nat → Nat} {v_thrown v_taped v_state v_operations v_changes v_sessions v_begun v_isChosen v_chosenMany : Int32} {f_many f_bytes f_kinds f_modes f_times f_paths f_contentAt f_contents f_path f_content f_ready f_tape f_sessionTime f_sessionChanges f_chosen : Nat → Int32} (Ts : Nat → List En) (t i u j : Nat) (hRT : RT f_many f_bytes f_kinds f_modes f_times f_paths f_contentAt f_contents f_path f_content Ts) (ht : t < 46) (hi : i < (Ts t).length) (hu : u < 46) (hj : j < (Ts u).length) : pMet l yX9_orderOf wsX9_orderOf ({ frames := 2, cells := 0, slots := 0, locals := 49 } : Room) G tys [.ref x, .int (nI t), .int (nI i), .int (nI u), .int (nI j)] (rwx cI x q v_thrown v_taped v_state v_operations v_changes v_sessions v_begun v_isChosen v_chosenMany f_many f_bytes f_kinds f_modes f_times f_paths f_contentAt f_contents f_path f_content f_ready f_tape f_sessionTime f_sessionChanges f_chosen) (fun r => ∃ v : Int32, r = .int v ∧ v.toInt = pcm ((Ts t).getD i e0).1 ((Ts u).getD j e0).1) := by
  refine Met.ofW (cc := cX9_orderOf) (maxL := 5) (ret := (some .int)) (by decide) rfl ?_
  intro p e s m args below meth c s₁ B hml hv
  obtain ⟨hargs, hP, hK⟩ := hv
  have hx := B.exec
  have hb := B.bytes
  have hr := B.returns
  have hts := atoms_spec (ws := wsX9_orderOf) B.pre
  have hown : s.vm.findClass RX9 = some m.cls := findClass_of_methodNamed B.named
  have hlocks := B.notSynchronized
  have hC : rC p s m args c cX9_orderOf G tys cI wsX9_orderOf := ⟨hx, hb, hts, (by decide +kernel), hown, hK, hT⟩
  have k_path := hts (.fieldLink RX9 35 "MirrorKeepModel" "path" "[I") (by decide +kernel)
  have k_paths := hts (.fieldLink RX9 25 "MirrorKeepModel" "paths" "[I") (by decide +kernel)
  obtain ⟨Q, hQ⟩ : ∃ Q : State → Prop, Q = MQ below (pQ (fun r => ∃ v : Int32, r = .int v ∧ v.toInt = pcm ((Ts t).getD i e0).1 ((Ts u).getD j e0).1)) args s 0 0 (fun _ => False) := ⟨_, rfl⟩
  change W p l e ({ frames := 2, cells := 0, slots := 0, locals := 49 } : Room) s m args below meth c s.heap [] 0 0 (MQ below (pQ (fun r => ∃ v : Int32, r = .int v ∧ v.toInt = pcm ((Ts t).getD i e0).1 ((Ts u).getD j e0).1)) args s 0 0 (fun _ => False)) (entryFrame m args 5)
  rw [← hQ]
  refine nn_entry hargs (Nat.le_of_ble_eq_true rfl) (lv := [(0, .ref x), (1, .int (nI t)), (2, .int (nI i)), (3, .int (nI u)), (4, .int (nI j))]) rfl (fun ls hl => ?_)
  obtain ⟨t1, t2, t3, t4, t5⟩ := hRT t ht
  obtain ⟨u1, u2, u3, u4, u5⟩ := hRT u hu
  obtain ⟨d1, d2, d3, d4, d5, d6, d7, d8, d9, d10, d11⟩ := t5 i hi
  obtain ⟨e1, e2, e3, e4, e5, e6, e7, e8, e9, e10, e11⟩ := u5 j hj
  refine lv_aload_n hx hb dX9_orderOf_0 rfl (lv_at hl 0 rfl) ?_
  refine rg_path hC hP k_path dX9_orderOf_1 ?_
  refine lv_sipush (v := nI 150) hx hb dX9_orderOf_4 (by decide) ?_
  refine lv_iload_n hx hb dX9_orderOf_7 rfl (lv_at hl 1 rfl) ?_
  refine lv_iload_n hx hb dX9_orderOf_8 rfl (lv_at hl 2 rfl) ?_
  refine pf_callS (As := [.int (nI t), .int (nI i)]) (rest := [.int (nI 150), .ref (q 8)]) (m_place l hT t i) ⟨hx, hb, hml, hown, hts⟩ (va_cwS 2 hts gX9_orderOf_X9_place rfl rfl rfl (by decide +kernel) ⟨Nat.le_of_ble_eq_true rfl, Nat.le_of_ble_eq_true rfl⟩) hK nn_nil rfl hl.1 rfl (Nat.le_of_ble_eq_true rfl) dX9_orderOf_9 ⟨Nat.le_of_ble_eq_true rfl, Nat.le_of_ble_eq_true rfl⟩ (fun r_1 hr_1 => ?_)
  subst hr_1
  refine nn_mul hx hb dX9_orderOf_12 ?_
  refine lv_aload_n hx hb dX9_orderOf_13 rfl (lv_at hl 0 rfl) ?_
  refine rg_paths hC hP k_paths dX9_orderOf_14 ?_
  refine lv_iload_n hx hb dX9_orderOf_17 rfl (lv_at hl 1 rfl) ?_
  refine lv_iload_n hx hb dX9_orderOf_18 rfl (lv_at hl 2 rfl) ?_
  refine pf_callS (As := [.int (nI t), .int (nI i)]) (rest := [.ref (q 5), .int (nI (150 * (120 * t + i))), .ref (q 8)]) (m_place l hT t i) ⟨hx, hb, hml, hown, hts⟩ (va_cwS 2 hts gX9_orderOf_X9_place rfl rfl rfl (by decide +kernel) ⟨Nat.le_of_ble_eq_true rfl, Nat.le_of_ble_eq_true rfl⟩) hK nn_nil rfl hl.1 rfl (Nat.le_of_ble_eq_true rfl) dX9_orderOf_19 ⟨Nat.le_of_ble_eq_true rfl, Nat.le_of_ble_eq_true rfl⟩ (fun r_2 hr_2 => ?_)
  subst hr_2
  refine rl_paths hC hP (by omega) dX9_orderOf_22 ?_
  refine nn_eqi (y := nI (((Ts t).getD i e0).1.length)) d4 ?_
  refine lv_aload_n hx hb dX9_orderOf_23 rfl (lv_at hl 0 rfl) ?_
  refine rg_path hC hP k_path dX9_orderOf_24 ?_
  refine lv_sipush (v := nI 150) hx hb dX9_orderOf_27 (by decide) ?_
  refine lv_iload_n hx hb dX9_orderOf_30 rfl (lv_at hl 3 rfl) ?_
  refine lv_iload hx hb dX9_orderOf_31 (lv_at hl 4 rfl) ?_
  refine pf_callS (As := [.int (nI u), .int (nI j)]) (rest := [.int (nI 150), .ref (q 8), .int (nI (((Ts t).getD i e0).1.length)), .int (nI (150 * (120 * t + i))), .ref (q 8)]) (m_place l hT u j) ⟨hx, hb, hml, hown, hts⟩ (va_cwS 2 hts gX9_orderOf_X9_place rfl rfl rfl (by decide +kernel) ⟨Nat.le_of_ble_eq_true rfl, Nat.le_of_ble_eq_true rfl⟩) hK nn_nil rfl hl.1 rfl (Nat.le_of_ble_eq_true rfl) dX9_orderOf_33 ⟨Nat.le_of_ble_eq_true rfl, Nat.le_of_ble_eq_true rfl⟩ (fun r_3 hr_3 => ?_)
  subst hr_3
  refine nn_mul hx hb dX9_orderOf_36 ?_
  refine lv_aload_n hx hb dX9_orderOf_37 rfl (lv_at hl 0 rfl) ?_
  refine rg_paths hC hP k_paths dX9_orderOf_38 ?_
  refine lv_iload_n hx hb dX9_orderOf_41 rfl (lv_at hl 3 rfl) ?_
  refine lv_iload hx hb dX9_orderOf_42 (lv_at hl 4 rfl) ?_
  refine pf_callS (As := [.int (nI u), .int (nI j)]) (rest := [.ref (q 5), .int (nI (150 * (120 * u + j))), .ref (q 8), .int (nI (((Ts t).getD i e0).1.length)), .int (nI (150 * (120 * t + i))), .ref (q 8)]) (m_place l hT u j) ⟨hx, hb, hml, hown, hts⟩ (va_cwS 2 hts gX9_orderOf_X9_place rfl rfl rfl (by decide +kernel) ⟨Nat.le_of_ble_eq_true rfl, Nat.le_of_ble_eq_true rfl⟩) hK nn_nil rfl hl.1 rfl (Nat.le_of_ble_eq_true rfl) dX9_orderOf_44 ⟨Nat.le_of_ble_eq_true rfl, Nat.le_of_ble_eq_true rfl⟩ (fun r_4 hr_4 => ?_)
  subst hr_4
  refine rl_paths hC hP (by omega) dX9_orderOf_47 ?_
  refine nn_eqi (y := nI (((Ts u).getD j e0).1.length)) e4 ?_
  refine pf_callS (As := [.ref (q 8), .int (nI (150 * (120 * t + i))), .int (nI (((Ts t).getD i e0).1.length)), .ref (q 8), .int (nI (150 * (120 * u + j))), .int (nI (((Ts u).getD j e0).1.length))]) (rest := []) (m_order l hT (k1 := 9) (k2 := 9) rfl rfl (by decide) (by decide) d8 e8 (by omega) (by omega) d10 e10) ⟨hx, hb, hml, hown, hts⟩ (va_cwS 6 hts gX9_orderOf_X9_order rfl rfl rfl (by decide +kernel) ⟨Nat.le_of_ble_eq_true rfl, Nat.le_of_ble_eq_true rfl⟩) hK hP rfl hl.1 rfl (Nat.le_of_ble_eq_true rfl) dX9_orderOf_48 ⟨Nat.le_of_ble_eq_true rfl, Nat.le_of_ble_eq_true rfl⟩ (fun r_5 hr_5 => ?_)
  obtain ⟨o_6, rfl, ho_6⟩ := hr_5
  rw [hQ]
  exact pf_iret hx hb hr hlocks ⟨_, rfl, ho_6⟩ dX9_orderOf_51
set_option maxHeartbeats 4000000 in
set_option maxRecDepth 100000 in
theorem m_find (l : Launch) {G : va_G} {tys : List (ClassId × FieldType)} {cI : ClassId} (hT : tys[1]? = some (cI, .int)) {x : Nat} {q : Nat → Nat} {v_thrown v_taped v_state v_operations v_changes v_sessions v_begun v_isChosen v_chosenMany : Int32} {f_many f_bytes f_kinds f_modes f_times f_paths f_contentAt f_contents f_path f_content f_ready f_tape f_sessionTime f_sessionChanges f_chosen : Nat → Int32} (Ts : Nat → List En) (t : Nat) (hRT : RT f_many f_bytes f_kinds f_modes f_times f_paths f_contentAt f_contents f_path f_content Ts) (ht : t < 46) {k2 a2 n2 : Nat} {g : Nat → Int32} (ha2 : (rwx cI x q v_thrown v_taped v_state v_operations v_changes v_sessions v_begun v_isChosen v_chosenMany f_many f_bytes f_kinds f_modes f_times f_paths f_contentAt f_contents f_path f_content f_ready f_tape f_sessionTime f_sessionChanges f_chosen)[k2]? = some (a2, .inl (cI, n2, .inl g))) (hn2 : n2 < 2 ^ 31) (P1 : List Nat) (hp1 : en g 0 P1) (hl1 : P1.length ≤ n2) (hq1 : ∀ b ∈ P1, b < 256) : pMet l yX9_find wsX9_find ({ frames := 2, cells := 0, slots := 0, locals := 49 } : Room) G tys [.ref x, .int (nI t), .ref a2, .int (nI P1.length)] (rwx cI x q v_thrown v_taped v_state v_operations v_changes v_sessions v_begun v_isChosen v_chosenMany f_many f_bytes f_kinds f_modes f_times f_paths f_contentAt f_contents f_path f_content f_ready f_tape f_sessionTime f_sessionChanges f_chosen) (fun r => r = .int (fndr (Ts t) P1 (Ts t).length)) := by
  refine Met.ofW (cc := cX9_find) (maxL := 6) (ret := (some .int)) (by decide) rfl ?_
  intro p e s m args below meth c s₁ B hml hv
  obtain ⟨hargs, hP, hK⟩ := hv
  have hx := B.exec
  have hb := B.bytes
  have hr := B.returns
  have hts := atoms_spec (ws := wsX9_find) B.pre
  have hown : s.vm.findClass RX9 = some m.cls := findClass_of_methodNamed B.named
  have hlocks := B.notSynchronized
  have hC : rC p s m args c cX9_find G tys cI wsX9_find := ⟨hx, hb, hts, (by decide +kernel), hown, hK, hT⟩
  have k_many := hts (.fieldLink RX9 7 "MirrorKeepModel" "many" "[I") (by decide +kernel)
  have k_path := hts (.fieldLink RX9 35 "MirrorKeepModel" "path" "[I") (by decide +kernel)
  have k_paths := hts (.fieldLink RX9 25 "MirrorKeepModel" "paths" "[I") (by decide +kernel)
  obtain ⟨Q, hQ⟩ : ∃ Q : State → Prop, Q = MQ below (pQ (fun r => r = .int (fndr (Ts t) P1 (Ts t).length))) args s 0 0 (fun _ => False) := ⟨_, rfl⟩
  change W p l e ({ frames := 2, cells := 0, slots := 0, locals := 49 } : Room) s m args below meth c s.heap [] 0 0 (MQ below (pQ (fun r => r = .int (fndr (Ts t) P1 (Ts t).length))) args s 0 0 (fun _ => False)) (entryFrame m args 6)
  rw [← hQ]
  refine nn_entry hargs (Nat.le_of_ble_eq_true rfl) (lv := [(0, .ref x), (1, .int (nI t)), (2, .ref a2), (3, .int (nI P1.length))]) rfl (fun ls hl => ?_)
  obtain ⟨t1, t2, t3, t4, t5⟩ := hRT t ht
  refine lv_iconst (v := (-1)) hx hb dX9_find_0 rfl ?_
  refine lv_istore (lv' := [(4, .int (-1)), (0, .ref x), (1, .int (nI t)), (2, .ref a2), (3, .int (nI P1.length))]) hx hb dX9_find_1 hl (by decide) rfl (fun ls hl => ?_)
  refine lv_iconst (v := nI 0) hx hb dX9_find_3 rfl ?_
  refine lv_istore (lv' := [(5, .int (nI 0)), (4, .int (-1)), (0, .ref x), (1, .int (nI t)), (2, .ref a2), (3, .int (nI P1.length))]) hx hb dX9_find_4 hl (by decide) rfl (fun ls hl => ?_)
  have lp_6 : ∀ (n_6 : Nat) (i : Nat) (fo : Int32) (ls : Array Slot), ((Ts t).length - i) < n_6 → (i ≤ (Ts t).length) → (fo = fndr (Ts t) P1 i) → lv_has ls 6 [(5, .int (nI i)), (4, .int fo), (0, .ref x), (1, .int (nI t)), (2, .ref a2), (3, .int (nI P1.length))] → W p l e ({ frames := 2, cells := 0, slots := 0, locals := 49 } : Room) s m args below meth c s.heap [] 0 0 Q (F0 m 6 ls []) := by
    intro n_6
    induction n_6 with
    | zero => intro i fo ls h0; exact absurd h0 (Nat.not_lt_zero _)
    | succ n_6 ih_6 =>
      intro i fo ls hm_6 hi hfo hl
      refine lv_iload hx hb dX9_find_6 (lv_at hl 0 rfl) ?_
      refine lv_aload_n hx hb dX9_find_8 rfl (lv_at hl 2 rfl) ?_
      refine rg_many hC hP k_many dX9_find_9 ?_
      refine lv_iload_n hx hb dX9_find_12 rfl (lv_at hl 3 rfl) ?_
      refine rl_many hC hP (by omega) dX9_find_13 ?_
      refine nn_eqi (y := nI ((Ts t).length)) t1 ?_
      refine nn_ge hx hb dX9_find_14 (tgt := 66) (by decide) (by omega) (by omega) (fun c_1 => ?_) (fun c_1 => ?_)
      · have hii : i = (Ts t).length := by omega
        refine lv_iload hx hb dX9_find_66 (lv_at hl 1 rfl) ?_
        rw [hQ]
        exact pf_iret hx hb hr hlocks (by rw [hfo, hii]) dX9_find_68
      · obtain ⟨d1, d2, d3, d4, d5, d6, d7, d8, d9, d10, d11⟩ := t5 i (by omega)
        refine lv_aload_n hx hb dX9_find_17 rfl (lv_at hl 2 rfl) ?_
        refine rg_path hC hP k_path dX9_find_18 ?_
        refine lv_sipush (v := nI 150) hx hb dX9_find_21 (by decide) ?_
        refine lv_iload_n hx hb dX9_find_24 rfl (lv_at hl 3 rfl) ?_
        refine lv_iload hx hb dX9_find_25 (lv_at hl 0 rfl) ?_
        refine pf_callS (As := [.int (nI t), .int (nI i)]) (rest := [.int (nI 150), .ref (q 8)]) (m_place l hT t i) ⟨hx, hb, hml, hown, hts⟩ (va_cwS 2 hts gX9_find_X9_place rfl rfl rfl (by decide +kernel) ⟨Nat.le_of_ble_eq_true rfl, Nat.le_of_ble_eq_true rfl⟩) hK nn_nil rfl hl.1 rfl (Nat.le_of_ble_eq_true rfl) dX9_find_27 ⟨Nat.le_of_ble_eq_true rfl, Nat.le_of_ble_eq_true rfl⟩ (fun r_2 hr_2 => ?_)
        subst hr_2
        refine nn_mul hx hb dX9_find_30 ?_
        refine lv_aload_n hx hb dX9_find_31 rfl (lv_at hl 2 rfl) ?_
        refine rg_paths hC hP k_paths dX9_find_32 ?_
        refine lv_iload_n hx hb dX9_find_35 rfl (lv_at hl 3 rfl) ?_
        refine lv_iload hx hb dX9_find_36 (lv_at hl 0 rfl) ?_
        refine pf_callS (As := [.int (nI t), .int (nI i)]) (rest := [.ref (q 5), .int (nI (150 * (120 * t + i))), .ref (q 8)]) (m_place l hT t i) ⟨hx, hb, hml, hown, hts⟩ (va_cwS 2 hts gX9_find_X9_place rfl rfl rfl (by decide +kernel) ⟨Nat.le_of_ble_eq_true rfl, Nat.le_of_ble_eq_true rfl⟩) hK nn_nil rfl hl.1 rfl (Nat.le_of_ble_eq_true rfl) dX9_find_38 ⟨Nat.le_of_ble_eq_true rfl, Nat.le_of_ble_eq_true rfl⟩ (fun r_3 hr_3 => ?_)
        subst hr_3
        refine rl_paths hC hP (by omega) dX9_find_41 ?_
        refine nn_eqi (y := nI (((Ts t).getD i e0).1.length)) d4 ?_
        refine lv_aload_n hx hb dX9_find_42 rfl (lv_at hl 4 rfl) ?_
        refine lv_iconst (v := nI 0) hx hb dX9_find_43 rfl ?_
        refine lv_iload_n hx hb dX9_find_44 rfl (lv_at hl 5 rfl) ?_
        refine pf_callS (As := [.ref (q 8), .int (nI (150 * (120 * t + i))), .int (nI (((Ts t).getD i e0).1.length)), .ref a2, .int (nI 0), .int (nI P1.length)]) (rest := []) (m_order l hT (k1 := 9) (k2 := k2) rfl ha2 (by decide) hn2 d8 hp1 (by omega) (by omega) d10 hq1) ⟨hx, hb, hml, hown, hts⟩ (va_cwS 6 hts gX9_find_X9_order rfl rfl rfl (by decide +kernel) ⟨Nat.le_of_ble_eq_true rfl, Nat.le_of_ble_eq_true rfl⟩) hK hP rfl hl.1 rfl (Nat.le_of_ble_eq_true rfl) dX9_find_45 ⟨Nat.le_of_ble_eq_true rfl, Nat.le_of_ble_eq_true rfl⟩ (fun r_4 hr_4 => ?_)
        obtain ⟨o_5, rfl, ho_5⟩ := hr_4
        refine zi_ne hx hb ho_5 dX9_find_48 (tgt := 56) (by decide) (fun c_6 => ?_) (fun c_6 => ?_)
        · refine lv_iload hx hb dX9_find_56 (lv_at hl 1 rfl) ?_
          refine lv_istore (lv' := [(4, .int fo), (5, .int (nI i)), (0, .ref x), (1, .int (nI t)), (2, .ref a2), (3, .int (nI P1.length))]) hx hb dX9_find_58 hl (by decide) rfl (fun ls hl => ?_)
          refine lv_iinc (v := nI (i + 1)) (lv' := [(5, .int (nI (i + 1))), (4, .int fo), (0, .ref x), (1, .int (nI t)), (2, .ref a2), (3, .int (nI P1.length))]) hx hb dX9_find_60 hl (k := 1) rfl (nI_add i 1) (by decide) rfl (fun ls hl => ?_)
          refine lv_goto (tgt := 6) hx hb dX9_find_63 (by decide) ?_
          exact ih_6 (i + 1) fo _ (by omega) (by omega) (by simp only [fndr]; first | rw [if_pos (pcm_zero.mp (by assumption))] | (rw [if_neg (fun h => absurd (pcm_zero.mpr h) (by assumption))]; exact hfo)) (lv_sub hl [0, 1, 2, 3, 4, 5] rfl)
        · refine lv_iload hx hb dX9_find_51 (lv_at hl 0 rfl) ?_
          refine lv_goto (tgt := 58) hx hb dX9_find_53 (by decide) ?_
          refine lv_istore (lv' := [(4, .int (nI i)), (5, .int (nI i)), (0, .ref x), (1, .int (nI t)), (2, .ref a2), (3, .int (nI P1.length))]) hx hb dX9_find_58 hl (by decide) rfl (fun ls hl => ?_)
          refine lv_iinc (v := nI (i + 1)) (lv' := [(5, .int (nI (i + 1))), (4, .int (nI i)), (0, .ref x), (1, .int (nI t)), (2, .ref a2), (3, .int (nI P1.length))]) hx hb dX9_find_60 hl (k := 1) rfl (nI_add i 1) (by decide) rfl (fun ls hl => ?_)
          refine lv_goto (tgt := 6) hx hb dX9_find_63 (by decide) ?_
          exact ih_6 (i + 1) (nI i) _ (by omega) (by omega) (by simp only [fndr]; first | rw [if_pos (pcm_zero.mp (by assumption))] | (rw [if_neg (fun h => absurd (pcm_zero.mpr h) (by assumption))]; exact hfo)) (lv_sub hl [0, 1, 2, 3, 4, 5] rfl)
  exact lp_6 ((((Ts t).length - 0)) + 1) 0 (-1) _ (Nat.lt_succ_self _) (Nat.zero_le _) rfl (lv_sub hl [0, 1, 2, 3, 4, 5] rfl)
set_option maxHeartbeats 4000000 in
set_option maxRecDepth 100000 in
theorem m_isSame (l : Launch) {G : va_G} {tys : List (ClassId × FieldType)} {cI : ClassId} (hT : tys[1]? = some (cI, .int)) {x : Nat} {q : Nat → Nat} {v_thrown v_taped v_state v_operations v_changes v_sessions v_begun v_isChosen v_chosenMany : Int32} {f_many f_bytes f_kinds f_modes f_times f_paths f_contentAt f_contents f_path f_content f_ready f_tape f_sessionTime f_sessionChanges f_chosen : Nat → Int32} (Ts : Nat → List En) (t i u j : Nat) (hRT : RT f_many f_bytes f_kinds f_modes f_times f_paths f_contentAt f_contents f_path f_content Ts) (ht : t < 46) (hi : i < (Ts t).length) (hu : u < 46) (hj : j < (Ts u).length) : pMet l yX9_isSame wsX9_isSame ({ frames := 1, cells := 0, slots := 0, locals := 21 } : Room) G tys [.ref x, .int (nI t), .int (nI i), .int (nI u), .int (nI j)] (rwx cI x q v_thrown v_taped v_state v_operations v_changes v_sessions v_begun v_isChosen v_chosenMany f_many f_bytes f_kinds f_modes f_times f_paths f_contentAt f_contents f_path f_content f_ready f_tape f_sessionTime f_sessionChanges f_chosen) (fun r => r = .int (bI (decide (((Ts t).getD i e0).2 = ((Ts u).getD j e0).2)))) := by
  refine Met.ofW (cc := cX9_isSame) (maxL := 9) (ret := (some .boolean)) (by decide) rfl ?_
  intro p e s m args below meth c s₁ B hml hv
  obtain ⟨hargs, hP, hK⟩ := hv
  have hx := B.exec
  have hb := B.bytes
  have hr := B.returns
  have hts := atoms_spec (ws := wsX9_isSame) B.pre
  have hown : s.vm.findClass RX9 = some m.cls := findClass_of_methodNamed B.named
  have hlocks := B.notSynchronized
  have hC : rC p s m args c cX9_isSame G tys cI wsX9_isSame := ⟨hx, hb, hts, (by decide +kernel), hown, hK, hT⟩
  have k_content := hts (.fieldLink RX9 39 "MirrorKeepModel" "content" "[I") (by decide +kernel)
  have k_contentAt := hts (.fieldLink RX9 28 "MirrorKeepModel" "contentAt" "[I") (by decide +kernel)
  have k_contents := hts (.fieldLink RX9 31 "MirrorKeepModel" "contents" "[I") (by decide +kernel)
  have k_kinds := hts (.fieldLink RX9 16 "MirrorKeepModel" "kinds" "[I") (by decide +kernel)
  have k_modes := hts (.fieldLink RX9 19 "MirrorKeepModel" "modes" "[I") (by decide +kernel)
  have k_times := hts (.fieldLink RX9 22 "MirrorKeepModel" "times" "[I") (by decide +kernel)
  obtain ⟨Q, hQ⟩ : ∃ Q : State → Prop, Q = MQ below (pQ (fun r => r = .int (bI (decide (((Ts t).getD i e0).2 = ((Ts u).getD j e0).2))))) args s 0 0 (fun _ => False) := ⟨_, rfl⟩
  change W p l e ({ frames := 1, cells := 0, slots := 0, locals := 21 } : Room) s m args below meth c s.heap [] 0 0 (MQ below (pQ (fun r => r = .int (bI (decide (((Ts t).getD i e0).2 = ((Ts u).getD j e0).2))))) args s 0 0 (fun _ => False)) (entryFrame m args 9)
  rw [← hQ]
  refine nn_entry hargs (Nat.le_of_ble_eq_true rfl) (lv := [(0, .ref x), (1, .int (nI t)), (2, .int (nI i)), (3, .int (nI u)), (4, .int (nI j))]) rfl (fun ls hl => ?_)
  obtain ⟨t1, t2, t3, t4, t5⟩ := hRT t ht
  obtain ⟨u1, u2, u3, u4, u5⟩ := hRT u hu
  obtain ⟨d1, d2, d3, d4, d5, d6, d7, d8, d9, d10, d11⟩ := t5 i hi
  obtain ⟨e1, e2, e3, e4, e5, e6, e7, e8, e9, e10, e11⟩ := u5 j hj
  have hof1 := csum_take hi
  have hof2 := csum_take hj
  refine lv_iload_n hx hb dX9_isSame_0 rfl (lv_at hl 1 rfl) ?_
  refine lv_iload_n hx hb dX9_isSame_1 rfl (lv_at hl 2 rfl) ?_
  refine pf_callS (As := [.int (nI t), .int (nI i)]) (rest := []) (m_place l hT t i) ⟨hx, hb, hml, hown, hts⟩ (va_cwS 2 hts gX9_isSame_X9_place rfl rfl rfl (by decide +kernel) ⟨Nat.le_of_ble_eq_true rfl, Nat.le_of_ble_eq_true rfl⟩) hK nn_nil rfl hl.1 rfl (Nat.le_of_ble_eq_true rfl) dX9_isSame_2 ⟨Nat.le_of_ble_eq_true rfl, Nat.le_of_ble_eq_true rfl⟩ (fun r_1 hr_1 => ?_)
  subst hr_1
  refine lv_istore (lv' := [(5, .int (nI (120 * t + i))), (0, .ref x), (1, .int (nI t)), (2, .int (nI i)), (3, .int (nI u)), (4, .int (nI j))]) hx hb dX9_isSame_5 hl (by decide) rfl (fun ls hl => ?_)
  refine lv_iload_n hx hb dX9_isSame_7 rfl (lv_at hl 4 rfl) ?_
  refine lv_iload hx hb dX9_isSame_8 (lv_at hl 5 rfl) ?_
  refine pf_callS (As := [.int (nI u), .int (nI j)]) (rest := []) (m_place l hT u j) ⟨hx, hb, hml, hown, hts⟩ (va_cwS 2 hts gX9_isSame_X9_place rfl rfl rfl (by decide +kernel) ⟨Nat.le_of_ble_eq_true rfl, Nat.le_of_ble_eq_true rfl⟩) hK nn_nil rfl hl.1 rfl (Nat.le_of_ble_eq_true rfl) dX9_isSame_10 ⟨Nat.le_of_ble_eq_true rfl, Nat.le_of_ble_eq_true rfl⟩ (fun r_2 hr_2 => ?_)
  subst hr_2
  refine lv_istore (lv' := [(6, .int (nI (120 * u + j))), (5, .int (nI (120 * t + i))), (0, .ref x), (1, .int (nI t)), (2, .int (nI i)), (3, .int (nI u)), (4, .int (nI j))]) hx hb dX9_isSame_13 hl (by decide) rfl (fun ls hl => ?_)
  have mg_88 : ∀ (is1 : Bool) (ls : Array Slot), (is1 = true ↔ (((Ts t).getD i e0).2.1 = ((Ts u).getD j e0).2.1 ∧ ((Ts t).getD i e0).2.2.1 = ((Ts u).getD j e0).2.2.1 ∧ ((Ts t).getD i e0).2.2.2.1 = ((Ts u).getD j e0).2.2.2.1 ∧ (ct ((Ts t).getD i e0)).length = (ct ((Ts u).getD j e0)).length)) → lv_has ls 9 [(6, .int (nI (120 * u + j))), (5, .int (nI (120 * t + i))), (0, .ref x), (1, .int (nI t)), (2, .int (nI i)), (3, .int (nI u)), (4, .int (nI j))] → W p l e ({ frames := 1, cells := 0, slots := 0, locals := 21 } : Room) s m args below meth c s.heap [] 0 0 Q (F0 m 88 ls [.int (bI is1)]) := by
    intro is1 ls his1 hl
    refine lv_istore (lv' := [(7, .int (bI is1)), (6, .int (nI (120 * u + j))), (5, .int (nI (120 * t + i))), (0, .ref x), (1, .int (nI t)), (2, .int (nI i)), (3, .int (nI u)), (4, .int (nI j))]) hx hb dX9_isSame_88 hl (by decide) rfl (fun ls hl => ?_)
    refine lv_iconst (v := nI 0) hx hb dX9_isSame_90 rfl ?_
    refine lv_istore (lv' := [(8, .int (nI 0)), (7, .int (bI is1)), (6, .int (nI (120 * u + j))), (5, .int (nI (120 * t + i))), (0, .ref x), (1, .int (nI t)), (2, .int (nI i)), (3, .int (nI u)), (4, .int (nI j))]) hx hb dX9_isSame_91 hl (by decide) rfl (fun ls hl => ?_)
    have lp_93 : ∀ (n_93 : Nat) (k : Nat) (is2 : Bool) (ls : Array Slot), ((ct ((Ts t).getD i e0)).length - k) < n_93 → (k ≤ (ct ((Ts t).getD i e0)).length) → (is2 = true ↔ (((Ts t).getD i e0).2.1 = ((Ts u).getD j e0).2.1 ∧ ((Ts t).getD i e0).2.2.1 = ((Ts u).getD j e0).2.2.1 ∧ ((Ts t).getD i e0).2.2.2.1 = ((Ts u).getD j e0).2.2.2.1 ∧ (ct ((Ts t).getD i e0)).length = (ct ((Ts u).getD j e0)).length) ∧ ∀ jj, jj < k → (ct ((Ts t).getD i e0)).getD jj 0 = (ct ((Ts u).getD j e0)).getD jj 0) → lv_has ls 9 [(8, .int (nI k)), (7, .int (bI is2)), (6, .int (nI (120 * u + j))), (5, .int (nI (120 * t + i))), (0, .ref x), (1, .int (nI t)), (2, .int (nI i)), (3, .int (nI u)), (4, .int (nI j))] → W p l e ({ frames := 1, cells := 0, slots := 0, locals := 21 } : Room) s m args below meth c s.heap [] 0 0 Q (F0 m 93 ls []) := by
      intro n_93
      induction n_93 with
      | zero => intro k is2 ls h0; exact absurd h0 (Nat.not_lt_zero _)
      | succ n_93 ih_93 =>
        intro k is2 ls hm_93 hk his hl
        refine lv_iload hx hb dX9_isSame_93 (lv_at hl 0 rfl) ?_
        refine lv_aload_n hx hb dX9_isSame_95 rfl (lv_at hl 4 rfl) ?_
        refine rg_contents hC hP k_contents dX9_isSame_96 ?_
        refine lv_iload hx hb dX9_isSame_99 (lv_at hl 3 rfl) ?_
        refine rl_contents hC hP (by omega) dX9_isSame_101 ?_
        refine nn_eqi (y := nI ((ct ((Ts t).getD i e0)).length)) d7 ?_
        refine nn_ge hx hb dX9_isSame_102 (tgt := 168) (by decide) (by omega) (by omega) (fun c_3 => ?_) (fun c_3 => ?_)
        · have hex : (ct ((Ts t).getD i e0)).length ≤ k ∨ is2 = false := by first | exact Or.inr (by assumption) | exact Or.inl (by assumption)
          refine lv_iload hx hb dX9_isSame_168 (lv_at hl 1 rfl) ?_
          rw [hQ]
          exact pf_zret hx hb hr hlocks (bI_01 _) (congrArg (fun b => Value.int (bI b)) (isSame_end hk his hex)) dX9_isSame_170
        · refine lv_iload hx hb dX9_isSame_105 (lv_at hl 1 rfl) ?_
          refine nb_ifeq hx hb dX9_isSame_107 (tgt := 168) (by decide) (fun c_4 => ?_) (fun c_4 => ?_)
          · have hex : (ct ((Ts t).getD i e0)).length ≤ k ∨ is2 = false := by first | exact Or.inr (by assumption) | exact Or.inl (by assumption)
            refine lv_iload hx hb dX9_isSame_168 (lv_at hl 1 rfl) ?_
            rw [hQ]
            exact pf_zret hx hb hr hlocks (bI_01 _) (congrArg (fun b => Value.int (bI b)) (isSame_end hk his hex)) dX9_isSame_170
          · obtain ⟨⟨hb1, hb2, hb3, hb4⟩, hbj⟩ := his.mp (by assumption)
            have hv1 : (ct ((Ts t).getD i e0)).getD k 0 < 256 := d11 _ (gd_mem (by omega))
            have hv2 : (ct ((Ts u).getD j e0)).getD k 0 < 256 := e11 _ (gd_mem (by omega))
            refine lv_aload_n hx hb dX9_isSame_110 rfl (lv_at hl 4 rfl) ?_
            refine rg_content hC hP k_content dX9_isSame_111 ?_
            refine lv_sipush (v := nI 8000) hx hb dX9_isSame_114 (by decide) ?_
            refine lv_iload_n hx hb dX9_isSame_117 rfl (lv_at hl 5 rfl) ?_
            refine nn_mul hx hb dX9_isSame_118 ?_
            refine lv_aload_n hx hb dX9_isSame_119 rfl (lv_at hl 4 rfl) ?_
            refine rg_contentAt hC hP k_contentAt dX9_isSame_120 ?_
            refine lv_iload hx hb dX9_isSame_123 (lv_at hl 3 rfl) ?_
            refine rl_contentAt hC hP (by omega) dX9_isSame_125 ?_
            refine nn_eqi (y := nI (csum ((Ts t).take i))) d6 ?_
            refine nn_add hx hb dX9_isSame_126 ?_
            refine lv_iload hx hb dX9_isSame_127 (lv_at hl 0 rfl) ?_
            refine nn_add hx hb dX9_isSame_129 ?_
            refine rl_content hC hP (by omega) dX9_isSame_130 ?_
            refine nn_eqi (y := nI ((ct ((Ts t).getD i e0)).getD k 0)) (d9 k (by omega)) ?_
            refine lv_aload_n hx hb dX9_isSame_131 rfl (lv_at hl 4 rfl) ?_
            refine rg_content hC hP k_content dX9_isSame_132 ?_
            refine lv_sipush (v := nI 8000) hx hb dX9_isSame_135 (by decide) ?_
            refine lv_iload_n hx hb dX9_isSame_138 rfl (lv_at hl 7 rfl) ?_
            refine nn_mul hx hb dX9_isSame_139 ?_
            refine lv_aload_n hx hb dX9_isSame_140 rfl (lv_at hl 4 rfl) ?_
            refine rg_contentAt hC hP k_contentAt dX9_isSame_141 ?_
            refine lv_iload hx hb dX9_isSame_144 (lv_at hl 2 rfl) ?_
            refine rl_contentAt hC hP (by omega) dX9_isSame_146 ?_
            refine nn_eqi (y := nI (csum ((Ts u).take j))) e6 ?_
            refine nn_add hx hb dX9_isSame_147 ?_
            refine lv_iload hx hb dX9_isSame_148 (lv_at hl 0 rfl) ?_
            refine nn_add hx hb dX9_isSame_150 ?_
            refine rl_content hC hP (by omega) dX9_isSame_151 ?_
            refine nn_eqi (y := nI ((ct ((Ts u).getD j e0)).getD k 0)) (e9 k (by omega)) ?_
            refine nn_ne hx hb dX9_isSame_152 (tgt := 159) (by decide) (by omega) (by omega) (fun c_5 => ?_) (fun c_5 => ?_)
            · refine lv_iconst (v := bI false) hx hb dX9_isSame_159 rfl ?_
              refine lv_istore (lv' := [(7, .int (bI false)), (8, .int (nI k)), (6, .int (nI (120 * u + j))), (5, .int (nI (120 * t + i))), (0, .ref x), (1, .int (nI t)), (2, .int (nI i)), (3, .int (nI u)), (4, .int (nI j))]) hx hb dX9_isSame_160 hl (by decide) rfl (fun ls hl => ?_)
              refine lv_iinc (v := nI (k + 1)) (lv' := [(8, .int (nI (k + 1))), (7, .int (bI false)), (6, .int (nI (120 * u + j))), (5, .int (nI (120 * t + i))), (0, .ref x), (1, .int (nI t)), (2, .int (nI i)), (3, .int (nI u)), (4, .int (nI j))]) hx hb dX9_isSame_162 hl (k := 1) rfl (nI_add k 1) (by decide) rfl (fun ls hl => ?_)
              refine lv_goto (tgt := 93) hx hb dX9_isSame_165 (by decide) ?_
              exact ih_93 (k + 1) false _ (by omega) (by omega) ⟨fun h => absurd h (by decide), fun h => absurd (h.2 k (by omega)) (by assumption)⟩ (lv_sub hl [0, 1, 2, 3, 4, 5, 6, 7, 8] rfl)
            · refine lv_iconst (v := bI true) hx hb dX9_isSame_155 rfl ?_
              refine lv_goto (tgt := 160) hx hb dX9_isSame_156 (by decide) ?_
              refine lv_istore (lv' := [(7, .int (bI true)), (8, .int (nI k)), (6, .int (nI (120 * u + j))), (5, .int (nI (120 * t + i))), (0, .ref x), (1, .int (nI t)), (2, .int (nI i)), (3, .int (nI u)), (4, .int (nI j))]) hx hb dX9_isSame_160 hl (by decide) rfl (fun ls hl => ?_)
              refine lv_iinc (v := nI (k + 1)) (lv' := [(8, .int (nI (k + 1))), (7, .int (bI true)), (6, .int (nI (120 * u + j))), (5, .int (nI (120 * t + i))), (0, .ref x), (1, .int (nI t)), (2, .int (nI i)), (3, .int (nI u)), (4, .int (nI j))]) hx hb dX9_isSame_162 hl (k := 1) rfl (nI_add k 1) (by decide) rfl (fun ls hl => ?_)
              refine lv_goto (tgt := 93) hx hb dX9_isSame_165 (by decide) ?_
              exact ih_93 (k + 1) true _ (by omega) (by omega) ⟨fun _ => ⟨⟨hb1, hb2, hb3, hb4⟩, lt_s (p := fun jj => (ct ((Ts t).getD i e0)).getD jj 0 = (ct ((Ts u).getD j e0)).getD jj 0) hbj (by assumption)⟩, fun _ => rfl⟩ (lv_sub hl [0, 1, 2, 3, 4, 5, 6, 7, 8] rfl)
    exact lp_93 ((((ct ((Ts t).getD i e0)).length - 0)) + 1) 0 is1 _ (Nat.lt_succ_self _) (Nat.zero_le _) (by rw [his1]; exact ⟨fun h => ⟨h, fun _ h0 => absurd h0 (Nat.not_lt_zero _)⟩, fun h => h.1⟩) (lv_sub hl [0, 1, 2, 3, 4, 5, 6, 7, 8] rfl)
  refine lv_aload_n hx hb dX9_isSame_15 rfl (lv_at hl 2 rfl) ?_
  refine rg_kinds hC hP k_kinds dX9_isSame_16 ?_
  refine lv_iload hx hb dX9_isSame_19 (lv_at hl 1 rfl) ?_
  refine rl_kinds hC hP (by omega) dX9_isSame_21 ?_
  refine nn_eqi (y := ((Ts t).getD i e0).2.1) d1 ?_
  refine lv_aload_n hx hb dX9_isSame_22 rfl (lv_at hl 2 rfl) ?_
  refine rg_kinds hC hP k_kinds dX9_isSame_23 ?_
  refine lv_iload hx hb dX9_isSame_26 (lv_at hl 0 rfl) ?_
  refine rl_kinds hC hP (by omega) dX9_isSame_28 ?_
  refine nn_eqi (y := ((Ts u).getD j e0).2.1) e1 ?_
  refine lv_icmp_ne (tgt := 87) hx hb dX9_isSame_29 (by decide) (fun c_6 => ?_) (fun c_6 => ?_)
  · refine lv_iconst (v := bI false) hx hb dX9_isSame_87 rfl ?_
    exact mg_88 false _ (by refine ⟨fun h => absurd h (by decide), fun h => ?_⟩; obtain ⟨h1, h2, h3, h4⟩ := h; first | contradiction | omega) (lv_sub hl [0, 1, 2, 3, 4, 5, 6] rfl)
  · refine lv_aload_n hx hb dX9_isSame_32 rfl (lv_at hl 2 rfl) ?_
    refine rg_modes hC hP k_modes dX9_isSame_33 ?_
    refine lv_iload hx hb dX9_isSame_36 (lv_at hl 1 rfl) ?_
    refine rl_modes hC hP (by omega) dX9_isSame_38 ?_
    refine nn_eqi (y := ((Ts t).getD i e0).2.2.1) d2 ?_
    refine lv_aload_n hx hb dX9_isSame_39 rfl (lv_at hl 2 rfl) ?_
    refine rg_modes hC hP k_modes dX9_isSame_40 ?_
    refine lv_iload hx hb dX9_isSame_43 (lv_at hl 0 rfl) ?_
    refine rl_modes hC hP (by omega) dX9_isSame_45 ?_
    refine nn_eqi (y := ((Ts u).getD j e0).2.2.1) e2 ?_
    refine lv_icmp_ne (tgt := 87) hx hb dX9_isSame_46 (by decide) (fun c_7 => ?_) (fun c_7 => ?_)
    · refine lv_iconst (v := bI false) hx hb dX9_isSame_87 rfl ?_
      exact mg_88 false _ (by refine ⟨fun h => absurd h (by decide), fun h => ?_⟩; obtain ⟨h1, h2, h3, h4⟩ := h; first | contradiction | omega) (lv_sub hl [0, 1, 2, 3, 4, 5, 6] rfl)
    · refine lv_aload_n hx hb dX9_isSame_49 rfl (lv_at hl 2 rfl) ?_
      refine rg_times hC hP k_times dX9_isSame_50 ?_
      refine lv_iload hx hb dX9_isSame_53 (lv_at hl 1 rfl) ?_
      refine rl_times hC hP (by omega) dX9_isSame_55 ?_
      refine nn_eqi (y := ((Ts t).getD i e0).2.2.2.1) d3 ?_
      refine lv_aload_n hx hb dX9_isSame_56 rfl (lv_at hl 2 rfl) ?_
      refine rg_times hC hP k_times dX9_isSame_57 ?_
      refine lv_iload hx hb dX9_isSame_60 (lv_at hl 0 rfl) ?_
      refine rl_times hC hP (by omega) dX9_isSame_62 ?_
      refine nn_eqi (y := ((Ts u).getD j e0).2.2.2.1) e3 ?_
      refine lv_icmp_ne (tgt := 87) hx hb dX9_isSame_63 (by decide) (fun c_8 => ?_) (fun c_8 => ?_)
      · refine lv_iconst (v := bI false) hx hb dX9_isSame_87 rfl ?_
        exact mg_88 false _ (by refine ⟨fun h => absurd h (by decide), fun h => ?_⟩; obtain ⟨h1, h2, h3, h4⟩ := h; first | contradiction | omega) (lv_sub hl [0, 1, 2, 3, 4, 5, 6] rfl)
      · refine lv_aload_n hx hb dX9_isSame_66 rfl (lv_at hl 2 rfl) ?_
        refine rg_contents hC hP k_contents dX9_isSame_67 ?_
        refine lv_iload hx hb dX9_isSame_70 (lv_at hl 1 rfl) ?_
        refine rl_contents hC hP (by omega) dX9_isSame_72 ?_
        refine nn_eqi (y := nI ((ct ((Ts t).getD i e0)).length)) d7 ?_
        refine lv_aload_n hx hb dX9_isSame_73 rfl (lv_at hl 2 rfl) ?_
        refine rg_contents hC hP k_contents dX9_isSame_74 ?_
        refine lv_iload hx hb dX9_isSame_77 (lv_at hl 0 rfl) ?_
        refine rl_contents hC hP (by omega) dX9_isSame_79 ?_
        refine nn_eqi (y := nI ((ct ((Ts u).getD j e0)).length)) e7 ?_
        refine nn_ne hx hb dX9_isSame_80 (tgt := 87) (by decide) (by omega) (by omega) (fun c_9 => ?_) (fun c_9 => ?_)
        · refine lv_iconst (v := bI false) hx hb dX9_isSame_87 rfl ?_
          exact mg_88 false _ (by refine ⟨fun h => absurd h (by decide), fun h => ?_⟩; obtain ⟨h1, h2, h3, h4⟩ := h; first | contradiction | omega) (lv_sub hl [0, 1, 2, 3, 4, 5, 6] rfl)
        · refine lv_iconst (v := bI true) hx hb dX9_isSame_83 rfl ?_
          refine lv_goto (tgt := 88) hx hb dX9_isSame_84 (by decide) ?_
          exact mg_88 true _ (by refine ⟨fun _ => ⟨?_, ?_, ?_, ?_⟩, fun _ => rfl⟩ <;> assumption) (lv_sub hl [0, 1, 2, 3, 4, 5, 6] rfl)
