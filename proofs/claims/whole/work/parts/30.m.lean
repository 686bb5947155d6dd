set_option maxHeartbeats 4000000 in
set_option maxRecDepth 100000 in
theorem m_change (l : Launch) {G : va_G} {tys : List (ClassId × FieldType)} {cI : ClassId} (hT : tys[1]? = some (cI, .int)) {A : Nat → Prop} {x : Nat} {q : Nat → Nat} {v_thrown v_taped v_state v_operations v_changes v_sessions v_begun v_isChosen v_chosenMany : Int32} {f_many f_bytes f_kinds f_modes f_times f_paths f_contentAt f_contents f_path f_content f_ready f_tape f_sessionTime f_sessionChanges f_chosen : Nat → Int32} (Ts : Nat → List En) (i fm : Nat) (wr nc : List Nat) (hRT : RT f_many f_bytes f_kinds f_modes f_times f_paths f_contentAt f_contents f_path f_content Ts) (hi : i < (Ts 0).length) (hwr : en f_tape 0 wr) (hwl : wr.length ≤ 400) (hget : ∀ k, k < nc.length → nc.getD k 0 = if fm ≤ k ∧ k < fm + wr.length then wr.getD (k - fm) 0 else (ct ((Ts 0).getD i e0)).getD k 0) (hcov : ∀ k, k < nc.length → k < (ct ((Ts 0).getD i e0)).length ∨ (fm ≤ k ∧ k < fm + wr.length)) (hb1 : csum (Ts 0) + fm + wr.length ≤ 8000 + (ct ((Ts 0).getD i e0)).length) (hb2 : csum (Ts 0) + nc.length ≤ 8000 + (ct ((Ts 0).getD i e0)).length) (hnb : ∀ b ∈ nc, b < 256) : rMet l yX9_change wsX9_change ({ frames := 3, cells := 0, slots := 0, locals := 70 } : Room) G tys A [.ref x, .int (nI i), .int (nI nc.length), .int (nI fm), .int (nI wr.length)] (rwx cI x q v_thrown v_taped v_state v_operations v_changes v_sessions v_begun v_isChosen v_chosenMany f_many f_bytes f_kinds f_modes f_times f_paths f_contentAt f_contents f_path f_content f_ready f_tape f_sessionTime f_sessionChanges f_chosen) (fun r w => r = none ∧ ∃ g_many g_bytes g_kinds g_modes g_times g_paths g_contentAt g_contents g_path g_content : Nat → Int32, w = rwx cI x q v_thrown v_taped v_state v_operations v_changes v_sessions v_begun v_isChosen v_chosenMany g_many g_bytes g_kinds g_modes g_times g_paths g_contentAt g_contents g_path g_content f_ready f_tape f_sessionTime f_sessionChanges f_chosen ∧ RT g_many g_bytes g_kinds g_modes g_times g_paths g_contentAt g_contents g_path g_content (va_up (va_up Ts 5 ((Ts 0).set i (((Ts 0).getD i e0).1, ((Ts 0).getD i e0).2.1, ((Ts 0).getD i e0).2.2.1, ((Ts 0).getD i e0).2.2.2.1, nc))) 0 ((Ts 0).set i (((Ts 0).getD i e0).1, ((Ts 0).getD i e0).2.1, ((Ts 0).getD i e0).2.2.1, ((Ts 0).getD i e0).2.2.2.1, nc)))) := by
  refine Met.ofW (cc := cX9_change) (maxL := 9) (ret := none) (by decide) rfl ?_
  intro p e s m args below meth c s₁ B hml hv
  obtain ⟨hargs, hP, hK, hD⟩ := hv
  have hx := B.exec
  have hb := B.bytes
  have hr := B.returns
  have hts := atoms_spec (ws := wsX9_change) B.pre
  have hown : s.vm.findClass RX9 = some m.cls := findClass_of_methodNamed B.named
  have hlocks := B.notSynchronized
  have hC : rC p s m args c cX9_change G tys cI wsX9_change := ⟨hx, hb, hts, (by decide +kernel), hown, hK, hT⟩
  have k_bytes := hts (.fieldLink RX9 13 "MirrorKeepModel" "bytes" "[I") (by decide +kernel)
  have k_content := hts (.fieldLink RX9 39 "MirrorKeepModel" "content" "[I") (by decide +kernel)
  have k_contentAt := hts (.fieldLink RX9 28 "MirrorKeepModel" "contentAt" "[I") (by decide +kernel)
  have k_contents := hts (.fieldLink RX9 31 "MirrorKeepModel" "contents" "[I") (by decide +kernel)
  have k_many := hts (.fieldLink RX9 7 "MirrorKeepModel" "many" "[I") (by decide +kernel)
  have k_tape := hts (.fieldLink RX9 45 "MirrorKeepModel" "tape" "[I") (by decide +kernel)
  have hR : rR G A s.heap s.heap [] (rwx cI x q v_thrown v_taped v_state v_operations v_changes v_sessions v_begun v_isChosen v_chosenMany f_many f_bytes f_kinds f_modes f_times f_paths f_contentAt f_contents f_path f_content f_ready f_tape f_sessionTime f_sessionChanges f_chosen) := ⟨hP, hD, va_S.rf⟩
  obtain ⟨Q, hQ⟩ : ∃ Q : State → Prop, Q = MQ below (rQ G A (fun r w => r = none ∧ ∃ g_many g_bytes g_kinds g_modes g_times g_paths g_contentAt g_contents g_path g_content : Nat → Int32, w = rwx cI x q v_thrown v_taped v_state v_operations v_changes v_sessions v_begun v_isChosen v_chosenMany g_many g_bytes g_kinds g_modes g_times g_paths g_contentAt g_contents g_path g_content f_ready f_tape f_sessionTime f_sessionChanges f_chosen ∧ RT g_many g_bytes g_kinds g_modes g_times g_paths g_contentAt g_contents g_path g_content (va_up (va_up Ts 5 ((Ts 0).set i (((Ts 0).getD i e0).1, ((Ts 0).getD i e0).2.1, ((Ts 0).getD i e0).2.2.1, ((Ts 0).getD i e0).2.2.2.1, nc))) 0 ((Ts 0).set i (((Ts 0).getD i e0).1, ((Ts 0).getD i e0).2.1, ((Ts 0).getD i e0).2.2.1, ((Ts 0).getD i e0).2.2.2.1, nc))))) args s 0 0 A := ⟨_, rfl⟩
  change W p l e ({ frames := 3, cells := 0, slots := 0, locals := 70 } : Room) s m args below meth c s.heap [] 0 0 (MQ below (rQ G A (fun r w => r = none ∧ ∃ g_many g_bytes g_kinds g_modes g_times g_paths g_contentAt g_contents g_path g_content : Nat → Int32, w = rwx cI x q v_thrown v_taped v_state v_operations v_changes v_sessions v_begun v_isChosen v_chosenMany g_many g_bytes g_kinds g_modes g_times g_paths g_contentAt g_contents g_path g_content f_ready f_tape f_sessionTime f_sessionChanges f_chosen ∧ RT g_many g_bytes g_kinds g_modes g_times g_paths g_contentAt g_contents g_path g_content (va_up (va_up Ts 5 ((Ts 0).set i (((Ts 0).getD i e0).1, ((Ts 0).getD i e0).2.1, ((Ts 0).getD i e0).2.2.1, ((Ts 0).getD i e0).2.2.2.1, nc))) 0 ((Ts 0).set i (((Ts 0).getD i e0).1, ((Ts 0).getD i e0).2.1, ((Ts 0).getD i e0).2.2.1, ((Ts 0).getD i e0).2.2.2.1, nc))))) args s 0 0 A) (entryFrame m args 9)
  rw [← hQ]
  refine nn_entry hargs (Nat.le_of_ble_eq_true rfl) (lv := [(0, .ref x), (1, .int (nI i)), (2, .int (nI nc.length)), (3, .int (nI fm)), (4, .int (nI wr.length))]) rfl (fun ls hl => ?_)
  refine lv_aload_n hx hb dX9_change_0 rfl (lv_at hl 0 rfl) ?_
  refine lv_iconst (v := nI 5) hx hb dX9_change_1 rfl ?_
  refine rf_callV (C := RX9) (As := [.int (nI 5)]) (rest := []) (m_empty l hT Ts 5 (by decide) hRT) ⟨hx, hb, hml, hown, hts⟩ (cwV 1 hts gX9_change_X9_empty rfl rfl rfl (by decide +kernel) ⟨Nat.le_of_ble_eq_true rfl, Nat.le_of_ble_eq_true rfl⟩) hK hR (r_recv hK hR.1) rfl hl.1 rfl (Nat.le_of_ble_eq_true rfl) dX9_change_2 ⟨Nat.le_of_ble_eq_true rfl, Nat.le_of_ble_eq_true rfl⟩ (fun r_1 w_r_1 H locs hr_1 hR => ?_)
  obtain ⟨rfl, g_many_2, g_bytes_2, g_kinds_2, g_modes_2, g_times_2, g_paths_2, g_contentAt_2, g_contents_2, g_path_2, g_content_2, rfl, hRT⟩ := hr_1
  refine lv_iconst (v := nI 0) hx hb dX9_change_5 rfl ?_
  refine lv_istore (lv' := [(5, .int (nI 0)), (0, .ref x), (1, .int (nI i)), (2, .int (nI nc.length)), (3, .int (nI fm)), (4, .int (nI wr.length))]) hx hb dX9_change_6 hl (by decide) rfl (fun ls hl => ?_)
  have lp_8 : ∀ (n_8 : Nat) (j : Nat) (a_many : Nat → Int32) (a_bytes : Nat → Int32) (a_kinds : Nat → Int32) (a_modes : Nat → Int32) (a_times : Nat → Int32) (a_paths : Nat → Int32) (a_contentAt : Nat → Int32) (a_contents : Nat → Int32) (a_path : Nat → Int32) (a_content : Nat → Int32) (H : Heap) (locs : List Loc) (ls : Array Slot), ((Ts 0).length - j) < n_8 → (j ≤ (Ts 0).length) → (RT a_many a_bytes a_kinds a_modes a_times a_paths a_contentAt a_contents a_path a_content (va_up Ts 5 (((Ts 0).set i (((Ts 0).getD i e0).1, ((Ts 0).getD i e0).2.1, ((Ts 0).getD i e0).2.2.1, ((Ts 0).getD i e0).2.2.2.1, nc)).take j))) → rR G A s.heap H locs (rwx cI x q v_thrown v_taped v_state v_operations v_changes v_sessions v_begun v_isChosen v_chosenMany a_many a_bytes a_kinds a_modes a_times a_paths a_contentAt a_contents a_path a_content f_ready f_tape f_sessionTime f_sessionChanges f_chosen) → lv_has ls 9 [(0, .ref x), (1, .int (nI i)), (2, .int (nI nc.length)), (3, .int (nI fm)), (4, .int (nI wr.length)), (5, .int (nI j))] → W p l e ({ frames := 3, cells := 0, slots := 0, locals := 70 } : Room) s m args below meth c H locs 0 0 Q (F0 m 8 ls []) := by
    intro n_8
    induction n_8 with
    | zero => intro j a_many a_bytes a_kinds a_modes a_times a_paths a_contentAt a_contents a_path a_content H locs ls h0; exact absurd h0 (Nat.not_lt_zero _)
    | succ n_8 ih_8 =>
      intro j a_many a_bytes a_kinds a_modes a_times a_paths a_contentAt a_contents a_path a_content H locs ls hm_8 hj hRT hR hl
      have hq1 := (hRT 0 (by decide)).1
      have hq3 := (hRT 0 (by decide)).2.2.1
      have hq4 := (hRT 0 (by decide)).2.2.2.1
      rw [va_up_ne _ _ (by decide)] at hq1 hq3 hq4
      refine lv_iload hx hb dX9_change_8 (lv_at hl 5 rfl) ?_
      refine lv_aload_n hx hb dX9_change_10 rfl (lv_at hl 0 rfl) ?_
      refine rg_many hC hR.1 k_many dX9_change_11 ?_
      refine lv_iconst (v := nI 0) hx hb dX9_change_14 rfl ?_
      refine rl_many hC hR.1 (by omega) dX9_change_15 ?_
      refine nn_eqi (y := nI ((Ts 0).length)) hq1 ?_
      refine nn_ge hx hb dX9_change_16 (tgt := 123) (by decide) (by omega) (by omega) (fun c_3 => ?_) (fun c_3 => ?_)
      · refine lv_aload_n hx hb dX9_change_123 rfl (lv_at hl 0 rfl) ?_
        refine lv_iconst (v := nI 5) hx hb dX9_change_124 rfl ?_
        refine lv_iconst (v := nI 0) hx hb dX9_change_125 rfl ?_
        have hjj : j = (Ts 0).length := by omega
        rw [hjj, List.take_of_length_le (by rw [List.length_set]; exact Nat.le_refl _)] at hRT
        refine rf_callV (C := RX9) (As := [.int (nI 5), .int (nI 0)]) (rest := []) (m_copy l hT (va_up Ts 5 ((Ts 0).set i (((Ts 0).getD i e0).1, ((Ts 0).getD i e0).2.1, ((Ts 0).getD i e0).2.2.1, ((Ts 0).getD i e0).2.2.2.1, nc))) 5 0 hRT (by decide) (by decide) (by decide)) ⟨hx, hb, hml, hown, hts⟩ (cwV 2 hts gX9_change_X9_copy rfl rfl rfl (by decide +kernel) ⟨Nat.le_of_ble_eq_true rfl, Nat.le_of_ble_eq_true rfl⟩) hK hR (r_recv hK hR.1) rfl hl.1 rfl (Nat.le_of_ble_eq_true rfl) dX9_change_126 ⟨Nat.le_of_ble_eq_true rfl, Nat.le_of_ble_eq_true rfl⟩ (fun r_4 w_r_4 H locs hr_4 hR => ?_)
        obtain ⟨rfl, g_many_5, g_bytes_5, g_kinds_5, g_modes_5, g_times_5, g_paths_5, g_contentAt_5, g_contents_5, g_path_5, g_content_5, rfl, hRT⟩ := hr_4
        rw [va_up_self] at hRT
        rw [hQ]
        exact rf_vret hx hb hr hlocks hR ⟨rfl, _, _, _, _, _, _, _, _, _, _, rfl, hRT⟩ dX9_change_129
      · refine lv_aload_n hx hb dX9_change_19 rfl (lv_at hl 0 rfl) ?_
        refine lv_iconst (v := nI 0) hx hb dX9_change_20 rfl ?_
        refine lv_iload hx hb dX9_change_21 (lv_at hl 5 rfl) ?_
        refine lv_iconst (v := nI 5) hx hb dX9_change_23 rfl ?_
        have hct := csum_take (L := Ts 0) (i := j) (by omega)
        have hsc : csum (((Ts 0).set i (((Ts 0).getD i e0).1, ((Ts 0).getD i e0).2.1, ((Ts 0).getD i e0).2.2.1, ((Ts 0).getD i e0).2.2.2.1, nc)).take j) + (if i < j then (ct ((Ts 0).getD i e0)).length else 0) = csum ((Ts 0).take j) + (if i < j then nc.length else 0) := set_csum (u := (((Ts 0).getD i e0).1, ((Ts 0).getD i e0).2.1, ((Ts 0).getD i e0).2.2.1, ((Ts 0).getD i e0).2.2.2.1, nc)) hi j (by omega)
        refine rf_callV (C := RX9) (As := [.int (nI 0), .int (nI j), .int (nI 5)]) (rest := []) (m_append l hT (va_up Ts 5 (((Ts 0).set i (((Ts 0).getD i e0).1, ((Ts 0).getD i e0).2.1, ((Ts 0).getD i e0).2.2.1, ((Ts 0).getD i e0).2.2.2.1, nc)).take j)) 0 j 5 ((Ts 0).getD j e0) (((Ts 0).set i (((Ts 0).getD i e0).1, ((Ts 0).getD i e0).2.1, ((Ts 0).getD i e0).2.2.1, ((Ts 0).getD i e0).2.2.2.1, nc)).take j) hRT (by decide) (by decide) (by decide) (by rw [va_up_ne _ _ (by decide)]; omega) (by rw [va_up_ne _ _ (by decide)]) (va_up_self _ _ _) (by rw [List.length_take, List.length_set]; omega) (by by_cases hij : i < j <;> simp only [hij, if_true, if_false] at hsc <;> omega)) ⟨hx, hb, hml, hown, hts⟩ (cwV 3 hts gX9_change_X9_append rfl rfl rfl (by decide +kernel) ⟨Nat.le_of_ble_eq_true rfl, Nat.le_of_ble_eq_true rfl⟩) hK hR (r_recv hK hR.1) rfl hl.1 rfl (Nat.le_of_ble_eq_true rfl) dX9_change_24 ⟨Nat.le_of_ble_eq_true rfl, Nat.le_of_ble_eq_true rfl⟩ (fun r_6 w_r_6 H locs hr_6 hR => ?_)
        obtain ⟨rfl, g_many_7, g_bytes_7, g_kinds_7, g_modes_7, g_times_7, g_paths_7, g_contentAt_7, g_contents_7, g_path_7, g_content_7, rfl, hRT⟩ := hr_6
        rw [bx_uu] at hRT
        refine lv_iload hx hb dX9_change_27 (lv_at hl 5 rfl) ?_
        refine lv_iload_n hx hb dX9_change_29 rfl (lv_at hl 1 rfl) ?_
        refine nn_eq hx hb dX9_change_30 (tgt := 36) (by decide) (by omega) (by omega) (fun c_8 => ?_) (fun c_8 => ?_)
        · have hij : i = j := by omega
          subst hij
          rw [show ((Ts 0).set i (((Ts 0).getD i e0).1, ((Ts 0).getD i e0).2.1, ((Ts 0).getD i e0).2.2.1, ((Ts 0).getD i e0).2.2.2.1, nc)).take i = (Ts 0).take i from List.take_set_of_le (Nat.le_refl _)] at hRT
          have hmlt : ((Ts 0).take i).length = i := by rw [List.length_take]; omega
          obtain ⟨q1, q2, q3, q4, q5⟩ := hRT 5 (by decide)
          rw [va_up_self] at q1 q2 q3 q4 q5
          rw [csum_a1] at q2 q4
          obtain ⟨s1, s2, s3, s4, s5, s6, s7, s8, s9, s10, s11⟩ := q5 i (by rw [List.length_append, hmlt]; simp)
          have hgl : ((Ts 0).take i ++ [((Ts 0).getD i e0)]).getD i e0 = ((Ts 0).getD i e0) := by have := gd_last (L := (Ts 0).take i) (u := ((Ts 0).getD i e0)) (d := e0); rwa [hmlt] at this
          have htk : ((Ts 0).take i ++ [((Ts 0).getD i e0)]).take i = (Ts 0).take i := by have := List.take_left (l₁ := (Ts 0).take i) (l₂ := [((Ts 0).getD i e0)]); rwa [hmlt] at this
          rw [htk] at s6
          rw [hgl] at s7
          rw [hgl, htk] at s9
          have hct2 := csum_take (L := Ts 0) (i := i) hi
          refine lv_iconst (v := nI 5) hx hb dX9_change_36 rfl ?_
          refine lv_iload hx hb dX9_change_37 (lv_at hl 5 rfl) ?_
          refine pf_callS (As := [.int (nI 5), .int (nI i)]) (rest := []) (m_place l hT 5 i) ⟨hx, hb, hml, hown, hts⟩ (va_cwS 2 hts gX9_change_X9_place rfl rfl rfl (by decide +kernel) ⟨Nat.le_of_ble_eq_true rfl, Nat.le_of_ble_eq_true rfl⟩) hK nn_nil rfl hl.1 rfl (Nat.le_of_ble_eq_true rfl) dX9_change_39 ⟨Nat.le_of_ble_eq_true rfl, Nat.le_of_ble_eq_true rfl⟩ (fun r_9 hr_9 => ?_)
          subst hr_9
          refine lv_istore (lv' := [(6, .int (nI (120 * 5 + i))), (0, .ref x), (1, .int (nI i)), (2, .int (nI nc.length)), (3, .int (nI fm)), (4, .int (nI wr.length)), (5, .int (nI i))]) hx hb dX9_change_42 hl (by decide) rfl (fun ls hl => ?_)
          refine lv_ldc (v := nI 40000) hx hb hown (hts (.constant RX9 124 40000) (by decide +kernel)) dX9_change_44 ?_
          refine lv_aload_n hx hb dX9_change_46 rfl (lv_at hl 1 rfl) ?_
          refine rg_contentAt hC hR.1 k_contentAt dX9_change_47 ?_
          refine lv_iload hx hb dX9_change_50 (lv_at hl 0 rfl) ?_
          refine rl_contentAt hC hR.1 (by omega) dX9_change_52 ?_
          refine nn_eqi (y := nI (csum ((Ts 0).take i))) s6 ?_
          refine nn_add hx hb dX9_change_53 ?_
          refine lv_istore (lv' := [(7, .int (nI (40000 + (csum ((Ts 0).take i))))), (6, .int (nI (120 * 5 + i))), (0, .ref x), (1, .int (nI i)), (2, .int (nI nc.length)), (3, .int (nI fm)), (4, .int (nI wr.length)), (5, .int (nI i))]) hx hb dX9_change_54 hl (by decide) rfl (fun ls hl => ?_)
          refine lv_iconst (v := nI 0) hx hb dX9_change_56 rfl ?_
          refine lv_istore (lv' := [(8, .int (nI 0)), (7, .int (nI (40000 + (csum ((Ts 0).take i))))), (6, .int (nI (120 * 5 + i))), (0, .ref x), (1, .int (nI i)), (2, .int (nI nc.length)), (3, .int (nI fm)), (4, .int (nI wr.length)), (5, .int (nI i))]) hx hb dX9_change_57 hl (by decide) rfl (fun ls hl => ?_)
          have lp_59 : ∀ (n_59 : Nat) (k : Nat) (g : Nat → Int32) (H : Heap) (locs : List Loc) (ls : Array Slot), (wr.length - k) < n_59 → (k ≤ wr.length) → (∀ j9, j9 < k → g (40000 + csum ((Ts 0).take i) + fm + j9) = nI (wr.getD j9 0)) → (∀ j9, (j9 < 40000 + csum ((Ts 0).take i) + fm ∨ 40000 + csum ((Ts 0).take i) + fm + k ≤ j9) → g j9 = g_content_7 j9) → rR G A s.heap H locs (rwx cI x q v_thrown v_taped v_state v_operations v_changes v_sessions v_begun v_isChosen v_chosenMany g_many_7 g_bytes_7 g_kinds_7 g_modes_7 g_times_7 g_paths_7 g_contentAt_7 g_contents_7 g_path_7 g f_ready f_tape f_sessionTime f_sessionChanges f_chosen) → lv_has ls 9 [(8, .int (nI k)), (7, .int (nI (40000 + (csum ((Ts 0).take i))))), (6, .int (nI (120 * 5 + i))), (0, .ref x), (1, .int (nI i)), (2, .int (nI nc.length)), (3, .int (nI fm)), (4, .int (nI wr.length)), (5, .int (nI i))] → W p l e ({ frames := 3, cells := 0, slots := 0, locals := 70 } : Room) s m args below meth c H locs 0 0 Q (F0 m 59 ls []) := by
            intro n_59
            induction n_59 with
            | zero => intro k g H locs ls h0; exact absurd h0 (Nat.not_lt_zero _)
            | succ n_59 ih_59 =>
              intro k g H locs ls hm_59 hk hgi hgx hR hl
              refine lv_iload hx hb dX9_change_59 (lv_at hl 0 rfl) ?_
              refine lv_iload hx hb dX9_change_61 (lv_at hl 7 rfl) ?_
              refine nn_ge hx hb dX9_change_63 (tgt := 91) (by decide) (by omega) (by omega) (fun c_10 => ?_) (fun c_10 => ?_)
              · refine lv_aload_n hx hb dX9_change_91 rfl (lv_at hl 3 rfl) ?_
                refine rg_bytes hC hR.1 k_bytes dX9_change_92 ?_
                refine lv_iconst (v := nI 5) hx hb dX9_change_95 rfl ?_
                refine lv_dup2_11 hx hb dX9_change_96 rfl rfl ?_
                refine rl_bytes hC hR.1 (by omega) dX9_change_97 ?_
                refine nn_eqi (y := nI (csum ((Ts 0).take i) + (ct ((Ts 0).getD i e0)).length)) q2 ?_
                refine lv_iload_n hx hb dX9_change_98 rfl (lv_at hl 5 rfl) ?_
                refine lv_aload_n hx hb dX9_change_99 rfl (lv_at hl 3 rfl) ?_
                refine rg_contents hC hR.1 k_contents dX9_change_100 ?_
                refine lv_iload hx hb dX9_change_103 (lv_at hl 2 rfl) ?_
                refine rl_contents hC hR.1 (by omega) dX9_change_105 ?_
                refine nn_eqi (y := nI (ct ((Ts 0).getD i e0)).length) s7 ?_
                refine lv_isub hx hb dX9_change_106 ?_
                refine lv_iadd hx hb dX9_change_107 ?_
                refine nn_eqi (y := nI (csum ((Ts 0).take i) + nc.length)) (ba_i _ _ _) ?_
                refine rs_bytes hC hR (by omega) dX9_change_108 (fun H locs hR => ?_)
                refine lv_aload_n hx hb dX9_change_109 rfl (lv_at hl 3 rfl) ?_
                refine rg_contents hC hR.1 k_contents dX9_change_110 ?_
                refine lv_iload hx hb dX9_change_113 (lv_at hl 2 rfl) ?_
                refine lv_iload_n hx hb dX9_change_115 rfl (lv_at hl 5 rfl) ?_
                refine rs_contents hC hR (by omega) dX9_change_116 (fun H locs hR => ?_)
                refine lv_iinc (v := nI (i + 1)) (lv' := [(5, .int (nI (i + 1))), (8, .int (nI k)), (7, .int (nI (40000 + (csum ((Ts 0).take i))))), (6, .int (nI (120 * 5 + i))), (0, .ref x), (1, .int (nI i)), (2, .int (nI nc.length)), (3, .int (nI fm)), (4, .int (nI wr.length))]) hx hb dX9_change_117 hl (k := 8) rfl (nI_add i 1) (by decide) rfl (fun ls hl => ?_)
                refine lv_goto (tgt := 8) hx hb dX9_change_120 (by decide) ?_
                have hgn : ∀ k9, k9 < nc.length → g (8000 * 5 + csum ((Ts 0).take i) + k9) = nI (nc.getD k9 0) := fun k9 hk9 => by
                  rw [hget k9 hk9]
                  by_cases hr9 : fm ≤ k9 ∧ k9 < fm + wr.length
                  · rw [if_pos hr9, show 8000 * 5 + csum ((Ts 0).take i) + k9 = 40000 + csum ((Ts 0).take i) + fm + (k9 - fm) by omega]; exact hgi _ (by omega)
                  · rw [if_neg hr9, hgx _ (by omega)]; exact s9 _ (by have := hcov k9 hk9; omega)
                have hgo : ∀ j9, (j9 < 8000 * 5 + csum ((Ts 0).take i) ∨ 8000 * 6 ≤ j9) → g j9 = g_content_7 j9 := fun j9 hj9 => hgx _ (by omega)
                exact ih_8 (i + 1) g_many_7 (upd g_bytes_7 5 (nI (csum ((Ts 0).take i) + nc.length))) g_kinds_7 g_modes_7 g_times_7 g_paths_7 g_contentAt_7 (upd g_contents_7 (120 * 5 + i) (nI nc.length)) g_path_7 g _ _ _ (by omega) (by omega) (by rw [set_tk_eq hi]; have h9 := RT_chg hRT (va_up_self _ _ _) (by omega) hnb hgn hgo; rw [bx_uu, hmlt] at h9; exact h9) hR (lv_sub hl [4, 5, 6, 7, 8, 0] rfl)
              · refine lv_aload_n hx hb dX9_change_66 rfl (lv_at hl 3 rfl) ?_
                refine rg_content hC hR.1 k_content dX9_change_67 ?_
                refine lv_iload hx hb dX9_change_70 (lv_at hl 1 rfl) ?_
                refine lv_iload_n hx hb dX9_change_72 rfl (lv_at hl 6 rfl) ?_
                refine nn_add hx hb dX9_change_73 ?_
                refine lv_iload hx hb dX9_change_74 (lv_at hl 0 rfl) ?_
                refine nn_add hx hb dX9_change_76 ?_
                refine lv_aload_n hx hb dX9_change_77 rfl (lv_at hl 3 rfl) ?_
                refine rg_tape hC hR.1 k_tape dX9_change_78 ?_
                refine lv_iload hx hb dX9_change_81 (lv_at hl 0 rfl) ?_
                refine rl_tape hC hR.1 (by omega) dX9_change_83 ?_
                refine nn_eqi (y := nI (wr.getD k 0)) (by have := hwr k (by omega); rwa [Nat.zero_add] at this) ?_
                refine rs_content hC hR (by omega) dX9_change_84 (fun H locs hR => ?_)
                refine lv_iinc (v := nI (k + 1)) (lv' := [(8, .int (nI (k + 1))), (7, .int (nI (40000 + (csum ((Ts 0).take i))))), (6, .int (nI (120 * 5 + i))), (0, .ref x), (1, .int (nI i)), (2, .int (nI nc.length)), (3, .int (nI fm)), (4, .int (nI wr.length)), (5, .int (nI i))]) hx hb dX9_change_85 hl (k := 0) rfl (nI_add k 1) (by decide) rfl (fun ls hl => ?_)
                refine lv_goto (tgt := 59) hx hb dX9_change_88 (by decide) ?_
                exact ih_59 (k + 1) (upd g (((40000 + (csum ((Ts 0).take i))) + fm) + k) (nI (wr.getD k 0))) _ _ _ (by omega) (by omega) (fun j9 hj9 => by by_cases h9 : j9 = k; (subst h9; rw [pk_us]); (rw [pk_un (by omega)]; exact hgi j9 (by omega))) (fun j9 hj9 => by rw [pk_un (by omega)]; exact hgx j9 (by omega)) hR (lv_sub hl [0, 1, 2, 3, 4, 5, 6, 7, 8] rfl)
          exact lp_59 (((wr.length - 0)) + 1) 0 g_content_7 _ _ _ (Nat.lt_succ_self _) (Nat.zero_le _) (fun j9 h => absurd h (Nat.not_lt_zero _)) (fun _ _ => rfl) hR (lv_sub hl [0, 1, 2, 3, 4, 5, 6, 7, 8] rfl)
        · refine lv_goto (tgt := 117) hx hb dX9_change_33 (by decide) ?_
          refine lv_iinc (v := nI (j + 1)) (lv' := [(5, .int (nI (j + 1))), (0, .ref x), (1, .int (nI i)), (2, .int (nI nc.length)), (3, .int (nI fm)), (4, .int (nI wr.length))]) hx hb dX9_change_117 hl (k := 5) rfl (nI_add j 1) (by decide) rfl (fun ls hl => ?_)
          refine lv_goto (tgt := 8) hx hb dX9_change_120 (by decide) ?_
          
          exact ih_8 (j + 1) g_many_7 g_bytes_7 g_kinds_7 g_modes_7 g_times_7 g_paths_7 g_contentAt_7 g_contents_7 g_path_7 g_content_7 _ _ _ (by omega) (by omega) (by rw [set_tk_ne (by omega) (by omega)]; exact hRT) hR (lv_sub hl [1, 2, 3, 4, 5, 0] rfl)
  exact lp_8 ((((Ts 0).length - 0)) + 1) 0 g_many_2 g_bytes_2 g_kinds_2 g_modes_2 g_times_2 g_paths_2 g_contentAt_2 g_contents_2 g_path_2 g_content_2 _ _ _ (Nat.lt_succ_self _) (Nat.zero_le _) hRT hR (lv_sub hl [1, 2, 3, 4, 5, 0] rfl)
