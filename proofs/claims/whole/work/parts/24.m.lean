set_option maxHeartbeats 4000000 in
set_option maxRecDepth 100000 in
theorem m_copy (l : Launch) {G : va_G} {tys : List (ClassId × FieldType)} {cI : ClassId} (hT : tys[1]? = some (cI, .int)) {A : Nat → Prop} {x : Nat} {q : Nat → Nat} {v_thrown v_taped v_state v_operations v_changes v_sessions v_begun v_isChosen v_chosenMany : Int32} {f_many f_bytes f_kinds f_modes f_times f_paths f_contentAt f_contents f_path f_content f_ready f_tape f_sessionTime f_sessionChanges f_chosen : Nat → Int32} (Ts : Nat → List En) (fr to : Nat) (hRT : RT f_many f_bytes f_kinds f_modes f_times f_paths f_contentAt f_contents f_path f_content Ts) (hfr : fr < 46) (hto : to < 46) (hne : fr ≠ to) : rMet l yX9_copy wsX9_copy ({ frames := 2, cells := 0, slots := 0, locals := 47 } : Room) G tys A [.ref x, .int (nI fr), .int (nI to)] (rwx cI x q v_thrown v_taped v_state v_operations v_changes v_sessions v_begun v_isChosen v_chosenMany f_many f_bytes f_kinds f_modes f_times f_paths f_contentAt f_contents f_path f_content f_ready f_tape f_sessionTime f_sessionChanges f_chosen) (fun r w => r = none ∧ ∃ g_many g_bytes g_kinds g_modes g_times g_paths g_contentAt g_contents g_path g_content : Nat → Int32, w = rwx cI x q v_thrown v_taped v_state v_operations v_changes v_sessions v_begun v_isChosen v_chosenMany g_many g_bytes g_kinds g_modes g_times g_paths g_contentAt g_contents g_path g_content f_ready f_tape f_sessionTime f_sessionChanges f_chosen ∧ RT g_many g_bytes g_kinds g_modes g_times g_paths g_contentAt g_contents g_path g_content (va_up Ts to (Ts fr))) := by
  refine Met.ofW (cc := cX9_copy) (maxL := 4) (ret := none) (by decide) rfl ?_
  intro p e s m args below meth c s₁ B hml hv
  obtain ⟨hargs, hP, hK, hD⟩ := hv
  have hx := B.exec
  have hb := B.bytes
  have hr := B.returns
  have hts := atoms_spec (ws := wsX9_copy) B.pre
  have hown : s.vm.findClass RX9 = some m.cls := findClass_of_methodNamed B.named
  have hlocks := B.notSynchronized
  have hC : rC p s m args c cX9_copy G tys cI wsX9_copy := ⟨hx, hb, hts, (by decide +kernel), hown, hK, hT⟩
  have k_many := hts (.fieldLink RX9 7 "MirrorKeepModel" "many" "[I") (by decide +kernel)
  have hR : rR G A s.heap s.heap [] (rwx cI x q v_thrown v_taped v_state v_operations v_changes v_sessions v_begun v_isChosen v_chosenMany f_many f_bytes f_kinds f_modes f_times f_paths f_contentAt f_contents f_path f_content f_ready f_tape f_sessionTime f_sessionChanges f_chosen) := ⟨hP, hD, va_S.rf⟩
  obtain ⟨Q, hQ⟩ : ∃ Q : State → Prop, Q = MQ below (rQ G A (fun r w => r = none ∧ ∃ g_many g_bytes g_kinds g_modes g_times g_paths g_contentAt g_contents g_path g_content : Nat → Int32, w = rwx cI x q v_thrown v_taped v_state v_operations v_changes v_sessions v_begun v_isChosen v_chosenMany g_many g_bytes g_kinds g_modes g_times g_paths g_contentAt g_contents g_path g_content f_ready f_tape f_sessionTime f_sessionChanges f_chosen ∧ RT g_many g_bytes g_kinds g_modes g_times g_paths g_contentAt g_contents g_path g_content (va_up Ts to (Ts fr)))) args s 0 0 A := ⟨_, rfl⟩
  change W p l e ({ frames := 2, cells := 0, slots := 0, locals := 47 } : Room) s m args below meth c s.heap [] 0 0 (MQ below (rQ G A (fun r w => r = none ∧ ∃ g_many g_bytes g_kinds g_modes g_times g_paths g_contentAt g_contents g_path g_content : Nat → Int32, w = rwx cI x q v_thrown v_taped v_state v_operations v_changes v_sessions v_begun v_isChosen v_chosenMany g_many g_bytes g_kinds g_modes g_times g_paths g_contentAt g_contents g_path g_content f_ready f_tape f_sessionTime f_sessionChanges f_chosen ∧ RT g_many g_bytes g_kinds g_modes g_times g_paths g_contentAt g_contents g_path g_content (va_up Ts to (Ts fr)))) args s 0 0 A) (entryFrame m args 4)
  rw [← hQ]
  refine nn_entry hargs (Nat.le_of_ble_eq_true rfl) (lv := [(0, .ref x), (1, .int (nI fr)), (2, .int (nI to))]) rfl (fun ls hl => ?_)
  refine lv_aload_n hx hb dX9_copy_0 rfl (lv_at hl 0 rfl) ?_
  refine lv_iload_n hx hb dX9_copy_1 rfl (lv_at hl 2 rfl) ?_
  refine rf_callV (C := RX9) (As := [.int (nI to)]) (rest := []) (m_empty l hT Ts to hto hRT) ⟨hx, hb, hml, hown, hts⟩ (cwV 1 hts gX9_copy_X9_empty rfl rfl rfl (by decide +kernel) ⟨Nat.le_of_ble_eq_true rfl, Nat.le_of_ble_eq_true rfl⟩) hK hR (r_recv hK hR.1) rfl hl.1 rfl (Nat.le_of_ble_eq_true rfl) dX9_copy_2 ⟨Nat.le_of_ble_eq_true rfl, Nat.le_of_ble_eq_true rfl⟩ (fun r_1 w_r_1 H locs hr_1 hR => ?_)
  obtain ⟨rfl, g_many_2, g_bytes_2, g_kinds_2, g_modes_2, g_times_2, g_paths_2, g_contentAt_2, g_contents_2, g_path_2, g_content_2, rfl, hRT⟩ := hr_1
  refine lv_iconst (v := nI 0) hx hb dX9_copy_5 rfl ?_
  refine lv_istore_n (lv' := [(3, .int (nI 0)), (0, .ref x), (1, .int (nI fr)), (2, .int (nI to))]) hx hb dX9_copy_6 rfl hl (by decide) rfl (fun ls hl => ?_)
  have lp_7 : ∀ (n_7 : Nat) (i : Nat) (a_many : Nat → Int32) (a_bytes : Nat → Int32) (a_kinds : Nat → Int32) (a_modes : Nat → Int32) (a_times : Nat → Int32) (a_paths : Nat → Int32) (a_contentAt : Nat → Int32) (a_contents : Nat → Int32) (a_path : Nat → Int32) (a_content : Nat → Int32) (H : Heap) (locs : List Loc) (ls : Array Slot), ((Ts fr).length - i) < n_7 → (i ≤ (Ts fr).length) → (RT a_many a_bytes a_kinds a_modes a_times a_paths a_contentAt a_contents a_path a_content (va_up Ts to ((Ts fr).take i))) → rR G A s.heap H locs (rwx cI x q v_thrown v_taped v_state v_operations v_changes v_sessions v_begun v_isChosen v_chosenMany a_many a_bytes a_kinds a_modes a_times a_paths a_contentAt a_contents a_path a_content f_ready f_tape f_sessionTime f_sessionChanges f_chosen) → lv_has ls 4 [(3, .int (nI i)), (0, .ref x), (1, .int (nI fr)), (2, .int (nI to))] → W p l e ({ frames := 2, cells := 0, slots := 0, locals := 47 } : Room) s m args below meth c H locs 0 0 Q (F0 m 7 ls []) := by
    intro n_7
    induction n_7 with
    | zero => intro i a_many a_bytes a_kinds a_modes a_times a_paths a_contentAt a_contents a_path a_content H locs ls h0; exact absurd h0 (Nat.not_lt_zero _)
    | succ n_7 ih_7 =>
      intro i a_many a_bytes a_kinds a_modes a_times a_paths a_contentAt a_contents a_path a_content H locs ls hm_7 hi hRT hR hl
      have hq1 := hRT fr hfr
      rw [va_up_ne _ _ hne] at hq1
      obtain ⟨t1, t2, t3, t4, t5⟩ := hq1
      refine lv_iload_n hx hb dX9_copy_7 rfl (lv_at hl 0 rfl) ?_
      refine lv_aload_n hx hb dX9_copy_8 rfl (lv_at hl 1 rfl) ?_
      refine rg_many hC hR.1 k_many dX9_copy_9 ?_
      refine lv_iload_n hx hb dX9_copy_12 rfl (lv_at hl 2 rfl) ?_
      refine rl_many hC hR.1 (by omega) dX9_copy_13 ?_
      refine nn_eqi (y := nI ((Ts fr).length)) t1 ?_
      refine nn_ge hx hb dX9_copy_14 (tgt := 30) (by decide) (by omega) (by omega) (fun c_3 => ?_) (fun c_3 => ?_)
      · have hii : i = (Ts fr).length := by omega
        rw [hQ]
        exact rf_vret hx hb hr hlocks hR ⟨rfl, _, _, _, _, _, _, _, _, _, _, rfl, by rw [hii, List.take_length] at hRT; exact hRT⟩ dX9_copy_30
      · refine lv_aload_n hx hb dX9_copy_17 rfl (lv_at hl 1 rfl) ?_
        refine lv_iload_n hx hb dX9_copy_18 rfl (lv_at hl 2 rfl) ?_
        refine lv_iload_n hx hb dX9_copy_19 rfl (lv_at hl 0 rfl) ?_
        refine lv_iload_n hx hb dX9_copy_20 rfl (lv_at hl 3 rfl) ?_
        refine rf_callV (C := RX9) (As := [.int (nI fr), .int (nI i), .int (nI to)]) (rest := []) (m_append l hT (va_up Ts to ((Ts fr).take i)) fr i to ((Ts fr).getD i e0) ((Ts fr).take i) hRT hfr hto hne (by rw [va_up_ne _ _ hne]; omega) (by rw [va_up_ne _ _ hne]) (va_up_self _ _ _) (by rw [List.length_take]; omega) (by have := csum_take (L := Ts fr) (i := i) (by omega); omega)) ⟨hx, hb, hml, hown, hts⟩ (cwV 3 hts gX9_copy_X9_append rfl rfl rfl (by decide +kernel) ⟨Nat.le_of_ble_eq_true rfl, Nat.le_of_ble_eq_true rfl⟩) hK hR (r_recv hK hR.1) rfl hl.1 rfl (Nat.le_of_ble_eq_true rfl) dX9_copy_21 ⟨Nat.le_of_ble_eq_true rfl, Nat.le_of_ble_eq_true rfl⟩ (fun r_4 w_r_4 H locs hr_4 hR => ?_)
        obtain ⟨rfl, g_many_5, g_bytes_5, g_kinds_5, g_modes_5, g_times_5, g_paths_5, g_contentAt_5, g_contents_5, g_path_5, g_content_5, rfl, hRT⟩ := hr_4
        rw [bx_uu, ← tk_succ (by omega)] at hRT
        refine lv_iinc (v := nI (i + 1)) (lv' := [(3, .int (nI (i + 1))), (0, .ref x), (1, .int (nI fr)), (2, .int (nI to))]) hx hb dX9_copy_24 hl (k := 0) rfl (nI_add i 1) (by decide) rfl (fun ls hl => ?_)
        refine lv_goto (tgt := 7) hx hb dX9_copy_27 (by decide) ?_
        exact ih_7 (i + 1) g_many_5 g_bytes_5 g_kinds_5 g_modes_5 g_times_5 g_paths_5 g_contentAt_5 g_contents_5 g_path_5 g_content_5 _ _ _ (by omega) (by omega) hRT hR (lv_sub hl [0, 1, 2, 3] rfl)
  exact lp_7 ((((Ts fr).length - 0)) + 1) 0 g_many_2 g_bytes_2 g_kinds_2 g_modes_2 g_times_2 g_paths_2 g_contentAt_2 g_contents_2 g_path_2 g_content_2 _ _ _ (Nat.lt_succ_self _) (Nat.zero_le _) hRT hR (lv_sub hl [0, 1, 2, 3] rfl)
set_option maxHeartbeats 4000000 in
set_option maxRecDepth 100000 in
theorem m_joinA (l : Launch) {G : va_G} {tys : List (ClassId × FieldType)} {cI : ClassId} (hT : tys[1]? = some (cI, .int)) {A : Nat → Prop} {x : Nat} {q : Nat → Nat} {v_thrown v_taped v_state v_operations v_changes v_sessions v_begun v_isChosen v_chosenMany : Int32} {f_many f_bytes f_kinds f_modes f_times f_paths f_contentAt f_contents f_path f_content f_ready f_tape f_sessionTime f_sessionChanges f_chosen : Nat → Int32} (Ts : Nat → List En) (t u dn to : Nat) (hRT : RT f_many f_bytes f_kinds f_modes f_times f_paths f_contentAt f_contents f_path f_content Ts) (ht : t < 46) (hu : u < 46) (hto : to < 46) (hnt : t ≠ to) (hnu : u ≠ to) (hlen : (Ts t).length + (Ts u).length ≤ 120) (hcs : csum (Ts t) + csum (Ts u) ≤ 8000) (hdn : dn < 2 ^ 31) : rMet l yX9_join wsX9_join ({ frames := 3, cells := 0, slots := 0, locals := 73 } : Room) G tys A [.ref x, .int (nI t), .int (nI u), .int (nI dn), .int (nI to)] (rwx cI x q v_thrown v_taped v_state v_operations v_changes v_sessions v_begun v_isChosen v_chosenMany f_many f_bytes f_kinds f_modes f_times f_paths f_contentAt f_contents f_path f_content f_ready f_tape f_sessionTime f_sessionChanges f_chosen) (fun r w => r = some (.int (nI (jn (Ts t) (Ts u) dn).1)) ∧ ∃ g_many g_bytes g_kinds g_modes g_times g_paths g_contentAt g_contents g_path g_content : Nat → Int32, w = rwx cI x q v_thrown v_taped v_state v_operations v_changes v_sessions v_begun v_isChosen v_chosenMany g_many g_bytes g_kinds g_modes g_times g_paths g_contentAt g_contents g_path g_content f_ready f_tape f_sessionTime f_sessionChanges f_chosen ∧ RT g_many g_bytes g_kinds g_modes g_times g_paths g_contentAt g_contents g_path g_content (va_up Ts to (jn (Ts t) (Ts u) dn).2)) := by
  refine Met.ofW (cc := cX9_join) (maxL := 11) (ret := (some .int)) (by decide) rfl ?_
  intro p e s m args below meth c s₁ B hml hv
  obtain ⟨hargs, hP, hK, hD⟩ := hv
  have hx := B.exec
  have hb := B.bytes
  have hr := B.returns
  have hts := atoms_spec (ws := wsX9_join) B.pre
  have hown : s.vm.findClass RX9 = some m.cls := findClass_of_methodNamed B.named
  have hlocks := B.notSynchronized
  have hC : rC p s m args c cX9_join G tys cI wsX9_join := ⟨hx, hb, hts, (by decide +kernel), hown, hK, hT⟩
  have k_many := hts (.fieldLink RX9 7 "MirrorKeepModel" "many" "[I") (by decide +kernel)
  have hR : rR G A s.heap s.heap [] (rwx cI x q v_thrown v_taped v_state v_operations v_changes v_sessions v_begun v_isChosen v_chosenMany f_many f_bytes f_kinds f_modes f_times f_paths f_contentAt f_contents f_path f_content f_ready f_tape f_sessionTime f_sessionChanges f_chosen) := ⟨hP, hD, va_S.rf⟩
  obtain ⟨Q, hQ⟩ : ∃ Q : State → Prop, Q = MQ below (rQ G A (fun r w => r = some (.int (nI (jn (Ts t) (Ts u) dn).1)) ∧ ∃ g_many g_bytes g_kinds g_modes g_times g_paths g_contentAt g_contents g_path g_content : Nat → Int32, w = rwx cI x q v_thrown v_taped v_state v_operations v_changes v_sessions v_begun v_isChosen v_chosenMany g_many g_bytes g_kinds g_modes g_times g_paths g_contentAt g_contents g_path g_content f_ready f_tape f_sessionTime f_sessionChanges f_chosen ∧ RT g_many g_bytes g_kinds g_modes g_times g_paths g_contentAt g_contents g_path g_content (va_up Ts to (jn (Ts t) (Ts u) dn).2))) args s 0 0 A := ⟨_, rfl⟩
  change W p l e ({ frames := 3, cells := 0, slots := 0, locals := 73 } : Room) s m args below meth c s.heap [] 0 0 (MQ below (rQ G A (fun r w => r = some (.int (nI (jn (Ts t) (Ts u) dn).1)) ∧ ∃ g_many g_bytes g_kinds g_modes g_times g_paths g_contentAt g_contents g_path g_content : Nat → Int32, w = rwx cI x q v_thrown v_taped v_state v_operations v_changes v_sessions v_begun v_isChosen v_chosenMany g_many g_bytes g_kinds g_modes g_times g_paths g_contentAt g_contents g_path g_content f_ready f_tape f_sessionTime f_sessionChanges f_chosen ∧ RT g_many g_bytes g_kinds g_modes g_times g_paths g_contentAt g_contents g_path g_content (va_up Ts to (jn (Ts t) (Ts u) dn).2))) args s 0 0 A) (entryFrame m args 11)
  rw [← hQ]
  refine nn_entry hargs (Nat.le_of_ble_eq_true rfl) (lv := [(0, .ref x), (1, .int (nI t)), (2, .int (nI u)), (3, .int (nI dn)), (4, .int (nI to))]) rfl (fun ls hl => ?_)
  refine lv_iload hx hb dX9_join_0 (lv_at hl 4 rfl) ?_
  refine nz_lt hx hb dX9_join_2 (tgt := 11) (by decide) (by omega) (fun c_1 => ?_) (fun c_1 => ?_)
  · exact absurd c_1 (Nat.not_lt_zero _)
  · refine lv_aload_n hx hb dX9_join_5 rfl (lv_at hl 0 rfl) ?_
    refine lv_iload hx hb dX9_join_6 (lv_at hl 4 rfl) ?_
    refine rf_callV (C := RX9) (As := [.int (nI to)]) (rest := []) (m_empty l hT Ts to hto hRT) ⟨hx, hb, hml, hown, hts⟩ (cwV 1 hts gX9_join_X9_empty rfl rfl rfl (by decide +kernel) ⟨Nat.le_of_ble_eq_true rfl, Nat.le_of_ble_eq_true rfl⟩) hK hR (r_recv hK hR.1) rfl hl.1 rfl (Nat.le_of_ble_eq_true rfl) dX9_join_8 ⟨Nat.le_of_ble_eq_true rfl, Nat.le_of_ble_eq_true rfl⟩ (fun r_2 w_r_2 H locs hr_2 hR => ?_)
    obtain ⟨rfl, g_many_3, g_bytes_3, g_kinds_3, g_modes_3, g_times_3, g_paths_3, g_contentAt_3, g_contents_3, g_path_3, g_content_3, rfl, hRT⟩ := hr_2
    refine lv_iconst (v := nI 0) hx hb dX9_join_11 rfl ?_
    refine lv_istore (lv' := [(5, .int (nI 0)), (0, .ref x), (1, .int (nI t)), (2, .int (nI u)), (3, .int (nI dn)), (4, .int (nI to))]) hx hb dX9_join_12 hl (by decide) rfl (fun ls hl => ?_)
    refine lv_iconst (v := nI 0) hx hb dX9_join_14 rfl ?_
    refine lv_istore (lv' := [(6, .int (nI 0)), (5, .int (nI 0)), (0, .ref x), (1, .int (nI t)), (2, .int (nI u)), (3, .int (nI dn)), (4, .int (nI to))]) hx hb dX9_join_15 hl (by decide) rfl (fun ls hl => ?_)
    refine lv_iconst (v := nI 0) hx hb dX9_join_17 rfl ?_
    refine lv_istore (lv' := [(7, .int (nI 0)), (6, .int (nI 0)), (5, .int (nI 0)), (0, .ref x), (1, .int (nI t)), (2, .int (nI u)), (3, .int (nI dn)), (4, .int (nI to))]) hx hb dX9_join_18 hl (by decide) rfl (fun ls hl => ?_)
    have lp_20 : ∀ (n_20 : Nat) (i : Nat) (j : Nat) (n : Nat) (Lc : List En) (a_many : Nat → Int32) (a_bytes : Nat → Int32) (a_kinds : Nat → Int32) (a_modes : Nat → Int32) (a_times : Nat → Int32) (a_paths : Nat → Int32) (a_contentAt : Nat → Int32) (a_contents : Nat → Int32) (a_path : Nat → Int32) (a_content : Nat → Int32) (H : Heap) (locs : List Loc) (ls : Array Slot), ((Ts t).length - i + ((Ts u).length - j)) < n_20 → (i ≤ (Ts t).length) → (j ≤ (Ts u).length) → (n ≤ i + j) → ((jn (Ts t) (Ts u) dn).1 = n + (jn ((Ts t).drop i) ((Ts u).drop j) (dn - n)).1) → ((jn (Ts t) (Ts u) dn).2 = Lc ++ (jn ((Ts t).drop i) ((Ts u).drop j) (dn - n)).2) → (Lc.length ≤ i + j) → (csum Lc ≤ csum ((Ts t).take i) + csum ((Ts u).take j)) → (RT a_many a_bytes a_kinds a_modes a_times a_paths a_contentAt a_contents a_path a_content (va_up Ts to Lc)) → rR G A s.heap H locs (rwx cI x q v_thrown v_taped v_state v_operations v_changes v_sessions v_begun v_isChosen v_chosenMany a_many a_bytes a_kinds a_modes a_times a_paths a_contentAt a_contents a_path a_content f_ready f_tape f_sessionTime f_sessionChanges f_chosen) → lv_has ls 11 [(0, .ref x), (1, .int (nI t)), (2, .int (nI u)), (3, .int (nI dn)), (4, .int (nI to)), (5, .int (nI i)), (6, .int (nI j)), (7, .int (nI n))] → W p l e ({ frames := 3, cells := 0, slots := 0, locals := 73 } : Room) s m args below meth c H locs 0 0 Q (F0 m 20 ls []) := by
      intro n_20
      induction n_20 with
      | zero => intro i j n Lc a_many a_bytes a_kinds a_modes a_times a_paths a_contentAt a_contents a_path a_content H locs ls h0; exact absurd h0 (Nat.not_lt_zero _)
      | succ n_20 ih_20 =>
        intro i j n Lc a_many a_bytes a_kinds a_modes a_times a_paths a_contentAt a_contents a_path a_content H locs ls hm_20 hi hj hn hcnt hlst hLl hLc hRT hR hl
        have hs1 := csum_le (Ts t) i
        have hs2 := csum_le (Ts u) j
        have hq1 := hRT t ht
        rw [va_up_ne _ _ hnt] at hq1
        obtain ⟨t1, t2, t3, t4, t5⟩ := hq1
        have hq2 := hRT u hu
        rw [va_up_ne _ _ hnu] at hq2
        obtain ⟨u1, u2, u3, u4, u5⟩ := hq2
        refine lv_iload hx hb dX9_join_20 (lv_at hl 5 rfl) ?_
        refine lv_aload_n hx hb dX9_join_22 rfl (lv_at hl 0 rfl) ?_
        refine rg_many hC hR.1 k_many dX9_join_23 ?_
        refine lv_iload_n hx hb dX9_join_26 rfl (lv_at hl 1 rfl) ?_
        refine rl_many hC hR.1 (by omega) dX9_join_27 ?_
        refine nn_eqi (y := nI ((Ts t).length)) t1 ?_
        refine nn_lt hx hb dX9_join_28 (tgt := 42) (by decide) (by omega) (by omega) (fun c_4 => ?_) (fun c_4 => ?_)
        · refine lv_iload hx hb dX9_join_42 (lv_at hl 5 rfl) ?_
          refine lv_aload_n hx hb dX9_join_44 rfl (lv_at hl 0 rfl) ?_
          refine rg_many hC hR.1 k_many dX9_join_45 ?_
          refine lv_iload_n hx hb dX9_join_48 rfl (lv_at hl 1 rfl) ?_
          refine rl_many hC hR.1 (by omega) dX9_join_49 ?_
          refine nn_eqi (y := nI ((Ts t).length)) t1 ?_
          refine nn_ne hx hb dX9_join_50 (tgt := 57) (by decide) (by omega) (by omega) (fun c_5 => ?_) (fun c_5 => ?_)
          · refine lv_iload hx hb dX9_join_57 (lv_at hl 6 rfl) ?_
            refine lv_aload_n hx hb dX9_join_59 rfl (lv_at hl 0 rfl) ?_
            refine rg_many hC hR.1 k_many dX9_join_60 ?_
            refine lv_iload_n hx hb dX9_join_63 rfl (lv_at hl 2 rfl) ?_
            refine rl_many hC hR.1 (by omega) dX9_join_64 ?_
            refine nn_eqi (y := nI ((Ts u).length)) u1 ?_
            refine nn_ne hx hb dX9_join_65 (tgt := 72) (by decide) (by omega) (by omega) (fun c_6 => ?_) (fun c_6 => ?_)
            · refine lv_aload_n hx hb dX9_join_72 rfl (lv_at hl 0 rfl) ?_
              refine lv_iload_n hx hb dX9_join_73 rfl (lv_at hl 1 rfl) ?_
              refine lv_iload hx hb dX9_join_74 (lv_at hl 5 rfl) ?_
              refine lv_iload_n hx hb dX9_join_76 rfl (lv_at hl 2 rfl) ?_
              refine lv_iload hx hb dX9_join_77 (lv_at hl 6 rfl) ?_
              refine pf_callV (C := RX9) (As := [.int (nI t), .int (nI i), .int (nI u), .int (nI j)]) (rest := []) (m_orderOf l hT (va_up Ts to Lc) t i u j hRT ht (by rw [va_up_ne _ _ hnt]; omega) hu (by rw [va_up_ne _ _ hnu]; omega)) ⟨hx, hb, hml, hown, hts⟩ (cwV 4 hts gX9_join_X9_orderOf rfl rfl rfl (by decide +kernel) ⟨Nat.le_of_ble_eq_true rfl, Nat.le_of_ble_eq_true rfl⟩) hK hR.1 (r_recv hK hR.1) rfl hl.1 rfl (Nat.le_of_ble_eq_true rfl) dX9_join_79 ⟨Nat.le_of_ble_eq_true rfl, Nat.le_of_ble_eq_true rfl⟩ (fun r_7 hr_7 => ?_)
              obtain ⟨o1, rfl, ho1⟩ := hr_7
              rw [va_up_ne _ _ hnt, va_up_ne _ _ hnu] at ho1
              refine lv_istore (lv' := [(8, .int o1), (0, .ref x), (1, .int (nI t)), (2, .int (nI u)), (3, .int (nI dn)), (4, .int (nI to)), (5, .int (nI i)), (6, .int (nI j)), (7, .int (nI n))]) hx hb dX9_join_82 hl (by decide) rfl (fun ls hl => ?_)
              rcases Int.lt_trichotomy (pcm ((Ts t).getD i e0).1 ((Ts u).getD j e0).1) 0 with hz | hz | hz
              · refine lv_iload hx hb dX9_join_84 (lv_at hl 0 rfl) ?_
                refine zi_ne hx hb ho1 dX9_join_86 (tgt := 102) (by decide) (fun c_8 => ?_) (fun c_8 => ?_)
                · refine lv_iconst (v := bI true) hx hb dX9_join_102 rfl ?_
                  refine lv_goto (tgt := 107) hx hb dX9_join_103 (by decide) ?_
                  refine lv_istore (lv' := [(9, .int (bI true)), (8, .int o1), (0, .ref x), (1, .int (nI t)), (2, .int (nI u)), (3, .int (nI dn)), (4, .int (nI to)), (5, .int (nI i)), (6, .int (nI j)), (7, .int (nI n))]) hx hb dX9_join_107 hl (by decide) rfl (fun ls hl => ?_)
                  refine lv_iload hx hb dX9_join_109 (lv_at hl 0 rfl) ?_
                  refine nb_ifeq hx hb dX9_join_111 (tgt := 124) (by decide) (fun c_9 => ?_) (fun c_9 => ?_)
                  · cases c_9
                  · refine lv_iload hx hb dX9_join_114 (lv_at hl 9 rfl) ?_
                    refine lv_iload_n hx hb dX9_join_116 rfl (lv_at hl 5 rfl) ?_
                    refine nn_ge hx hb dX9_join_117 (tgt := 124) (by decide) (by omega) (by omega) (fun c_10 => ?_) (fun c_10 => ?_)
                    · refine lv_iconst (v := bI false) hx hb dX9_join_124 rfl ?_
                      refine lv_istore (lv' := [(10, .int (bI false)), (9, .int (bI true)), (8, .int o1), (0, .ref x), (1, .int (nI t)), (2, .int (nI u)), (3, .int (nI dn)), (4, .int (nI to)), (5, .int (nI i)), (6, .int (nI j)), (7, .int (nI n))]) hx hb dX9_join_125 hl (by decide) rfl (fun ls hl => ?_)
                      refine lv_iload hx hb dX9_join_127 (lv_at hl 7 rfl) ?_
                      refine nz_lt hx hb dX9_join_129 (tgt := 151) (by decide) (by omega) (fun c_11 => ?_) (fun c_11 => ?_)
                      · exact absurd c_11 (Nat.not_lt_zero _)
                      · refine lv_iload hx hb dX9_join_132 (lv_at hl 0 rfl) ?_
                        refine nb_ifeq hx hb dX9_join_134 (tgt := 151) (by decide) (fun c_12 => ?_) (fun c_12 => ?_)
                        · refine lv_iload hx hb dX9_join_151 (lv_at hl 7 rfl) ?_
                          refine nz_lt hx hb dX9_join_153 (tgt := 175) (by decide) (by omega) (fun c_13 => ?_) (fun c_13 => ?_)
                          · exact absurd c_13 (Nat.not_lt_zero _)
                          · refine lv_iload hx hb dX9_join_156 (lv_at hl 0 rfl) ?_
                            refine nb_ifne hx hb dX9_join_158 (tgt := 175) (by decide) (fun c_14 => ?_) (fun c_14 => ?_)
                            · cases c_14
                            · refine lv_iload hx hb dX9_join_161 (lv_at hl 2 rfl) ?_
                              refine zi_gt hx hb ho1 dX9_join_163 (tgt := 175) (by decide) (fun c_15 => ?_) (fun c_15 => ?_)
                              · exact absurd c_15 (by omega)
                              · refine lv_aload_n hx hb dX9_join_166 rfl (lv_at hl 3 rfl) ?_
                                refine lv_iload_n hx hb dX9_join_167 rfl (lv_at hl 4 rfl) ?_
                                refine lv_iload hx hb dX9_join_168 (lv_at hl 8 rfl) ?_
                                refine lv_iload hx hb dX9_join_170 (lv_at hl 7 rfl) ?_
                                have hct := csum_take (L := Ts t) (i := i) (by omega)
                                refine rf_callV (C := RX9) (As := [.int (nI t), .int (nI i), .int (nI to)]) (rest := []) (m_append l hT (va_up Ts to Lc) t i to ((Ts t).getD i e0) Lc hRT ht hto hnt (by rw [va_up_ne _ _ hnt]; omega) (by rw [va_up_ne _ _ hnt]) (va_up_self _ _ _) (by omega) (by omega)) ⟨hx, hb, hml, hown, hts⟩ (cwV 3 hts gX9_join_X9_append rfl rfl rfl (by decide +kernel) ⟨Nat.le_of_ble_eq_true rfl, Nat.le_of_ble_eq_true rfl⟩) hK hR (r_recv hK hR.1) rfl hl.1 rfl (Nat.le_of_ble_eq_true rfl) dX9_join_172 ⟨Nat.le_of_ble_eq_true rfl, Nat.le_of_ble_eq_true rfl⟩ (fun r_16 w_r_16 H locs hr_16 hR => ?_)
                                obtain ⟨rfl, g_many_17, g_bytes_17, g_kinds_17, g_modes_17, g_times_17, g_paths_17, g_contentAt_17, g_contents_17, g_path_17, g_content_17, rfl, hRT⟩ := hr_16
                                rw [bx_uu] at hRT
                                refine lv_iload hx hb dX9_join_175 (lv_at hl 10 rfl) ?_
                                refine lv_iload hx hb dX9_join_177 (lv_at hl 1 rfl) ?_
                                refine nb_ifeq hx hb dX9_join_179 (tgt := 186) (by decide) (fun c_18 => ?_) (fun c_18 => ?_)
                                · cases c_18
                                · refine lv_iconst (v := nI 1) hx hb dX9_join_182 rfl ?_
                                  refine lv_goto (tgt := 187) hx hb dX9_join_183 (by decide) ?_
                                  refine nn_add hx hb dX9_join_187 ?_
                                  refine lv_istore (lv' := [(7, .int (nI (n + 1))), (10, .int (bI false)), (9, .int (bI true)), (8, .int o1), (0, .ref x), (1, .int (nI t)), (2, .int (nI u)), (3, .int (nI dn)), (4, .int (nI to)), (5, .int (nI i)), (6, .int (nI j))]) hx hb dX9_join_188 hl (by decide) rfl (fun ls hl => ?_)
                                  refine lv_iload hx hb dX9_join_190 (lv_at hl 9 rfl) ?_
                                  refine lv_iload hx hb dX9_join_192 (lv_at hl 3 rfl) ?_
                                  refine zi_gt hx hb ho1 dX9_join_194 (tgt := 201) (by decide) (fun c_19 => ?_) (fun c_19 => ?_)
                                  · exact absurd c_19 (by omega)
                                  · refine lv_iconst (v := nI 1) hx hb dX9_join_197 rfl ?_
                                    refine lv_goto (tgt := 202) hx hb dX9_join_198 (by decide) ?_
                                    refine nn_add hx hb dX9_join_202 ?_
                                    refine lv_istore (lv' := [(5, .int (nI (i + 1))), (7, .int (nI (n + 1))), (10, .int (bI false)), (9, .int (bI true)), (8, .int o1), (0, .ref x), (1, .int (nI t)), (2, .int (nI u)), (3, .int (nI dn)), (4, .int (nI to)), (6, .int (nI j))]) hx hb dX9_join_203 hl (by decide) rfl (fun ls hl => ?_)
                                    refine lv_iload hx hb dX9_join_205 (lv_at hl 10 rfl) ?_
                                    refine lv_iload hx hb dX9_join_207 (lv_at hl 4 rfl) ?_
                                    refine zi_lt hx hb ho1 dX9_join_209 (tgt := 216) (by decide) (fun c_20 => ?_) (fun c_20 => ?_)
                                    · refine lv_iconst (v := nI 0) hx hb dX9_join_216 rfl ?_
                                      refine nn_add0 hx hb dX9_join_217 ?_
                                      refine lv_istore (lv' := [(6, .int (nI j)), (5, .int (nI (i + 1))), (7, .int (nI (n + 1))), (10, .int (bI false)), (9, .int (bI true)), (8, .int o1), (0, .ref x), (1, .int (nI t)), (2, .int (nI u)), (3, .int (nI dn)), (4, .int (nI to))]) hx hb dX9_join_218 hl (by decide) rfl (fun ls hl => ?_)
                                      refine lv_goto (tgt := 20) hx hb dX9_join_220 (by decide) ?_
                                      have hJ := jn_S (S := Ts t) (T := Ts u) (i := i) (j := j) (d := dn - n) (by omega) (by first | exact Or.inl (by omega) | exact Or.inr ⟨by omega, by omega⟩)
                                      rw [if_neg (by omega), Nat.sub_sub] at hJ
                                      rw [hJ] at hcnt hlst
                                      dsimp only at hcnt hlst
                                      have hk1 := csum_tk (L := Ts t) (i := i) (by omega)
                                      have hk3 := csum_a1 Lc ((Ts t).getD i e0)
                                      have hk4 : (Lc ++ [((Ts t).getD i e0)]).length = Lc.length + 1 := by simp
                                      exact ih_20 (i + 1) j (n + 1) (Lc ++ [((Ts t).getD i e0)]) g_many_17 g_bytes_17 g_kinds_17 g_modes_17 g_times_17 g_paths_17 g_contentAt_17 g_contents_17 g_path_17 g_content_17 _ _ _ (by omega) (by omega) (by omega) (by omega) (by omega) (by rw [hlst]; simp) (by omega) (by omega) hRT hR (lv_sub hl [6, 7, 8, 9, 10, 1, 0, 2] rfl)
                                    · exact absurd c_20 (by omega)
                        · cases c_12
                    · refine lv_iconst (v := bI true) hx hb dX9_join_120 rfl ?_
                      refine lv_goto (tgt := 125) hx hb dX9_join_121 (by decide) ?_
                      refine lv_istore (lv' := [(10, .int (bI true)), (9, .int (bI true)), (8, .int o1), (0, .ref x), (1, .int (nI t)), (2, .int (nI u)), (3, .int (nI dn)), (4, .int (nI to)), (5, .int (nI i)), (6, .int (nI j)), (7, .int (nI n))]) hx hb dX9_join_125 hl (by decide) rfl (fun ls hl => ?_)
                      refine lv_iload hx hb dX9_join_127 (lv_at hl 7 rfl) ?_
                      refine nz_lt hx hb dX9_join_129 (tgt := 151) (by decide) (by omega) (fun c_21 => ?_) (fun c_21 => ?_)
                      · exact absurd c_21 (Nat.not_lt_zero _)
                      · refine lv_iload hx hb dX9_join_132 (lv_at hl 0 rfl) ?_
                        refine nb_ifeq hx hb dX9_join_134 (tgt := 151) (by decide) (fun c_22 => ?_) (fun c_22 => ?_)
                        · cases c_22
                        · refine lv_iload hx hb dX9_join_137 (lv_at hl 2 rfl) ?_
                          refine zi_lt hx hb ho1 dX9_join_139 (tgt := 151) (by decide) (fun c_23 => ?_) (fun c_23 => ?_)
                          · refine lv_iload hx hb dX9_join_151 (lv_at hl 7 rfl) ?_
                            refine nz_lt hx hb dX9_join_153 (tgt := 175) (by decide) (by omega) (fun c_24 => ?_) (fun c_24 => ?_)
                            · exact absurd c_24 (Nat.not_lt_zero _)
                            · refine lv_iload hx hb dX9_join_156 (lv_at hl 0 rfl) ?_
                              refine nb_ifne hx hb dX9_join_158 (tgt := 175) (by decide) (fun c_25 => ?_) (fun c_25 => ?_)
                              · refine lv_iload hx hb dX9_join_175 (lv_at hl 10 rfl) ?_
                                refine lv_iload hx hb dX9_join_177 (lv_at hl 1 rfl) ?_
                                refine nb_ifeq hx hb dX9_join_179 (tgt := 186) (by decide) (fun c_26 => ?_) (fun c_26 => ?_)
                                · cases c_26
                                · refine lv_iconst (v := nI 1) hx hb dX9_join_182 rfl ?_
                                  refine lv_goto (tgt := 187) hx hb dX9_join_183 (by decide) ?_
                                  refine nn_add hx hb dX9_join_187 ?_
                                  refine lv_istore (lv' := [(7, .int (nI (n + 1))), (10, .int (bI true)), (9, .int (bI true)), (8, .int o1), (0, .ref x), (1, .int (nI t)), (2, .int (nI u)), (3, .int (nI dn)), (4, .int (nI to)), (5, .int (nI i)), (6, .int (nI j))]) hx hb dX9_join_188 hl (by decide) rfl (fun ls hl => ?_)
                                  refine lv_iload hx hb dX9_join_190 (lv_at hl 9 rfl) ?_
                                  refine lv_iload hx hb dX9_join_192 (lv_at hl 3 rfl) ?_
                                  refine zi_gt hx hb ho1 dX9_join_194 (tgt := 201) (by decide) (fun c_27 => ?_) (fun c_27 => ?_)
                                  · exact absurd c_27 (by omega)
                                  · refine lv_iconst (v := nI 1) hx hb dX9_join_197 rfl ?_
                                    refine lv_goto (tgt := 202) hx hb dX9_join_198 (by decide) ?_
                                    refine nn_add hx hb dX9_join_202 ?_
                                    refine lv_istore (lv' := [(5, .int (nI (i + 1))), (7, .int (nI (n + 1))), (10, .int (bI true)), (9, .int (bI true)), (8, .int o1), (0, .ref x), (1, .int (nI t)), (2, .int (nI u)), (3, .int (nI dn)), (4, .int (nI to)), (6, .int (nI j))]) hx hb dX9_join_203 hl (by decide) rfl (fun ls hl => ?_)
                                    refine lv_iload hx hb dX9_join_205 (lv_at hl 10 rfl) ?_
                                    refine lv_iload hx hb dX9_join_207 (lv_at hl 4 rfl) ?_
                                    refine zi_lt hx hb ho1 dX9_join_209 (tgt := 216) (by decide) (fun c_28 => ?_) (fun c_28 => ?_)
                                    · refine lv_iconst (v := nI 0) hx hb dX9_join_216 rfl ?_
                                      refine nn_add0 hx hb dX9_join_217 ?_
                                      refine lv_istore (lv' := [(6, .int (nI j)), (5, .int (nI (i + 1))), (7, .int (nI (n + 1))), (10, .int (bI true)), (9, .int (bI true)), (8, .int o1), (0, .ref x), (1, .int (nI t)), (2, .int (nI u)), (3, .int (nI dn)), (4, .int (nI to))]) hx hb dX9_join_218 hl (by decide) rfl (fun ls hl => ?_)
                                      refine lv_goto (tgt := 20) hx hb dX9_join_220 (by decide) ?_
                                      have hJ := jn_S (S := Ts t) (T := Ts u) (i := i) (j := j) (d := dn - n) (by omega) (by first | exact Or.inl (by omega) | exact Or.inr ⟨by omega, by omega⟩)
                                      rw [if_pos (by omega), Nat.sub_sub] at hJ
                                      rw [hJ] at hcnt hlst
                                      dsimp only at hcnt hlst
                                      have hk1 := csum_tk (L := Ts t) (i := i) (by omega)
                                      exact ih_20 (i + 1) j (n + 1) Lc a_many a_bytes a_kinds a_modes a_times a_paths a_contentAt a_contents a_path a_content _ _ _ (by omega) (by omega) (by omega) (by omega) (by omega) (by rw [hlst]; simp) (by omega) (by omega) hRT hR (lv_sub hl [6, 7, 8, 9, 10, 1, 0, 2] rfl)
                                    · exact absurd c_28 (by omega)
                              · cases c_25
                          · exact absurd c_23 (by omega)
                · exact absurd c_8 (by omega)
              · refine lv_iload hx hb dX9_join_84 (lv_at hl 0 rfl) ?_
                refine zi_ne hx hb ho1 dX9_join_86 (tgt := 102) (by decide) (fun c_29 => ?_) (fun c_29 => ?_)
                · exact absurd c_29 (by omega)
                · refine lv_aload_n hx hb dX9_join_89 rfl (lv_at hl 1 rfl) ?_
                  refine lv_iload_n hx hb dX9_join_90 rfl (lv_at hl 2 rfl) ?_
                  refine lv_iload hx hb dX9_join_91 (lv_at hl 6 rfl) ?_
                  refine lv_iload_n hx hb dX9_join_93 rfl (lv_at hl 3 rfl) ?_
                  refine lv_iload hx hb dX9_join_94 (lv_at hl 7 rfl) ?_
                  refine pf_callV (C := RX9) (As := [.int (nI t), .int (nI i), .int (nI u), .int (nI j)]) (rest := []) (m_isSame l hT (va_up Ts to Lc) t i u j hRT ht (by rw [va_up_ne _ _ hnt]; omega) hu (by rw [va_up_ne _ _ hnu]; omega)) ⟨hx, hb, hml, hown, hts⟩ (cwV 4 hts gX9_join_X9_isSame rfl rfl rfl (by decide +kernel) ⟨Nat.le_of_ble_eq_true rfl, Nat.le_of_ble_eq_true rfl⟩) hK hR.1 (r_recv hK hR.1) rfl hl.1 rfl (Nat.le_of_ble_eq_true rfl) dX9_join_96 ⟨Nat.le_of_ble_eq_true rfl, Nat.le_of_ble_eq_true rfl⟩ (fun r_30 hr_30 => ?_)
                  rw [va_up_ne _ _ hnt, va_up_ne _ _ hnu] at hr_30
                  subst hr_30
                  refine nb_ifne hx hb dX9_join_99 (tgt := 106) (by decide) (fun c_31 => ?_) (fun c_31 => ?_)
                  · refine lv_iconst (v := bI false) hx hb dX9_join_106 rfl ?_
                    refine lv_istore (lv' := [(9, .int (bI false)), (8, .int o1), (0, .ref x), (1, .int (nI t)), (2, .int (nI u)), (3, .int (nI dn)), (4, .int (nI to)), (5, .int (nI i)), (6, .int (nI j)), (7, .int (nI n))]) hx hb dX9_join_107 hl (by decide) rfl (fun ls hl => ?_)
                    refine lv_iload hx hb dX9_join_109 (lv_at hl 0 rfl) ?_
                    refine nb_ifeq hx hb dX9_join_111 (tgt := 124) (by decide) (fun c_32 => ?_) (fun c_32 => ?_)
                    · refine lv_iconst (v := bI false) hx hb dX9_join_124 rfl ?_
                      refine lv_istore (lv' := [(10, .int (bI false)), (9, .int (bI false)), (8, .int o1), (0, .ref x), (1, .int (nI t)), (2, .int (nI u)), (3, .int (nI dn)), (4, .int (nI to)), (5, .int (nI i)), (6, .int (nI j)), (7, .int (nI n))]) hx hb dX9_join_125 hl (by decide) rfl (fun ls hl => ?_)
                      refine lv_iload hx hb dX9_join_127 (lv_at hl 7 rfl) ?_
                      refine nz_lt hx hb dX9_join_129 (tgt := 151) (by decide) (by omega) (fun c_33 => ?_) (fun c_33 => ?_)
                      · exact absurd c_33 (Nat.not_lt_zero _)
                      · refine lv_iload hx hb dX9_join_132 (lv_at hl 0 rfl) ?_
                        refine nb_ifeq hx hb dX9_join_134 (tgt := 151) (by decide) (fun c_34 => ?_) (fun c_34 => ?_)
                        · refine lv_iload hx hb dX9_join_151 (lv_at hl 7 rfl) ?_
                          refine nz_lt hx hb dX9_join_153 (tgt := 175) (by decide) (by omega) (fun c_35 => ?_) (fun c_35 => ?_)
                          · exact absurd c_35 (Nat.not_lt_zero _)
                          · refine lv_iload hx hb dX9_join_156 (lv_at hl 0 rfl) ?_
                            refine nb_ifne hx hb dX9_join_158 (tgt := 175) (by decide) (fun c_36 => ?_) (fun c_36 => ?_)
                            · cases c_36
                            · refine lv_iload hx hb dX9_join_161 (lv_at hl 2 rfl) ?_
                              refine zi_gt hx hb ho1 dX9_join_163 (tgt := 175) (by decide) (fun c_37 => ?_) (fun c_37 => ?_)
                              · exact absurd c_37 (by omega)
                              · refine lv_aload_n hx hb dX9_join_166 rfl (lv_at hl 3 rfl) ?_
                                refine lv_iload_n hx hb dX9_join_167 rfl (lv_at hl 4 rfl) ?_
                                refine lv_iload hx hb dX9_join_168 (lv_at hl 8 rfl) ?_
                                refine lv_iload hx hb dX9_join_170 (lv_at hl 7 rfl) ?_
                                have hct := csum_take (L := Ts t) (i := i) (by omega)
                                refine rf_callV (C := RX9) (As := [.int (nI t), .int (nI i), .int (nI to)]) (rest := []) (m_append l hT (va_up Ts to Lc) t i to ((Ts t).getD i e0) Lc hRT ht hto hnt (by rw [va_up_ne _ _ hnt]; omega) (by rw [va_up_ne _ _ hnt]) (va_up_self _ _ _) (by omega) (by omega)) ⟨hx, hb, hml, hown, hts⟩ (cwV 3 hts gX9_join_X9_append rfl rfl rfl (by decide +kernel) ⟨Nat.le_of_ble_eq_true rfl, Nat.le_of_ble_eq_true rfl⟩) hK hR (r_recv hK hR.1) rfl hl.1 rfl (Nat.le_of_ble_eq_true rfl) dX9_join_172 ⟨Nat.le_of_ble_eq_true rfl, Nat.le_of_ble_eq_true rfl⟩ (fun r_38 w_r_38 H locs hr_38 hR => ?_)
                                obtain ⟨rfl, g_many_39, g_bytes_39, g_kinds_39, g_modes_39, g_times_39, g_paths_39, g_contentAt_39, g_contents_39, g_path_39, g_content_39, rfl, hRT⟩ := hr_38
                                rw [bx_uu] at hRT
                                refine lv_iload hx hb dX9_join_175 (lv_at hl 10 rfl) ?_
                                refine lv_iload hx hb dX9_join_177 (lv_at hl 1 rfl) ?_
                                refine nb_ifeq hx hb dX9_join_179 (tgt := 186) (by decide) (fun c_40 => ?_) (fun c_40 => ?_)
                                · refine lv_iconst (v := nI 0) hx hb dX9_join_186 rfl ?_
                                  refine nn_add0 hx hb dX9_join_187 ?_
                                  refine lv_istore (lv' := [(7, .int (nI n)), (10, .int (bI false)), (9, .int (bI false)), (8, .int o1), (0, .ref x), (1, .int (nI t)), (2, .int (nI u)), (3, .int (nI dn)), (4, .int (nI to)), (5, .int (nI i)), (6, .int (nI j))]) hx hb dX9_join_188 hl (by decide) rfl (fun ls hl => ?_)
                                  refine lv_iload hx hb dX9_join_190 (lv_at hl 9 rfl) ?_
                                  refine lv_iload hx hb dX9_join_192 (lv_at hl 3 rfl) ?_
                                  refine zi_gt hx hb ho1 dX9_join_194 (tgt := 201) (by decide) (fun c_41 => ?_) (fun c_41 => ?_)
                                  · exact absurd c_41 (by omega)
                                  · refine lv_iconst (v := nI 1) hx hb dX9_join_197 rfl ?_
                                    refine lv_goto (tgt := 202) hx hb dX9_join_198 (by decide) ?_
                                    refine nn_add hx hb dX9_join_202 ?_
                                    refine lv_istore (lv' := [(5, .int (nI (i + 1))), (7, .int (nI n)), (10, .int (bI false)), (9, .int (bI false)), (8, .int o1), (0, .ref x), (1, .int (nI t)), (2, .int (nI u)), (3, .int (nI dn)), (4, .int (nI to)), (6, .int (nI j))]) hx hb dX9_join_203 hl (by decide) rfl (fun ls hl => ?_)
                                    refine lv_iload hx hb dX9_join_205 (lv_at hl 10 rfl) ?_
                                    refine lv_iload hx hb dX9_join_207 (lv_at hl 4 rfl) ?_
                                    refine zi_lt hx hb ho1 dX9_join_209 (tgt := 216) (by decide) (fun c_42 => ?_) (fun c_42 => ?_)
                                    · exact absurd c_42 (by omega)
                                    · refine lv_iconst (v := nI 1) hx hb dX9_join_212 rfl ?_
                                      refine lv_goto (tgt := 217) hx hb dX9_join_213 (by decide) ?_
                                      refine nn_add hx hb dX9_join_217 ?_
                                      refine lv_istore (lv' := [(6, .int (nI (j + 1))), (5, .int (nI (i + 1))), (7, .int (nI n)), (10, .int (bI false)), (9, .int (bI false)), (8, .int o1), (0, .ref x), (1, .int (nI t)), (2, .int (nI u)), (3, .int (nI dn)), (4, .int (nI to))]) hx hb dX9_join_218 hl (by decide) rfl (fun ls hl => ?_)
                                      refine lv_goto (tgt := 20) hx hb dX9_join_220 (by decide) ?_
                                      have hJ := jn_E (S := Ts t) (T := Ts u) (i := i) (j := j) (d := dn - n) (by omega) (by omega) hz (of_decide_eq_true (by assumption))
                                      rw [hJ] at hcnt hlst
                                      dsimp only at hcnt hlst
                                      have hk1 := csum_tk (L := Ts t) (i := i) (by omega)
                                      have hk2 := csum_tk (L := Ts u) (i := j) (by omega)
                                      have hk3 := csum_a1 Lc ((Ts t).getD i e0)
                                      have hk4 : (Lc ++ [((Ts t).getD i e0)]).length = Lc.length + 1 := by simp
                                      exact ih_20 (i + 1) (j + 1) n (Lc ++ [((Ts t).getD i e0)]) g_many_39 g_bytes_39 g_kinds_39 g_modes_39 g_times_39 g_paths_39 g_contentAt_39 g_contents_39 g_path_39 g_content_39 _ _ _ (by omega) (by omega) (by omega) (by omega) (by omega) (by rw [hlst]; simp) (by omega) (by omega) hRT hR (lv_sub hl [6, 7, 8, 9, 10, 1, 0, 2] rfl)
                                · cases c_40
                        · cases c_34
                    · cases c_32
                  · refine lv_iconst (v := bI true) hx hb dX9_join_102 rfl ?_
                    refine lv_goto (tgt := 107) hx hb dX9_join_103 (by decide) ?_
                    refine lv_istore (lv' := [(9, .int (bI true)), (8, .int o1), (0, .ref x), (1, .int (nI t)), (2, .int (nI u)), (3, .int (nI dn)), (4, .int (nI to)), (5, .int (nI i)), (6, .int (nI j)), (7, .int (nI n))]) hx hb dX9_join_107 hl (by decide) rfl (fun ls hl => ?_)
                    refine lv_iload hx hb dX9_join_109 (lv_at hl 0 rfl) ?_
                    refine nb_ifeq hx hb dX9_join_111 (tgt := 124) (by decide) (fun c_43 => ?_) (fun c_43 => ?_)
                    · cases c_43
                    · refine lv_iload hx hb dX9_join_114 (lv_at hl 9 rfl) ?_
                      refine lv_iload_n hx hb dX9_join_116 rfl (lv_at hl 5 rfl) ?_
                      refine nn_ge hx hb dX9_join_117 (tgt := 124) (by decide) (by omega) (by omega) (fun c_44 => ?_) (fun c_44 => ?_)
                      · refine lv_iconst (v := bI false) hx hb dX9_join_124 rfl ?_
                        refine lv_istore (lv' := [(10, .int (bI false)), (9, .int (bI true)), (8, .int o1), (0, .ref x), (1, .int (nI t)), (2, .int (nI u)), (3, .int (nI dn)), (4, .int (nI to)), (5, .int (nI i)), (6, .int (nI j)), (7, .int (nI n))]) hx hb dX9_join_125 hl (by decide) rfl (fun ls hl => ?_)
                        refine lv_iload hx hb dX9_join_127 (lv_at hl 7 rfl) ?_
                        refine nz_lt hx hb dX9_join_129 (tgt := 151) (by decide) (by omega) (fun c_45 => ?_) (fun c_45 => ?_)
                        · exact absurd c_45 (Nat.not_lt_zero _)
                        · refine lv_iload hx hb dX9_join_132 (lv_at hl 0 rfl) ?_
                          refine nb_ifeq hx hb dX9_join_134 (tgt := 151) (by decide) (fun c_46 => ?_) (fun c_46 => ?_)
                          · refine lv_iload hx hb dX9_join_151 (lv_at hl 7 rfl) ?_
                            refine nz_lt hx hb dX9_join_153 (tgt := 175) (by decide) (by omega) (fun c_47 => ?_) (fun c_47 => ?_)
                            · exact absurd c_47 (Nat.not_lt_zero _)
                            · refine lv_iload hx hb dX9_join_156 (lv_at hl 0 rfl) ?_
                              refine nb_ifne hx hb dX9_join_158 (tgt := 175) (by decide) (fun c_48 => ?_) (fun c_48 => ?_)
                              · cases c_48
                              · refine lv_iload hx hb dX9_join_161 (lv_at hl 2 rfl) ?_
                                refine zi_gt hx hb ho1 dX9_join_163 (tgt := 175) (by decide) (fun c_49 => ?_) (fun c_49 => ?_)
                                · exact absurd c_49 (by omega)
                                · refine lv_aload_n hx hb dX9_join_166 rfl (lv_at hl 3 rfl) ?_
                                  refine lv_iload_n hx hb dX9_join_167 rfl (lv_at hl 4 rfl) ?_
                                  refine lv_iload hx hb dX9_join_168 (lv_at hl 8 rfl) ?_
                                  refine lv_iload hx hb dX9_join_170 (lv_at hl 7 rfl) ?_
                                  have hct := csum_take (L := Ts t) (i := i) (by omega)
                                  refine rf_callV (C := RX9) (As := [.int (nI t), .int (nI i), .int (nI to)]) (rest := []) (m_append l hT (va_up Ts to Lc) t i to ((Ts t).getD i e0) Lc hRT ht hto hnt (by rw [va_up_ne _ _ hnt]; omega) (by rw [va_up_ne _ _ hnt]) (va_up_self _ _ _) (by omega) (by omega)) ⟨hx, hb, hml, hown, hts⟩ (cwV 3 hts gX9_join_X9_append rfl rfl rfl (by decide +kernel) ⟨Nat.le_of_ble_eq_true rfl, Nat.le_of_ble_eq_true rfl⟩) hK hR (r_recv hK hR.1) rfl hl.1 rfl (Nat.le_of_ble_eq_true rfl) dX9_join_172 ⟨Nat.le_of_ble_eq_true rfl, Nat.le_of_ble_eq_true rfl⟩ (fun r_50 w_r_50 H locs hr_50 hR => ?_)
                                  obtain ⟨rfl, g_many_51, g_bytes_51, g_kinds_51, g_modes_51, g_times_51, g_paths_51, g_contentAt_51, g_contents_51, g_path_51, g_content_51, rfl, hRT⟩ := hr_50
                                  rw [bx_uu] at hRT
                                  refine lv_iload hx hb dX9_join_175 (lv_at hl 10 rfl) ?_
                                  refine lv_iload hx hb dX9_join_177 (lv_at hl 1 rfl) ?_
                                  refine nb_ifeq hx hb dX9_join_179 (tgt := 186) (by decide) (fun c_52 => ?_) (fun c_52 => ?_)
                                  · cases c_52
                                  · refine lv_iconst (v := nI 1) hx hb dX9_join_182 rfl ?_
                                    refine lv_goto (tgt := 187) hx hb dX9_join_183 (by decide) ?_
                                    refine nn_add hx hb dX9_join_187 ?_
                                    refine lv_istore (lv' := [(7, .int (nI (n + 1))), (10, .int (bI false)), (9, .int (bI true)), (8, .int o1), (0, .ref x), (1, .int (nI t)), (2, .int (nI u)), (3, .int (nI dn)), (4, .int (nI to)), (5, .int (nI i)), (6, .int (nI j))]) hx hb dX9_join_188 hl (by decide) rfl (fun ls hl => ?_)
                                    refine lv_iload hx hb dX9_join_190 (lv_at hl 9 rfl) ?_
                                    refine lv_iload hx hb dX9_join_192 (lv_at hl 3 rfl) ?_
                                    refine zi_gt hx hb ho1 dX9_join_194 (tgt := 201) (by decide) (fun c_53 => ?_) (fun c_53 => ?_)
                                    · exact absurd c_53 (by omega)
                                    · refine lv_iconst (v := nI 1) hx hb dX9_join_197 rfl ?_
                                      refine lv_goto (tgt := 202) hx hb dX9_join_198 (by decide) ?_
                                      refine nn_add hx hb dX9_join_202 ?_
                                      refine lv_istore (lv' := [(5, .int (nI (i + 1))), (7, .int (nI (n + 1))), (10, .int (bI false)), (9, .int (bI true)), (8, .int o1), (0, .ref x), (1, .int (nI t)), (2, .int (nI u)), (3, .int (nI dn)), (4, .int (nI to)), (6, .int (nI j))]) hx hb dX9_join_203 hl (by decide) rfl (fun ls hl => ?_)
                                      refine lv_iload hx hb dX9_join_205 (lv_at hl 10 rfl) ?_
                                      refine lv_iload hx hb dX9_join_207 (lv_at hl 4 rfl) ?_
                                      refine zi_lt hx hb ho1 dX9_join_209 (tgt := 216) (by decide) (fun c_54 => ?_) (fun c_54 => ?_)
                                      · exact absurd c_54 (by omega)
                                      · refine lv_iconst (v := nI 1) hx hb dX9_join_212 rfl ?_
                                        refine lv_goto (tgt := 217) hx hb dX9_join_213 (by decide) ?_
                                        refine nn_add hx hb dX9_join_217 ?_
                                        refine lv_istore (lv' := [(6, .int (nI (j + 1))), (5, .int (nI (i + 1))), (7, .int (nI (n + 1))), (10, .int (bI false)), (9, .int (bI true)), (8, .int o1), (0, .ref x), (1, .int (nI t)), (2, .int (nI u)), (3, .int (nI dn)), (4, .int (nI to))]) hx hb dX9_join_218 hl (by decide) rfl (fun ls hl => ?_)
                                        refine lv_goto (tgt := 20) hx hb dX9_join_220 (by decide) ?_
                                        have hJ := jn_C (S := Ts t) (T := Ts u) (i := i) (j := j) (d := dn - n) (by omega) (by omega) hz (of_decide_eq_false (by assumption))
                                        rw [if_neg (by omega), Nat.sub_sub] at hJ
                                        rw [hJ] at hcnt hlst
                                        dsimp only at hcnt hlst
                                        have hk1 := csum_tk (L := Ts t) (i := i) (by omega)
                                        have hk2 := csum_tk (L := Ts u) (i := j) (by omega)
                                        have hk3 := csum_a1 Lc ((Ts t).getD i e0)
                                        have hk4 : (Lc ++ [((Ts t).getD i e0)]).length = Lc.length + 1 := by simp
                                        exact ih_20 (i + 1) (j + 1) (n + 1) (Lc ++ [((Ts t).getD i e0)]) g_many_51 g_bytes_51 g_kinds_51 g_modes_51 g_times_51 g_paths_51 g_contentAt_51 g_contents_51 g_path_51 g_content_51 _ _ _ (by omega) (by omega) (by omega) (by omega) (by omega) (by rw [hlst]; simp) (by omega) (by omega) hRT hR (lv_sub hl [6, 7, 8, 9, 10, 1, 0, 2] rfl)
                          · cases c_46
                      · refine lv_iconst (v := bI true) hx hb dX9_join_120 rfl ?_
                        refine lv_goto (tgt := 125) hx hb dX9_join_121 (by decide) ?_
                        refine lv_istore (lv' := [(10, .int (bI true)), (9, .int (bI true)), (8, .int o1), (0, .ref x), (1, .int (nI t)), (2, .int (nI u)), (3, .int (nI dn)), (4, .int (nI to)), (5, .int (nI i)), (6, .int (nI j)), (7, .int (nI n))]) hx hb dX9_join_125 hl (by decide) rfl (fun ls hl => ?_)
                        refine lv_iload hx hb dX9_join_127 (lv_at hl 7 rfl) ?_
                        refine nz_lt hx hb dX9_join_129 (tgt := 151) (by decide) (by omega) (fun c_55 => ?_) (fun c_55 => ?_)
                        · exact absurd c_55 (Nat.not_lt_zero _)
                        · refine lv_iload hx hb dX9_join_132 (lv_at hl 0 rfl) ?_
                          refine nb_ifeq hx hb dX9_join_134 (tgt := 151) (by decide) (fun c_56 => ?_) (fun c_56 => ?_)
                          · cases c_56
                          · refine lv_iload hx hb dX9_join_137 (lv_at hl 2 rfl) ?_
                            refine zi_lt hx hb ho1 dX9_join_139 (tgt := 151) (by decide) (fun c_57 => ?_) (fun c_57 => ?_)
                            · exact absurd c_57 (by omega)
                            · refine lv_aload_n hx hb dX9_join_142 rfl (lv_at hl 3 rfl) ?_
                              refine lv_iload_n hx hb dX9_join_143 rfl (lv_at hl 5 rfl) ?_
                              refine lv_iload hx hb dX9_join_144 (lv_at hl 9 rfl) ?_
                              refine lv_iload hx hb dX9_join_146 (lv_at hl 7 rfl) ?_
                              have hct := csum_take (L := Ts u) (i := j) (by omega)
                              refine rf_callV (C := RX9) (As := [.int (nI u), .int (nI j), .int (nI to)]) (rest := []) (m_append l hT (va_up Ts to Lc) u j to ((Ts u).getD j e0) Lc hRT hu hto hnu (by rw [va_up_ne _ _ hnu]; omega) (by rw [va_up_ne _ _ hnu]) (va_up_self _ _ _) (by omega) (by omega)) ⟨hx, hb, hml, hown, hts⟩ (cwV 3 hts gX9_join_X9_append rfl rfl rfl (by decide +kernel) ⟨Nat.le_of_ble_eq_true rfl, Nat.le_of_ble_eq_true rfl⟩) hK hR (r_recv hK hR.1) rfl hl.1 rfl (Nat.le_of_ble_eq_true rfl) dX9_join_148 ⟨Nat.le_of_ble_eq_true rfl, Nat.le_of_ble_eq_true rfl⟩ (fun r_58 w_r_58 H locs hr_58 hR => ?_)
                              obtain ⟨rfl, g_many_59, g_bytes_59, g_kinds_59, g_modes_59, g_times_59, g_paths_59, g_contentAt_59, g_contents_59, g_path_59, g_content_59, rfl, hRT⟩ := hr_58
                              rw [bx_uu] at hRT
                              refine lv_iload hx hb dX9_join_151 (lv_at hl 7 rfl) ?_
                              refine nz_lt hx hb dX9_join_153 (tgt := 175) (by decide) (by omega) (fun c_60 => ?_) (fun c_60 => ?_)
                              · exact absurd c_60 (Nat.not_lt_zero _)
                              · refine lv_iload hx hb dX9_join_156 (lv_at hl 0 rfl) ?_
                                refine nb_ifne hx hb dX9_join_158 (tgt := 175) (by decide) (fun c_61 => ?_) (fun c_61 => ?_)
                                · refine lv_iload hx hb dX9_join_175 (lv_at hl 10 rfl) ?_
                                  refine lv_iload hx hb dX9_join_177 (lv_at hl 1 rfl) ?_
                                  refine nb_ifeq hx hb dX9_join_179 (tgt := 186) (by decide) (fun c_62 => ?_) (fun c_62 => ?_)
                                  · cases c_62
                                  · refine lv_iconst (v := nI 1) hx hb dX9_join_182 rfl ?_
                                    refine lv_goto (tgt := 187) hx hb dX9_join_183 (by decide) ?_
                                    refine nn_add hx hb dX9_join_187 ?_
                                    refine lv_istore (lv' := [(7, .int (nI (n + 1))), (10, .int (bI true)), (9, .int (bI true)), (8, .int o1), (0, .ref x), (1, .int (nI t)), (2, .int (nI u)), (3, .int (nI dn)), (4, .int (nI to)), (5, .int (nI i)), (6, .int (nI j))]) hx hb dX9_join_188 hl (by decide) rfl (fun ls hl => ?_)
                                    refine lv_iload hx hb dX9_join_190 (lv_at hl 9 rfl) ?_
                                    refine lv_iload hx hb dX9_join_192 (lv_at hl 3 rfl) ?_
                                    refine zi_gt hx hb ho1 dX9_join_194 (tgt := 201) (by decide) (fun c_63 => ?_) (fun c_63 => ?_)
                                    · exact absurd c_63 (by omega)
                                    · refine lv_iconst (v := nI 1) hx hb dX9_join_197 rfl ?_
                                      refine lv_goto (tgt := 202) hx hb dX9_join_198 (by decide) ?_
                                      refine nn_add hx hb dX9_join_202 ?_
                                      refine lv_istore (lv' := [(5, .int (nI (i + 1))), (7, .int (nI (n + 1))), (10, .int (bI true)), (9, .int (bI true)), (8, .int o1), (0, .ref x), (1, .int (nI t)), (2, .int (nI u)), (3, .int (nI dn)), (4, .int (nI to)), (6, .int (nI j))]) hx hb dX9_join_203 hl (by decide) rfl (fun ls hl => ?_)
                                      refine lv_iload hx hb dX9_join_205 (lv_at hl 10 rfl) ?_
                                      refine lv_iload hx hb dX9_join_207 (lv_at hl 4 rfl) ?_
                                      refine zi_lt hx hb ho1 dX9_join_209 (tgt := 216) (by decide) (fun c_64 => ?_) (fun c_64 => ?_)
                                      · exact absurd c_64 (by omega)
                                      · refine lv_iconst (v := nI 1) hx hb dX9_join_212 rfl ?_
                                        refine lv_goto (tgt := 217) hx hb dX9_join_213 (by decide) ?_
                                        refine nn_add hx hb dX9_join_217 ?_
                                        refine lv_istore (lv' := [(6, .int (nI (j + 1))), (5, .int (nI (i + 1))), (7, .int (nI (n + 1))), (10, .int (bI true)), (9, .int (bI true)), (8, .int o1), (0, .ref x), (1, .int (nI t)), (2, .int (nI u)), (3, .int (nI dn)), (4, .int (nI to))]) hx hb dX9_join_218 hl (by decide) rfl (fun ls hl => ?_)
                                        refine lv_goto (tgt := 20) hx hb dX9_join_220 (by decide) ?_
                                        have hJ := jn_C (S := Ts t) (T := Ts u) (i := i) (j := j) (d := dn - n) (by omega) (by omega) hz (of_decide_eq_false (by assumption))
                                        rw [if_pos (by omega), Nat.sub_sub] at hJ
                                        rw [hJ] at hcnt hlst
                                        dsimp only at hcnt hlst
                                        have hk1 := csum_tk (L := Ts t) (i := i) (by omega)
                                        have hk2 := csum_tk (L := Ts u) (i := j) (by omega)
                                        have hk3 := csum_a1 Lc ((Ts u).getD j e0)
                                        have hk4 : (Lc ++ [((Ts u).getD j e0)]).length = Lc.length + 1 := by simp
                                        exact ih_20 (i + 1) (j + 1) (n + 1) (Lc ++ [((Ts u).getD j e0)]) g_many_59 g_bytes_59 g_kinds_59 g_modes_59 g_times_59 g_paths_59 g_contentAt_59 g_contents_59 g_path_59 g_content_59 _ _ _ (by omega) (by omega) (by omega) (by omega) (by omega) (by rw [hlst]; simp) (by omega) (by omega) hRT hR (lv_sub hl [6, 7, 8, 9, 10, 1, 0, 2] rfl)
                                · cases c_61
              · refine lv_iload hx hb dX9_join_84 (lv_at hl 0 rfl) ?_
                refine zi_ne hx hb ho1 dX9_join_86 (tgt := 102) (by decide) (fun c_65 => ?_) (fun c_65 => ?_)
                · refine lv_iconst (v := bI true) hx hb dX9_join_102 rfl ?_
                  refine lv_goto (tgt := 107) hx hb dX9_join_103 (by decide) ?_
                  refine lv_istore (lv' := [(9, .int (bI true)), (8, .int o1), (0, .ref x), (1, .int (nI t)), (2, .int (nI u)), (3, .int (nI dn)), (4, .int (nI to)), (5, .int (nI i)), (6, .int (nI j)), (7, .int (nI n))]) hx hb dX9_join_107 hl (by decide) rfl (fun ls hl => ?_)
                  refine lv_iload hx hb dX9_join_109 (lv_at hl 0 rfl) ?_
                  refine nb_ifeq hx hb dX9_join_111 (tgt := 124) (by decide) (fun c_66 => ?_) (fun c_66 => ?_)
                  · cases c_66
                  · refine lv_iload hx hb dX9_join_114 (lv_at hl 9 rfl) ?_
                    refine lv_iload_n hx hb dX9_join_116 rfl (lv_at hl 5 rfl) ?_
                    refine nn_ge hx hb dX9_join_117 (tgt := 124) (by decide) (by omega) (by omega) (fun c_67 => ?_) (fun c_67 => ?_)
                    · refine lv_iconst (v := bI false) hx hb dX9_join_124 rfl ?_
                      refine lv_istore (lv' := [(10, .int (bI false)), (9, .int (bI true)), (8, .int o1), (0, .ref x), (1, .int (nI t)), (2, .int (nI u)), (3, .int (nI dn)), (4, .int (nI to)), (5, .int (nI i)), (6, .int (nI j)), (7, .int (nI n))]) hx hb dX9_join_125 hl (by decide) rfl (fun ls hl => ?_)
                      refine lv_iload hx hb dX9_join_127 (lv_at hl 7 rfl) ?_
                      refine nz_lt hx hb dX9_join_129 (tgt := 151) (by decide) (by omega) (fun c_68 => ?_) (fun c_68 => ?_)
                      · exact absurd c_68 (Nat.not_lt_zero _)
                      · refine lv_iload hx hb dX9_join_132 (lv_at hl 0 rfl) ?_
                        refine nb_ifeq hx hb dX9_join_134 (tgt := 151) (by decide) (fun c_69 => ?_) (fun c_69 => ?_)
                        · refine lv_iload hx hb dX9_join_151 (lv_at hl 7 rfl) ?_
                          refine nz_lt hx hb dX9_join_153 (tgt := 175) (by decide) (by omega) (fun c_70 => ?_) (fun c_70 => ?_)
                          · exact absurd c_70 (Nat.not_lt_zero _)
                          · refine lv_iload hx hb dX9_join_156 (lv_at hl 0 rfl) ?_
                            refine nb_ifne hx hb dX9_join_158 (tgt := 175) (by decide) (fun c_71 => ?_) (fun c_71 => ?_)
                            · cases c_71
                            · refine lv_iload hx hb dX9_join_161 (lv_at hl 2 rfl) ?_
                              refine zi_gt hx hb ho1 dX9_join_163 (tgt := 175) (by decide) (fun c_72 => ?_) (fun c_72 => ?_)
                              · refine lv_iload hx hb dX9_join_175 (lv_at hl 10 rfl) ?_
                                refine lv_iload hx hb dX9_join_177 (lv_at hl 1 rfl) ?_
                                refine nb_ifeq hx hb dX9_join_179 (tgt := 186) (by decide) (fun c_73 => ?_) (fun c_73 => ?_)
                                · cases c_73
                                · refine lv_iconst (v := nI 1) hx hb dX9_join_182 rfl ?_
                                  refine lv_goto (tgt := 187) hx hb dX9_join_183 (by decide) ?_
                                  refine nn_add hx hb dX9_join_187 ?_
                                  refine lv_istore (lv' := [(7, .int (nI (n + 1))), (10, .int (bI false)), (9, .int (bI true)), (8, .int o1), (0, .ref x), (1, .int (nI t)), (2, .int (nI u)), (3, .int (nI dn)), (4, .int (nI to)), (5, .int (nI i)), (6, .int (nI j))]) hx hb dX9_join_188 hl (by decide) rfl (fun ls hl => ?_)
                                  refine lv_iload hx hb dX9_join_190 (lv_at hl 9 rfl) ?_
                                  refine lv_iload hx hb dX9_join_192 (lv_at hl 3 rfl) ?_
                                  refine zi_gt hx hb ho1 dX9_join_194 (tgt := 201) (by decide) (fun c_74 => ?_) (fun c_74 => ?_)
                                  · refine lv_iconst (v := nI 0) hx hb dX9_join_201 rfl ?_
                                    refine nn_add0 hx hb dX9_join_202 ?_
                                    refine lv_istore (lv' := [(5, .int (nI i)), (7, .int (nI (n + 1))), (10, .int (bI false)), (9, .int (bI true)), (8, .int o1), (0, .ref x), (1, .int (nI t)), (2, .int (nI u)), (3, .int (nI dn)), (4, .int (nI to)), (6, .int (nI j))]) hx hb dX9_join_203 hl (by decide) rfl (fun ls hl => ?_)
                                    refine lv_iload hx hb dX9_join_205 (lv_at hl 10 rfl) ?_
                                    refine lv_iload hx hb dX9_join_207 (lv_at hl 4 rfl) ?_
                                    refine zi_lt hx hb ho1 dX9_join_209 (tgt := 216) (by decide) (fun c_75 => ?_) (fun c_75 => ?_)
                                    · exact absurd c_75 (by omega)
                                    · refine lv_iconst (v := nI 1) hx hb dX9_join_212 rfl ?_
                                      refine lv_goto (tgt := 217) hx hb dX9_join_213 (by decide) ?_
                                      refine nn_add hx hb dX9_join_217 ?_
                                      refine lv_istore (lv' := [(6, .int (nI (j + 1))), (5, .int (nI i)), (7, .int (nI (n + 1))), (10, .int (bI false)), (9, .int (bI true)), (8, .int o1), (0, .ref x), (1, .int (nI t)), (2, .int (nI u)), (3, .int (nI dn)), (4, .int (nI to))]) hx hb dX9_join_218 hl (by decide) rfl (fun ls hl => ?_)
                                      refine lv_goto (tgt := 20) hx hb dX9_join_220 (by decide) ?_
                                      have hJ := jn_T (S := Ts t) (T := Ts u) (i := i) (j := j) (d := dn - n) (by omega) (by first | exact Or.inl (by omega) | exact Or.inr ⟨by omega, by omega⟩)
                                      rw [if_neg (by omega), Nat.sub_sub] at hJ
                                      rw [hJ] at hcnt hlst
                                      dsimp only at hcnt hlst
                                      have hk2 := csum_tk (L := Ts u) (i := j) (by omega)
                                      exact ih_20 i (j + 1) (n + 1) Lc a_many a_bytes a_kinds a_modes a_times a_paths a_contentAt a_contents a_path a_content _ _ _ (by omega) (by omega) (by omega) (by omega) (by omega) (by rw [hlst]; simp) (by omega) (by omega) hRT hR (lv_sub hl [6, 7, 8, 9, 10, 1, 0, 2] rfl)
                                  · exact absurd c_74 (by omega)
                              · exact absurd c_72 (by omega)
                        · cases c_69
                    · refine lv_iconst (v := bI true) hx hb dX9_join_120 rfl ?_
                      refine lv_goto (tgt := 125) hx hb dX9_join_121 (by decide) ?_
                      refine lv_istore (lv' := [(10, .int (bI true)), (9, .int (bI true)), (8, .int o1), (0, .ref x), (1, .int (nI t)), (2, .int (nI u)), (3, .int (nI dn)), (4, .int (nI to)), (5, .int (nI i)), (6, .int (nI j)), (7, .int (nI n))]) hx hb dX9_join_125 hl (by decide) rfl (fun ls hl => ?_)
                      refine lv_iload hx hb dX9_join_127 (lv_at hl 7 rfl) ?_
                      refine nz_lt hx hb dX9_join_129 (tgt := 151) (by decide) (by omega) (fun c_76 => ?_) (fun c_76 => ?_)
                      · exact absurd c_76 (Nat.not_lt_zero _)
                      · refine lv_iload hx hb dX9_join_132 (lv_at hl 0 rfl) ?_
                        refine nb_ifeq hx hb dX9_join_134 (tgt := 151) (by decide) (fun c_77 => ?_) (fun c_77 => ?_)
                        · cases c_77
                        · refine lv_iload hx hb dX9_join_137 (lv_at hl 2 rfl) ?_
                          refine zi_lt hx hb ho1 dX9_join_139 (tgt := 151) (by decide) (fun c_78 => ?_) (fun c_78 => ?_)
                          · exact absurd c_78 (by omega)
                          · refine lv_aload_n hx hb dX9_join_142 rfl (lv_at hl 3 rfl) ?_
                            refine lv_iload_n hx hb dX9_join_143 rfl (lv_at hl 5 rfl) ?_
                            refine lv_iload hx hb dX9_join_144 (lv_at hl 9 rfl) ?_
                            refine lv_iload hx hb dX9_join_146 (lv_at hl 7 rfl) ?_
                            have hct := csum_take (L := Ts u) (i := j) (by omega)
                            refine rf_callV (C := RX9) (As := [.int (nI u), .int (nI j), .int (nI to)]) (rest := []) (m_append l hT (va_up Ts to Lc) u j to ((Ts u).getD j e0) Lc hRT hu hto hnu (by rw [va_up_ne _ _ hnu]; omega) (by rw [va_up_ne _ _ hnu]) (va_up_self _ _ _) (by omega) (by omega)) ⟨hx, hb, hml, hown, hts⟩ (cwV 3 hts gX9_join_X9_append rfl rfl rfl (by decide +kernel) ⟨Nat.le_of_ble_eq_true rfl, Nat.le_of_ble_eq_true rfl⟩) hK hR (r_recv hK hR.1) rfl hl.1 rfl (Nat.le_of_ble_eq_true rfl) dX9_join_148 ⟨Nat.le_of_ble_eq_true rfl, Nat.le_of_ble_eq_true rfl⟩ (fun r_79 w_r_79 H locs hr_79 hR => ?_)
                            obtain ⟨rfl, g_many_80, g_bytes_80, g_kinds_80, g_modes_80, g_times_80, g_paths_80, g_contentAt_80, g_contents_80, g_path_80, g_content_80, rfl, hRT⟩ := hr_79
                            rw [bx_uu] at hRT
                            refine lv_iload hx hb dX9_join_151 (lv_at hl 7 rfl) ?_
                            refine nz_lt hx hb dX9_join_153 (tgt := 175) (by decide) (by omega) (fun c_81 => ?_) (fun c_81 => ?_)
                            · exact absurd c_81 (Nat.not_lt_zero _)
                            · refine lv_iload hx hb dX9_join_156 (lv_at hl 0 rfl) ?_
                              refine nb_ifne hx hb dX9_join_158 (tgt := 175) (by decide) (fun c_82 => ?_) (fun c_82 => ?_)
                              · refine lv_iload hx hb dX9_join_175 (lv_at hl 10 rfl) ?_
                                refine lv_iload hx hb dX9_join_177 (lv_at hl 1 rfl) ?_
                                refine nb_ifeq hx hb dX9_join_179 (tgt := 186) (by decide) (fun c_83 => ?_) (fun c_83 => ?_)
                                · cases c_83
                                · refine lv_iconst (v := nI 1) hx hb dX9_join_182 rfl ?_
                                  refine lv_goto (tgt := 187) hx hb dX9_join_183 (by decide) ?_
                                  refine nn_add hx hb dX9_join_187 ?_
                                  refine lv_istore (lv' := [(7, .int (nI (n + 1))), (10, .int (bI true)), (9, .int (bI true)), (8, .int o1), (0, .ref x), (1, .int (nI t)), (2, .int (nI u)), (3, .int (nI dn)), (4, .int (nI to)), (5, .int (nI i)), (6, .int (nI j))]) hx hb dX9_join_188 hl (by decide) rfl (fun ls hl => ?_)
                                  refine lv_iload hx hb dX9_join_190 (lv_at hl 9 rfl) ?_
                                  refine lv_iload hx hb dX9_join_192 (lv_at hl 3 rfl) ?_
                                  refine zi_gt hx hb ho1 dX9_join_194 (tgt := 201) (by decide) (fun c_84 => ?_) (fun c_84 => ?_)
                                  · refine lv_iconst (v := nI 0) hx hb dX9_join_201 rfl ?_
                                    refine nn_add0 hx hb dX9_join_202 ?_
                                    refine lv_istore (lv' := [(5, .int (nI i)), (7, .int (nI (n + 1))), (10, .int (bI true)), (9, .int (bI true)), (8, .int o1), (0, .ref x), (1, .int (nI t)), (2, .int (nI u)), (3, .int (nI dn)), (4, .int (nI to)), (6, .int (nI j))]) hx hb dX9_join_203 hl (by decide) rfl (fun ls hl => ?_)
                                    refine lv_iload hx hb dX9_join_205 (lv_at hl 10 rfl) ?_
                                    refine lv_iload hx hb dX9_join_207 (lv_at hl 4 rfl) ?_
                                    refine zi_lt hx hb ho1 dX9_join_209 (tgt := 216) (by decide) (fun c_85 => ?_) (fun c_85 => ?_)
                                    · exact absurd c_85 (by omega)
                                    · refine lv_iconst (v := nI 1) hx hb dX9_join_212 rfl ?_
                                      refine lv_goto (tgt := 217) hx hb dX9_join_213 (by decide) ?_
                                      refine nn_add hx hb dX9_join_217 ?_
                                      refine lv_istore (lv' := [(6, .int (nI (j + 1))), (5, .int (nI i)), (7, .int (nI (n + 1))), (10, .int (bI true)), (9, .int (bI true)), (8, .int o1), (0, .ref x), (1, .int (nI t)), (2, .int (nI u)), (3, .int (nI dn)), (4, .int (nI to))]) hx hb dX9_join_218 hl (by decide) rfl (fun ls hl => ?_)
                                      refine lv_goto (tgt := 20) hx hb dX9_join_220 (by decide) ?_
                                      have hJ := jn_T (S := Ts t) (T := Ts u) (i := i) (j := j) (d := dn - n) (by omega) (by first | exact Or.inl (by omega) | exact Or.inr ⟨by omega, by omega⟩)
                                      rw [if_pos (by omega), Nat.sub_sub] at hJ
                                      rw [hJ] at hcnt hlst
                                      dsimp only at hcnt hlst
                                      have hk2 := csum_tk (L := Ts u) (i := j) (by omega)
                                      have hk3 := csum_a1 Lc ((Ts u).getD j e0)
                                      have hk4 : (Lc ++ [((Ts u).getD j e0)]).length = Lc.length + 1 := by simp
                                      exact ih_20 i (j + 1) (n + 1) (Lc ++ [((Ts u).getD j e0)]) g_many_80 g_bytes_80 g_kinds_80 g_modes_80 g_times_80 g_paths_80 g_contentAt_80 g_contents_80 g_path_80 g_content_80 _ _ _ (by omega) (by omega) (by omega) (by omega) (by omega) (by rw [hlst]; simp) (by omega) (by omega) hRT hR (lv_sub hl [6, 7, 8, 9, 10, 1, 0, 2] rfl)
                                  · exact absurd c_84 (by omega)
                              · cases c_82
                · exact absurd c_65 (by omega)
            · refine lv_iconst (v := (-1)) hx hb dX9_join_68 rfl ?_
              refine lv_goto (tgt := 82) hx hb dX9_join_69 (by decide) ?_
              refine lv_istore (lv' := [(8, .int (-1)), (0, .ref x), (1, .int (nI t)), (2, .int (nI u)), (3, .int (nI dn)), (4, .int (nI to)), (5, .int (nI i)), (6, .int (nI j)), (7, .int (nI n))]) hx hb dX9_join_82 hl (by decide) rfl (fun ls hl => ?_)
              refine lv_iload hx hb dX9_join_84 (lv_at hl 0 rfl) ?_
              refine zi_ne hx hb (show (-1 : Int32).toInt = -1 from rfl) dX9_join_86 (tgt := 102) (by decide) (fun c_86 => ?_) (fun c_86 => ?_)
              · refine lv_iconst (v := bI true) hx hb dX9_join_102 rfl ?_
                refine lv_goto (tgt := 107) hx hb dX9_join_103 (by decide) ?_
                refine lv_istore (lv' := [(9, .int (bI true)), (8, .int (-1)), (0, .ref x), (1, .int (nI t)), (2, .int (nI u)), (3, .int (nI dn)), (4, .int (nI to)), (5, .int (nI i)), (6, .int (nI j)), (7, .int (nI n))]) hx hb dX9_join_107 hl (by decide) rfl (fun ls hl => ?_)
                refine lv_iload hx hb dX9_join_109 (lv_at hl 0 rfl) ?_
                refine nb_ifeq hx hb dX9_join_111 (tgt := 124) (by decide) (fun c_87 => ?_) (fun c_87 => ?_)
                · cases c_87
                · refine lv_iload hx hb dX9_join_114 (lv_at hl 9 rfl) ?_
                  refine lv_iload_n hx hb dX9_join_116 rfl (lv_at hl 5 rfl) ?_
                  refine nn_ge hx hb dX9_join_117 (tgt := 124) (by decide) (by omega) (by omega) (fun c_88 => ?_) (fun c_88 => ?_)
                  · refine lv_iconst (v := bI false) hx hb dX9_join_124 rfl ?_
                    refine lv_istore (lv' := [(10, .int (bI false)), (9, .int (bI true)), (8, .int (-1)), (0, .ref x), (1, .int (nI t)), (2, .int (nI u)), (3, .int (nI dn)), (4, .int (nI to)), (5, .int (nI i)), (6, .int (nI j)), (7, .int (nI n))]) hx hb dX9_join_125 hl (by decide) rfl (fun ls hl => ?_)
                    refine lv_iload hx hb dX9_join_127 (lv_at hl 7 rfl) ?_
                    refine nz_lt hx hb dX9_join_129 (tgt := 151) (by decide) (by omega) (fun c_89 => ?_) (fun c_89 => ?_)
                    · exact absurd c_89 (Nat.not_lt_zero _)
                    · refine lv_iload hx hb dX9_join_132 (lv_at hl 0 rfl) ?_
                      refine nb_ifeq hx hb dX9_join_134 (tgt := 151) (by decide) (fun c_90 => ?_) (fun c_90 => ?_)
                      · refine lv_iload hx hb dX9_join_151 (lv_at hl 7 rfl) ?_
                        refine nz_lt hx hb dX9_join_153 (tgt := 175) (by decide) (by omega) (fun c_91 => ?_) (fun c_91 => ?_)
                        · exact absurd c_91 (Nat.not_lt_zero _)
                        · refine lv_iload hx hb dX9_join_156 (lv_at hl 0 rfl) ?_
                          refine nb_ifne hx hb dX9_join_158 (tgt := 175) (by decide) (fun c_92 => ?_) (fun c_92 => ?_)
                          · cases c_92
                          · refine lv_iload hx hb dX9_join_161 (lv_at hl 2 rfl) ?_
                            refine zi_gt hx hb (show (-1 : Int32).toInt = -1 from rfl) dX9_join_163 (tgt := 175) (by decide) (fun c_93 => ?_) (fun c_93 => ?_)
                            · exact absurd c_93 (by omega)
                            · refine lv_aload_n hx hb dX9_join_166 rfl (lv_at hl 3 rfl) ?_
                              refine lv_iload_n hx hb dX9_join_167 rfl (lv_at hl 4 rfl) ?_
                              refine lv_iload hx hb dX9_join_168 (lv_at hl 8 rfl) ?_
                              refine lv_iload hx hb dX9_join_170 (lv_at hl 7 rfl) ?_
                              have hct := csum_take (L := Ts t) (i := i) (by omega)
                              refine rf_callV (C := RX9) (As := [.int (nI t), .int (nI i), .int (nI to)]) (rest := []) (m_append l hT (va_up Ts to Lc) t i to ((Ts t).getD i e0) Lc hRT ht hto hnt (by rw [va_up_ne _ _ hnt]; omega) (by rw [va_up_ne _ _ hnt]) (va_up_self _ _ _) (by omega) (by omega)) ⟨hx, hb, hml, hown, hts⟩ (cwV 3 hts gX9_join_X9_append rfl rfl rfl (by decide +kernel) ⟨Nat.le_of_ble_eq_true rfl, Nat.le_of_ble_eq_true rfl⟩) hK hR (r_recv hK hR.1) rfl hl.1 rfl (Nat.le_of_ble_eq_true rfl) dX9_join_172 ⟨Nat.le_of_ble_eq_true rfl, Nat.le_of_ble_eq_true rfl⟩ (fun r_94 w_r_94 H locs hr_94 hR => ?_)
                              obtain ⟨rfl, g_many_95, g_bytes_95, g_kinds_95, g_modes_95, g_times_95, g_paths_95, g_contentAt_95, g_contents_95, g_path_95, g_content_95, rfl, hRT⟩ := hr_94
                              rw [bx_uu] at hRT
                              refine lv_iload hx hb dX9_join_175 (lv_at hl 10 rfl) ?_
                              refine lv_iload hx hb dX9_join_177 (lv_at hl 1 rfl) ?_
                              refine nb_ifeq hx hb dX9_join_179 (tgt := 186) (by decide) (fun c_96 => ?_) (fun c_96 => ?_)
                              · cases c_96
                              · refine lv_iconst (v := nI 1) hx hb dX9_join_182 rfl ?_
                                refine lv_goto (tgt := 187) hx hb dX9_join_183 (by decide) ?_
                                refine nn_add hx hb dX9_join_187 ?_
                                refine lv_istore (lv' := [(7, .int (nI (n + 1))), (10, .int (bI false)), (9, .int (bI true)), (8, .int (-1)), (0, .ref x), (1, .int (nI t)), (2, .int (nI u)), (3, .int (nI dn)), (4, .int (nI to)), (5, .int (nI i)), (6, .int (nI j))]) hx hb dX9_join_188 hl (by decide) rfl (fun ls hl => ?_)
                                refine lv_iload hx hb dX9_join_190 (lv_at hl 9 rfl) ?_
                                refine lv_iload hx hb dX9_join_192 (lv_at hl 3 rfl) ?_
                                refine zi_gt hx hb (show (-1 : Int32).toInt = -1 from rfl) dX9_join_194 (tgt := 201) (by decide) (fun c_97 => ?_) (fun c_97 => ?_)
                                · exact absurd c_97 (by omega)
                                · refine lv_iconst (v := nI 1) hx hb dX9_join_197 rfl ?_
                                  refine lv_goto (tgt := 202) hx hb dX9_join_198 (by decide) ?_
                                  refine nn_add hx hb dX9_join_202 ?_
                                  refine lv_istore (lv' := [(5, .int (nI (i + 1))), (7, .int (nI (n + 1))), (10, .int (bI false)), (9, .int (bI true)), (8, .int (-1)), (0, .ref x), (1, .int (nI t)), (2, .int (nI u)), (3, .int (nI dn)), (4, .int (nI to)), (6, .int (nI j))]) hx hb dX9_join_203 hl (by decide) rfl (fun ls hl => ?_)
                                  refine lv_iload hx hb dX9_join_205 (lv_at hl 10 rfl) ?_
                                  refine lv_iload hx hb dX9_join_207 (lv_at hl 4 rfl) ?_
                                  refine zi_lt hx hb (show (-1 : Int32).toInt = -1 from rfl) dX9_join_209 (tgt := 216) (by decide) (fun c_98 => ?_) (fun c_98 => ?_)
                                  · refine lv_iconst (v := nI 0) hx hb dX9_join_216 rfl ?_
                                    refine nn_add0 hx hb dX9_join_217 ?_
                                    refine lv_istore (lv' := [(6, .int (nI j)), (5, .int (nI (i + 1))), (7, .int (nI (n + 1))), (10, .int (bI false)), (9, .int (bI true)), (8, .int (-1)), (0, .ref x), (1, .int (nI t)), (2, .int (nI u)), (3, .int (nI dn)), (4, .int (nI to))]) hx hb dX9_join_218 hl (by decide) rfl (fun ls hl => ?_)
                                    refine lv_goto (tgt := 20) hx hb dX9_join_220 (by decide) ?_
                                    have hJ := jn_S (S := Ts t) (T := Ts u) (i := i) (j := j) (d := dn - n) (by omega) (by first | exact Or.inl (by omega) | exact Or.inr ⟨by omega, by omega⟩)
                                    rw [if_neg (by omega), Nat.sub_sub] at hJ
                                    rw [hJ] at hcnt hlst
                                    dsimp only at hcnt hlst
                                    have hk1 := csum_tk (L := Ts t) (i := i) (by omega)
                                    have hk3 := csum_a1 Lc ((Ts t).getD i e0)
                                    have hk4 : (Lc ++ [((Ts t).getD i e0)]).length = Lc.length + 1 := by simp
                                    exact ih_20 (i + 1) j (n + 1) (Lc ++ [((Ts t).getD i e0)]) g_many_95 g_bytes_95 g_kinds_95 g_modes_95 g_times_95 g_paths_95 g_contentAt_95 g_contents_95 g_path_95 g_content_95 _ _ _ (by omega) (by omega) (by omega) (by omega) (by omega) (by rw [hlst]; simp) (by omega) (by omega) hRT hR (lv_sub hl [6, 7, 8, 9, 10, 1, 0, 2] rfl)
                                  · exact absurd c_98 (by omega)
                      · cases c_90
                  · refine lv_iconst (v := bI true) hx hb dX9_join_120 rfl ?_
                    refine lv_goto (tgt := 125) hx hb dX9_join_121 (by decide) ?_
                    refine lv_istore (lv' := [(10, .int (bI true)), (9, .int (bI true)), (8, .int (-1)), (0, .ref x), (1, .int (nI t)), (2, .int (nI u)), (3, .int (nI dn)), (4, .int (nI to)), (5, .int (nI i)), (6, .int (nI j)), (7, .int (nI n))]) hx hb dX9_join_125 hl (by decide) rfl (fun ls hl => ?_)
                    refine lv_iload hx hb dX9_join_127 (lv_at hl 7 rfl) ?_
                    refine nz_lt hx hb dX9_join_129 (tgt := 151) (by decide) (by omega) (fun c_99 => ?_) (fun c_99 => ?_)
                    · exact absurd c_99 (Nat.not_lt_zero _)
                    · refine lv_iload hx hb dX9_join_132 (lv_at hl 0 rfl) ?_
                      refine nb_ifeq hx hb dX9_join_134 (tgt := 151) (by decide) (fun c_100 => ?_) (fun c_100 => ?_)
                      · cases c_100
                      · refine lv_iload hx hb dX9_join_137 (lv_at hl 2 rfl) ?_
                        refine zi_lt hx hb (show (-1 : Int32).toInt = -1 from rfl) dX9_join_139 (tgt := 151) (by decide) (fun c_101 => ?_) (fun c_101 => ?_)
                        · refine lv_iload hx hb dX9_join_151 (lv_at hl 7 rfl) ?_
                          refine nz_lt hx hb dX9_join_153 (tgt := 175) (by decide) (by omega) (fun c_102 => ?_) (fun c_102 => ?_)
                          · exact absurd c_102 (Nat.not_lt_zero _)
                          · refine lv_iload hx hb dX9_join_156 (lv_at hl 0 rfl) ?_
                            refine nb_ifne hx hb dX9_join_158 (tgt := 175) (by decide) (fun c_103 => ?_) (fun c_103 => ?_)
                            · refine lv_iload hx hb dX9_join_175 (lv_at hl 10 rfl) ?_
                              refine lv_iload hx hb dX9_join_177 (lv_at hl 1 rfl) ?_
                              refine nb_ifeq hx hb dX9_join_179 (tgt := 186) (by decide) (fun c_104 => ?_) (fun c_104 => ?_)
                              · cases c_104
                              · refine lv_iconst (v := nI 1) hx hb dX9_join_182 rfl ?_
                                refine lv_goto (tgt := 187) hx hb dX9_join_183 (by decide) ?_
                                refine nn_add hx hb dX9_join_187 ?_
                                refine lv_istore (lv' := [(7, .int (nI (n + 1))), (10, .int (bI true)), (9, .int (bI true)), (8, .int (-1)), (0, .ref x), (1, .int (nI t)), (2, .int (nI u)), (3, .int (nI dn)), (4, .int (nI to)), (5, .int (nI i)), (6, .int (nI j))]) hx hb dX9_join_188 hl (by decide) rfl (fun ls hl => ?_)
                                refine lv_iload hx hb dX9_join_190 (lv_at hl 9 rfl) ?_
                                refine lv_iload hx hb dX9_join_192 (lv_at hl 3 rfl) ?_
                                refine zi_gt hx hb (show (-1 : Int32).toInt = -1 from rfl) dX9_join_194 (tgt := 201) (by decide) (fun c_105 => ?_) (fun c_105 => ?_)
                                · exact absurd c_105 (by omega)
                                · refine lv_iconst (v := nI 1) hx hb dX9_join_197 rfl ?_
                                  refine lv_goto (tgt := 202) hx hb dX9_join_198 (by decide) ?_
                                  refine nn_add hx hb dX9_join_202 ?_
                                  refine lv_istore (lv' := [(5, .int (nI (i + 1))), (7, .int (nI (n + 1))), (10, .int (bI true)), (9, .int (bI true)), (8, .int (-1)), (0, .ref x), (1, .int (nI t)), (2, .int (nI u)), (3, .int (nI dn)), (4, .int (nI to)), (6, .int (nI j))]) hx hb dX9_join_203 hl (by decide) rfl (fun ls hl => ?_)
                                  refine lv_iload hx hb dX9_join_205 (lv_at hl 10 rfl) ?_
                                  refine lv_iload hx hb dX9_join_207 (lv_at hl 4 rfl) ?_
                                  refine zi_lt hx hb (show (-1 : Int32).toInt = -1 from rfl) dX9_join_209 (tgt := 216) (by decide) (fun c_106 => ?_) (fun c_106 => ?_)
                                  · refine lv_iconst (v := nI 0) hx hb dX9_join_216 rfl ?_
                                    refine nn_add0 hx hb dX9_join_217 ?_
                                    refine lv_istore (lv' := [(6, .int (nI j)), (5, .int (nI (i + 1))), (7, .int (nI (n + 1))), (10, .int (bI true)), (9, .int (bI true)), (8, .int (-1)), (0, .ref x), (1, .int (nI t)), (2, .int (nI u)), (3, .int (nI dn)), (4, .int (nI to))]) hx hb dX9_join_218 hl (by decide) rfl (fun ls hl => ?_)
                                    refine lv_goto (tgt := 20) hx hb dX9_join_220 (by decide) ?_
                                    have hJ := jn_S (S := Ts t) (T := Ts u) (i := i) (j := j) (d := dn - n) (by omega) (by first | exact Or.inl (by omega) | exact Or.inr ⟨by omega, by omega⟩)
                                    rw [if_pos (by omega), Nat.sub_sub] at hJ
                                    rw [hJ] at hcnt hlst
                                    dsimp only at hcnt hlst
                                    have hk1 := csum_tk (L := Ts t) (i := i) (by omega)
                                    exact ih_20 (i + 1) j (n + 1) Lc a_many a_bytes a_kinds a_modes a_times a_paths a_contentAt a_contents a_path a_content _ _ _ (by omega) (by omega) (by omega) (by omega) (by omega) (by rw [hlst]; simp) (by omega) (by omega) hRT hR (lv_sub hl [6, 7, 8, 9, 10, 1, 0, 2] rfl)
                                  · exact absurd c_106 (by omega)
                            · cases c_103
                        · exact absurd c_101 (by omega)
              · exact absurd c_86 (by omega)
          · refine lv_iconst (v := nI 1) hx hb dX9_join_53 rfl ?_
            refine lv_goto (tgt := 82) hx hb dX9_join_54 (by decide) ?_
            refine lv_istore (lv' := [(8, .int (nI 1)), (0, .ref x), (1, .int (nI t)), (2, .int (nI u)), (3, .int (nI dn)), (4, .int (nI to)), (5, .int (nI i)), (6, .int (nI j)), (7, .int (nI n))]) hx hb dX9_join_82 hl (by decide) rfl (fun ls hl => ?_)
            refine lv_iload hx hb dX9_join_84 (lv_at hl 0 rfl) ?_
            refine zi_ne hx hb (show (nI 1).toInt = 1 from rfl) dX9_join_86 (tgt := 102) (by decide) (fun c_107 => ?_) (fun c_107 => ?_)
            · refine lv_iconst (v := bI true) hx hb dX9_join_102 rfl ?_
              refine lv_goto (tgt := 107) hx hb dX9_join_103 (by decide) ?_
              refine lv_istore (lv' := [(9, .int (bI true)), (8, .int (nI 1)), (0, .ref x), (1, .int (nI t)), (2, .int (nI u)), (3, .int (nI dn)), (4, .int (nI to)), (5, .int (nI i)), (6, .int (nI j)), (7, .int (nI n))]) hx hb dX9_join_107 hl (by decide) rfl (fun ls hl => ?_)
              refine lv_iload hx hb dX9_join_109 (lv_at hl 0 rfl) ?_
              refine nb_ifeq hx hb dX9_join_111 (tgt := 124) (by decide) (fun c_108 => ?_) (fun c_108 => ?_)
              · cases c_108
              · refine lv_iload hx hb dX9_join_114 (lv_at hl 9 rfl) ?_
                refine lv_iload_n hx hb dX9_join_116 rfl (lv_at hl 5 rfl) ?_
                refine nn_ge hx hb dX9_join_117 (tgt := 124) (by decide) (by omega) (by omega) (fun c_109 => ?_) (fun c_109 => ?_)
                · refine lv_iconst (v := bI false) hx hb dX9_join_124 rfl ?_
                  refine lv_istore (lv' := [(10, .int (bI false)), (9, .int (bI true)), (8, .int (nI 1)), (0, .ref x), (1, .int (nI t)), (2, .int (nI u)), (3, .int (nI dn)), (4, .int (nI to)), (5, .int (nI i)), (6, .int (nI j)), (7, .int (nI n))]) hx hb dX9_join_125 hl (by decide) rfl (fun ls hl => ?_)
                  refine lv_iload hx hb dX9_join_127 (lv_at hl 7 rfl) ?_
                  refine nz_lt hx hb dX9_join_129 (tgt := 151) (by decide) (by omega) (fun c_110 => ?_) (fun c_110 => ?_)
                  · exact absurd c_110 (Nat.not_lt_zero _)
                  · refine lv_iload hx hb dX9_join_132 (lv_at hl 0 rfl) ?_
                    refine nb_ifeq hx hb dX9_join_134 (tgt := 151) (by decide) (fun c_111 => ?_) (fun c_111 => ?_)
                    · refine lv_iload hx hb dX9_join_151 (lv_at hl 7 rfl) ?_
                      refine nz_lt hx hb dX9_join_153 (tgt := 175) (by decide) (by omega) (fun c_112 => ?_) (fun c_112 => ?_)
                      · exact absurd c_112 (Nat.not_lt_zero _)
                      · refine lv_iload hx hb dX9_join_156 (lv_at hl 0 rfl) ?_
                        refine nb_ifne hx hb dX9_join_158 (tgt := 175) (by decide) (fun c_113 => ?_) (fun c_113 => ?_)
                        · cases c_113
                        · refine lv_iload hx hb dX9_join_161 (lv_at hl 2 rfl) ?_
                          refine zi_gt hx hb (show (nI 1).toInt = 1 from rfl) dX9_join_163 (tgt := 175) (by decide) (fun c_114 => ?_) (fun c_114 => ?_)
                          · refine lv_iload hx hb dX9_join_175 (lv_at hl 10 rfl) ?_
                            refine lv_iload hx hb dX9_join_177 (lv_at hl 1 rfl) ?_
                            refine nb_ifeq hx hb dX9_join_179 (tgt := 186) (by decide) (fun c_115 => ?_) (fun c_115 => ?_)
                            · cases c_115
                            · refine lv_iconst (v := nI 1) hx hb dX9_join_182 rfl ?_
                              refine lv_goto (tgt := 187) hx hb dX9_join_183 (by decide) ?_
                              refine nn_add hx hb dX9_join_187 ?_
                              refine lv_istore (lv' := [(7, .int (nI (n + 1))), (10, .int (bI false)), (9, .int (bI true)), (8, .int (nI 1)), (0, .ref x), (1, .int (nI t)), (2, .int (nI u)), (3, .int (nI dn)), (4, .int (nI to)), (5, .int (nI i)), (6, .int (nI j))]) hx hb dX9_join_188 hl (by decide) rfl (fun ls hl => ?_)
                              refine lv_iload hx hb dX9_join_190 (lv_at hl 9 rfl) ?_
                              refine lv_iload hx hb dX9_join_192 (lv_at hl 3 rfl) ?_
                              refine zi_gt hx hb (show (nI 1).toInt = 1 from rfl) dX9_join_194 (tgt := 201) (by decide) (fun c_116 => ?_) (fun c_116 => ?_)
                              · refine lv_iconst (v := nI 0) hx hb dX9_join_201 rfl ?_
                                refine nn_add0 hx hb dX9_join_202 ?_
                                refine lv_istore (lv' := [(5, .int (nI i)), (7, .int (nI (n + 1))), (10, .int (bI false)), (9, .int (bI true)), (8, .int (nI 1)), (0, .ref x), (1, .int (nI t)), (2, .int (nI u)), (3, .int (nI dn)), (4, .int (nI to)), (6, .int (nI j))]) hx hb dX9_join_203 hl (by decide) rfl (fun ls hl => ?_)
                                refine lv_iload hx hb dX9_join_205 (lv_at hl 10 rfl) ?_
                                refine lv_iload hx hb dX9_join_207 (lv_at hl 4 rfl) ?_
                                refine zi_lt hx hb (show (nI 1).toInt = 1 from rfl) dX9_join_209 (tgt := 216) (by decide) (fun c_117 => ?_) (fun c_117 => ?_)
                                · exact absurd c_117 (by omega)
                                · refine lv_iconst (v := nI 1) hx hb dX9_join_212 rfl ?_
                                  refine lv_goto (tgt := 217) hx hb dX9_join_213 (by decide) ?_
                                  refine nn_add hx hb dX9_join_217 ?_
                                  refine lv_istore (lv' := [(6, .int (nI (j + 1))), (5, .int (nI i)), (7, .int (nI (n + 1))), (10, .int (bI false)), (9, .int (bI true)), (8, .int (nI 1)), (0, .ref x), (1, .int (nI t)), (2, .int (nI u)), (3, .int (nI dn)), (4, .int (nI to))]) hx hb dX9_join_218 hl (by decide) rfl (fun ls hl => ?_)
                                  refine lv_goto (tgt := 20) hx hb dX9_join_220 (by decide) ?_
                                  have hJ := jn_T (S := Ts t) (T := Ts u) (i := i) (j := j) (d := dn - n) (by omega) (by first | exact Or.inl (by omega) | exact Or.inr ⟨by omega, by omega⟩)
                                  rw [if_neg (by omega), Nat.sub_sub] at hJ
                                  rw [hJ] at hcnt hlst
                                  dsimp only at hcnt hlst
                                  have hk2 := csum_tk (L := Ts u) (i := j) (by omega)
                                  exact ih_20 i (j + 1) (n + 1) Lc a_many a_bytes a_kinds a_modes a_times a_paths a_contentAt a_contents a_path a_content _ _ _ (by omega) (by omega) (by omega) (by omega) (by omega) (by rw [hlst]; simp) (by omega) (by omega) hRT hR (lv_sub hl [6, 7, 8, 9, 10, 1, 0, 2] rfl)
                              · exact absurd c_116 (by omega)
                          · exact absurd c_114 (by omega)
                    · cases c_111
                · refine lv_iconst (v := bI true) hx hb dX9_join_120 rfl ?_
                  refine lv_goto (tgt := 125) hx hb dX9_join_121 (by decide) ?_
                  refine lv_istore (lv' := [(10, .int (bI true)), (9, .int (bI true)), (8, .int (nI 1)), (0, .ref x), (1, .int (nI t)), (2, .int (nI u)), (3, .int (nI dn)), (4, .int (nI to)), (5, .int (nI i)), (6, .int (nI j)), (7, .int (nI n))]) hx hb dX9_join_125 hl (by decide) rfl (fun ls hl => ?_)
                  refine lv_iload hx hb dX9_join_127 (lv_at hl 7 rfl) ?_
                  refine nz_lt hx hb dX9_join_129 (tgt := 151) (by decide) (by omega) (fun c_118 => ?_) (fun c_118 => ?_)
                  · exact absurd c_118 (Nat.not_lt_zero _)
                  · refine lv_iload hx hb dX9_join_132 (lv_at hl 0 rfl) ?_
                    refine nb_ifeq hx hb dX9_join_134 (tgt := 151) (by decide) (fun c_119 => ?_) (fun c_119 => ?_)
                    · cases c_119
                    · refine lv_iload hx hb dX9_join_137 (lv_at hl 2 rfl) ?_
                      refine zi_lt hx hb (show (nI 1).toInt = 1 from rfl) dX9_join_139 (tgt := 151) (by decide) (fun c_120 => ?_) (fun c_120 => ?_)
                      · exact absurd c_120 (by omega)
                      · refine lv_aload_n hx hb dX9_join_142 rfl (lv_at hl 3 rfl) ?_
                        refine lv_iload_n hx hb dX9_join_143 rfl (lv_at hl 5 rfl) ?_
                        refine lv_iload hx hb dX9_join_144 (lv_at hl 9 rfl) ?_
                        refine lv_iload hx hb dX9_join_146 (lv_at hl 7 rfl) ?_
                        have hct := csum_take (L := Ts u) (i := j) (by omega)
                        refine rf_callV (C := RX9) (As := [.int (nI u), .int (nI j), .int (nI to)]) (rest := []) (m_append l hT (va_up Ts to Lc) u j to ((Ts u).getD j e0) Lc hRT hu hto hnu (by rw [va_up_ne _ _ hnu]; omega) (by rw [va_up_ne _ _ hnu]) (va_up_self _ _ _) (by omega) (by omega)) ⟨hx, hb, hml, hown, hts⟩ (cwV 3 hts gX9_join_X9_append rfl rfl rfl (by decide +kernel) ⟨Nat.le_of_ble_eq_true rfl, Nat.le_of_ble_eq_true rfl⟩) hK hR (r_recv hK hR.1) rfl hl.1 rfl (Nat.le_of_ble_eq_true rfl) dX9_join_148 ⟨Nat.le_of_ble_eq_true rfl, Nat.le_of_ble_eq_true rfl⟩ (fun r_121 w_r_121 H locs hr_121 hR => ?_)
                        obtain ⟨rfl, g_many_122, g_bytes_122, g_kinds_122, g_modes_122, g_times_122, g_paths_122, g_contentAt_122, g_contents_122, g_path_122, g_content_122, rfl, hRT⟩ := hr_121
                        rw [bx_uu] at hRT
                        refine lv_iload hx hb dX9_join_151 (lv_at hl 7 rfl) ?_
                        refine nz_lt hx hb dX9_join_153 (tgt := 175) (by decide) (by omega) (fun c_123 => ?_) (fun c_123 => ?_)
                        · exact absurd c_123 (Nat.not_lt_zero _)
                        · refine lv_iload hx hb dX9_join_156 (lv_at hl 0 rfl) ?_
                          refine nb_ifne hx hb dX9_join_158 (tgt := 175) (by decide) (fun c_124 => ?_) (fun c_124 => ?_)
                          · refine lv_iload hx hb dX9_join_175 (lv_at hl 10 rfl) ?_
                            refine lv_iload hx hb dX9_join_177 (lv_at hl 1 rfl) ?_
                            refine nb_ifeq hx hb dX9_join_179 (tgt := 186) (by decide) (fun c_125 => ?_) (fun c_125 => ?_)
                            · cases c_125
                            · refine lv_iconst (v := nI 1) hx hb dX9_join_182 rfl ?_
                              refine lv_goto (tgt := 187) hx hb dX9_join_183 (by decide) ?_
                              refine nn_add hx hb dX9_join_187 ?_
                              refine lv_istore (lv' := [(7, .int (nI (n + 1))), (10, .int (bI true)), (9, .int (bI true)), (8, .int (nI 1)), (0, .ref x), (1, .int (nI t)), (2, .int (nI u)), (3, .int (nI dn)), (4, .int (nI to)), (5, .int (nI i)), (6, .int (nI j))]) hx hb dX9_join_188 hl (by decide) rfl (fun ls hl => ?_)
                              refine lv_iload hx hb dX9_join_190 (lv_at hl 9 rfl) ?_
                              refine lv_iload hx hb dX9_join_192 (lv_at hl 3 rfl) ?_
                              refine zi_gt hx hb (show (nI 1).toInt = 1 from rfl) dX9_join_194 (tgt := 201) (by decide) (fun c_126 => ?_) (fun c_126 => ?_)
                              · refine lv_iconst (v := nI 0) hx hb dX9_join_201 rfl ?_
                                refine nn_add0 hx hb dX9_join_202 ?_
                                refine lv_istore (lv' := [(5, .int (nI i)), (7, .int (nI (n + 1))), (10, .int (bI true)), (9, .int (bI true)), (8, .int (nI 1)), (0, .ref x), (1, .int (nI t)), (2, .int (nI u)), (3, .int (nI dn)), (4, .int (nI to)), (6, .int (nI j))]) hx hb dX9_join_203 hl (by decide) rfl (fun ls hl => ?_)
                                refine lv_iload hx hb dX9_join_205 (lv_at hl 10 rfl) ?_
                                refine lv_iload hx hb dX9_join_207 (lv_at hl 4 rfl) ?_
                                refine zi_lt hx hb (show (nI 1).toInt = 1 from rfl) dX9_join_209 (tgt := 216) (by decide) (fun c_127 => ?_) (fun c_127 => ?_)
                                · exact absurd c_127 (by omega)
                                · refine lv_iconst (v := nI 1) hx hb dX9_join_212 rfl ?_
                                  refine lv_goto (tgt := 217) hx hb dX9_join_213 (by decide) ?_
                                  refine nn_add hx hb dX9_join_217 ?_
                                  refine lv_istore (lv' := [(6, .int (nI (j + 1))), (5, .int (nI i)), (7, .int (nI (n + 1))), (10, .int (bI true)), (9, .int (bI true)), (8, .int (nI 1)), (0, .ref x), (1, .int (nI t)), (2, .int (nI u)), (3, .int (nI dn)), (4, .int (nI to))]) hx hb dX9_join_218 hl (by decide) rfl (fun ls hl => ?_)
                                  refine lv_goto (tgt := 20) hx hb dX9_join_220 (by decide) ?_
                                  have hJ := jn_T (S := Ts t) (T := Ts u) (i := i) (j := j) (d := dn - n) (by omega) (by first | exact Or.inl (by omega) | exact Or.inr ⟨by omega, by omega⟩)
                                  rw [if_pos (by omega), Nat.sub_sub] at hJ
                                  rw [hJ] at hcnt hlst
                                  dsimp only at hcnt hlst
                                  have hk2 := csum_tk (L := Ts u) (i := j) (by omega)
                                  have hk3 := csum_a1 Lc ((Ts u).getD j e0)
                                  have hk4 : (Lc ++ [((Ts u).getD j e0)]).length = Lc.length + 1 := by simp
                                  exact ih_20 i (j + 1) (n + 1) (Lc ++ [((Ts u).getD j e0)]) g_many_122 g_bytes_122 g_kinds_122 g_modes_122 g_times_122 g_paths_122 g_contentAt_122 g_contents_122 g_path_122 g_content_122 _ _ _ (by omega) (by omega) (by omega) (by omega) (by omega) (by rw [hlst]; simp) (by omega) (by omega) hRT hR (lv_sub hl [6, 7, 8, 9, 10, 1, 0, 2] rfl)
                              · exact absurd c_126 (by omega)
                          · cases c_124
            · exact absurd c_107 (by omega)
        · refine lv_iload hx hb dX9_join_31 (lv_at hl 6 rfl) ?_
          refine lv_aload_n hx hb dX9_join_33 rfl (lv_at hl 0 rfl) ?_
          refine rg_many hC hR.1 k_many dX9_join_34 ?_
          refine lv_iload_n hx hb dX9_join_37 rfl (lv_at hl 2 rfl) ?_
          refine rl_many hC hR.1 (by omega) dX9_join_38 ?_
          refine nn_eqi (y := nI ((Ts u).length)) u1 ?_
          refine nn_ge hx hb dX9_join_39 (tgt := 223) (by decide) (by omega) (by omega) (fun c_128 => ?_) (fun c_128 => ?_)
          · refine lv_iload hx hb dX9_join_223 (lv_at hl 7 rfl) ?_
            have hJ := jn_end (S := Ts t) (T := Ts u) (i := i) (j := j) (d := dn - n) (by omega) (by omega)
            rw [hJ] at hcnt hlst
            rw [hQ]
            exact rf_iret hx hb hr hlocks hR ⟨by rw [hcnt]; rfl, _, _, _, _, _, _, _, _, _, _, rfl, by rw [hlst, List.append_nil]; exact hRT⟩ dX9_join_225
          · refine lv_iload hx hb dX9_join_42 (lv_at hl 5 rfl) ?_
            refine lv_aload_n hx hb dX9_join_44 rfl (lv_at hl 0 rfl) ?_
            refine rg_many hC hR.1 k_many dX9_join_45 ?_
            refine lv_iload_n hx hb dX9_join_48 rfl (lv_at hl 1 rfl) ?_
            refine rl_many hC hR.1 (by omega) dX9_join_49 ?_
            refine nn_eqi (y := nI ((Ts t).length)) t1 ?_
            refine nn_ne hx hb dX9_join_50 (tgt := 57) (by decide) (by omega) (by omega) (fun c_129 => ?_) (fun c_129 => ?_)
            · refine lv_iload hx hb dX9_join_57 (lv_at hl 6 rfl) ?_
              refine lv_aload_n hx hb dX9_join_59 rfl (lv_at hl 0 rfl) ?_
              refine rg_many hC hR.1 k_many dX9_join_60 ?_
              refine lv_iload_n hx hb dX9_join_63 rfl (lv_at hl 2 rfl) ?_
              refine rl_many hC hR.1 (by omega) dX9_join_64 ?_
              refine nn_eqi (y := nI ((Ts u).length)) u1 ?_
              refine nn_ne hx hb dX9_join_65 (tgt := 72) (by decide) (by omega) (by omega) (fun c_130 => ?_) (fun c_130 => ?_)
              · refine lv_aload_n hx hb dX9_join_72 rfl (lv_at hl 0 rfl) ?_
                refine lv_iload_n hx hb dX9_join_73 rfl (lv_at hl 1 rfl) ?_
                refine lv_iload hx hb dX9_join_74 (lv_at hl 5 rfl) ?_
                refine lv_iload_n hx hb dX9_join_76 rfl (lv_at hl 2 rfl) ?_
                refine lv_iload hx hb dX9_join_77 (lv_at hl 6 rfl) ?_
                refine pf_callV (C := RX9) (As := [.int (nI t), .int (nI i), .int (nI u), .int (nI j)]) (rest := []) (m_orderOf l hT (va_up Ts to Lc) t i u j hRT ht (by rw [va_up_ne _ _ hnt]; omega) hu (by rw [va_up_ne _ _ hnu]; omega)) ⟨hx, hb, hml, hown, hts⟩ (cwV 4 hts gX9_join_X9_orderOf rfl rfl rfl (by decide +kernel) ⟨Nat.le_of_ble_eq_true rfl, Nat.le_of_ble_eq_true rfl⟩) hK hR.1 (r_recv hK hR.1) rfl hl.1 rfl (Nat.le_of_ble_eq_true rfl) dX9_join_79 ⟨Nat.le_of_ble_eq_true rfl, Nat.le_of_ble_eq_true rfl⟩ (fun r_131 hr_131 => ?_)
                obtain ⟨o1, rfl, ho1⟩ := hr_131
                rw [va_up_ne _ _ hnt, va_up_ne _ _ hnu] at ho1
                refine lv_istore (lv' := [(8, .int o1), (0, .ref x), (1, .int (nI t)), (2, .int (nI u)), (3, .int (nI dn)), (4, .int (nI to)), (5, .int (nI i)), (6, .int (nI j)), (7, .int (nI n))]) hx hb dX9_join_82 hl (by decide) rfl (fun ls hl => ?_)
                rcases Int.lt_trichotomy (pcm ((Ts t).getD i e0).1 ((Ts u).getD j e0).1) 0 with hz | hz | hz
                · refine lv_iload hx hb dX9_join_84 (lv_at hl 0 rfl) ?_
                  refine zi_ne hx hb ho1 dX9_join_86 (tgt := 102) (by decide) (fun c_132 => ?_) (fun c_132 => ?_)
                  · refine lv_iconst (v := bI true) hx hb dX9_join_102 rfl ?_
                    refine lv_goto (tgt := 107) hx hb dX9_join_103 (by decide) ?_
                    refine lv_istore (lv' := [(9, .int (bI true)), (8, .int o1), (0, .ref x), (1, .int (nI t)), (2, .int (nI u)), (3, .int (nI dn)), (4, .int (nI to)), (5, .int (nI i)), (6, .int (nI j)), (7, .int (nI n))]) hx hb dX9_join_107 hl (by decide) rfl (fun ls hl => ?_)
                    refine lv_iload hx hb dX9_join_109 (lv_at hl 0 rfl) ?_
                    refine nb_ifeq hx hb dX9_join_111 (tgt := 124) (by decide) (fun c_133 => ?_) (fun c_133 => ?_)
                    · cases c_133
                    · refine lv_iload hx hb dX9_join_114 (lv_at hl 9 rfl) ?_
                      refine lv_iload_n hx hb dX9_join_116 rfl (lv_at hl 5 rfl) ?_
                      refine nn_ge hx hb dX9_join_117 (tgt := 124) (by decide) (by omega) (by omega) (fun c_134 => ?_) (fun c_134 => ?_)
                      · refine lv_iconst (v := bI false) hx hb dX9_join_124 rfl ?_
                        refine lv_istore (lv' := [(10, .int (bI false)), (9, .int (bI true)), (8, .int o1), (0, .ref x), (1, .int (nI t)), (2, .int (nI u)), (3, .int (nI dn)), (4, .int (nI to)), (5, .int (nI i)), (6, .int (nI j)), (7, .int (nI n))]) hx hb dX9_join_125 hl (by decide) rfl (fun ls hl => ?_)
                        refine lv_iload hx hb dX9_join_127 (lv_at hl 7 rfl) ?_
                        refine nz_lt hx hb dX9_join_129 (tgt := 151) (by decide) (by omega) (fun c_135 => ?_) (fun c_135 => ?_)
                        · exact absurd c_135 (Nat.not_lt_zero _)
                        · refine lv_iload hx hb dX9_join_132 (lv_at hl 0 rfl) ?_
                          refine nb_ifeq hx hb dX9_join_134 (tgt := 151) (by decide) (fun c_136 => ?_) (fun c_136 => ?_)
                          · refine lv_iload hx hb dX9_join_151 (lv_at hl 7 rfl) ?_
                            refine nz_lt hx hb dX9_join_153 (tgt := 175) (by decide) (by omega) (fun c_137 => ?_) (fun c_137 => ?_)
                            · exact absurd c_137 (Nat.not_lt_zero _)
                            · refine lv_iload hx hb dX9_join_156 (lv_at hl 0 rfl) ?_
                              refine nb_ifne hx hb dX9_join_158 (tgt := 175) (by decide) (fun c_138 => ?_) (fun c_138 => ?_)
                              · cases c_138
                              · refine lv_iload hx hb dX9_join_161 (lv_at hl 2 rfl) ?_
                                refine zi_gt hx hb ho1 dX9_join_163 (tgt := 175) (by decide) (fun c_139 => ?_) (fun c_139 => ?_)
                                · exact absurd c_139 (by omega)
                                · refine lv_aload_n hx hb dX9_join_166 rfl (lv_at hl 3 rfl) ?_
                                  refine lv_iload_n hx hb dX9_join_167 rfl (lv_at hl 4 rfl) ?_
                                  refine lv_iload hx hb dX9_join_168 (lv_at hl 8 rfl) ?_
                                  refine lv_iload hx hb dX9_join_170 (lv_at hl 7 rfl) ?_
                                  have hct := csum_take (L := Ts t) (i := i) (by omega)
                                  refine rf_callV (C := RX9) (As := [.int (nI t), .int (nI i), .int (nI to)]) (rest := []) (m_append l hT (va_up Ts to Lc) t i to ((Ts t).getD i e0) Lc hRT ht hto hnt (by rw [va_up_ne _ _ hnt]; omega) (by rw [va_up_ne _ _ hnt]) (va_up_self _ _ _) (by omega) (by omega)) ⟨hx, hb, hml, hown, hts⟩ (cwV 3 hts gX9_join_X9_append rfl rfl rfl (by decide +kernel) ⟨Nat.le_of_ble_eq_true rfl, Nat.le_of_ble_eq_true rfl⟩) hK hR (r_recv hK hR.1) rfl hl.1 rfl (Nat.le_of_ble_eq_true rfl) dX9_join_172 ⟨Nat.le_of_ble_eq_true rfl, Nat.le_of_ble_eq_true rfl⟩ (fun r_140 w_r_140 H locs hr_140 hR => ?_)
                                  obtain ⟨rfl, g_many_141, g_bytes_141, g_kinds_141, g_modes_141, g_times_141, g_paths_141, g_contentAt_141, g_contents_141, g_path_141, g_content_141, rfl, hRT⟩ := hr_140
                                  rw [bx_uu] at hRT
                                  refine lv_iload hx hb dX9_join_175 (lv_at hl 10 rfl) ?_
                                  refine lv_iload hx hb dX9_join_177 (lv_at hl 1 rfl) ?_
                                  refine nb_ifeq hx hb dX9_join_179 (tgt := 186) (by decide) (fun c_142 => ?_) (fun c_142 => ?_)
                                  · cases c_142
                                  · refine lv_iconst (v := nI 1) hx hb dX9_join_182 rfl ?_
                                    refine lv_goto (tgt := 187) hx hb dX9_join_183 (by decide) ?_
                                    refine nn_add hx hb dX9_join_187 ?_
                                    refine lv_istore (lv' := [(7, .int (nI (n + 1))), (10, .int (bI false)), (9, .int (bI true)), (8, .int o1), (0, .ref x), (1, .int (nI t)), (2, .int (nI u)), (3, .int (nI dn)), (4, .int (nI to)), (5, .int (nI i)), (6, .int (nI j))]) hx hb dX9_join_188 hl (by decide) rfl (fun ls hl => ?_)
                                    refine lv_iload hx hb dX9_join_190 (lv_at hl 9 rfl) ?_
                                    refine lv_iload hx hb dX9_join_192 (lv_at hl 3 rfl) ?_
                                    refine zi_gt hx hb ho1 dX9_join_194 (tgt := 201) (by decide) (fun c_143 => ?_) (fun c_143 => ?_)
                                    · exact absurd c_143 (by omega)
                                    · refine lv_iconst (v := nI 1) hx hb dX9_join_197 rfl ?_
                                      refine lv_goto (tgt := 202) hx hb dX9_join_198 (by decide) ?_
                                      refine nn_add hx hb dX9_join_202 ?_
                                      refine lv_istore (lv' := [(5, .int (nI (i + 1))), (7, .int (nI (n + 1))), (10, .int (bI false)), (9, .int (bI true)), (8, .int o1), (0, .ref x), (1, .int (nI t)), (2, .int (nI u)), (3, .int (nI dn)), (4, .int (nI to)), (6, .int (nI j))]) hx hb dX9_join_203 hl (by decide) rfl (fun ls hl => ?_)
                                      refine lv_iload hx hb dX9_join_205 (lv_at hl 10 rfl) ?_
                                      refine lv_iload hx hb dX9_join_207 (lv_at hl 4 rfl) ?_
                                      refine zi_lt hx hb ho1 dX9_join_209 (tgt := 216) (by decide) (fun c_144 => ?_) (fun c_144 => ?_)
                                      · refine lv_iconst (v := nI 0) hx hb dX9_join_216 rfl ?_
                                        refine nn_add0 hx hb dX9_join_217 ?_
                                        refine lv_istore (lv' := [(6, .int (nI j)), (5, .int (nI (i + 1))), (7, .int (nI (n + 1))), (10, .int (bI false)), (9, .int (bI true)), (8, .int o1), (0, .ref x), (1, .int (nI t)), (2, .int (nI u)), (3, .int (nI dn)), (4, .int (nI to))]) hx hb dX9_join_218 hl (by decide) rfl (fun ls hl => ?_)
                                        refine lv_goto (tgt := 20) hx hb dX9_join_220 (by decide) ?_
                                        have hJ := jn_S (S := Ts t) (T := Ts u) (i := i) (j := j) (d := dn - n) (by omega) (by first | exact Or.inl (by omega) | exact Or.inr ⟨by omega, by omega⟩)
                                        rw [if_neg (by omega), Nat.sub_sub] at hJ
                                        rw [hJ] at hcnt hlst
                                        dsimp only at hcnt hlst
                                        have hk1 := csum_tk (L := Ts t) (i := i) (by omega)
                                        have hk3 := csum_a1 Lc ((Ts t).getD i e0)
                                        have hk4 : (Lc ++ [((Ts t).getD i e0)]).length = Lc.length + 1 := by simp
                                        exact ih_20 (i + 1) j (n + 1) (Lc ++ [((Ts t).getD i e0)]) g_many_141 g_bytes_141 g_kinds_141 g_modes_141 g_times_141 g_paths_141 g_contentAt_141 g_contents_141 g_path_141 g_content_141 _ _ _ (by omega) (by omega) (by omega) (by omega) (by omega) (by rw [hlst]; simp) (by omega) (by omega) hRT hR (lv_sub hl [6, 7, 8, 9, 10, 1, 0, 2] rfl)
                                      · exact absurd c_144 (by omega)
                          · cases c_136
                      · refine lv_iconst (v := bI true) hx hb dX9_join_120 rfl ?_
                        refine lv_goto (tgt := 125) hx hb dX9_join_121 (by decide) ?_
                        refine lv_istore (lv' := [(10, .int (bI true)), (9, .int (bI true)), (8, .int o1), (0, .ref x), (1, .int (nI t)), (2, .int (nI u)), (3, .int (nI dn)), (4, .int (nI to)), (5, .int (nI i)), (6, .int (nI j)), (7, .int (nI n))]) hx hb dX9_join_125 hl (by decide) rfl (fun ls hl => ?_)
                        refine lv_iload hx hb dX9_join_127 (lv_at hl 7 rfl) ?_
                        refine nz_lt hx hb dX9_join_129 (tgt := 151) (by decide) (by omega) (fun c_145 => ?_) (fun c_145 => ?_)
                        · exact absurd c_145 (Nat.not_lt_zero _)
                        · refine lv_iload hx hb dX9_join_132 (lv_at hl 0 rfl) ?_
                          refine nb_ifeq hx hb dX9_join_134 (tgt := 151) (by decide) (fun c_146 => ?_) (fun c_146 => ?_)
                          · cases c_146
                          · refine lv_iload hx hb dX9_join_137 (lv_at hl 2 rfl) ?_
                            refine zi_lt hx hb ho1 dX9_join_139 (tgt := 151) (by decide) (fun c_147 => ?_) (fun c_147 => ?_)
                            · refine lv_iload hx hb dX9_join_151 (lv_at hl 7 rfl) ?_
                              refine nz_lt hx hb dX9_join_153 (tgt := 175) (by decide) (by omega) (fun c_148 => ?_) (fun c_148 => ?_)
                              · exact absurd c_148 (Nat.not_lt_zero _)
                              · refine lv_iload hx hb dX9_join_156 (lv_at hl 0 rfl) ?_
                                refine nb_ifne hx hb dX9_join_158 (tgt := 175) (by decide) (fun c_149 => ?_) (fun c_149 => ?_)
                                · refine lv_iload hx hb dX9_join_175 (lv_at hl 10 rfl) ?_
                                  refine lv_iload hx hb dX9_join_177 (lv_at hl 1 rfl) ?_
                                  refine nb_ifeq hx hb dX9_join_179 (tgt := 186) (by decide) (fun c_150 => ?_) (fun c_150 => ?_)
                                  · cases c_150
                                  · refine lv_iconst (v := nI 1) hx hb dX9_join_182 rfl ?_
                                    refine lv_goto (tgt := 187) hx hb dX9_join_183 (by decide) ?_
                                    refine nn_add hx hb dX9_join_187 ?_
                                    refine lv_istore (lv' := [(7, .int (nI (n + 1))), (10, .int (bI true)), (9, .int (bI true)), (8, .int o1), (0, .ref x), (1, .int (nI t)), (2, .int (nI u)), (3, .int (nI dn)), (4, .int (nI to)), (5, .int (nI i)), (6, .int (nI j))]) hx hb dX9_join_188 hl (by decide) rfl (fun ls hl => ?_)
                                    refine lv_iload hx hb dX9_join_190 (lv_at hl 9 rfl) ?_
                                    refine lv_iload hx hb dX9_join_192 (lv_at hl 3 rfl) ?_
                                    refine zi_gt hx hb ho1 dX9_join_194 (tgt := 201) (by decide) (fun c_151 => ?_) (fun c_151 => ?_)
                                    · exact absurd c_151 (by omega)
                                    · refine lv_iconst (v := nI 1) hx hb dX9_join_197 rfl ?_
                                      refine lv_goto (tgt := 202) hx hb dX9_join_198 (by decide) ?_
                                      refine nn_add hx hb dX9_join_202 ?_
                                      refine lv_istore (lv' := [(5, .int (nI (i + 1))), (7, .int (nI (n + 1))), (10, .int (bI true)), (9, .int (bI true)), (8, .int o1), (0, .ref x), (1, .int (nI t)), (2, .int (nI u)), (3, .int (nI dn)), (4, .int (nI to)), (6, .int (nI j))]) hx hb dX9_join_203 hl (by decide) rfl (fun ls hl => ?_)
                                      refine lv_iload hx hb dX9_join_205 (lv_at hl 10 rfl) ?_
                                      refine lv_iload hx hb dX9_join_207 (lv_at hl 4 rfl) ?_
                                      refine zi_lt hx hb ho1 dX9_join_209 (tgt := 216) (by decide) (fun c_152 => ?_) (fun c_152 => ?_)
                                      · refine lv_iconst (v := nI 0) hx hb dX9_join_216 rfl ?_
                                        refine nn_add0 hx hb dX9_join_217 ?_
                                        refine lv_istore (lv' := [(6, .int (nI j)), (5, .int (nI (i + 1))), (7, .int (nI (n + 1))), (10, .int (bI true)), (9, .int (bI true)), (8, .int o1), (0, .ref x), (1, .int (nI t)), (2, .int (nI u)), (3, .int (nI dn)), (4, .int (nI to))]) hx hb dX9_join_218 hl (by decide) rfl (fun ls hl => ?_)
                                        refine lv_goto (tgt := 20) hx hb dX9_join_220 (by decide) ?_
                                        have hJ := jn_S (S := Ts t) (T := Ts u) (i := i) (j := j) (d := dn - n) (by omega) (by first | exact Or.inl (by omega) | exact Or.inr ⟨by omega, by omega⟩)
                                        rw [if_pos (by omega), Nat.sub_sub] at hJ
                                        rw [hJ] at hcnt hlst
                                        dsimp only at hcnt hlst
                                        have hk1 := csum_tk (L := Ts t) (i := i) (by omega)
                                        exact ih_20 (i + 1) j (n + 1) Lc a_many a_bytes a_kinds a_modes a_times a_paths a_contentAt a_contents a_path a_content _ _ _ (by omega) (by omega) (by omega) (by omega) (by omega) (by rw [hlst]; simp) (by omega) (by omega) hRT hR (lv_sub hl [6, 7, 8, 9, 10, 1, 0, 2] rfl)
                                      · exact absurd c_152 (by omega)
                                · cases c_149
                            · exact absurd c_147 (by omega)
                  · exact absurd c_132 (by omega)
                · refine lv_iload hx hb dX9_join_84 (lv_at hl 0 rfl) ?_
                  refine zi_ne hx hb ho1 dX9_join_86 (tgt := 102) (by decide) (fun c_153 => ?_) (fun c_153 => ?_)
                  · exact absurd c_153 (by omega)
                  · refine lv_aload_n hx hb dX9_join_89 rfl (lv_at hl 1 rfl) ?_
                    refine lv_iload_n hx hb dX9_join_90 rfl (lv_at hl 2 rfl) ?_
                    refine lv_iload hx hb dX9_join_91 (lv_at hl 6 rfl) ?_
                    refine lv_iload_n hx hb dX9_join_93 rfl (lv_at hl 3 rfl) ?_
                    refine lv_iload hx hb dX9_join_94 (lv_at hl 7 rfl) ?_
                    refine pf_callV (C := RX9) (As := [.int (nI t), .int (nI i), .int (nI u), .int (nI j)]) (rest := []) (m_isSame l hT (va_up Ts to Lc) t i u j hRT ht (by rw [va_up_ne _ _ hnt]; omega) hu (by rw [va_up_ne _ _ hnu]; omega)) ⟨hx, hb, hml, hown, hts⟩ (cwV 4 hts gX9_join_X9_isSame rfl rfl rfl (by decide +kernel) ⟨Nat.le_of_ble_eq_true rfl, Nat.le_of_ble_eq_true rfl⟩) hK hR.1 (r_recv hK hR.1) rfl hl.1 rfl (Nat.le_of_ble_eq_true rfl) dX9_join_96 ⟨Nat.le_of_ble_eq_true rfl, Nat.le_of_ble_eq_true rfl⟩ (fun r_154 hr_154 => ?_)
                    rw [va_up_ne _ _ hnt, va_up_ne _ _ hnu] at hr_154
                    subst hr_154
                    refine nb_ifne hx hb dX9_join_99 (tgt := 106) (by decide) (fun c_155 => ?_) (fun c_155 => ?_)
                    · refine lv_iconst (v := bI false) hx hb dX9_join_106 rfl ?_
                      refine lv_istore (lv' := [(9, .int (bI false)), (8, .int o1), (0, .ref x), (1, .int (nI t)), (2, .int (nI u)), (3, .int (nI dn)), (4, .int (nI to)), (5, .int (nI i)), (6, .int (nI j)), (7, .int (nI n))]) hx hb dX9_join_107 hl (by decide) rfl (fun ls hl => ?_)
                      refine lv_iload hx hb dX9_join_109 (lv_at hl 0 rfl) ?_
                      refine nb_ifeq hx hb dX9_join_111 (tgt := 124) (by decide) (fun c_156 => ?_) (fun c_156 => ?_)
                      · refine lv_iconst (v := bI false) hx hb dX9_join_124 rfl ?_
                        refine lv_istore (lv' := [(10, .int (bI false)), (9, .int (bI false)), (8, .int o1), (0, .ref x), (1, .int (nI t)), (2, .int (nI u)), (3, .int (nI dn)), (4, .int (nI to)), (5, .int (nI i)), (6, .int (nI j)), (7, .int (nI n))]) hx hb dX9_join_125 hl (by decide) rfl (fun ls hl => ?_)
                        refine lv_iload hx hb dX9_join_127 (lv_at hl 7 rfl) ?_
                        refine nz_lt hx hb dX9_join_129 (tgt := 151) (by decide) (by omega) (fun c_157 => ?_) (fun c_157 => ?_)
                        · exact absurd c_157 (Nat.not_lt_zero _)
                        · refine lv_iload hx hb dX9_join_132 (lv_at hl 0 rfl) ?_
                          refine nb_ifeq hx hb dX9_join_134 (tgt := 151) (by decide) (fun c_158 => ?_) (fun c_158 => ?_)
                          · refine lv_iload hx hb dX9_join_151 (lv_at hl 7 rfl) ?_
                            refine nz_lt hx hb dX9_join_153 (tgt := 175) (by decide) (by omega) (fun c_159 => ?_) (fun c_159 => ?_)
                            · exact absurd c_159 (Nat.not_lt_zero _)
                            · refine lv_iload hx hb dX9_join_156 (lv_at hl 0 rfl) ?_
                              refine nb_ifne hx hb dX9_join_158 (tgt := 175) (by decide) (fun c_160 => ?_) (fun c_160 => ?_)
                              · cases c_160
                              · refine lv_iload hx hb dX9_join_161 (lv_at hl 2 rfl) ?_
                                refine zi_gt hx hb ho1 dX9_join_163 (tgt := 175) (by decide) (fun c_161 => ?_) (fun c_161 => ?_)
                                · exact absurd c_161 (by omega)
                                · refine lv_aload_n hx hb dX9_join_166 rfl (lv_at hl 3 rfl) ?_
                                  refine lv_iload_n hx hb dX9_join_167 rfl (lv_at hl 4 rfl) ?_
                                  refine lv_iload hx hb dX9_join_168 (lv_at hl 8 rfl) ?_
                                  refine lv_iload hx hb dX9_join_170 (lv_at hl 7 rfl) ?_
                                  have hct := csum_take (L := Ts t) (i := i) (by omega)
                                  refine rf_callV (C := RX9) (As := [.int (nI t), .int (nI i), .int (nI to)]) (rest := []) (m_append l hT (va_up Ts to Lc) t i to ((Ts t).getD i e0) Lc hRT ht hto hnt (by rw [va_up_ne _ _ hnt]; omega) (by rw [va_up_ne _ _ hnt]) (va_up_self _ _ _) (by omega) (by omega)) ⟨hx, hb, hml, hown, hts⟩ (cwV 3 hts gX9_join_X9_append rfl rfl rfl (by decide +kernel) ⟨Nat.le_of_ble_eq_true rfl, Nat.le_of_ble_eq_true rfl⟩) hK hR (r_recv hK hR.1) rfl hl.1 rfl (Nat.le_of_ble_eq_true rfl) dX9_join_172 ⟨Nat.le_of_ble_eq_true rfl, Nat.le_of_ble_eq_true rfl⟩ (fun r_162 w_r_162 H locs hr_162 hR => ?_)
                                  obtain ⟨rfl, g_many_163, g_bytes_163, g_kinds_163, g_modes_163, g_times_163, g_paths_163, g_contentAt_163, g_contents_163, g_path_163, g_content_163, rfl, hRT⟩ := hr_162
                                  rw [bx_uu] at hRT
                                  refine lv_iload hx hb dX9_join_175 (lv_at hl 10 rfl) ?_
                                  refine lv_iload hx hb dX9_join_177 (lv_at hl 1 rfl) ?_
                                  refine nb_ifeq hx hb dX9_join_179 (tgt := 186) (by decide) (fun c_164 => ?_) (fun c_164 => ?_)
                                  · refine lv_iconst (v := nI 0) hx hb dX9_join_186 rfl ?_
                                    refine nn_add0 hx hb dX9_join_187 ?_
                                    refine lv_istore (lv' := [(7, .int (nI n)), (10, .int (bI false)), (9, .int (bI false)), (8, .int o1), (0, .ref x), (1, .int (nI t)), (2, .int (nI u)), (3, .int (nI dn)), (4, .int (nI to)), (5, .int (nI i)), (6, .int (nI j))]) hx hb dX9_join_188 hl (by decide) rfl (fun ls hl => ?_)
                                    refine lv_iload hx hb dX9_join_190 (lv_at hl 9 rfl) ?_
                                    refine lv_iload hx hb dX9_join_192 (lv_at hl 3 rfl) ?_
                                    refine zi_gt hx hb ho1 dX9_join_194 (tgt := 201) (by decide) (fun c_165 => ?_) (fun c_165 => ?_)
                                    · exact absurd c_165 (by omega)
                                    · refine lv_iconst (v := nI 1) hx hb dX9_join_197 rfl ?_
                                      refine lv_goto (tgt := 202) hx hb dX9_join_198 (by decide) ?_
                                      refine nn_add hx hb dX9_join_202 ?_
                                      refine lv_istore (lv' := [(5, .int (nI (i + 1))), (7, .int (nI n)), (10, .int (bI false)), (9, .int (bI false)), (8, .int o1), (0, .ref x), (1, .int (nI t)), (2, .int (nI u)), (3, .int (nI dn)), (4, .int (nI to)), (6, .int (nI j))]) hx hb dX9_join_203 hl (by decide) rfl (fun ls hl => ?_)
                                      refine lv_iload hx hb dX9_join_205 (lv_at hl 10 rfl) ?_
                                      refine lv_iload hx hb dX9_join_207 (lv_at hl 4 rfl) ?_
                                      refine zi_lt hx hb ho1 dX9_join_209 (tgt := 216) (by decide) (fun c_166 => ?_) (fun c_166 => ?_)
                                      · exact absurd c_166 (by omega)
                                      · refine lv_iconst (v := nI 1) hx hb dX9_join_212 rfl ?_
                                        refine lv_goto (tgt := 217) hx hb dX9_join_213 (by decide) ?_
                                        refine nn_add hx hb dX9_join_217 ?_
                                        refine lv_istore (lv' := [(6, .int (nI (j + 1))), (5, .int (nI (i + 1))), (7, .int (nI n)), (10, .int (bI false)), (9, .int (bI false)), (8, .int o1), (0, .ref x), (1, .int (nI t)), (2, .int (nI u)), (3, .int (nI dn)), (4, .int (nI to))]) hx hb dX9_join_218 hl (by decide) rfl (fun ls hl => ?_)
                                        refine lv_goto (tgt := 20) hx hb dX9_join_220 (by decide) ?_
                                        have hJ := jn_E (S := Ts t) (T := Ts u) (i := i) (j := j) (d := dn - n) (by omega) (by omega) hz (of_decide_eq_true (by assumption))
                                        rw [hJ] at hcnt hlst
                                        dsimp only at hcnt hlst
                                        have hk1 := csum_tk (L := Ts t) (i := i) (by omega)
                                        have hk2 := csum_tk (L := Ts u) (i := j) (by omega)
                                        have hk3 := csum_a1 Lc ((Ts t).getD i e0)
                                        have hk4 : (Lc ++ [((Ts t).getD i e0)]).length = Lc.length + 1 := by simp
                                        exact ih_20 (i + 1) (j + 1) n (Lc ++ [((Ts t).getD i e0)]) g_many_163 g_bytes_163 g_kinds_163 g_modes_163 g_times_163 g_paths_163 g_contentAt_163 g_contents_163 g_path_163 g_content_163 _ _ _ (by omega) (by omega) (by omega) (by omega) (by omega) (by rw [hlst]; simp) (by omega) (by omega) hRT hR (lv_sub hl [6, 7, 8, 9, 10, 1, 0, 2] rfl)
                                  · cases c_164
                          · cases c_158
                      · cases c_156
                    · refine lv_iconst (v := bI true) hx hb dX9_join_102 rfl ?_
                      refine lv_goto (tgt := 107) hx hb dX9_join_103 (by decide) ?_
                      refine lv_istore (lv' := [(9, .int (bI true)), (8, .int o1), (0, .ref x), (1, .int (nI t)), (2, .int (nI u)), (3, .int (nI dn)), (4, .int (nI to)), (5, .int (nI i)), (6, .int (nI j)), (7, .int (nI n))]) hx hb dX9_join_107 hl (by decide) rfl (fun ls hl => ?_)
                      refine lv_iload hx hb dX9_join_109 (lv_at hl 0 rfl) ?_
                      refine nb_ifeq hx hb dX9_join_111 (tgt := 124) (by decide) (fun c_167 => ?_) (fun c_167 => ?_)
                      · cases c_167
                      · refine lv_iload hx hb dX9_join_114 (lv_at hl 9 rfl) ?_
                        refine lv_iload_n hx hb dX9_join_116 rfl (lv_at hl 5 rfl) ?_
                        refine nn_ge hx hb dX9_join_117 (tgt := 124) (by decide) (by omega) (by omega) (fun c_168 => ?_) (fun c_168 => ?_)
                        · refine lv_iconst (v := bI false) hx hb dX9_join_124 rfl ?_
                          refine lv_istore (lv' := [(10, .int (bI false)), (9, .int (bI true)), (8, .int o1), (0, .ref x), (1, .int (nI t)), (2, .int (nI u)), (3, .int (nI dn)), (4, .int (nI to)), (5, .int (nI i)), (6, .int (nI j)), (7, .int (nI n))]) hx hb dX9_join_125 hl (by decide) rfl (fun ls hl => ?_)
                          refine lv_iload hx hb dX9_join_127 (lv_at hl 7 rfl) ?_
                          refine nz_lt hx hb dX9_join_129 (tgt := 151) (by decide) (by omega) (fun c_169 => ?_) (fun c_169 => ?_)
                          · exact absurd c_169 (Nat.not_lt_zero _)
                          · refine lv_iload hx hb dX9_join_132 (lv_at hl 0 rfl) ?_
                            refine nb_ifeq hx hb dX9_join_134 (tgt := 151) (by decide) (fun c_170 => ?_) (fun c_170 => ?_)
                            · refine lv_iload hx hb dX9_join_151 (lv_at hl 7 rfl) ?_
                              refine nz_lt hx hb dX9_join_153 (tgt := 175) (by decide) (by omega) (fun c_171 => ?_) (fun c_171 => ?_)
                              · exact absurd c_171 (Nat.not_lt_zero _)
                              · refine lv_iload hx hb dX9_join_156 (lv_at hl 0 rfl) ?_
                                refine nb_ifne hx hb dX9_join_158 (tgt := 175) (by decide) (fun c_172 => ?_) (fun c_172 => ?_)
                                · cases c_172
                                · refine lv_iload hx hb dX9_join_161 (lv_at hl 2 rfl) ?_
                                  refine zi_gt hx hb ho1 dX9_join_163 (tgt := 175) (by decide) (fun c_173 => ?_) (fun c_173 => ?_)
                                  · exact absurd c_173 (by omega)
                                  · refine lv_aload_n hx hb dX9_join_166 rfl (lv_at hl 3 rfl) ?_
                                    refine lv_iload_n hx hb dX9_join_167 rfl (lv_at hl 4 rfl) ?_
                                    refine lv_iload hx hb dX9_join_168 (lv_at hl 8 rfl) ?_
                                    refine lv_iload hx hb dX9_join_170 (lv_at hl 7 rfl) ?_
                                    have hct := csum_take (L := Ts t) (i := i) (by omega)
                                    refine rf_callV (C := RX9) (As := [.int (nI t), .int (nI i), .int (nI to)]) (rest := []) (m_append l hT (va_up Ts to Lc) t i to ((Ts t).getD i e0) Lc hRT ht hto hnt (by rw [va_up_ne _ _ hnt]; omega) (by rw [va_up_ne _ _ hnt]) (va_up_self _ _ _) (by omega) (by omega)) ⟨hx, hb, hml, hown, hts⟩ (cwV 3 hts gX9_join_X9_append rfl rfl rfl (by decide +kernel) ⟨Nat.le_of_ble_eq_true rfl, Nat.le_of_ble_eq_true rfl⟩) hK hR (r_recv hK hR.1) rfl hl.1 rfl (Nat.le_of_ble_eq_true rfl) dX9_join_172 ⟨Nat.le_of_ble_eq_true rfl, Nat.le_of_ble_eq_true rfl⟩ (fun r_174 w_r_174 H locs hr_174 hR => ?_)
                                    obtain ⟨rfl, g_many_175, g_bytes_175, g_kinds_175, g_modes_175, g_times_175, g_paths_175, g_contentAt_175, g_contents_175, g_path_175, g_content_175, rfl, hRT⟩ := hr_174
                                    rw [bx_uu] at hRT
                                    refine lv_iload hx hb dX9_join_175 (lv_at hl 10 rfl) ?_
                                    refine lv_iload hx hb dX9_join_177 (lv_at hl 1 rfl) ?_
                                    refine nb_ifeq hx hb dX9_join_179 (tgt := 186) (by decide) (fun c_176 => ?_) (fun c_176 => ?_)
                                    · cases c_176
                                    · refine lv_iconst (v := nI 1) hx hb dX9_join_182 rfl ?_
                                      refine lv_goto (tgt := 187) hx hb dX9_join_183 (by decide) ?_
                                      refine nn_add hx hb dX9_join_187 ?_
                                      refine lv_istore (lv' := [(7, .int (nI (n + 1))), (10, .int (bI false)), (9, .int (bI true)), (8, .int o1), (0, .ref x), (1, .int (nI t)), (2, .int (nI u)), (3, .int (nI dn)), (4, .int (nI to)), (5, .int (nI i)), (6, .int (nI j))]) hx hb dX9_join_188 hl (by decide) rfl (fun ls hl => ?_)
                                      refine lv_iload hx hb dX9_join_190 (lv_at hl 9 rfl) ?_
                                      refine lv_iload hx hb dX9_join_192 (lv_at hl 3 rfl) ?_
                                      refine zi_gt hx hb ho1 dX9_join_194 (tgt := 201) (by decide) (fun c_177 => ?_) (fun c_177 => ?_)
                                      · exact absurd c_177 (by omega)
                                      · refine lv_iconst (v := nI 1) hx hb dX9_join_197 rfl ?_
                                        refine lv_goto (tgt := 202) hx hb dX9_join_198 (by decide) ?_
                                        refine nn_add hx hb dX9_join_202 ?_
                                        refine lv_istore (lv' := [(5, .int (nI (i + 1))), (7, .int (nI (n + 1))), (10, .int (bI false)), (9, .int (bI true)), (8, .int o1), (0, .ref x), (1, .int (nI t)), (2, .int (nI u)), (3, .int (nI dn)), (4, .int (nI to)), (6, .int (nI j))]) hx hb dX9_join_203 hl (by decide) rfl (fun ls hl => ?_)
                                        refine lv_iload hx hb dX9_join_205 (lv_at hl 10 rfl) ?_
                                        refine lv_iload hx hb dX9_join_207 (lv_at hl 4 rfl) ?_
                                        refine zi_lt hx hb ho1 dX9_join_209 (tgt := 216) (by decide) (fun c_178 => ?_) (fun c_178 => ?_)
                                        · exact absurd c_178 (by omega)
                                        · refine lv_iconst (v := nI 1) hx hb dX9_join_212 rfl ?_
                                          refine lv_goto (tgt := 217) hx hb dX9_join_213 (by decide) ?_
                                          refine nn_add hx hb dX9_join_217 ?_
                                          refine lv_istore (lv' := [(6, .int (nI (j + 1))), (5, .int (nI (i + 1))), (7, .int (nI (n + 1))), (10, .int (bI false)), (9, .int (bI true)), (8, .int o1), (0, .ref x), (1, .int (nI t)), (2, .int (nI u)), (3, .int (nI dn)), (4, .int (nI to))]) hx hb dX9_join_218 hl (by decide) rfl (fun ls hl => ?_)
                                          refine lv_goto (tgt := 20) hx hb dX9_join_220 (by decide) ?_
                                          have hJ := jn_C (S := Ts t) (T := Ts u) (i := i) (j := j) (d := dn - n) (by omega) (by omega) hz (of_decide_eq_false (by assumption))
                                          rw [if_neg (by omega), Nat.sub_sub] at hJ
                                          rw [hJ] at hcnt hlst
                                          dsimp only at hcnt hlst
                                          have hk1 := csum_tk (L := Ts t) (i := i) (by omega)
                                          have hk2 := csum_tk (L := Ts u) (i := j) (by omega)
                                          have hk3 := csum_a1 Lc ((Ts t).getD i e0)
                                          have hk4 : (Lc ++ [((Ts t).getD i e0)]).length = Lc.length + 1 := by simp
                                          exact ih_20 (i + 1) (j + 1) (n + 1) (Lc ++ [((Ts t).getD i e0)]) g_many_175 g_bytes_175 g_kinds_175 g_modes_175 g_times_175 g_paths_175 g_contentAt_175 g_contents_175 g_path_175 g_content_175 _ _ _ (by omega) (by omega) (by omega) (by omega) (by omega) (by rw [hlst]; simp) (by omega) (by omega) hRT hR (lv_sub hl [6, 7, 8, 9, 10, 1, 0, 2] rfl)
                            · cases c_170
                        · refine lv_iconst (v := bI true) hx hb dX9_join_120 rfl ?_
                          refine lv_goto (tgt := 125) hx hb dX9_join_121 (by decide) ?_
                          refine lv_istore (lv' := [(10, .int (bI true)), (9, .int (bI true)), (8, .int o1), (0, .ref x), (1, .int (nI t)), (2, .int (nI u)), (3, .int (nI dn)), (4, .int (nI to)), (5, .int (nI i)), (6, .int (nI j)), (7, .int (nI n))]) hx hb dX9_join_125 hl (by decide) rfl (fun ls hl => ?_)
                          refine lv_iload hx hb dX9_join_127 (lv_at hl 7 rfl) ?_
                          refine nz_lt hx hb dX9_join_129 (tgt := 151) (by decide) (by omega) (fun c_179 => ?_) (fun c_179 => ?_)
                          · exact absurd c_179 (Nat.not_lt_zero _)
                          · refine lv_iload hx hb dX9_join_132 (lv_at hl 0 rfl) ?_
                            refine nb_ifeq hx hb dX9_join_134 (tgt := 151) (by decide) (fun c_180 => ?_) (fun c_180 => ?_)
                            · cases c_180
                            · refine lv_iload hx hb dX9_join_137 (lv_at hl 2 rfl) ?_
                              refine zi_lt hx hb ho1 dX9_join_139 (tgt := 151) (by decide) (fun c_181 => ?_) (fun c_181 => ?_)
                              · exact absurd c_181 (by omega)
                              · refine lv_aload_n hx hb dX9_join_142 rfl (lv_at hl 3 rfl) ?_
                                refine lv_iload_n hx hb dX9_join_143 rfl (lv_at hl 5 rfl) ?_
                                refine lv_iload hx hb dX9_join_144 (lv_at hl 9 rfl) ?_
                                refine lv_iload hx hb dX9_join_146 (lv_at hl 7 rfl) ?_
                                have hct := csum_take (L := Ts u) (i := j) (by omega)
                                refine rf_callV (C := RX9) (As := [.int (nI u), .int (nI j), .int (nI to)]) (rest := []) (m_append l hT (va_up Ts to Lc) u j to ((Ts u).getD j e0) Lc hRT hu hto hnu (by rw [va_up_ne _ _ hnu]; omega) (by rw [va_up_ne _ _ hnu]) (va_up_self _ _ _) (by omega) (by omega)) ⟨hx, hb, hml, hown, hts⟩ (cwV 3 hts gX9_join_X9_append rfl rfl rfl (by decide +kernel) ⟨Nat.le_of_ble_eq_true rfl, Nat.le_of_ble_eq_true rfl⟩) hK hR (r_recv hK hR.1) rfl hl.1 rfl (Nat.le_of_ble_eq_true rfl) dX9_join_148 ⟨Nat.le_of_ble_eq_true rfl, Nat.le_of_ble_eq_true rfl⟩ (fun r_182 w_r_182 H locs hr_182 hR => ?_)
                                obtain ⟨rfl, g_many_183, g_bytes_183, g_kinds_183, g_modes_183, g_times_183, g_paths_183, g_contentAt_183, g_contents_183, g_path_183, g_content_183, rfl, hRT⟩ := hr_182
                                rw [bx_uu] at hRT
                                refine lv_iload hx hb dX9_join_151 (lv_at hl 7 rfl) ?_
                                refine nz_lt hx hb dX9_join_153 (tgt := 175) (by decide) (by omega) (fun c_184 => ?_) (fun c_184 => ?_)
                                · exact absurd c_184 (Nat.not_lt_zero _)
                                · refine lv_iload hx hb dX9_join_156 (lv_at hl 0 rfl) ?_
                                  refine nb_ifne hx hb dX9_join_158 (tgt := 175) (by decide) (fun c_185 => ?_) (fun c_185 => ?_)
                                  · refine lv_iload hx hb dX9_join_175 (lv_at hl 10 rfl) ?_
                                    refine lv_iload hx hb dX9_join_177 (lv_at hl 1 rfl) ?_
                                    refine nb_ifeq hx hb dX9_join_179 (tgt := 186) (by decide) (fun c_186 => ?_) (fun c_186 => ?_)
                                    · cases c_186
                                    · refine lv_iconst (v := nI 1) hx hb dX9_join_182 rfl ?_
                                      refine lv_goto (tgt := 187) hx hb dX9_join_183 (by decide) ?_
                                      refine nn_add hx hb dX9_join_187 ?_
                                      refine lv_istore (lv' := [(7, .int (nI (n + 1))), (10, .int (bI true)), (9, .int (bI true)), (8, .int o1), (0, .ref x), (1, .int (nI t)), (2, .int (nI u)), (3, .int (nI dn)), (4, .int (nI to)), (5, .int (nI i)), (6, .int (nI j))]) hx hb dX9_join_188 hl (by decide) rfl (fun ls hl => ?_)
                                      refine lv_iload hx hb dX9_join_190 (lv_at hl 9 rfl) ?_
                                      refine lv_iload hx hb dX9_join_192 (lv_at hl 3 rfl) ?_
                                      refine zi_gt hx hb ho1 dX9_join_194 (tgt := 201) (by decide) (fun c_187 => ?_) (fun c_187 => ?_)
                                      · exact absurd c_187 (by omega)
                                      · refine lv_iconst (v := nI 1) hx hb dX9_join_197 rfl ?_
                                        refine lv_goto (tgt := 202) hx hb dX9_join_198 (by decide) ?_
                                        refine nn_add hx hb dX9_join_202 ?_
                                        refine lv_istore (lv' := [(5, .int (nI (i + 1))), (7, .int (nI (n + 1))), (10, .int (bI true)), (9, .int (bI true)), (8, .int o1), (0, .ref x), (1, .int (nI t)), (2, .int (nI u)), (3, .int (nI dn)), (4, .int (nI to)), (6, .int (nI j))]) hx hb dX9_join_203 hl (by decide) rfl (fun ls hl => ?_)
                                        refine lv_iload hx hb dX9_join_205 (lv_at hl 10 rfl) ?_
                                        refine lv_iload hx hb dX9_join_207 (lv_at hl 4 rfl) ?_
                                        refine zi_lt hx hb ho1 dX9_join_209 (tgt := 216) (by decide) (fun c_188 => ?_) (fun c_188 => ?_)
                                        · exact absurd c_188 (by omega)
                                        · refine lv_iconst (v := nI 1) hx hb dX9_join_212 rfl ?_
                                          refine lv_goto (tgt := 217) hx hb dX9_join_213 (by decide) ?_
                                          refine nn_add hx hb dX9_join_217 ?_
                                          refine lv_istore (lv' := [(6, .int (nI (j + 1))), (5, .int (nI (i + 1))), (7, .int (nI (n + 1))), (10, .int (bI true)), (9, .int (bI true)), (8, .int o1), (0, .ref x), (1, .int (nI t)), (2, .int (nI u)), (3, .int (nI dn)), (4, .int (nI to))]) hx hb dX9_join_218 hl (by decide) rfl (fun ls hl => ?_)
                                          refine lv_goto (tgt := 20) hx hb dX9_join_220 (by decide) ?_
                                          have hJ := jn_C (S := Ts t) (T := Ts u) (i := i) (j := j) (d := dn - n) (by omega) (by omega) hz (of_decide_eq_false (by assumption))
                                          rw [if_pos (by omega), Nat.sub_sub] at hJ
                                          rw [hJ] at hcnt hlst
                                          dsimp only at hcnt hlst
                                          have hk1 := csum_tk (L := Ts t) (i := i) (by omega)
                                          have hk2 := csum_tk (L := Ts u) (i := j) (by omega)
                                          have hk3 := csum_a1 Lc ((Ts u).getD j e0)
                                          have hk4 : (Lc ++ [((Ts u).getD j e0)]).length = Lc.length + 1 := by simp
                                          exact ih_20 (i + 1) (j + 1) (n + 1) (Lc ++ [((Ts u).getD j e0)]) g_many_183 g_bytes_183 g_kinds_183 g_modes_183 g_times_183 g_paths_183 g_contentAt_183 g_contents_183 g_path_183 g_content_183 _ _ _ (by omega) (by omega) (by omega) (by omega) (by omega) (by rw [hlst]; simp) (by omega) (by omega) hRT hR (lv_sub hl [6, 7, 8, 9, 10, 1, 0, 2] rfl)
                                  · cases c_185
                · refine lv_iload hx hb dX9_join_84 (lv_at hl 0 rfl) ?_
                  refine zi_ne hx hb ho1 dX9_join_86 (tgt := 102) (by decide) (fun c_189 => ?_) (fun c_189 => ?_)
                  · refine lv_iconst (v := bI true) hx hb dX9_join_102 rfl ?_
                    refine lv_goto (tgt := 107) hx hb dX9_join_103 (by decide) ?_
                    refine lv_istore (lv' := [(9, .int (bI true)), (8, .int o1), (0, .ref x), (1, .int (nI t)), (2, .int (nI u)), (3, .int (nI dn)), (4, .int (nI to)), (5, .int (nI i)), (6, .int (nI j)), (7, .int (nI n))]) hx hb dX9_join_107 hl (by decide) rfl (fun ls hl => ?_)
                    refine lv_iload hx hb dX9_join_109 (lv_at hl 0 rfl) ?_
                    refine nb_ifeq hx hb dX9_join_111 (tgt := 124) (by decide) (fun c_190 => ?_) (fun c_190 => ?_)
                    · cases c_190
                    · refine lv_iload hx hb dX9_join_114 (lv_at hl 9 rfl) ?_
                      refine lv_iload_n hx hb dX9_join_116 rfl (lv_at hl 5 rfl) ?_
                      refine nn_ge hx hb dX9_join_117 (tgt := 124) (by decide) (by omega) (by omega) (fun c_191 => ?_) (fun c_191 => ?_)
                      · refine lv_iconst (v := bI false) hx hb dX9_join_124 rfl ?_
                        refine lv_istore (lv' := [(10, .int (bI false)), (9, .int (bI true)), (8, .int o1), (0, .ref x), (1, .int (nI t)), (2, .int (nI u)), (3, .int (nI dn)), (4, .int (nI to)), (5, .int (nI i)), (6, .int (nI j)), (7, .int (nI n))]) hx hb dX9_join_125 hl (by decide) rfl (fun ls hl => ?_)
                        refine lv_iload hx hb dX9_join_127 (lv_at hl 7 rfl) ?_
                        refine nz_lt hx hb dX9_join_129 (tgt := 151) (by decide) (by omega) (fun c_192 => ?_) (fun c_192 => ?_)
                        · exact absurd c_192 (Nat.not_lt_zero _)
                        · refine lv_iload hx hb dX9_join_132 (lv_at hl 0 rfl) ?_
                          refine nb_ifeq hx hb dX9_join_134 (tgt := 151) (by decide) (fun c_193 => ?_) (fun c_193 => ?_)
                          · refine lv_iload hx hb dX9_join_151 (lv_at hl 7 rfl) ?_
                            refine nz_lt hx hb dX9_join_153 (tgt := 175) (by decide) (by omega) (fun c_194 => ?_) (fun c_194 => ?_)
                            · exact absurd c_194 (Nat.not_lt_zero _)
                            · refine lv_iload hx hb dX9_join_156 (lv_at hl 0 rfl) ?_
                              refine nb_ifne hx hb dX9_join_158 (tgt := 175) (by decide) (fun c_195 => ?_) (fun c_195 => ?_)
                              · cases c_195
                              · refine lv_iload hx hb dX9_join_161 (lv_at hl 2 rfl) ?_
                                refine zi_gt hx hb ho1 dX9_join_163 (tgt := 175) (by decide) (fun c_196 => ?_) (fun c_196 => ?_)
                                · refine lv_iload hx hb dX9_join_175 (lv_at hl 10 rfl) ?_
                                  refine lv_iload hx hb dX9_join_177 (lv_at hl 1 rfl) ?_
                                  refine nb_ifeq hx hb dX9_join_179 (tgt := 186) (by decide) (fun c_197 => ?_) (fun c_197 => ?_)
                                  · cases c_197
                                  · refine lv_iconst (v := nI 1) hx hb dX9_join_182 rfl ?_
                                    refine lv_goto (tgt := 187) hx hb dX9_join_183 (by decide) ?_
                                    refine nn_add hx hb dX9_join_187 ?_
                                    refine lv_istore (lv' := [(7, .int (nI (n + 1))), (10, .int (bI false)), (9, .int (bI true)), (8, .int o1), (0, .ref x), (1, .int (nI t)), (2, .int (nI u)), (3, .int (nI dn)), (4, .int (nI to)), (5, .int (nI i)), (6, .int (nI j))]) hx hb dX9_join_188 hl (by decide) rfl (fun ls hl => ?_)
                                    refine lv_iload hx hb dX9_join_190 (lv_at hl 9 rfl) ?_
                                    refine lv_iload hx hb dX9_join_192 (lv_at hl 3 rfl) ?_
                                    refine zi_gt hx hb ho1 dX9_join_194 (tgt := 201) (by decide) (fun c_198 => ?_) (fun c_198 => ?_)
                                    · refine lv_iconst (v := nI 0) hx hb dX9_join_201 rfl ?_
                                      refine nn_add0 hx hb dX9_join_202 ?_
                                      refine lv_istore (lv' := [(5, .int (nI i)), (7, .int (nI (n + 1))), (10, .int (bI false)), (9, .int (bI true)), (8, .int o1), (0, .ref x), (1, .int (nI t)), (2, .int (nI u)), (3, .int (nI dn)), (4, .int (nI to)), (6, .int (nI j))]) hx hb dX9_join_203 hl (by decide) rfl (fun ls hl => ?_)
                                      refine lv_iload hx hb dX9_join_205 (lv_at hl 10 rfl) ?_
                                      refine lv_iload hx hb dX9_join_207 (lv_at hl 4 rfl) ?_
                                      refine zi_lt hx hb ho1 dX9_join_209 (tgt := 216) (by decide) (fun c_199 => ?_) (fun c_199 => ?_)
                                      · exact absurd c_199 (by omega)
                                      · refine lv_iconst (v := nI 1) hx hb dX9_join_212 rfl ?_
                                        refine lv_goto (tgt := 217) hx hb dX9_join_213 (by decide) ?_
                                        refine nn_add hx hb dX9_join_217 ?_
                                        refine lv_istore (lv' := [(6, .int (nI (j + 1))), (5, .int (nI i)), (7, .int (nI (n + 1))), (10, .int (bI false)), (9, .int (bI true)), (8, .int o1), (0, .ref x), (1, .int (nI t)), (2, .int (nI u)), (3, .int (nI dn)), (4, .int (nI to))]) hx hb dX9_join_218 hl (by decide) rfl (fun ls hl => ?_)
                                        refine lv_goto (tgt := 20) hx hb dX9_join_220 (by decide) ?_
                                        have hJ := jn_T (S := Ts t) (T := Ts u) (i := i) (j := j) (d := dn - n) (by omega) (by first | exact Or.inl (by omega) | exact Or.inr ⟨by omega, by omega⟩)
                                        rw [if_neg (by omega), Nat.sub_sub] at hJ
                                        rw [hJ] at hcnt hlst
                                        dsimp only at hcnt hlst
                                        have hk2 := csum_tk (L := Ts u) (i := j) (by omega)
                                        exact ih_20 i (j + 1) (n + 1) Lc a_many a_bytes a_kinds a_modes a_times a_paths a_contentAt a_contents a_path a_content _ _ _ (by omega) (by omega) (by omega) (by omega) (by omega) (by rw [hlst]; simp) (by omega) (by omega) hRT hR (lv_sub hl [6, 7, 8, 9, 10, 1, 0, 2] rfl)
                                    · exact absurd c_198 (by omega)
                                · exact absurd c_196 (by omega)
                          · cases c_193
                      · refine lv_iconst (v := bI true) hx hb dX9_join_120 rfl ?_
                        refine lv_goto (tgt := 125) hx hb dX9_join_121 (by decide) ?_
                        refine lv_istore (lv' := [(10, .int (bI true)), (9, .int (bI true)), (8, .int o1), (0, .ref x), (1, .int (nI t)), (2, .int (nI u)), (3, .int (nI dn)), (4, .int (nI to)), (5, .int (nI i)), (6, .int (nI j)), (7, .int (nI n))]) hx hb dX9_join_125 hl (by decide) rfl (fun ls hl => ?_)
                        refine lv_iload hx hb dX9_join_127 (lv_at hl 7 rfl) ?_
                        refine nz_lt hx hb dX9_join_129 (tgt := 151) (by decide) (by omega) (fun c_200 => ?_) (fun c_200 => ?_)
                        · exact absurd c_200 (Nat.not_lt_zero _)
                        · refine lv_iload hx hb dX9_join_132 (lv_at hl 0 rfl) ?_
                          refine nb_ifeq hx hb dX9_join_134 (tgt := 151) (by decide) (fun c_201 => ?_) (fun c_201 => ?_)
                          · cases c_201
                          · refine lv_iload hx hb dX9_join_137 (lv_at hl 2 rfl) ?_
                            refine zi_lt hx hb ho1 dX9_join_139 (tgt := 151) (by decide) (fun c_202 => ?_) (fun c_202 => ?_)
                            · exact absurd c_202 (by omega)
                            · refine lv_aload_n hx hb dX9_join_142 rfl (lv_at hl 3 rfl) ?_
                              refine lv_iload_n hx hb dX9_join_143 rfl (lv_at hl 5 rfl) ?_
                              refine lv_iload hx hb dX9_join_144 (lv_at hl 9 rfl) ?_
                              refine lv_iload hx hb dX9_join_146 (lv_at hl 7 rfl) ?_
                              have hct := csum_take (L := Ts u) (i := j) (by omega)
                              refine rf_callV (C := RX9) (As := [.int (nI u), .int (nI j), .int (nI to)]) (rest := []) (m_append l hT (va_up Ts to Lc) u j to ((Ts u).getD j e0) Lc hRT hu hto hnu (by rw [va_up_ne _ _ hnu]; omega) (by rw [va_up_ne _ _ hnu]) (va_up_self _ _ _) (by omega) (by omega)) ⟨hx, hb, hml, hown, hts⟩ (cwV 3 hts gX9_join_X9_append rfl rfl rfl (by decide +kernel) ⟨Nat.le_of_ble_eq_true rfl, Nat.le_of_ble_eq_true rfl⟩) hK hR (r_recv hK hR.1) rfl hl.1 rfl (Nat.le_of_ble_eq_true rfl) dX9_join_148 ⟨Nat.le_of_ble_eq_true rfl, Nat.le_of_ble_eq_true rfl⟩ (fun r_203 w_r_203 H locs hr_203 hR => ?_)
                              obtain ⟨rfl, g_many_204, g_bytes_204, g_kinds_204, g_modes_204, g_times_204, g_paths_204, g_contentAt_204, g_contents_204, g_path_204, g_content_204, rfl, hRT⟩ := hr_203
                              rw [bx_uu] at hRT
                              refine lv_iload hx hb dX9_join_151 (lv_at hl 7 rfl) ?_
                              refine nz_lt hx hb dX9_join_153 (tgt := 175) (by decide) (by omega) (fun c_205 => ?_) (fun c_205 => ?_)
                              · exact absurd c_205 (Nat.not_lt_zero _)
                              · refine lv_iload hx hb dX9_join_156 (lv_at hl 0 rfl) ?_
                                refine nb_ifne hx hb dX9_join_158 (tgt := 175) (by decide) (fun c_206 => ?_) (fun c_206 => ?_)
                                · refine lv_iload hx hb dX9_join_175 (lv_at hl 10 rfl) ?_
                                  refine lv_iload hx hb dX9_join_177 (lv_at hl 1 rfl) ?_
                                  refine nb_ifeq hx hb dX9_join_179 (tgt := 186) (by decide) (fun c_207 => ?_) (fun c_207 => ?_)
                                  · cases c_207
                                  · refine lv_iconst (v := nI 1) hx hb dX9_join_182 rfl ?_
                                    refine lv_goto (tgt := 187) hx hb dX9_join_183 (by decide) ?_
                                    refine nn_add hx hb dX9_join_187 ?_
                                    refine lv_istore (lv' := [(7, .int (nI (n + 1))), (10, .int (bI true)), (9, .int (bI true)), (8, .int o1), (0, .ref x), (1, .int (nI t)), (2, .int (nI u)), (3, .int (nI dn)), (4, .int (nI to)), (5, .int (nI i)), (6, .int (nI j))]) hx hb dX9_join_188 hl (by decide) rfl (fun ls hl => ?_)
                                    refine lv_iload hx hb dX9_join_190 (lv_at hl 9 rfl) ?_
                                    refine lv_iload hx hb dX9_join_192 (lv_at hl 3 rfl) ?_
                                    refine zi_gt hx hb ho1 dX9_join_194 (tgt := 201) (by decide) (fun c_208 => ?_) (fun c_208 => ?_)
                                    · refine lv_iconst (v := nI 0) hx hb dX9_join_201 rfl ?_
                                      refine nn_add0 hx hb dX9_join_202 ?_
                                      refine lv_istore (lv' := [(5, .int (nI i)), (7, .int (nI (n + 1))), (10, .int (bI true)), (9, .int (bI true)), (8, .int o1), (0, .ref x), (1, .int (nI t)), (2, .int (nI u)), (3, .int (nI dn)), (4, .int (nI to)), (6, .int (nI j))]) hx hb dX9_join_203 hl (by decide) rfl (fun ls hl => ?_)
                                      refine lv_iload hx hb dX9_join_205 (lv_at hl 10 rfl) ?_
                                      refine lv_iload hx hb dX9_join_207 (lv_at hl 4 rfl) ?_
                                      refine zi_lt hx hb ho1 dX9_join_209 (tgt := 216) (by decide) (fun c_209 => ?_) (fun c_209 => ?_)
                                      · exact absurd c_209 (by omega)
                                      · refine lv_iconst (v := nI 1) hx hb dX9_join_212 rfl ?_
                                        refine lv_goto (tgt := 217) hx hb dX9_join_213 (by decide) ?_
                                        refine nn_add hx hb dX9_join_217 ?_
                                        refine lv_istore (lv' := [(6, .int (nI (j + 1))), (5, .int (nI i)), (7, .int (nI (n + 1))), (10, .int (bI true)), (9, .int (bI true)), (8, .int o1), (0, .ref x), (1, .int (nI t)), (2, .int (nI u)), (3, .int (nI dn)), (4, .int (nI to))]) hx hb dX9_join_218 hl (by decide) rfl (fun ls hl => ?_)
                                        refine lv_goto (tgt := 20) hx hb dX9_join_220 (by decide) ?_
                                        have hJ := jn_T (S := Ts t) (T := Ts u) (i := i) (j := j) (d := dn - n) (by omega) (by first | exact Or.inl (by omega) | exact Or.inr ⟨by omega, by omega⟩)
                                        rw [if_pos (by omega), Nat.sub_sub] at hJ
                                        rw [hJ] at hcnt hlst
                                        dsimp only at hcnt hlst
                                        have hk2 := csum_tk (L := Ts u) (i := j) (by omega)
                                        have hk3 := csum_a1 Lc ((Ts u).getD j e0)
                                        have hk4 : (Lc ++ [((Ts u).getD j e0)]).length = Lc.length + 1 := by simp
                                        exact ih_20 i (j + 1) (n + 1) (Lc ++ [((Ts u).getD j e0)]) g_many_204 g_bytes_204 g_kinds_204 g_modes_204 g_times_204 g_paths_204 g_contentAt_204 g_contents_204 g_path_204 g_content_204 _ _ _ (by omega) (by omega) (by omega) (by omega) (by omega) (by rw [hlst]; simp) (by omega) (by omega) hRT hR (lv_sub hl [6, 7, 8, 9, 10, 1, 0, 2] rfl)
                                    · exact absurd c_208 (by omega)
                                · cases c_206
                  · exact absurd c_189 (by omega)
              · refine lv_iconst (v := (-1)) hx hb dX9_join_68 rfl ?_
                refine lv_goto (tgt := 82) hx hb dX9_join_69 (by decide) ?_
                refine lv_istore (lv' := [(8, .int (-1)), (0, .ref x), (1, .int (nI t)), (2, .int (nI u)), (3, .int (nI dn)), (4, .int (nI to)), (5, .int (nI i)), (6, .int (nI j)), (7, .int (nI n))]) hx hb dX9_join_82 hl (by decide) rfl (fun ls hl => ?_)
                refine lv_iload hx hb dX9_join_84 (lv_at hl 0 rfl) ?_
                refine zi_ne hx hb (show (-1 : Int32).toInt = -1 from rfl) dX9_join_86 (tgt := 102) (by decide) (fun c_210 => ?_) (fun c_210 => ?_)
                · refine lv_iconst (v := bI true) hx hb dX9_join_102 rfl ?_
                  refine lv_goto (tgt := 107) hx hb dX9_join_103 (by decide) ?_
                  refine lv_istore (lv' := [(9, .int (bI true)), (8, .int (-1)), (0, .ref x), (1, .int (nI t)), (2, .int (nI u)), (3, .int (nI dn)), (4, .int (nI to)), (5, .int (nI i)), (6, .int (nI j)), (7, .int (nI n))]) hx hb dX9_join_107 hl (by decide) rfl (fun ls hl => ?_)
                  refine lv_iload hx hb dX9_join_109 (lv_at hl 0 rfl) ?_
                  refine nb_ifeq hx hb dX9_join_111 (tgt := 124) (by decide) (fun c_211 => ?_) (fun c_211 => ?_)
                  · cases c_211
                  · refine lv_iload hx hb dX9_join_114 (lv_at hl 9 rfl) ?_
                    refine lv_iload_n hx hb dX9_join_116 rfl (lv_at hl 5 rfl) ?_
                    refine nn_ge hx hb dX9_join_117 (tgt := 124) (by decide) (by omega) (by omega) (fun c_212 => ?_) (fun c_212 => ?_)
                    · refine lv_iconst (v := bI false) hx hb dX9_join_124 rfl ?_
                      refine lv_istore (lv' := [(10, .int (bI false)), (9, .int (bI true)), (8, .int (-1)), (0, .ref x), (1, .int (nI t)), (2, .int (nI u)), (3, .int (nI dn)), (4, .int (nI to)), (5, .int (nI i)), (6, .int (nI j)), (7, .int (nI n))]) hx hb dX9_join_125 hl (by decide) rfl (fun ls hl => ?_)
                      refine lv_iload hx hb dX9_join_127 (lv_at hl 7 rfl) ?_
                      refine nz_lt hx hb dX9_join_129 (tgt := 151) (by decide) (by omega) (fun c_213 => ?_) (fun c_213 => ?_)
                      · exact absurd c_213 (Nat.not_lt_zero _)
                      · refine lv_iload hx hb dX9_join_132 (lv_at hl 0 rfl) ?_
                        refine nb_ifeq hx hb dX9_join_134 (tgt := 151) (by decide) (fun c_214 => ?_) (fun c_214 => ?_)
                        · refine lv_iload hx hb dX9_join_151 (lv_at hl 7 rfl) ?_
                          refine nz_lt hx hb dX9_join_153 (tgt := 175) (by decide) (by omega) (fun c_215 => ?_) (fun c_215 => ?_)
                          · exact absurd c_215 (Nat.not_lt_zero _)
                          · refine lv_iload hx hb dX9_join_156 (lv_at hl 0 rfl) ?_
                            refine nb_ifne hx hb dX9_join_158 (tgt := 175) (by decide) (fun c_216 => ?_) (fun c_216 => ?_)
                            · cases c_216
                            · refine lv_iload hx hb dX9_join_161 (lv_at hl 2 rfl) ?_
                              refine zi_gt hx hb (show (-1 : Int32).toInt = -1 from rfl) dX9_join_163 (tgt := 175) (by decide) (fun c_217 => ?_) (fun c_217 => ?_)
                              · exact absurd c_217 (by omega)
                              · refine lv_aload_n hx hb dX9_join_166 rfl (lv_at hl 3 rfl) ?_
                                refine lv_iload_n hx hb dX9_join_167 rfl (lv_at hl 4 rfl) ?_
                                refine lv_iload hx hb dX9_join_168 (lv_at hl 8 rfl) ?_
                                refine lv_iload hx hb dX9_join_170 (lv_at hl 7 rfl) ?_
                                have hct := csum_take (L := Ts t) (i := i) (by omega)
                                refine rf_callV (C := RX9) (As := [.int (nI t), .int (nI i), .int (nI to)]) (rest := []) (m_append l hT (va_up Ts to Lc) t i to ((Ts t).getD i e0) Lc hRT ht hto hnt (by rw [va_up_ne _ _ hnt]; omega) (by rw [va_up_ne _ _ hnt]) (va_up_self _ _ _) (by omega) (by omega)) ⟨hx, hb, hml, hown, hts⟩ (cwV 3 hts gX9_join_X9_append rfl rfl rfl (by decide +kernel) ⟨Nat.le_of_ble_eq_true rfl, Nat.le_of_ble_eq_true rfl⟩) hK hR (r_recv hK hR.1) rfl hl.1 rfl (Nat.le_of_ble_eq_true rfl) dX9_join_172 ⟨Nat.le_of_ble_eq_true rfl, Nat.le_of_ble_eq_true rfl⟩ (fun r_218 w_r_218 H locs hr_218 hR => ?_)
                                obtain ⟨rfl, g_many_219, g_bytes_219, g_kinds_219, g_modes_219, g_times_219, g_paths_219, g_contentAt_219, g_contents_219, g_path_219, g_content_219, rfl, hRT⟩ := hr_218
                                rw [bx_uu] at hRT
                                refine lv_iload hx hb dX9_join_175 (lv_at hl 10 rfl) ?_
                                refine lv_iload hx hb dX9_join_177 (lv_at hl 1 rfl) ?_
                                refine nb_ifeq hx hb dX9_join_179 (tgt := 186) (by decide) (fun c_220 => ?_) (fun c_220 => ?_)
                                · cases c_220
                                · refine lv_iconst (v := nI 1) hx hb dX9_join_182 rfl ?_
                                  refine lv_goto (tgt := 187) hx hb dX9_join_183 (by decide) ?_
                                  refine nn_add hx hb dX9_join_187 ?_
                                  refine lv_istore (lv' := [(7, .int (nI (n + 1))), (10, .int (bI false)), (9, .int (bI true)), (8, .int (-1)), (0, .ref x), (1, .int (nI t)), (2, .int (nI u)), (3, .int (nI dn)), (4, .int (nI to)), (5, .int (nI i)), (6, .int (nI j))]) hx hb dX9_join_188 hl (by decide) rfl (fun ls hl => ?_)
                                  refine lv_iload hx hb dX9_join_190 (lv_at hl 9 rfl) ?_
                                  refine lv_iload hx hb dX9_join_192 (lv_at hl 3 rfl) ?_
                                  refine zi_gt hx hb (show (-1 : Int32).toInt = -1 from rfl) dX9_join_194 (tgt := 201) (by decide) (fun c_221 => ?_) (fun c_221 => ?_)
                                  · exact absurd c_221 (by omega)
                                  · refine lv_iconst (v := nI 1) hx hb dX9_join_197 rfl ?_
                                    refine lv_goto (tgt := 202) hx hb dX9_join_198 (by decide) ?_
                                    refine nn_add hx hb dX9_join_202 ?_
                                    refine lv_istore (lv' := [(5, .int (nI (i + 1))), (7, .int (nI (n + 1))), (10, .int (bI false)), (9, .int (bI true)), (8, .int (-1)), (0, .ref x), (1, .int (nI t)), (2, .int (nI u)), (3, .int (nI dn)), (4, .int (nI to)), (6, .int (nI j))]) hx hb dX9_join_203 hl (by decide) rfl (fun ls hl => ?_)
                                    refine lv_iload hx hb dX9_join_205 (lv_at hl 10 rfl) ?_
                                    refine lv_iload hx hb dX9_join_207 (lv_at hl 4 rfl) ?_
                                    refine zi_lt hx hb (show (-1 : Int32).toInt = -1 from rfl) dX9_join_209 (tgt := 216) (by decide) (fun c_222 => ?_) (fun c_222 => ?_)
                                    · refine lv_iconst (v := nI 0) hx hb dX9_join_216 rfl ?_
                                      refine nn_add0 hx hb dX9_join_217 ?_
                                      refine lv_istore (lv' := [(6, .int (nI j)), (5, .int (nI (i + 1))), (7, .int (nI (n + 1))), (10, .int (bI false)), (9, .int (bI true)), (8, .int (-1)), (0, .ref x), (1, .int (nI t)), (2, .int (nI u)), (3, .int (nI dn)), (4, .int (nI to))]) hx hb dX9_join_218 hl (by decide) rfl (fun ls hl => ?_)
                                      refine lv_goto (tgt := 20) hx hb dX9_join_220 (by decide) ?_
                                      have hJ := jn_S (S := Ts t) (T := Ts u) (i := i) (j := j) (d := dn - n) (by omega) (by first | exact Or.inl (by omega) | exact Or.inr ⟨by omega, by omega⟩)
                                      rw [if_neg (by omega), Nat.sub_sub] at hJ
                                      rw [hJ] at hcnt hlst
                                      dsimp only at hcnt hlst
                                      have hk1 := csum_tk (L := Ts t) (i := i) (by omega)
                                      have hk3 := csum_a1 Lc ((Ts t).getD i e0)
                                      have hk4 : (Lc ++ [((Ts t).getD i e0)]).length = Lc.length + 1 := by simp
                                      exact ih_20 (i + 1) j (n + 1) (Lc ++ [((Ts t).getD i e0)]) g_many_219 g_bytes_219 g_kinds_219 g_modes_219 g_times_219 g_paths_219 g_contentAt_219 g_contents_219 g_path_219 g_content_219 _ _ _ (by omega) (by omega) (by omega) (by omega) (by omega) (by rw [hlst]; simp) (by omega) (by omega) hRT hR (lv_sub hl [6, 7, 8, 9, 10, 1, 0, 2] rfl)
                                    · exact absurd c_222 (by omega)
                        · cases c_214
                    · refine lv_iconst (v := bI true) hx hb dX9_join_120 rfl ?_
                      refine lv_goto (tgt := 125) hx hb dX9_join_121 (by decide) ?_
                      refine lv_istore (lv' := [(10, .int (bI true)), (9, .int (bI true)), (8, .int (-1)), (0, .ref x), (1, .int (nI t)), (2, .int (nI u)), (3, .int (nI dn)), (4, .int (nI to)), (5, .int (nI i)), (6, .int (nI j)), (7, .int (nI n))]) hx hb dX9_join_125 hl (by decide) rfl (fun ls hl => ?_)
                      refine lv_iload hx hb dX9_join_127 (lv_at hl 7 rfl) ?_
                      refine nz_lt hx hb dX9_join_129 (tgt := 151) (by decide) (by omega) (fun c_223 => ?_) (fun c_223 => ?_)
                      · exact absurd c_223 (Nat.not_lt_zero _)
                      · refine lv_iload hx hb dX9_join_132 (lv_at hl 0 rfl) ?_
                        refine nb_ifeq hx hb dX9_join_134 (tgt := 151) (by decide) (fun c_224 => ?_) (fun c_224 => ?_)
                        · cases c_224
                        · refine lv_iload hx hb dX9_join_137 (lv_at hl 2 rfl) ?_
                          refine zi_lt hx hb (show (-1 : Int32).toInt = -1 from rfl) dX9_join_139 (tgt := 151) (by decide) (fun c_225 => ?_) (fun c_225 => ?_)
                          · refine lv_iload hx hb dX9_join_151 (lv_at hl 7 rfl) ?_
                            refine nz_lt hx hb dX9_join_153 (tgt := 175) (by decide) (by omega) (fun c_226 => ?_) (fun c_226 => ?_)
                            · exact absurd c_226 (Nat.not_lt_zero _)
                            · refine lv_iload hx hb dX9_join_156 (lv_at hl 0 rfl) ?_
                              refine nb_ifne hx hb dX9_join_158 (tgt := 175) (by decide) (fun c_227 => ?_) (fun c_227 => ?_)
                              · refine lv_iload hx hb dX9_join_175 (lv_at hl 10 rfl) ?_
                                refine lv_iload hx hb dX9_join_177 (lv_at hl 1 rfl) ?_
                                refine nb_ifeq hx hb dX9_join_179 (tgt := 186) (by decide) (fun c_228 => ?_) (fun c_228 => ?_)
                                · cases c_228
                                · refine lv_iconst (v := nI 1) hx hb dX9_join_182 rfl ?_
                                  refine lv_goto (tgt := 187) hx hb dX9_join_183 (by decide) ?_
                                  refine nn_add hx hb dX9_join_187 ?_
                                  refine lv_istore (lv' := [(7, .int (nI (n + 1))), (10, .int (bI true)), (9, .int (bI true)), (8, .int (-1)), (0, .ref x), (1, .int (nI t)), (2, .int (nI u)), (3, .int (nI dn)), (4, .int (nI to)), (5, .int (nI i)), (6, .int (nI j))]) hx hb dX9_join_188 hl (by decide) rfl (fun ls hl => ?_)
                                  refine lv_iload hx hb dX9_join_190 (lv_at hl 9 rfl) ?_
                                  refine lv_iload hx hb dX9_join_192 (lv_at hl 3 rfl) ?_
                                  refine zi_gt hx hb (show (-1 : Int32).toInt = -1 from rfl) dX9_join_194 (tgt := 201) (by decide) (fun c_229 => ?_) (fun c_229 => ?_)
                                  · exact absurd c_229 (by omega)
                                  · refine lv_iconst (v := nI 1) hx hb dX9_join_197 rfl ?_
                                    refine lv_goto (tgt := 202) hx hb dX9_join_198 (by decide) ?_
                                    refine nn_add hx hb dX9_join_202 ?_
                                    refine lv_istore (lv' := [(5, .int (nI (i + 1))), (7, .int (nI (n + 1))), (10, .int (bI true)), (9, .int (bI true)), (8, .int (-1)), (0, .ref x), (1, .int (nI t)), (2, .int (nI u)), (3, .int (nI dn)), (4, .int (nI to)), (6, .int (nI j))]) hx hb dX9_join_203 hl (by decide) rfl (fun ls hl => ?_)
                                    refine lv_iload hx hb dX9_join_205 (lv_at hl 10 rfl) ?_
                                    refine lv_iload hx hb dX9_join_207 (lv_at hl 4 rfl) ?_
                                    refine zi_lt hx hb (show (-1 : Int32).toInt = -1 from rfl) dX9_join_209 (tgt := 216) (by decide) (fun c_230 => ?_) (fun c_230 => ?_)
                                    · refine lv_iconst (v := nI 0) hx hb dX9_join_216 rfl ?_
                                      refine nn_add0 hx hb dX9_join_217 ?_
                                      refine lv_istore (lv' := [(6, .int (nI j)), (5, .int (nI (i + 1))), (7, .int (nI (n + 1))), (10, .int (bI true)), (9, .int (bI true)), (8, .int (-1)), (0, .ref x), (1, .int (nI t)), (2, .int (nI u)), (3, .int (nI dn)), (4, .int (nI to))]) hx hb dX9_join_218 hl (by decide) rfl (fun ls hl => ?_)
                                      refine lv_goto (tgt := 20) hx hb dX9_join_220 (by decide) ?_
                                      have hJ := jn_S (S := Ts t) (T := Ts u) (i := i) (j := j) (d := dn - n) (by omega) (by first | exact Or.inl (by omega) | exact Or.inr ⟨by omega, by omega⟩)
                                      rw [if_pos (by omega), Nat.sub_sub] at hJ
                                      rw [hJ] at hcnt hlst
                                      dsimp only at hcnt hlst
                                      have hk1 := csum_tk (L := Ts t) (i := i) (by omega)
                                      exact ih_20 (i + 1) j (n + 1) Lc a_many a_bytes a_kinds a_modes a_times a_paths a_contentAt a_contents a_path a_content _ _ _ (by omega) (by omega) (by omega) (by omega) (by omega) (by rw [hlst]; simp) (by omega) (by omega) hRT hR (lv_sub hl [6, 7, 8, 9, 10, 1, 0, 2] rfl)
                                    · exact absurd c_230 (by omega)
                              · cases c_227
                          · exact absurd c_225 (by omega)
                · exact absurd c_210 (by omega)
            · refine lv_iconst (v := nI 1) hx hb dX9_join_53 rfl ?_
              refine lv_goto (tgt := 82) hx hb dX9_join_54 (by decide) ?_
              refine lv_istore (lv' := [(8, .int (nI 1)), (0, .ref x), (1, .int (nI t)), (2, .int (nI u)), (3, .int (nI dn)), (4, .int (nI to)), (5, .int (nI i)), (6, .int (nI j)), (7, .int (nI n))]) hx hb dX9_join_82 hl (by decide) rfl (fun ls hl => ?_)
              refine lv_iload hx hb dX9_join_84 (lv_at hl 0 rfl) ?_
              refine zi_ne hx hb (show (nI 1).toInt = 1 from rfl) dX9_join_86 (tgt := 102) (by decide) (fun c_231 => ?_) (fun c_231 => ?_)
              · refine lv_iconst (v := bI true) hx hb dX9_join_102 rfl ?_
                refine lv_goto (tgt := 107) hx hb dX9_join_103 (by decide) ?_
                refine lv_istore (lv' := [(9, .int (bI true)), (8, .int (nI 1)), (0, .ref x), (1, .int (nI t)), (2, .int (nI u)), (3, .int (nI dn)), (4, .int (nI to)), (5, .int (nI i)), (6, .int (nI j)), (7, .int (nI n))]) hx hb dX9_join_107 hl (by decide) rfl (fun ls hl => ?_)
                refine lv_iload hx hb dX9_join_109 (lv_at hl 0 rfl) ?_
                refine nb_ifeq hx hb dX9_join_111 (tgt := 124) (by decide) (fun c_232 => ?_) (fun c_232 => ?_)
                · cases c_232
                · refine lv_iload hx hb dX9_join_114 (lv_at hl 9 rfl) ?_
                  refine lv_iload_n hx hb dX9_join_116 rfl (lv_at hl 5 rfl) ?_
                  refine nn_ge hx hb dX9_join_117 (tgt := 124) (by decide) (by omega) (by omega) (fun c_233 => ?_) (fun c_233 => ?_)
                  · refine lv_iconst (v := bI false) hx hb dX9_join_124 rfl ?_
                    refine lv_istore (lv' := [(10, .int (bI false)), (9, .int (bI true)), (8, .int (nI 1)), (0, .ref x), (1, .int (nI t)), (2, .int (nI u)), (3, .int (nI dn)), (4, .int (nI to)), (5, .int (nI i)), (6, .int (nI j)), (7, .int (nI n))]) hx hb dX9_join_125 hl (by decide) rfl (fun ls hl => ?_)
                    refine lv_iload hx hb dX9_join_127 (lv_at hl 7 rfl) ?_
                    refine nz_lt hx hb dX9_join_129 (tgt := 151) (by decide) (by omega) (fun c_234 => ?_) (fun c_234 => ?_)
                    · exact absurd c_234 (Nat.not_lt_zero _)
                    · refine lv_iload hx hb dX9_join_132 (lv_at hl 0 rfl) ?_
                      refine nb_ifeq hx hb dX9_join_134 (tgt := 151) (by decide) (fun c_235 => ?_) (fun c_235 => ?_)
                      · refine lv_iload hx hb dX9_join_151 (lv_at hl 7 rfl) ?_
                        refine nz_lt hx hb dX9_join_153 (tgt := 175) (by decide) (by omega) (fun c_236 => ?_) (fun c_236 => ?_)
                        · exact absurd c_236 (Nat.not_lt_zero _)
                        · refine lv_iload hx hb dX9_join_156 (lv_at hl 0 rfl) ?_
                          refine nb_ifne hx hb dX9_join_158 (tgt := 175) (by decide) (fun c_237 => ?_) (fun c_237 => ?_)
                          · cases c_237
                          · refine lv_iload hx hb dX9_join_161 (lv_at hl 2 rfl) ?_
                            refine zi_gt hx hb (show (nI 1).toInt = 1 from rfl) dX9_join_163 (tgt := 175) (by decide) (fun c_238 => ?_) (fun c_238 => ?_)
                            · refine lv_iload hx hb dX9_join_175 (lv_at hl 10 rfl) ?_
                              refine lv_iload hx hb dX9_join_177 (lv_at hl 1 rfl) ?_
                              refine nb_ifeq hx hb dX9_join_179 (tgt := 186) (by decide) (fun c_239 => ?_) (fun c_239 => ?_)
                              · cases c_239
                              · refine lv_iconst (v := nI 1) hx hb dX9_join_182 rfl ?_
                                refine lv_goto (tgt := 187) hx hb dX9_join_183 (by decide) ?_
                                refine nn_add hx hb dX9_join_187 ?_
                                refine lv_istore (lv' := [(7, .int (nI (n + 1))), (10, .int (bI false)), (9, .int (bI true)), (8, .int (nI 1)), (0, .ref x), (1, .int (nI t)), (2, .int (nI u)), (3, .int (nI dn)), (4, .int (nI to)), (5, .int (nI i)), (6, .int (nI j))]) hx hb dX9_join_188 hl (by decide) rfl (fun ls hl => ?_)
                                refine lv_iload hx hb dX9_join_190 (lv_at hl 9 rfl) ?_
                                refine lv_iload hx hb dX9_join_192 (lv_at hl 3 rfl) ?_
                                refine zi_gt hx hb (show (nI 1).toInt = 1 from rfl) dX9_join_194 (tgt := 201) (by decide) (fun c_240 => ?_) (fun c_240 => ?_)
                                · refine lv_iconst (v := nI 0) hx hb dX9_join_201 rfl ?_
                                  refine nn_add0 hx hb dX9_join_202 ?_
                                  refine lv_istore (lv' := [(5, .int (nI i)), (7, .int (nI (n + 1))), (10, .int (bI false)), (9, .int (bI true)), (8, .int (nI 1)), (0, .ref x), (1, .int (nI t)), (2, .int (nI u)), (3, .int (nI dn)), (4, .int (nI to)), (6, .int (nI j))]) hx hb dX9_join_203 hl (by decide) rfl (fun ls hl => ?_)
                                  refine lv_iload hx hb dX9_join_205 (lv_at hl 10 rfl) ?_
                                  refine lv_iload hx hb dX9_join_207 (lv_at hl 4 rfl) ?_
                                  refine zi_lt hx hb (show (nI 1).toInt = 1 from rfl) dX9_join_209 (tgt := 216) (by decide) (fun c_241 => ?_) (fun c_241 => ?_)
                                  · exact absurd c_241 (by omega)
                                  · refine lv_iconst (v := nI 1) hx hb dX9_join_212 rfl ?_
                                    refine lv_goto (tgt := 217) hx hb dX9_join_213 (by decide) ?_
                                    refine nn_add hx hb dX9_join_217 ?_
                                    refine lv_istore (lv' := [(6, .int (nI (j + 1))), (5, .int (nI i)), (7, .int (nI (n + 1))), (10, .int (bI false)), (9, .int (bI true)), (8, .int (nI 1)), (0, .ref x), (1, .int (nI t)), (2, .int (nI u)), (3, .int (nI dn)), (4, .int (nI to))]) hx hb dX9_join_218 hl (by decide) rfl (fun ls hl => ?_)
                                    refine lv_goto (tgt := 20) hx hb dX9_join_220 (by decide) ?_
                                    have hJ := jn_T (S := Ts t) (T := Ts u) (i := i) (j := j) (d := dn - n) (by omega) (by first | exact Or.inl (by omega) | exact Or.inr ⟨by omega, by omega⟩)
                                    rw [if_neg (by omega), Nat.sub_sub] at hJ
                                    rw [hJ] at hcnt hlst
                                    dsimp only at hcnt hlst
                                    have hk2 := csum_tk (L := Ts u) (i := j) (by omega)
                                    exact ih_20 i (j + 1) (n + 1) Lc a_many a_bytes a_kinds a_modes a_times a_paths a_contentAt a_contents a_path a_content _ _ _ (by omega) (by omega) (by omega) (by omega) (by omega) (by rw [hlst]; simp) (by omega) (by omega) hRT hR (lv_sub hl [6, 7, 8, 9, 10, 1, 0, 2] rfl)
                                · exact absurd c_240 (by omega)
                            · exact absurd c_238 (by omega)
                      · cases c_235
                  · refine lv_iconst (v := bI true) hx hb dX9_join_120 rfl ?_
                    refine lv_goto (tgt := 125) hx hb dX9_join_121 (by decide) ?_
                    refine lv_istore (lv' := [(10, .int (bI true)), (9, .int (bI true)), (8, .int (nI 1)), (0, .ref x), (1, .int (nI t)), (2, .int (nI u)), (3, .int (nI dn)), (4, .int (nI to)), (5, .int (nI i)), (6, .int (nI j)), (7, .int (nI n))]) hx hb dX9_join_125 hl (by decide) rfl (fun ls hl => ?_)
                    refine lv_iload hx hb dX9_join_127 (lv_at hl 7 rfl) ?_
                    refine nz_lt hx hb dX9_join_129 (tgt := 151) (by decide) (by omega) (fun c_242 => ?_) (fun c_242 => ?_)
                    · exact absurd c_242 (Nat.not_lt_zero _)
                    · refine lv_iload hx hb dX9_join_132 (lv_at hl 0 rfl) ?_
                      refine nb_ifeq hx hb dX9_join_134 (tgt := 151) (by decide) (fun c_243 => ?_) (fun c_243 => ?_)
                      · cases c_243
                      · refine lv_iload hx hb dX9_join_137 (lv_at hl 2 rfl) ?_
                        refine zi_lt hx hb (show (nI 1).toInt = 1 from rfl) dX9_join_139 (tgt := 151) (by decide) (fun c_244 => ?_) (fun c_244 => ?_)
                        · exact absurd c_244 (by omega)
                        · refine lv_aload_n hx hb dX9_join_142 rfl (lv_at hl 3 rfl) ?_
                          refine lv_iload_n hx hb dX9_join_143 rfl (lv_at hl 5 rfl) ?_
                          refine lv_iload hx hb dX9_join_144 (lv_at hl 9 rfl) ?_
                          refine lv_iload hx hb dX9_join_146 (lv_at hl 7 rfl) ?_
                          have hct := csum_take (L := Ts u) (i := j) (by omega)
                          refine rf_callV (C := RX9) (As := [.int (nI u), .int (nI j), .int (nI to)]) (rest := []) (m_append l hT (va_up Ts to Lc) u j to ((Ts u).getD j e0) Lc hRT hu hto hnu (by rw [va_up_ne _ _ hnu]; omega) (by rw [va_up_ne _ _ hnu]) (va_up_self _ _ _) (by omega) (by omega)) ⟨hx, hb, hml, hown, hts⟩ (cwV 3 hts gX9_join_X9_append rfl rfl rfl (by decide +kernel) ⟨Nat.le_of_ble_eq_true rfl, Nat.le_of_ble_eq_true rfl⟩) hK hR (r_recv hK hR.1) rfl hl.1 rfl (Nat.le_of_ble_eq_true rfl) dX9_join_148 ⟨Nat.le_of_ble_eq_true rfl, Nat.le_of_ble_eq_true rfl⟩ (fun r_245 w_r_245 H locs hr_245 hR => ?_)
                          obtain ⟨rfl, g_many_246, g_bytes_246, g_kinds_246, g_modes_246, g_times_246, g_paths_246, g_contentAt_246, g_contents_246, g_path_246, g_content_246, rfl, hRT⟩ := hr_245
                          rw [bx_uu] at hRT
                          refine lv_iload hx hb dX9_join_151 (lv_at hl 7 rfl) ?_
                          refine nz_lt hx hb dX9_join_153 (tgt := 175) (by decide) (by omega) (fun c_247 => ?_) (fun c_247 => ?_)
                          · exact absurd c_247 (Nat.not_lt_zero _)
                          · refine lv_iload hx hb dX9_join_156 (lv_at hl 0 rfl) ?_
                            refine nb_ifne hx hb dX9_join_158 (tgt := 175) (by decide) (fun c_248 => ?_) (fun c_248 => ?_)
                            · refine lv_iload hx hb dX9_join_175 (lv_at hl 10 rfl) ?_
                              refine lv_iload hx hb dX9_join_177 (lv_at hl 1 rfl) ?_
                              refine nb_ifeq hx hb dX9_join_179 (tgt := 186) (by decide) (fun c_249 => ?_) (fun c_249 => ?_)
                              · cases c_249
                              · refine lv_iconst (v := nI 1) hx hb dX9_join_182 rfl ?_
                                refine lv_goto (tgt := 187) hx hb dX9_join_183 (by decide) ?_
                                refine nn_add hx hb dX9_join_187 ?_
                                refine lv_istore (lv' := [(7, .int (nI (n + 1))), (10, .int (bI true)), (9, .int (bI true)), (8, .int (nI 1)), (0, .ref x), (1, .int (nI t)), (2, .int (nI u)), (3, .int (nI dn)), (4, .int (nI to)), (5, .int (nI i)), (6, .int (nI j))]) hx hb dX9_join_188 hl (by decide) rfl (fun ls hl => ?_)
                                refine lv_iload hx hb dX9_join_190 (lv_at hl 9 rfl) ?_
                                refine lv_iload hx hb dX9_join_192 (lv_at hl 3 rfl) ?_
                                refine zi_gt hx hb (show (nI 1).toInt = 1 from rfl) dX9_join_194 (tgt := 201) (by decide) (fun c_250 => ?_) (fun c_250 => ?_)
                                · refine lv_iconst (v := nI 0) hx hb dX9_join_201 rfl ?_
                                  refine nn_add0 hx hb dX9_join_202 ?_
                                  refine lv_istore (lv' := [(5, .int (nI i)), (7, .int (nI (n + 1))), (10, .int (bI true)), (9, .int (bI true)), (8, .int (nI 1)), (0, .ref x), (1, .int (nI t)), (2, .int (nI u)), (3, .int (nI dn)), (4, .int (nI to)), (6, .int (nI j))]) hx hb dX9_join_203 hl (by decide) rfl (fun ls hl => ?_)
                                  refine lv_iload hx hb dX9_join_205 (lv_at hl 10 rfl) ?_
                                  refine lv_iload hx hb dX9_join_207 (lv_at hl 4 rfl) ?_
                                  refine zi_lt hx hb (show (nI 1).toInt = 1 from rfl) dX9_join_209 (tgt := 216) (by decide) (fun c_251 => ?_) (fun c_251 => ?_)
                                  · exact absurd c_251 (by omega)
                                  · refine lv_iconst (v := nI 1) hx hb dX9_join_212 rfl ?_
                                    refine lv_goto (tgt := 217) hx hb dX9_join_213 (by decide) ?_
                                    refine nn_add hx hb dX9_join_217 ?_
                                    refine lv_istore (lv' := [(6, .int (nI (j + 1))), (5, .int (nI i)), (7, .int (nI (n + 1))), (10, .int (bI true)), (9, .int (bI true)), (8, .int (nI 1)), (0, .ref x), (1, .int (nI t)), (2, .int (nI u)), (3, .int (nI dn)), (4, .int (nI to))]) hx hb dX9_join_218 hl (by decide) rfl (fun ls hl => ?_)
                                    refine lv_goto (tgt := 20) hx hb dX9_join_220 (by decide) ?_
                                    have hJ := jn_T (S := Ts t) (T := Ts u) (i := i) (j := j) (d := dn - n) (by omega) (by first | exact Or.inl (by omega) | exact Or.inr ⟨by omega, by omega⟩)
                                    rw [if_pos (by omega), Nat.sub_sub] at hJ
                                    rw [hJ] at hcnt hlst
                                    dsimp only at hcnt hlst
                                    have hk2 := csum_tk (L := Ts u) (i := j) (by omega)
                                    have hk3 := csum_a1 Lc ((Ts u).getD j e0)
                                    have hk4 : (Lc ++ [((Ts u).getD j e0)]).length = Lc.length + 1 := by simp
                                    exact ih_20 i (j + 1) (n + 1) (Lc ++ [((Ts u).getD j e0)]) g_many_246 g_bytes_246 g_kinds_246 g_modes_246 g_times_246 g_paths_246 g_contentAt_246 g_contents_246 g_path_246 g_content_246 _ _ _ (by omega) (by omega) (by omega) (by omega) (by omega) (by rw [hlst]; simp) (by omega) (by omega) hRT hR (lv_sub hl [6, 7, 8, 9, 10, 1, 0, 2] rfl)
                                · exact absurd c_250 (by omega)
                            · cases c_248
              · exact absurd c_231 (by omega)
    exact lp_20 ((((Ts t).length - 0 + ((Ts u).length - 0))) + 1) 0 0 0 ([]) g_many_3 g_bytes_3 g_kinds_3 g_modes_3 g_times_3 g_paths_3 g_contentAt_3 g_contents_3 g_path_3 g_content_3 _ _ _ (Nat.lt_succ_self _) (Nat.zero_le _) (Nat.zero_le _) (Nat.zero_le _) (by simp) (by simp) (by simp) (by simp [csum]) hRT hR (lv_sub hl [3, 4, 5, 6, 7, 2, 1, 0] rfl)
set_option maxHeartbeats 4000000 in
set_option maxRecDepth 100000 in
theorem m_joinB (l : Launch) {G : va_G} {tys : List (ClassId × FieldType)} {cI : ClassId} (hT : tys[1]? = some (cI, .int)) {x : Nat} {q : Nat → Nat} {v_thrown v_taped v_state v_operations v_changes v_sessions v_begun v_isChosen v_chosenMany : Int32} {f_many f_bytes f_kinds f_modes f_times f_paths f_contentAt f_contents f_path f_content f_ready f_tape f_sessionTime f_sessionChanges f_chosen : Nat → Int32} (Ts : Nat → List En) (t u dn : Nat) (hRT : RT f_many f_bytes f_kinds f_modes f_times f_paths f_contentAt f_contents f_path f_content Ts) (ht : t < 46) (hu : u < 46) (hdn : dn < 2 ^ 31) : pMet l yX9_join wsX9_join ({ frames := 3, cells := 0, slots := 0, locals := 73 } : Room) G tys [.ref x, .int (nI t), .int (nI u), .int (nI dn), .int (-1)] (rwx cI x q v_thrown v_taped v_state v_operations v_changes v_sessions v_begun v_isChosen v_chosenMany f_many f_bytes f_kinds f_modes f_times f_paths f_contentAt f_contents f_path f_content f_ready f_tape f_sessionTime f_sessionChanges f_chosen) (fun r => r = .int (nI (jn (Ts t) (Ts u) dn).1)) := by
  refine Met.ofW (cc := cX9_join) (maxL := 11) (ret := (some .int)) (by decide) rfl ?_
  intro p e s m args below meth c s₁ B hml hv
  obtain ⟨hargs, hP, hK⟩ := hv
  have hx := B.exec
  have hb := B.bytes
  have hr := B.returns
  have hts := atoms_spec (ws := wsX9_join) B.pre
  have hown : s.vm.findClass RX9 = some m.cls := findClass_of_methodNamed B.named
  have hlocks := B.notSynchronized
  have hC : rC p s m args c cX9_join G tys cI wsX9_join := ⟨hx, hb, hts, (by decide +kernel), hown, hK, hT⟩
  have k_many := hts (.fieldLink RX9 7 "MirrorKeepModel" "many" "[I") (by decide +kernel)
  obtain ⟨Q, hQ⟩ : ∃ Q : State → Prop, Q = MQ below (pQ (fun r => r = .int (nI (jn (Ts t) (Ts u) dn).1))) args s 0 0 (fun _ => False) := ⟨_, rfl⟩
  change W p l e ({ frames := 3, cells := 0, slots := 0, locals := 73 } : Room) s m args below meth c s.heap [] 0 0 (MQ below (pQ (fun r => r = .int (nI (jn (Ts t) (Ts u) dn).1))) args s 0 0 (fun _ => False)) (entryFrame m args 11)
  rw [← hQ]
  refine nn_entry hargs (Nat.le_of_ble_eq_true rfl) (lv := [(0, .ref x), (1, .int (nI t)), (2, .int (nI u)), (3, .int (nI dn)), (4, .int (-1))]) rfl (fun ls hl => ?_)
  refine lv_iload hx hb dX9_join_0 (lv_at hl 4 rfl) ?_
  refine zi_lt hx hb (show (-1 : Int32).toInt = -1 from rfl) dX9_join_2 (tgt := 11) (by decide) (fun c_1 => ?_) (fun c_1 => ?_)
  · refine lv_iconst (v := nI 0) hx hb dX9_join_11 rfl ?_
    refine lv_istore (lv' := [(5, .int (nI 0)), (0, .ref x), (1, .int (nI t)), (2, .int (nI u)), (3, .int (nI dn)), (4, .int (-1))]) hx hb dX9_join_12 hl (by decide) rfl (fun ls hl => ?_)
    refine lv_iconst (v := nI 0) hx hb dX9_join_14 rfl ?_
    refine lv_istore (lv' := [(6, .int (nI 0)), (5, .int (nI 0)), (0, .ref x), (1, .int (nI t)), (2, .int (nI u)), (3, .int (nI dn)), (4, .int (-1))]) hx hb dX9_join_15 hl (by decide) rfl (fun ls hl => ?_)
    refine lv_iconst (v := nI 0) hx hb dX9_join_17 rfl ?_
    refine lv_istore (lv' := [(7, .int (nI 0)), (6, .int (nI 0)), (5, .int (nI 0)), (0, .ref x), (1, .int (nI t)), (2, .int (nI u)), (3, .int (nI dn)), (4, .int (-1))]) hx hb dX9_join_18 hl (by decide) rfl (fun ls hl => ?_)
    have lp_20 : ∀ (n_20 : Nat) (i : Nat) (j : Nat) (n : Nat) (ls : Array Slot), ((Ts t).length - i + ((Ts u).length - j)) < n_20 → (i ≤ (Ts t).length) → (j ≤ (Ts u).length) → (n ≤ i + j) → ((jn (Ts t) (Ts u) dn).1 = n + (jn ((Ts t).drop i) ((Ts u).drop j) (dn - n)).1) → lv_has ls 11 [(0, .ref x), (1, .int (nI t)), (2, .int (nI u)), (3, .int (nI dn)), (4, .int (-1)), (5, .int (nI i)), (6, .int (nI j)), (7, .int (nI n))] → W p l e ({ frames := 3, cells := 0, slots := 0, locals := 73 } : Room) s m args below meth c s.heap [] 0 0 Q (F0 m 20 ls []) := by
      intro n_20
      induction n_20 with
      | zero => intro i j n ls h0; exact absurd h0 (Nat.not_lt_zero _)
      | succ n_20 ih_20 =>
        intro i j n ls hm_20 hi hj hn hcnt hl
        obtain ⟨t1, t2, t3, t4, t5⟩ := hRT t ht
        obtain ⟨u1, u2, u3, u4, u5⟩ := hRT u hu
        refine lv_iload hx hb dX9_join_20 (lv_at hl 5 rfl) ?_
        refine lv_aload_n hx hb dX9_join_22 rfl (lv_at hl 0 rfl) ?_
        refine rg_many hC hP k_many dX9_join_23 ?_
        refine lv_iload_n hx hb dX9_join_26 rfl (lv_at hl 1 rfl) ?_
        refine rl_many hC hP (by omega) dX9_join_27 ?_
        refine nn_eqi (y := nI ((Ts t).length)) t1 ?_
        refine nn_lt hx hb dX9_join_28 (tgt := 42) (by decide) (by omega) (by omega) (fun c_2 => ?_) (fun c_2 => ?_)
        · refine lv_iload hx hb dX9_join_42 (lv_at hl 5 rfl) ?_
          refine lv_aload_n hx hb dX9_join_44 rfl (lv_at hl 0 rfl) ?_
          refine rg_many hC hP k_many dX9_join_45 ?_
          refine lv_iload_n hx hb dX9_join_48 rfl (lv_at hl 1 rfl) ?_
          refine rl_many hC hP (by omega) dX9_join_49 ?_
          refine nn_eqi (y := nI ((Ts t).length)) t1 ?_
          refine nn_ne hx hb dX9_join_50 (tgt := 57) (by decide) (by omega) (by omega) (fun c_3 => ?_) (fun c_3 => ?_)
          · refine lv_iload hx hb dX9_join_57 (lv_at hl 6 rfl) ?_
            refine lv_aload_n hx hb dX9_join_59 rfl (lv_at hl 0 rfl) ?_
            refine rg_many hC hP k_many dX9_join_60 ?_
            refine lv_iload_n hx hb dX9_join_63 rfl (lv_at hl 2 rfl) ?_
            refine rl_many hC hP (by omega) dX9_join_64 ?_
            refine nn_eqi (y := nI ((Ts u).length)) u1 ?_
            refine nn_ne hx hb dX9_join_65 (tgt := 72) (by decide) (by omega) (by omega) (fun c_4 => ?_) (fun c_4 => ?_)
            · refine lv_aload_n hx hb dX9_join_72 rfl (lv_at hl 0 rfl) ?_
              refine lv_iload_n hx hb dX9_join_73 rfl (lv_at hl 1 rfl) ?_
              refine lv_iload hx hb dX9_join_74 (lv_at hl 5 rfl) ?_
              refine lv_iload_n hx hb dX9_join_76 rfl (lv_at hl 2 rfl) ?_
              refine lv_iload hx hb dX9_join_77 (lv_at hl 6 rfl) ?_
              refine pf_callV (C := RX9) (As := [.int (nI t), .int (nI i), .int (nI u), .int (nI j)]) (rest := []) (m_orderOf l hT (Ts) t i u j hRT ht (by omega) hu (by omega)) ⟨hx, hb, hml, hown, hts⟩ (cwV 4 hts gX9_join_X9_orderOf rfl rfl rfl (by decide +kernel) ⟨Nat.le_of_ble_eq_true rfl, Nat.le_of_ble_eq_true rfl⟩) hK hP (r_recv hK hP) rfl hl.1 rfl (Nat.le_of_ble_eq_true rfl) dX9_join_79 ⟨Nat.le_of_ble_eq_true rfl, Nat.le_of_ble_eq_true rfl⟩ (fun r_5 hr_5 => ?_)
              obtain ⟨o1, rfl, ho1⟩ := hr_5
              refine lv_istore (lv' := [(8, .int o1), (0, .ref x), (1, .int (nI t)), (2, .int (nI u)), (3, .int (nI dn)), (4, .int (-1)), (5, .int (nI i)), (6, .int (nI j)), (7, .int (nI n))]) hx hb dX9_join_82 hl (by decide) rfl (fun ls hl => ?_)
              rcases Int.lt_trichotomy (pcm ((Ts t).getD i e0).1 ((Ts u).getD j e0).1) 0 with hz | hz | hz
              · refine lv_iload hx hb dX9_join_84 (lv_at hl 0 rfl) ?_
                refine zi_ne hx hb ho1 dX9_join_86 (tgt := 102) (by decide) (fun c_6 => ?_) (fun c_6 => ?_)
                · refine lv_iconst (v := bI true) hx hb dX9_join_102 rfl ?_
                  refine lv_goto (tgt := 107) hx hb dX9_join_103 (by decide) ?_
                  refine lv_istore (lv' := [(9, .int (bI true)), (8, .int o1), (0, .ref x), (1, .int (nI t)), (2, .int (nI u)), (3, .int (nI dn)), (4, .int (-1)), (5, .int (nI i)), (6, .int (nI j)), (7, .int (nI n))]) hx hb dX9_join_107 hl (by decide) rfl (fun ls hl => ?_)
                  refine lv_iload hx hb dX9_join_109 (lv_at hl 0 rfl) ?_
                  refine nb_ifeq hx hb dX9_join_111 (tgt := 124) (by decide) (fun c_7 => ?_) (fun c_7 => ?_)
                  · cases c_7
                  · refine lv_iload hx hb dX9_join_114 (lv_at hl 9 rfl) ?_
                    refine lv_iload_n hx hb dX9_join_116 rfl (lv_at hl 5 rfl) ?_
                    refine nn_ge hx hb dX9_join_117 (tgt := 124) (by decide) (by omega) (by omega) (fun c_8 => ?_) (fun c_8 => ?_)
                    · refine lv_iconst (v := bI false) hx hb dX9_join_124 rfl ?_
                      refine lv_istore (lv' := [(10, .int (bI false)), (9, .int (bI true)), (8, .int o1), (0, .ref x), (1, .int (nI t)), (2, .int (nI u)), (3, .int (nI dn)), (4, .int (-1)), (5, .int (nI i)), (6, .int (nI j)), (7, .int (nI n))]) hx hb dX9_join_125 hl (by decide) rfl (fun ls hl => ?_)
                      refine lv_iload hx hb dX9_join_127 (lv_at hl 7 rfl) ?_
                      refine zi_lt hx hb (show (-1 : Int32).toInt = -1 from rfl) dX9_join_129 (tgt := 151) (by decide) (fun c_9 => ?_) (fun c_9 => ?_)
                      · refine lv_iload hx hb dX9_join_151 (lv_at hl 7 rfl) ?_
                        refine zi_lt hx hb (show (-1 : Int32).toInt = -1 from rfl) dX9_join_153 (tgt := 175) (by decide) (fun c_10 => ?_) (fun c_10 => ?_)
                        · refine lv_iload hx hb dX9_join_175 (lv_at hl 10 rfl) ?_
                          refine lv_iload hx hb dX9_join_177 (lv_at hl 1 rfl) ?_
                          refine nb_ifeq hx hb dX9_join_179 (tgt := 186) (by decide) (fun c_11 => ?_) (fun c_11 => ?_)
                          · cases c_11
                          · refine lv_iconst (v := nI 1) hx hb dX9_join_182 rfl ?_
                            refine lv_goto (tgt := 187) hx hb dX9_join_183 (by decide) ?_
                            refine nn_add hx hb dX9_join_187 ?_
                            refine lv_istore (lv' := [(7, .int (nI (n + 1))), (10, .int (bI false)), (9, .int (bI true)), (8, .int o1), (0, .ref x), (1, .int (nI t)), (2, .int (nI u)), (3, .int (nI dn)), (4, .int (-1)), (5, .int (nI i)), (6, .int (nI j))]) hx hb dX9_join_188 hl (by decide) rfl (fun ls hl => ?_)
                            refine lv_iload hx hb dX9_join_190 (lv_at hl 9 rfl) ?_
                            refine lv_iload hx hb dX9_join_192 (lv_at hl 3 rfl) ?_
                            refine zi_gt hx hb ho1 dX9_join_194 (tgt := 201) (by decide) (fun c_12 => ?_) (fun c_12 => ?_)
                            · exact absurd c_12 (by omega)
                            · refine lv_iconst (v := nI 1) hx hb dX9_join_197 rfl ?_
                              refine lv_goto (tgt := 202) hx hb dX9_join_198 (by decide) ?_
                              refine nn_add hx hb dX9_join_202 ?_
                              refine lv_istore (lv' := [(5, .int (nI (i + 1))), (7, .int (nI (n + 1))), (10, .int (bI false)), (9, .int (bI true)), (8, .int o1), (0, .ref x), (1, .int (nI t)), (2, .int (nI u)), (3, .int (nI dn)), (4, .int (-1)), (6, .int (nI j))]) hx hb dX9_join_203 hl (by decide) rfl (fun ls hl => ?_)
                              refine lv_iload hx hb dX9_join_205 (lv_at hl 10 rfl) ?_
                              refine lv_iload hx hb dX9_join_207 (lv_at hl 4 rfl) ?_
                              refine zi_lt hx hb ho1 dX9_join_209 (tgt := 216) (by decide) (fun c_13 => ?_) (fun c_13 => ?_)
                              · refine lv_iconst (v := nI 0) hx hb dX9_join_216 rfl ?_
                                refine nn_add0 hx hb dX9_join_217 ?_
                                refine lv_istore (lv' := [(6, .int (nI j)), (5, .int (nI (i + 1))), (7, .int (nI (n + 1))), (10, .int (bI false)), (9, .int (bI true)), (8, .int o1), (0, .ref x), (1, .int (nI t)), (2, .int (nI u)), (3, .int (nI dn)), (4, .int (-1))]) hx hb dX9_join_218 hl (by decide) rfl (fun ls hl => ?_)
                                refine lv_goto (tgt := 20) hx hb dX9_join_220 (by decide) ?_
                                have hJ := jn_S (S := Ts t) (T := Ts u) (i := i) (j := j) (d := dn - n) (by omega) (by first | exact Or.inl (by omega) | exact Or.inr ⟨by omega, by omega⟩)
                                rw [if_neg (by omega), Nat.sub_sub] at hJ
                                rw [hJ] at hcnt
                                dsimp only at hcnt
                                exact ih_20 (i + 1) j (n + 1) _ (by omega) (by omega) (by omega) (by omega) (by omega) (lv_sub hl [6, 7, 8, 9, 10, 1, 0, 2] rfl)
                              · exact absurd c_13 (by omega)
                        · exact absurd c_10 (by omega)
                      · exact absurd c_9 (by omega)
                    · refine lv_iconst (v := bI true) hx hb dX9_join_120 rfl ?_
                      refine lv_goto (tgt := 125) hx hb dX9_join_121 (by decide) ?_
                      refine lv_istore (lv' := [(10, .int (bI true)), (9, .int (bI true)), (8, .int o1), (0, .ref x), (1, .int (nI t)), (2, .int (nI u)), (3, .int (nI dn)), (4, .int (-1)), (5, .int (nI i)), (6, .int (nI j)), (7, .int (nI n))]) hx hb dX9_join_125 hl (by decide) rfl (fun ls hl => ?_)
                      refine lv_iload hx hb dX9_join_127 (lv_at hl 7 rfl) ?_
                      refine zi_lt hx hb (show (-1 : Int32).toInt = -1 from rfl) dX9_join_129 (tgt := 151) (by decide) (fun c_14 => ?_) (fun c_14 => ?_)
                      · refine lv_iload hx hb dX9_join_151 (lv_at hl 7 rfl) ?_
                        refine zi_lt hx hb (show (-1 : Int32).toInt = -1 from rfl) dX9_join_153 (tgt := 175) (by decide) (fun c_15 => ?_) (fun c_15 => ?_)
                        · refine lv_iload hx hb dX9_join_175 (lv_at hl 10 rfl) ?_
                          refine lv_iload hx hb dX9_join_177 (lv_at hl 1 rfl) ?_
                          refine nb_ifeq hx hb dX9_join_179 (tgt := 186) (by decide) (fun c_16 => ?_) (fun c_16 => ?_)
                          · cases c_16
                          · refine lv_iconst (v := nI 1) hx hb dX9_join_182 rfl ?_
                            refine lv_goto (tgt := 187) hx hb dX9_join_183 (by decide) ?_
                            refine nn_add hx hb dX9_join_187 ?_
                            refine lv_istore (lv' := [(7, .int (nI (n + 1))), (10, .int (bI true)), (9, .int (bI true)), (8, .int o1), (0, .ref x), (1, .int (nI t)), (2, .int (nI u)), (3, .int (nI dn)), (4, .int (-1)), (5, .int (nI i)), (6, .int (nI j))]) hx hb dX9_join_188 hl (by decide) rfl (fun ls hl => ?_)
                            refine lv_iload hx hb dX9_join_190 (lv_at hl 9 rfl) ?_
                            refine lv_iload hx hb dX9_join_192 (lv_at hl 3 rfl) ?_
                            refine zi_gt hx hb ho1 dX9_join_194 (tgt := 201) (by decide) (fun c_17 => ?_) (fun c_17 => ?_)
                            · exact absurd c_17 (by omega)
                            · refine lv_iconst (v := nI 1) hx hb dX9_join_197 rfl ?_
                              refine lv_goto (tgt := 202) hx hb dX9_join_198 (by decide) ?_
                              refine nn_add hx hb dX9_join_202 ?_
                              refine lv_istore (lv' := [(5, .int (nI (i + 1))), (7, .int (nI (n + 1))), (10, .int (bI true)), (9, .int (bI true)), (8, .int o1), (0, .ref x), (1, .int (nI t)), (2, .int (nI u)), (3, .int (nI dn)), (4, .int (-1)), (6, .int (nI j))]) hx hb dX9_join_203 hl (by decide) rfl (fun ls hl => ?_)
                              refine lv_iload hx hb dX9_join_205 (lv_at hl 10 rfl) ?_
                              refine lv_iload hx hb dX9_join_207 (lv_at hl 4 rfl) ?_
                              refine zi_lt hx hb ho1 dX9_join_209 (tgt := 216) (by decide) (fun c_18 => ?_) (fun c_18 => ?_)
                              · refine lv_iconst (v := nI 0) hx hb dX9_join_216 rfl ?_
                                refine nn_add0 hx hb dX9_join_217 ?_
                                refine lv_istore (lv' := [(6, .int (nI j)), (5, .int (nI (i + 1))), (7, .int (nI (n + 1))), (10, .int (bI true)), (9, .int (bI true)), (8, .int o1), (0, .ref x), (1, .int (nI t)), (2, .int (nI u)), (3, .int (nI dn)), (4, .int (-1))]) hx hb dX9_join_218 hl (by decide) rfl (fun ls hl => ?_)
                                refine lv_goto (tgt := 20) hx hb dX9_join_220 (by decide) ?_
                                have hJ := jn_S (S := Ts t) (T := Ts u) (i := i) (j := j) (d := dn - n) (by omega) (by first | exact Or.inl (by omega) | exact Or.inr ⟨by omega, by omega⟩)
                                rw [if_pos (by omega), Nat.sub_sub] at hJ
                                rw [hJ] at hcnt
                                dsimp only at hcnt
                                exact ih_20 (i + 1) j (n + 1) _ (by omega) (by omega) (by omega) (by omega) (by omega) (lv_sub hl [6, 7, 8, 9, 10, 1, 0, 2] rfl)
                              · exact absurd c_18 (by omega)
                        · exact absurd c_15 (by omega)
                      · exact absurd c_14 (by omega)
                · exact absurd c_6 (by omega)
              · refine lv_iload hx hb dX9_join_84 (lv_at hl 0 rfl) ?_
                refine zi_ne hx hb ho1 dX9_join_86 (tgt := 102) (by decide) (fun c_19 => ?_) (fun c_19 => ?_)
                · exact absurd c_19 (by omega)
                · refine lv_aload_n hx hb dX9_join_89 rfl (lv_at hl 1 rfl) ?_
                  refine lv_iload_n hx hb dX9_join_90 rfl (lv_at hl 2 rfl) ?_
                  refine lv_iload hx hb dX9_join_91 (lv_at hl 6 rfl) ?_
                  refine lv_iload_n hx hb dX9_join_93 rfl (lv_at hl 3 rfl) ?_
                  refine lv_iload hx hb dX9_join_94 (lv_at hl 7 rfl) ?_
                  refine pf_callV (C := RX9) (As := [.int (nI t), .int (nI i), .int (nI u), .int (nI j)]) (rest := []) (m_isSame l hT (Ts) t i u j hRT ht (by omega) hu (by omega)) ⟨hx, hb, hml, hown, hts⟩ (cwV 4 hts gX9_join_X9_isSame rfl rfl rfl (by decide +kernel) ⟨Nat.le_of_ble_eq_true rfl, Nat.le_of_ble_eq_true rfl⟩) hK hP (r_recv hK hP) rfl hl.1 rfl (Nat.le_of_ble_eq_true rfl) dX9_join_96 ⟨Nat.le_of_ble_eq_true rfl, Nat.le_of_ble_eq_true rfl⟩ (fun r_20 hr_20 => ?_)
                  subst hr_20
                  refine nb_ifne hx hb dX9_join_99 (tgt := 106) (by decide) (fun c_21 => ?_) (fun c_21 => ?_)
                  · refine lv_iconst (v := bI false) hx hb dX9_join_106 rfl ?_
                    refine lv_istore (lv' := [(9, .int (bI false)), (8, .int o1), (0, .ref x), (1, .int (nI t)), (2, .int (nI u)), (3, .int (nI dn)), (4, .int (-1)), (5, .int (nI i)), (6, .int (nI j)), (7, .int (nI n))]) hx hb dX9_join_107 hl (by decide) rfl (fun ls hl => ?_)
                    refine lv_iload hx hb dX9_join_109 (lv_at hl 0 rfl) ?_
                    refine nb_ifeq hx hb dX9_join_111 (tgt := 124) (by decide) (fun c_22 => ?_) (fun c_22 => ?_)
                    · refine lv_iconst (v := bI false) hx hb dX9_join_124 rfl ?_
                      refine lv_istore (lv' := [(10, .int (bI false)), (9, .int (bI false)), (8, .int o1), (0, .ref x), (1, .int (nI t)), (2, .int (nI u)), (3, .int (nI dn)), (4, .int (-1)), (5, .int (nI i)), (6, .int (nI j)), (7, .int (nI n))]) hx hb dX9_join_125 hl (by decide) rfl (fun ls hl => ?_)
                      refine lv_iload hx hb dX9_join_127 (lv_at hl 7 rfl) ?_
                      refine zi_lt hx hb (show (-1 : Int32).toInt = -1 from rfl) dX9_join_129 (tgt := 151) (by decide) (fun c_23 => ?_) (fun c_23 => ?_)
                      · refine lv_iload hx hb dX9_join_151 (lv_at hl 7 rfl) ?_
                        refine zi_lt hx hb (show (-1 : Int32).toInt = -1 from rfl) dX9_join_153 (tgt := 175) (by decide) (fun c_24 => ?_) (fun c_24 => ?_)
                        · refine lv_iload hx hb dX9_join_175 (lv_at hl 10 rfl) ?_
                          refine lv_iload hx hb dX9_join_177 (lv_at hl 1 rfl) ?_
                          refine nb_ifeq hx hb dX9_join_179 (tgt := 186) (by decide) (fun c_25 => ?_) (fun c_25 => ?_)
                          · refine lv_iconst (v := nI 0) hx hb dX9_join_186 rfl ?_
                            refine nn_add0 hx hb dX9_join_187 ?_
                            refine lv_istore (lv' := [(7, .int (nI n)), (10, .int (bI false)), (9, .int (bI false)), (8, .int o1), (0, .ref x), (1, .int (nI t)), (2, .int (nI u)), (3, .int (nI dn)), (4, .int (-1)), (5, .int (nI i)), (6, .int (nI j))]) hx hb dX9_join_188 hl (by decide) rfl (fun ls hl => ?_)
                            refine lv_iload hx hb dX9_join_190 (lv_at hl 9 rfl) ?_
                            refine lv_iload hx hb dX9_join_192 (lv_at hl 3 rfl) ?_
                            refine zi_gt hx hb ho1 dX9_join_194 (tgt := 201) (by decide) (fun c_26 => ?_) (fun c_26 => ?_)
                            · exact absurd c_26 (by omega)
                            · refine lv_iconst (v := nI 1) hx hb dX9_join_197 rfl ?_
                              refine lv_goto (tgt := 202) hx hb dX9_join_198 (by decide) ?_
                              refine nn_add hx hb dX9_join_202 ?_
                              refine lv_istore (lv' := [(5, .int (nI (i + 1))), (7, .int (nI n)), (10, .int (bI false)), (9, .int (bI false)), (8, .int o1), (0, .ref x), (1, .int (nI t)), (2, .int (nI u)), (3, .int (nI dn)), (4, .int (-1)), (6, .int (nI j))]) hx hb dX9_join_203 hl (by decide) rfl (fun ls hl => ?_)
                              refine lv_iload hx hb dX9_join_205 (lv_at hl 10 rfl) ?_
                              refine lv_iload hx hb dX9_join_207 (lv_at hl 4 rfl) ?_
                              refine zi_lt hx hb ho1 dX9_join_209 (tgt := 216) (by decide) (fun c_27 => ?_) (fun c_27 => ?_)
                              · exact absurd c_27 (by omega)
                              · refine lv_iconst (v := nI 1) hx hb dX9_join_212 rfl ?_
                                refine lv_goto (tgt := 217) hx hb dX9_join_213 (by decide) ?_
                                refine nn_add hx hb dX9_join_217 ?_
                                refine lv_istore (lv' := [(6, .int (nI (j + 1))), (5, .int (nI (i + 1))), (7, .int (nI n)), (10, .int (bI false)), (9, .int (bI false)), (8, .int o1), (0, .ref x), (1, .int (nI t)), (2, .int (nI u)), (3, .int (nI dn)), (4, .int (-1))]) hx hb dX9_join_218 hl (by decide) rfl (fun ls hl => ?_)
                                refine lv_goto (tgt := 20) hx hb dX9_join_220 (by decide) ?_
                                have hJ := jn_E (S := Ts t) (T := Ts u) (i := i) (j := j) (d := dn - n) (by omega) (by omega) hz (of_decide_eq_true (by assumption))
                                rw [hJ] at hcnt
                                dsimp only at hcnt
                                exact ih_20 (i + 1) (j + 1) n _ (by omega) (by omega) (by omega) (by omega) (by omega) (lv_sub hl [6, 7, 8, 9, 10, 1, 0, 2] rfl)
                          · cases c_25
                        · exact absurd c_24 (by omega)
                      · exact absurd c_23 (by omega)
                    · cases c_22
                  · refine lv_iconst (v := bI true) hx hb dX9_join_102 rfl ?_
                    refine lv_goto (tgt := 107) hx hb dX9_join_103 (by decide) ?_
                    refine lv_istore (lv' := [(9, .int (bI true)), (8, .int o1), (0, .ref x), (1, .int (nI t)), (2, .int (nI u)), (3, .int (nI dn)), (4, .int (-1)), (5, .int (nI i)), (6, .int (nI j)), (7, .int (nI n))]) hx hb dX9_join_107 hl (by decide) rfl (fun ls hl => ?_)
                    refine lv_iload hx hb dX9_join_109 (lv_at hl 0 rfl) ?_
                    refine nb_ifeq hx hb dX9_join_111 (tgt := 124) (by decide) (fun c_28 => ?_) (fun c_28 => ?_)
                    · cases c_28
                    · refine lv_iload hx hb dX9_join_114 (lv_at hl 9 rfl) ?_
                      refine lv_iload_n hx hb dX9_join_116 rfl (lv_at hl 5 rfl) ?_
                      refine nn_ge hx hb dX9_join_117 (tgt := 124) (by decide) (by omega) (by omega) (fun c_29 => ?_) (fun c_29 => ?_)
                      · refine lv_iconst (v := bI false) hx hb dX9_join_124 rfl ?_
                        refine lv_istore (lv' := [(10, .int (bI false)), (9, .int (bI true)), (8, .int o1), (0, .ref x), (1, .int (nI t)), (2, .int (nI u)), (3, .int (nI dn)), (4, .int (-1)), (5, .int (nI i)), (6, .int (nI j)), (7, .int (nI n))]) hx hb dX9_join_125 hl (by decide) rfl (fun ls hl => ?_)
                        refine lv_iload hx hb dX9_join_127 (lv_at hl 7 rfl) ?_
                        refine zi_lt hx hb (show (-1 : Int32).toInt = -1 from rfl) dX9_join_129 (tgt := 151) (by decide) (fun c_30 => ?_) (fun c_30 => ?_)
                        · refine lv_iload hx hb dX9_join_151 (lv_at hl 7 rfl) ?_
                          refine zi_lt hx hb (show (-1 : Int32).toInt = -1 from rfl) dX9_join_153 (tgt := 175) (by decide) (fun c_31 => ?_) (fun c_31 => ?_)
                          · refine lv_iload hx hb dX9_join_175 (lv_at hl 10 rfl) ?_
                            refine lv_iload hx hb dX9_join_177 (lv_at hl 1 rfl) ?_
                            refine nb_ifeq hx hb dX9_join_179 (tgt := 186) (by decide) (fun c_32 => ?_) (fun c_32 => ?_)
                            · cases c_32
                            · refine lv_iconst (v := nI 1) hx hb dX9_join_182 rfl ?_
                              refine lv_goto (tgt := 187) hx hb dX9_join_183 (by decide) ?_
                              refine nn_add hx hb dX9_join_187 ?_
                              refine lv_istore (lv' := [(7, .int (nI (n + 1))), (10, .int (bI false)), (9, .int (bI true)), (8, .int o1), (0, .ref x), (1, .int (nI t)), (2, .int (nI u)), (3, .int (nI dn)), (4, .int (-1)), (5, .int (nI i)), (6, .int (nI j))]) hx hb dX9_join_188 hl (by decide) rfl (fun ls hl => ?_)
                              refine lv_iload hx hb dX9_join_190 (lv_at hl 9 rfl) ?_
                              refine lv_iload hx hb dX9_join_192 (lv_at hl 3 rfl) ?_
                              refine zi_gt hx hb ho1 dX9_join_194 (tgt := 201) (by decide) (fun c_33 => ?_) (fun c_33 => ?_)
                              · exact absurd c_33 (by omega)
                              · refine lv_iconst (v := nI 1) hx hb dX9_join_197 rfl ?_
                                refine lv_goto (tgt := 202) hx hb dX9_join_198 (by decide) ?_
                                refine nn_add hx hb dX9_join_202 ?_
                                refine lv_istore (lv' := [(5, .int (nI (i + 1))), (7, .int (nI (n + 1))), (10, .int (bI false)), (9, .int (bI true)), (8, .int o1), (0, .ref x), (1, .int (nI t)), (2, .int (nI u)), (3, .int (nI dn)), (4, .int (-1)), (6, .int (nI j))]) hx hb dX9_join_203 hl (by decide) rfl (fun ls hl => ?_)
                                refine lv_iload hx hb dX9_join_205 (lv_at hl 10 rfl) ?_
                                refine lv_iload hx hb dX9_join_207 (lv_at hl 4 rfl) ?_
                                refine zi_lt hx hb ho1 dX9_join_209 (tgt := 216) (by decide) (fun c_34 => ?_) (fun c_34 => ?_)
                                · exact absurd c_34 (by omega)
                                · refine lv_iconst (v := nI 1) hx hb dX9_join_212 rfl ?_
                                  refine lv_goto (tgt := 217) hx hb dX9_join_213 (by decide) ?_
                                  refine nn_add hx hb dX9_join_217 ?_
                                  refine lv_istore (lv' := [(6, .int (nI (j + 1))), (5, .int (nI (i + 1))), (7, .int (nI (n + 1))), (10, .int (bI false)), (9, .int (bI true)), (8, .int o1), (0, .ref x), (1, .int (nI t)), (2, .int (nI u)), (3, .int (nI dn)), (4, .int (-1))]) hx hb dX9_join_218 hl (by decide) rfl (fun ls hl => ?_)
                                  refine lv_goto (tgt := 20) hx hb dX9_join_220 (by decide) ?_
                                  have hJ := jn_C (S := Ts t) (T := Ts u) (i := i) (j := j) (d := dn - n) (by omega) (by omega) hz (of_decide_eq_false (by assumption))
                                  rw [if_neg (by omega), Nat.sub_sub] at hJ
                                  rw [hJ] at hcnt
                                  dsimp only at hcnt
                                  exact ih_20 (i + 1) (j + 1) (n + 1) _ (by omega) (by omega) (by omega) (by omega) (by omega) (lv_sub hl [6, 7, 8, 9, 10, 1, 0, 2] rfl)
                          · exact absurd c_31 (by omega)
                        · exact absurd c_30 (by omega)
                      · refine lv_iconst (v := bI true) hx hb dX9_join_120 rfl ?_
                        refine lv_goto (tgt := 125) hx hb dX9_join_121 (by decide) ?_
                        refine lv_istore (lv' := [(10, .int (bI true)), (9, .int (bI true)), (8, .int o1), (0, .ref x), (1, .int (nI t)), (2, .int (nI u)), (3, .int (nI dn)), (4, .int (-1)), (5, .int (nI i)), (6, .int (nI j)), (7, .int (nI n))]) hx hb dX9_join_125 hl (by decide) rfl (fun ls hl => ?_)
                        refine lv_iload hx hb dX9_join_127 (lv_at hl 7 rfl) ?_
                        refine zi_lt hx hb (show (-1 : Int32).toInt = -1 from rfl) dX9_join_129 (tgt := 151) (by decide) (fun c_35 => ?_) (fun c_35 => ?_)
                        · refine lv_iload hx hb dX9_join_151 (lv_at hl 7 rfl) ?_
                          refine zi_lt hx hb (show (-1 : Int32).toInt = -1 from rfl) dX9_join_153 (tgt := 175) (by decide) (fun c_36 => ?_) (fun c_36 => ?_)
                          · refine lv_iload hx hb dX9_join_175 (lv_at hl 10 rfl) ?_
                            refine lv_iload hx hb dX9_join_177 (lv_at hl 1 rfl) ?_
                            refine nb_ifeq hx hb dX9_join_179 (tgt := 186) (by decide) (fun c_37 => ?_) (fun c_37 => ?_)
                            · cases c_37
                            · refine lv_iconst (v := nI 1) hx hb dX9_join_182 rfl ?_
                              refine lv_goto (tgt := 187) hx hb dX9_join_183 (by decide) ?_
                              refine nn_add hx hb dX9_join_187 ?_
                              refine lv_istore (lv' := [(7, .int (nI (n + 1))), (10, .int (bI true)), (9, .int (bI true)), (8, .int o1), (0, .ref x), (1, .int (nI t)), (2, .int (nI u)), (3, .int (nI dn)), (4, .int (-1)), (5, .int (nI i)), (6, .int (nI j))]) hx hb dX9_join_188 hl (by decide) rfl (fun ls hl => ?_)
                              refine lv_iload hx hb dX9_join_190 (lv_at hl 9 rfl) ?_
                              refine lv_iload hx hb dX9_join_192 (lv_at hl 3 rfl) ?_
                              refine zi_gt hx hb ho1 dX9_join_194 (tgt := 201) (by decide) (fun c_38 => ?_) (fun c_38 => ?_)
                              · exact absurd c_38 (by omega)
                              · refine lv_iconst (v := nI 1) hx hb dX9_join_197 rfl ?_
                                refine lv_goto (tgt := 202) hx hb dX9_join_198 (by decide) ?_
                                refine nn_add hx hb dX9_join_202 ?_
                                refine lv_istore (lv' := [(5, .int (nI (i + 1))), (7, .int (nI (n + 1))), (10, .int (bI true)), (9, .int (bI true)), (8, .int o1), (0, .ref x), (1, .int (nI t)), (2, .int (nI u)), (3, .int (nI dn)), (4, .int (-1)), (6, .int (nI j))]) hx hb dX9_join_203 hl (by decide) rfl (fun ls hl => ?_)
                                refine lv_iload hx hb dX9_join_205 (lv_at hl 10 rfl) ?_
                                refine lv_iload hx hb dX9_join_207 (lv_at hl 4 rfl) ?_
                                refine zi_lt hx hb ho1 dX9_join_209 (tgt := 216) (by decide) (fun c_39 => ?_) (fun c_39 => ?_)
                                · exact absurd c_39 (by omega)
                                · refine lv_iconst (v := nI 1) hx hb dX9_join_212 rfl ?_
                                  refine lv_goto (tgt := 217) hx hb dX9_join_213 (by decide) ?_
                                  refine nn_add hx hb dX9_join_217 ?_
                                  refine lv_istore (lv' := [(6, .int (nI (j + 1))), (5, .int (nI (i + 1))), (7, .int (nI (n + 1))), (10, .int (bI true)), (9, .int (bI true)), (8, .int o1), (0, .ref x), (1, .int (nI t)), (2, .int (nI u)), (3, .int (nI dn)), (4, .int (-1))]) hx hb dX9_join_218 hl (by decide) rfl (fun ls hl => ?_)
                                  refine lv_goto (tgt := 20) hx hb dX9_join_220 (by decide) ?_
                                  have hJ := jn_C (S := Ts t) (T := Ts u) (i := i) (j := j) (d := dn - n) (by omega) (by omega) hz (of_decide_eq_false (by assumption))
                                  rw [if_pos (by omega), Nat.sub_sub] at hJ
                                  rw [hJ] at hcnt
                                  dsimp only at hcnt
                                  exact ih_20 (i + 1) (j + 1) (n + 1) _ (by omega) (by omega) (by omega) (by omega) (by omega) (lv_sub hl [6, 7, 8, 9, 10, 1, 0, 2] rfl)
                          · exact absurd c_36 (by omega)
                        · exact absurd c_35 (by omega)
              · refine lv_iload hx hb dX9_join_84 (lv_at hl 0 rfl) ?_
                refine zi_ne hx hb ho1 dX9_join_86 (tgt := 102) (by decide) (fun c_40 => ?_) (fun c_40 => ?_)
                · refine lv_iconst (v := bI true) hx hb dX9_join_102 rfl ?_
                  refine lv_goto (tgt := 107) hx hb dX9_join_103 (by decide) ?_
                  refine lv_istore (lv' := [(9, .int (bI true)), (8, .int o1), (0, .ref x), (1, .int (nI t)), (2, .int (nI u)), (3, .int (nI dn)), (4, .int (-1)), (5, .int (nI i)), (6, .int (nI j)), (7, .int (nI n))]) hx hb dX9_join_107 hl (by decide) rfl (fun ls hl => ?_)
                  refine lv_iload hx hb dX9_join_109 (lv_at hl 0 rfl) ?_
                  refine nb_ifeq hx hb dX9_join_111 (tgt := 124) (by decide) (fun c_41 => ?_) (fun c_41 => ?_)
                  · cases c_41
                  · refine lv_iload hx hb dX9_join_114 (lv_at hl 9 rfl) ?_
                    refine lv_iload_n hx hb dX9_join_116 rfl (lv_at hl 5 rfl) ?_
                    refine nn_ge hx hb dX9_join_117 (tgt := 124) (by decide) (by omega) (by omega) (fun c_42 => ?_) (fun c_42 => ?_)
                    · refine lv_iconst (v := bI false) hx hb dX9_join_124 rfl ?_
                      refine lv_istore (lv' := [(10, .int (bI false)), (9, .int (bI true)), (8, .int o1), (0, .ref x), (1, .int (nI t)), (2, .int (nI u)), (3, .int (nI dn)), (4, .int (-1)), (5, .int (nI i)), (6, .int (nI j)), (7, .int (nI n))]) hx hb dX9_join_125 hl (by decide) rfl (fun ls hl => ?_)
                      refine lv_iload hx hb dX9_join_127 (lv_at hl 7 rfl) ?_
                      refine zi_lt hx hb (show (-1 : Int32).toInt = -1 from rfl) dX9_join_129 (tgt := 151) (by decide) (fun c_43 => ?_) (fun c_43 => ?_)
                      · refine lv_iload hx hb dX9_join_151 (lv_at hl 7 rfl) ?_
                        refine zi_lt hx hb (show (-1 : Int32).toInt = -1 from rfl) dX9_join_153 (tgt := 175) (by decide) (fun c_44 => ?_) (fun c_44 => ?_)
                        · refine lv_iload hx hb dX9_join_175 (lv_at hl 10 rfl) ?_
                          refine lv_iload hx hb dX9_join_177 (lv_at hl 1 rfl) ?_
                          refine nb_ifeq hx hb dX9_join_179 (tgt := 186) (by decide) (fun c_45 => ?_) (fun c_45 => ?_)
                          · cases c_45
                          · refine lv_iconst (v := nI 1) hx hb dX9_join_182 rfl ?_
                            refine lv_goto (tgt := 187) hx hb dX9_join_183 (by decide) ?_
                            refine nn_add hx hb dX9_join_187 ?_
                            refine lv_istore (lv' := [(7, .int (nI (n + 1))), (10, .int (bI false)), (9, .int (bI true)), (8, .int o1), (0, .ref x), (1, .int (nI t)), (2, .int (nI u)), (3, .int (nI dn)), (4, .int (-1)), (5, .int (nI i)), (6, .int (nI j))]) hx hb dX9_join_188 hl (by decide) rfl (fun ls hl => ?_)
                            refine lv_iload hx hb dX9_join_190 (lv_at hl 9 rfl) ?_
                            refine lv_iload hx hb dX9_join_192 (lv_at hl 3 rfl) ?_
                            refine zi_gt hx hb ho1 dX9_join_194 (tgt := 201) (by decide) (fun c_46 => ?_) (fun c_46 => ?_)
                            · refine lv_iconst (v := nI 0) hx hb dX9_join_201 rfl ?_
                              refine nn_add0 hx hb dX9_join_202 ?_
                              refine lv_istore (lv' := [(5, .int (nI i)), (7, .int (nI (n + 1))), (10, .int (bI false)), (9, .int (bI true)), (8, .int o1), (0, .ref x), (1, .int (nI t)), (2, .int (nI u)), (3, .int (nI dn)), (4, .int (-1)), (6, .int (nI j))]) hx hb dX9_join_203 hl (by decide) rfl (fun ls hl => ?_)
                              refine lv_iload hx hb dX9_join_205 (lv_at hl 10 rfl) ?_
                              refine lv_iload hx hb dX9_join_207 (lv_at hl 4 rfl) ?_
                              refine zi_lt hx hb ho1 dX9_join_209 (tgt := 216) (by decide) (fun c_47 => ?_) (fun c_47 => ?_)
                              · exact absurd c_47 (by omega)
                              · refine lv_iconst (v := nI 1) hx hb dX9_join_212 rfl ?_
                                refine lv_goto (tgt := 217) hx hb dX9_join_213 (by decide) ?_
                                refine nn_add hx hb dX9_join_217 ?_
                                refine lv_istore (lv' := [(6, .int (nI (j + 1))), (5, .int (nI i)), (7, .int (nI (n + 1))), (10, .int (bI false)), (9, .int (bI true)), (8, .int o1), (0, .ref x), (1, .int (nI t)), (2, .int (nI u)), (3, .int (nI dn)), (4, .int (-1))]) hx hb dX9_join_218 hl (by decide) rfl (fun ls hl => ?_)
                                refine lv_goto (tgt := 20) hx hb dX9_join_220 (by decide) ?_
                                have hJ := jn_T (S := Ts t) (T := Ts u) (i := i) (j := j) (d := dn - n) (by omega) (by first | exact Or.inl (by omega) | exact Or.inr ⟨by omega, by omega⟩)
                                rw [if_neg (by omega), Nat.sub_sub] at hJ
                                rw [hJ] at hcnt
                                dsimp only at hcnt
                                exact ih_20 i (j + 1) (n + 1) _ (by omega) (by omega) (by omega) (by omega) (by omega) (lv_sub hl [6, 7, 8, 9, 10, 1, 0, 2] rfl)
                            · exact absurd c_46 (by omega)
                        · exact absurd c_44 (by omega)
                      · exact absurd c_43 (by omega)
                    · refine lv_iconst (v := bI true) hx hb dX9_join_120 rfl ?_
                      refine lv_goto (tgt := 125) hx hb dX9_join_121 (by decide) ?_
                      refine lv_istore (lv' := [(10, .int (bI true)), (9, .int (bI true)), (8, .int o1), (0, .ref x), (1, .int (nI t)), (2, .int (nI u)), (3, .int (nI dn)), (4, .int (-1)), (5, .int (nI i)), (6, .int (nI j)), (7, .int (nI n))]) hx hb dX9_join_125 hl (by decide) rfl (fun ls hl => ?_)
                      refine lv_iload hx hb dX9_join_127 (lv_at hl 7 rfl) ?_
                      refine zi_lt hx hb (show (-1 : Int32).toInt = -1 from rfl) dX9_join_129 (tgt := 151) (by decide) (fun c_48 => ?_) (fun c_48 => ?_)
                      · refine lv_iload hx hb dX9_join_151 (lv_at hl 7 rfl) ?_
                        refine zi_lt hx hb (show (-1 : Int32).toInt = -1 from rfl) dX9_join_153 (tgt := 175) (by decide) (fun c_49 => ?_) (fun c_49 => ?_)
                        · refine lv_iload hx hb dX9_join_175 (lv_at hl 10 rfl) ?_
                          refine lv_iload hx hb dX9_join_177 (lv_at hl 1 rfl) ?_
                          refine nb_ifeq hx hb dX9_join_179 (tgt := 186) (by decide) (fun c_50 => ?_) (fun c_50 => ?_)
                          · cases c_50
                          · refine lv_iconst (v := nI 1) hx hb dX9_join_182 rfl ?_
                            refine lv_goto (tgt := 187) hx hb dX9_join_183 (by decide) ?_
                            refine nn_add hx hb dX9_join_187 ?_
                            refine lv_istore (lv' := [(7, .int (nI (n + 1))), (10, .int (bI true)), (9, .int (bI true)), (8, .int o1), (0, .ref x), (1, .int (nI t)), (2, .int (nI u)), (3, .int (nI dn)), (4, .int (-1)), (5, .int (nI i)), (6, .int (nI j))]) hx hb dX9_join_188 hl (by decide) rfl (fun ls hl => ?_)
                            refine lv_iload hx hb dX9_join_190 (lv_at hl 9 rfl) ?_
                            refine lv_iload hx hb dX9_join_192 (lv_at hl 3 rfl) ?_
                            refine zi_gt hx hb ho1 dX9_join_194 (tgt := 201) (by decide) (fun c_51 => ?_) (fun c_51 => ?_)
                            · refine lv_iconst (v := nI 0) hx hb dX9_join_201 rfl ?_
                              refine nn_add0 hx hb dX9_join_202 ?_
                              refine lv_istore (lv' := [(5, .int (nI i)), (7, .int (nI (n + 1))), (10, .int (bI true)), (9, .int (bI true)), (8, .int o1), (0, .ref x), (1, .int (nI t)), (2, .int (nI u)), (3, .int (nI dn)), (4, .int (-1)), (6, .int (nI j))]) hx hb dX9_join_203 hl (by decide) rfl (fun ls hl => ?_)
                              refine lv_iload hx hb dX9_join_205 (lv_at hl 10 rfl) ?_
                              refine lv_iload hx hb dX9_join_207 (lv_at hl 4 rfl) ?_
                              refine zi_lt hx hb ho1 dX9_join_209 (tgt := 216) (by decide) (fun c_52 => ?_) (fun c_52 => ?_)
                              · exact absurd c_52 (by omega)
                              · refine lv_iconst (v := nI 1) hx hb dX9_join_212 rfl ?_
                                refine lv_goto (tgt := 217) hx hb dX9_join_213 (by decide) ?_
                                refine nn_add hx hb dX9_join_217 ?_
                                refine lv_istore (lv' := [(6, .int (nI (j + 1))), (5, .int (nI i)), (7, .int (nI (n + 1))), (10, .int (bI true)), (9, .int (bI true)), (8, .int o1), (0, .ref x), (1, .int (nI t)), (2, .int (nI u)), (3, .int (nI dn)), (4, .int (-1))]) hx hb dX9_join_218 hl (by decide) rfl (fun ls hl => ?_)
                                refine lv_goto (tgt := 20) hx hb dX9_join_220 (by decide) ?_
                                have hJ := jn_T (S := Ts t) (T := Ts u) (i := i) (j := j) (d := dn - n) (by omega) (by first | exact Or.inl (by omega) | exact Or.inr ⟨by omega, by omega⟩)
                                rw [if_pos (by omega), Nat.sub_sub] at hJ
                                rw [hJ] at hcnt
                                dsimp only at hcnt
                                exact ih_20 i (j + 1) (n + 1) _ (by omega) (by omega) (by omega) (by omega) (by omega) (lv_sub hl [6, 7, 8, 9, 10, 1, 0, 2] rfl)
                            · exact absurd c_51 (by omega)
                        · exact absurd c_49 (by omega)
                      · exact absurd c_48 (by omega)
                · exact absurd c_40 (by omega)
            · refine lv_iconst (v := (-1)) hx hb dX9_join_68 rfl ?_
              refine lv_goto (tgt := 82) hx hb dX9_join_69 (by decide) ?_
              refine lv_istore (lv' := [(8, .int (-1)), (0, .ref x), (1, .int (nI t)), (2, .int (nI u)), (3, .int (nI dn)), (4, .int (-1)), (5, .int (nI i)), (6, .int (nI j)), (7, .int (nI n))]) hx hb dX9_join_82 hl (by decide) rfl (fun ls hl => ?_)
              refine lv_iload hx hb dX9_join_84 (lv_at hl 0 rfl) ?_
              refine zi_ne hx hb (show (-1 : Int32).toInt = -1 from rfl) dX9_join_86 (tgt := 102) (by decide) (fun c_53 => ?_) (fun c_53 => ?_)
              · refine lv_iconst (v := bI true) hx hb dX9_join_102 rfl ?_
                refine lv_goto (tgt := 107) hx hb dX9_join_103 (by decide) ?_
                refine lv_istore (lv' := [(9, .int (bI true)), (8, .int (-1)), (0, .ref x), (1, .int (nI t)), (2, .int (nI u)), (3, .int (nI dn)), (4, .int (-1)), (5, .int (nI i)), (6, .int (nI j)), (7, .int (nI n))]) hx hb dX9_join_107 hl (by decide) rfl (fun ls hl => ?_)
                refine lv_iload hx hb dX9_join_109 (lv_at hl 0 rfl) ?_
                refine nb_ifeq hx hb dX9_join_111 (tgt := 124) (by decide) (fun c_54 => ?_) (fun c_54 => ?_)
                · cases c_54
                · refine lv_iload hx hb dX9_join_114 (lv_at hl 9 rfl) ?_
                  refine lv_iload_n hx hb dX9_join_116 rfl (lv_at hl 5 rfl) ?_
                  refine nn_ge hx hb dX9_join_117 (tgt := 124) (by decide) (by omega) (by omega) (fun c_55 => ?_) (fun c_55 => ?_)
                  · refine lv_iconst (v := bI false) hx hb dX9_join_124 rfl ?_
                    refine lv_istore (lv' := [(10, .int (bI false)), (9, .int (bI true)), (8, .int (-1)), (0, .ref x), (1, .int (nI t)), (2, .int (nI u)), (3, .int (nI dn)), (4, .int (-1)), (5, .int (nI i)), (6, .int (nI j)), (7, .int (nI n))]) hx hb dX9_join_125 hl (by decide) rfl (fun ls hl => ?_)
                    refine lv_iload hx hb dX9_join_127 (lv_at hl 7 rfl) ?_
                    refine zi_lt hx hb (show (-1 : Int32).toInt = -1 from rfl) dX9_join_129 (tgt := 151) (by decide) (fun c_56 => ?_) (fun c_56 => ?_)
                    · refine lv_iload hx hb dX9_join_151 (lv_at hl 7 rfl) ?_
                      refine zi_lt hx hb (show (-1 : Int32).toInt = -1 from rfl) dX9_join_153 (tgt := 175) (by decide) (fun c_57 => ?_) (fun c_57 => ?_)
                      · refine lv_iload hx hb dX9_join_175 (lv_at hl 10 rfl) ?_
                        refine lv_iload hx hb dX9_join_177 (lv_at hl 1 rfl) ?_
                        refine nb_ifeq hx hb dX9_join_179 (tgt := 186) (by decide) (fun c_58 => ?_) (fun c_58 => ?_)
                        · cases c_58
                        · refine lv_iconst (v := nI 1) hx hb dX9_join_182 rfl ?_
                          refine lv_goto (tgt := 187) hx hb dX9_join_183 (by decide) ?_
                          refine nn_add hx hb dX9_join_187 ?_
                          refine lv_istore (lv' := [(7, .int (nI (n + 1))), (10, .int (bI false)), (9, .int (bI true)), (8, .int (-1)), (0, .ref x), (1, .int (nI t)), (2, .int (nI u)), (3, .int (nI dn)), (4, .int (-1)), (5, .int (nI i)), (6, .int (nI j))]) hx hb dX9_join_188 hl (by decide) rfl (fun ls hl => ?_)
                          refine lv_iload hx hb dX9_join_190 (lv_at hl 9 rfl) ?_
                          refine lv_iload hx hb dX9_join_192 (lv_at hl 3 rfl) ?_
                          refine zi_gt hx hb (show (-1 : Int32).toInt = -1 from rfl) dX9_join_194 (tgt := 201) (by decide) (fun c_59 => ?_) (fun c_59 => ?_)
                          · exact absurd c_59 (by omega)
                          · refine lv_iconst (v := nI 1) hx hb dX9_join_197 rfl ?_
                            refine lv_goto (tgt := 202) hx hb dX9_join_198 (by decide) ?_
                            refine nn_add hx hb dX9_join_202 ?_
                            refine lv_istore (lv' := [(5, .int (nI (i + 1))), (7, .int (nI (n + 1))), (10, .int (bI false)), (9, .int (bI true)), (8, .int (-1)), (0, .ref x), (1, .int (nI t)), (2, .int (nI u)), (3, .int (nI dn)), (4, .int (-1)), (6, .int (nI j))]) hx hb dX9_join_203 hl (by decide) rfl (fun ls hl => ?_)
                            refine lv_iload hx hb dX9_join_205 (lv_at hl 10 rfl) ?_
                            refine lv_iload hx hb dX9_join_207 (lv_at hl 4 rfl) ?_
                            refine zi_lt hx hb (show (-1 : Int32).toInt = -1 from rfl) dX9_join_209 (tgt := 216) (by decide) (fun c_60 => ?_) (fun c_60 => ?_)
                            · refine lv_iconst (v := nI 0) hx hb dX9_join_216 rfl ?_
                              refine nn_add0 hx hb dX9_join_217 ?_
                              refine lv_istore (lv' := [(6, .int (nI j)), (5, .int (nI (i + 1))), (7, .int (nI (n + 1))), (10, .int (bI false)), (9, .int (bI true)), (8, .int (-1)), (0, .ref x), (1, .int (nI t)), (2, .int (nI u)), (3, .int (nI dn)), (4, .int (-1))]) hx hb dX9_join_218 hl (by decide) rfl (fun ls hl => ?_)
                              refine lv_goto (tgt := 20) hx hb dX9_join_220 (by decide) ?_
                              have hJ := jn_S (S := Ts t) (T := Ts u) (i := i) (j := j) (d := dn - n) (by omega) (by first | exact Or.inl (by omega) | exact Or.inr ⟨by omega, by omega⟩)
                              rw [if_neg (by omega), Nat.sub_sub] at hJ
                              rw [hJ] at hcnt
                              dsimp only at hcnt
                              exact ih_20 (i + 1) j (n + 1) _ (by omega) (by omega) (by omega) (by omega) (by omega) (lv_sub hl [6, 7, 8, 9, 10, 1, 0, 2] rfl)
                            · exact absurd c_60 (by omega)
                      · exact absurd c_57 (by omega)
                    · exact absurd c_56 (by omega)
                  · refine lv_iconst (v := bI true) hx hb dX9_join_120 rfl ?_
                    refine lv_goto (tgt := 125) hx hb dX9_join_121 (by decide) ?_
                    refine lv_istore (lv' := [(10, .int (bI true)), (9, .int (bI true)), (8, .int (-1)), (0, .ref x), (1, .int (nI t)), (2, .int (nI u)), (3, .int (nI dn)), (4, .int (-1)), (5, .int (nI i)), (6, .int (nI j)), (7, .int (nI n))]) hx hb dX9_join_125 hl (by decide) rfl (fun ls hl => ?_)
                    refine lv_iload hx hb dX9_join_127 (lv_at hl 7 rfl) ?_
                    refine zi_lt hx hb (show (-1 : Int32).toInt = -1 from rfl) dX9_join_129 (tgt := 151) (by decide) (fun c_61 => ?_) (fun c_61 => ?_)
                    · refine lv_iload hx hb dX9_join_151 (lv_at hl 7 rfl) ?_
                      refine zi_lt hx hb (show (-1 : Int32).toInt = -1 from rfl) dX9_join_153 (tgt := 175) (by decide) (fun c_62 => ?_) (fun c_62 => ?_)
                      · refine lv_iload hx hb dX9_join_175 (lv_at hl 10 rfl) ?_
                        refine lv_iload hx hb dX9_join_177 (lv_at hl 1 rfl) ?_
                        refine nb_ifeq hx hb dX9_join_179 (tgt := 186) (by decide) (fun c_63 => ?_) (fun c_63 => ?_)
                        · cases c_63
                        · refine lv_iconst (v := nI 1) hx hb dX9_join_182 rfl ?_
                          refine lv_goto (tgt := 187) hx hb dX9_join_183 (by decide) ?_
                          refine nn_add hx hb dX9_join_187 ?_
                          refine lv_istore (lv' := [(7, .int (nI (n + 1))), (10, .int (bI true)), (9, .int (bI true)), (8, .int (-1)), (0, .ref x), (1, .int (nI t)), (2, .int (nI u)), (3, .int (nI dn)), (4, .int (-1)), (5, .int (nI i)), (6, .int (nI j))]) hx hb dX9_join_188 hl (by decide) rfl (fun ls hl => ?_)
                          refine lv_iload hx hb dX9_join_190 (lv_at hl 9 rfl) ?_
                          refine lv_iload hx hb dX9_join_192 (lv_at hl 3 rfl) ?_
                          refine zi_gt hx hb (show (-1 : Int32).toInt = -1 from rfl) dX9_join_194 (tgt := 201) (by decide) (fun c_64 => ?_) (fun c_64 => ?_)
                          · exact absurd c_64 (by omega)
                          · refine lv_iconst (v := nI 1) hx hb dX9_join_197 rfl ?_
                            refine lv_goto (tgt := 202) hx hb dX9_join_198 (by decide) ?_
                            refine nn_add hx hb dX9_join_202 ?_
                            refine lv_istore (lv' := [(5, .int (nI (i + 1))), (7, .int (nI (n + 1))), (10, .int (bI true)), (9, .int (bI true)), (8, .int (-1)), (0, .ref x), (1, .int (nI t)), (2, .int (nI u)), (3, .int (nI dn)), (4, .int (-1)), (6, .int (nI j))]) hx hb dX9_join_203 hl (by decide) rfl (fun ls hl => ?_)
                            refine lv_iload hx hb dX9_join_205 (lv_at hl 10 rfl) ?_
                            refine lv_iload hx hb dX9_join_207 (lv_at hl 4 rfl) ?_
                            refine zi_lt hx hb (show (-1 : Int32).toInt = -1 from rfl) dX9_join_209 (tgt := 216) (by decide) (fun c_65 => ?_) (fun c_65 => ?_)
                            · refine lv_iconst (v := nI 0) hx hb dX9_join_216 rfl ?_
                              refine nn_add0 hx hb dX9_join_217 ?_
                              refine lv_istore (lv' := [(6, .int (nI j)), (5, .int (nI (i + 1))), (7, .int (nI (n + 1))), (10, .int (bI true)), (9, .int (bI true)), (8, .int (-1)), (0, .ref x), (1, .int (nI t)), (2, .int (nI u)), (3, .int (nI dn)), (4, .int (-1))]) hx hb dX9_join_218 hl (by decide) rfl (fun ls hl => ?_)
                              refine lv_goto (tgt := 20) hx hb dX9_join_220 (by decide) ?_
                              have hJ := jn_S (S := Ts t) (T := Ts u) (i := i) (j := j) (d := dn - n) (by omega) (by first | exact Or.inl (by omega) | exact Or.inr ⟨by omega, by omega⟩)
                              rw [if_pos (by omega), Nat.sub_sub] at hJ
                              rw [hJ] at hcnt
                              dsimp only at hcnt
                              exact ih_20 (i + 1) j (n + 1) _ (by omega) (by omega) (by omega) (by omega) (by omega) (lv_sub hl [6, 7, 8, 9, 10, 1, 0, 2] rfl)
                            · exact absurd c_65 (by omega)
                      · exact absurd c_62 (by omega)
                    · exact absurd c_61 (by omega)
              · exact absurd c_53 (by omega)
          · refine lv_iconst (v := nI 1) hx hb dX9_join_53 rfl ?_
            refine lv_goto (tgt := 82) hx hb dX9_join_54 (by decide) ?_
            refine lv_istore (lv' := [(8, .int (nI 1)), (0, .ref x), (1, .int (nI t)), (2, .int (nI u)), (3, .int (nI dn)), (4, .int (-1)), (5, .int (nI i)), (6, .int (nI j)), (7, .int (nI n))]) hx hb dX9_join_82 hl (by decide) rfl (fun ls hl => ?_)
            refine lv_iload hx hb dX9_join_84 (lv_at hl 0 rfl) ?_
            refine zi_ne hx hb (show (nI 1).toInt = 1 from rfl) dX9_join_86 (tgt := 102) (by decide) (fun c_66 => ?_) (fun c_66 => ?_)
            · refine lv_iconst (v := bI true) hx hb dX9_join_102 rfl ?_
              refine lv_goto (tgt := 107) hx hb dX9_join_103 (by decide) ?_
              refine lv_istore (lv' := [(9, .int (bI true)), (8, .int (nI 1)), (0, .ref x), (1, .int (nI t)), (2, .int (nI u)), (3, .int (nI dn)), (4, .int (-1)), (5, .int (nI i)), (6, .int (nI j)), (7, .int (nI n))]) hx hb dX9_join_107 hl (by decide) rfl (fun ls hl => ?_)
              refine lv_iload hx hb dX9_join_109 (lv_at hl 0 rfl) ?_
              refine nb_ifeq hx hb dX9_join_111 (tgt := 124) (by decide) (fun c_67 => ?_) (fun c_67 => ?_)
              · cases c_67
              · refine lv_iload hx hb dX9_join_114 (lv_at hl 9 rfl) ?_
                refine lv_iload_n hx hb dX9_join_116 rfl (lv_at hl 5 rfl) ?_
                refine nn_ge hx hb dX9_join_117 (tgt := 124) (by decide) (by omega) (by omega) (fun c_68 => ?_) (fun c_68 => ?_)
                · refine lv_iconst (v := bI false) hx hb dX9_join_124 rfl ?_
                  refine lv_istore (lv' := [(10, .int (bI false)), (9, .int (bI true)), (8, .int (nI 1)), (0, .ref x), (1, .int (nI t)), (2, .int (nI u)), (3, .int (nI dn)), (4, .int (-1)), (5, .int (nI i)), (6, .int (nI j)), (7, .int (nI n))]) hx hb dX9_join_125 hl (by decide) rfl (fun ls hl => ?_)
                  refine lv_iload hx hb dX9_join_127 (lv_at hl 7 rfl) ?_
                  refine zi_lt hx hb (show (-1 : Int32).toInt = -1 from rfl) dX9_join_129 (tgt := 151) (by decide) (fun c_69 => ?_) (fun c_69 => ?_)
                  · refine lv_iload hx hb dX9_join_151 (lv_at hl 7 rfl) ?_
                    refine zi_lt hx hb (show (-1 : Int32).toInt = -1 from rfl) dX9_join_153 (tgt := 175) (by decide) (fun c_70 => ?_) (fun c_70 => ?_)
                    · refine lv_iload hx hb dX9_join_175 (lv_at hl 10 rfl) ?_
                      refine lv_iload hx hb dX9_join_177 (lv_at hl 1 rfl) ?_
                      refine nb_ifeq hx hb dX9_join_179 (tgt := 186) (by decide) (fun c_71 => ?_) (fun c_71 => ?_)
                      · cases c_71
                      · refine lv_iconst (v := nI 1) hx hb dX9_join_182 rfl ?_
                        refine lv_goto (tgt := 187) hx hb dX9_join_183 (by decide) ?_
                        refine nn_add hx hb dX9_join_187 ?_
                        refine lv_istore (lv' := [(7, .int (nI (n + 1))), (10, .int (bI false)), (9, .int (bI true)), (8, .int (nI 1)), (0, .ref x), (1, .int (nI t)), (2, .int (nI u)), (3, .int (nI dn)), (4, .int (-1)), (5, .int (nI i)), (6, .int (nI j))]) hx hb dX9_join_188 hl (by decide) rfl (fun ls hl => ?_)
                        refine lv_iload hx hb dX9_join_190 (lv_at hl 9 rfl) ?_
                        refine lv_iload hx hb dX9_join_192 (lv_at hl 3 rfl) ?_
                        refine zi_gt hx hb (show (nI 1).toInt = 1 from rfl) dX9_join_194 (tgt := 201) (by decide) (fun c_72 => ?_) (fun c_72 => ?_)
                        · refine lv_iconst (v := nI 0) hx hb dX9_join_201 rfl ?_
                          refine nn_add0 hx hb dX9_join_202 ?_
                          refine lv_istore (lv' := [(5, .int (nI i)), (7, .int (nI (n + 1))), (10, .int (bI false)), (9, .int (bI true)), (8, .int (nI 1)), (0, .ref x), (1, .int (nI t)), (2, .int (nI u)), (3, .int (nI dn)), (4, .int (-1)), (6, .int (nI j))]) hx hb dX9_join_203 hl (by decide) rfl (fun ls hl => ?_)
                          refine lv_iload hx hb dX9_join_205 (lv_at hl 10 rfl) ?_
                          refine lv_iload hx hb dX9_join_207 (lv_at hl 4 rfl) ?_
                          refine zi_lt hx hb (show (nI 1).toInt = 1 from rfl) dX9_join_209 (tgt := 216) (by decide) (fun c_73 => ?_) (fun c_73 => ?_)
                          · exact absurd c_73 (by omega)
                          · refine lv_iconst (v := nI 1) hx hb dX9_join_212 rfl ?_
                            refine lv_goto (tgt := 217) hx hb dX9_join_213 (by decide) ?_
                            refine nn_add hx hb dX9_join_217 ?_
                            refine lv_istore (lv' := [(6, .int (nI (j + 1))), (5, .int (nI i)), (7, .int (nI (n + 1))), (10, .int (bI false)), (9, .int (bI true)), (8, .int (nI 1)), (0, .ref x), (1, .int (nI t)), (2, .int (nI u)), (3, .int (nI dn)), (4, .int (-1))]) hx hb dX9_join_218 hl (by decide) rfl (fun ls hl => ?_)
                            refine lv_goto (tgt := 20) hx hb dX9_join_220 (by decide) ?_
                            have hJ := jn_T (S := Ts t) (T := Ts u) (i := i) (j := j) (d := dn - n) (by omega) (by first | exact Or.inl (by omega) | exact Or.inr ⟨by omega, by omega⟩)
                            rw [if_neg (by omega), Nat.sub_sub] at hJ
                            rw [hJ] at hcnt
                            dsimp only at hcnt
                            exact ih_20 i (j + 1) (n + 1) _ (by omega) (by omega) (by omega) (by omega) (by omega) (lv_sub hl [6, 7, 8, 9, 10, 1, 0, 2] rfl)
                        · exact absurd c_72 (by omega)
                    · exact absurd c_70 (by omega)
                  · exact absurd c_69 (by omega)
                · refine lv_iconst (v := bI true) hx hb dX9_join_120 rfl ?_
                  refine lv_goto (tgt := 125) hx hb dX9_join_121 (by decide) ?_
                  refine lv_istore (lv' := [(10, .int (bI true)), (9, .int (bI true)), (8, .int (nI 1)), (0, .ref x), (1, .int (nI t)), (2, .int (nI u)), (3, .int (nI dn)), (4, .int (-1)), (5, .int (nI i)), (6, .int (nI j)), (7, .int (nI n))]) hx hb dX9_join_125 hl (by decide) rfl (fun ls hl => ?_)
                  refine lv_iload hx hb dX9_join_127 (lv_at hl 7 rfl) ?_
                  refine zi_lt hx hb (show (-1 : Int32).toInt = -1 from rfl) dX9_join_129 (tgt := 151) (by decide) (fun c_74 => ?_) (fun c_74 => ?_)
                  · refine lv_iload hx hb dX9_join_151 (lv_at hl 7 rfl) ?_
                    refine zi_lt hx hb (show (-1 : Int32).toInt = -1 from rfl) dX9_join_153 (tgt := 175) (by decide) (fun c_75 => ?_) (fun c_75 => ?_)
                    · refine lv_iload hx hb dX9_join_175 (lv_at hl 10 rfl) ?_
                      refine lv_iload hx hb dX9_join_177 (lv_at hl 1 rfl) ?_
                      refine nb_ifeq hx hb dX9_join_179 (tgt := 186) (by decide) (fun c_76 => ?_) (fun c_76 => ?_)
                      · cases c_76
                      · refine lv_iconst (v := nI 1) hx hb dX9_join_182 rfl ?_
                        refine lv_goto (tgt := 187) hx hb dX9_join_183 (by decide) ?_
                        refine nn_add hx hb dX9_join_187 ?_
                        refine lv_istore (lv' := [(7, .int (nI (n + 1))), (10, .int (bI true)), (9, .int (bI true)), (8, .int (nI 1)), (0, .ref x), (1, .int (nI t)), (2, .int (nI u)), (3, .int (nI dn)), (4, .int (-1)), (5, .int (nI i)), (6, .int (nI j))]) hx hb dX9_join_188 hl (by decide) rfl (fun ls hl => ?_)
                        refine lv_iload hx hb dX9_join_190 (lv_at hl 9 rfl) ?_
                        refine lv_iload hx hb dX9_join_192 (lv_at hl 3 rfl) ?_
                        refine zi_gt hx hb (show (nI 1).toInt = 1 from rfl) dX9_join_194 (tgt := 201) (by decide) (fun c_77 => ?_) (fun c_77 => ?_)
                        · refine lv_iconst (v := nI 0) hx hb dX9_join_201 rfl ?_
                          refine nn_add0 hx hb dX9_join_202 ?_
                          refine lv_istore (lv' := [(5, .int (nI i)), (7, .int (nI (n + 1))), (10, .int (bI true)), (9, .int (bI true)), (8, .int (nI 1)), (0, .ref x), (1, .int (nI t)), (2, .int (nI u)), (3, .int (nI dn)), (4, .int (-1)), (6, .int (nI j))]) hx hb dX9_join_203 hl (by decide) rfl (fun ls hl => ?_)
                          refine lv_iload hx hb dX9_join_205 (lv_at hl 10 rfl) ?_
                          refine lv_iload hx hb dX9_join_207 (lv_at hl 4 rfl) ?_
                          refine zi_lt hx hb (show (nI 1).toInt = 1 from rfl) dX9_join_209 (tgt := 216) (by decide) (fun c_78 => ?_) (fun c_78 => ?_)
                          · exact absurd c_78 (by omega)
                          · refine lv_iconst (v := nI 1) hx hb dX9_join_212 rfl ?_
                            refine lv_goto (tgt := 217) hx hb dX9_join_213 (by decide) ?_
                            refine nn_add hx hb dX9_join_217 ?_
                            refine lv_istore (lv' := [(6, .int (nI (j + 1))), (5, .int (nI i)), (7, .int (nI (n + 1))), (10, .int (bI true)), (9, .int (bI true)), (8, .int (nI 1)), (0, .ref x), (1, .int (nI t)), (2, .int (nI u)), (3, .int (nI dn)), (4, .int (-1))]) hx hb dX9_join_218 hl (by decide) rfl (fun ls hl => ?_)
                            refine lv_goto (tgt := 20) hx hb dX9_join_220 (by decide) ?_
                            have hJ := jn_T (S := Ts t) (T := Ts u) (i := i) (j := j) (d := dn - n) (by omega) (by first | exact Or.inl (by omega) | exact Or.inr ⟨by omega, by omega⟩)
                            rw [if_pos (by omega), Nat.sub_sub] at hJ
                            rw [hJ] at hcnt
                            dsimp only at hcnt
                            exact ih_20 i (j + 1) (n + 1) _ (by omega) (by omega) (by omega) (by omega) (by omega) (lv_sub hl [6, 7, 8, 9, 10, 1, 0, 2] rfl)
                        · exact absurd c_77 (by omega)
                    · exact absurd c_75 (by omega)
                  · exact absurd c_74 (by omega)
            · exact absurd c_66 (by omega)
        · refine lv_iload hx hb dX9_join_31 (lv_at hl 6 rfl) ?_
          refine lv_aload_n hx hb dX9_join_33 rfl (lv_at hl 0 rfl) ?_
          refine rg_many hC hP k_many dX9_join_34 ?_
          refine lv_iload_n hx hb dX9_join_37 rfl (lv_at hl 2 rfl) ?_
          refine rl_many hC hP (by omega) dX9_join_38 ?_
          refine nn_eqi (y := nI ((Ts u).length)) u1 ?_
          refine nn_ge hx hb dX9_join_39 (tgt := 223) (by decide) (by omega) (by omega) (fun c_79 => ?_) (fun c_79 => ?_)
          · refine lv_iload hx hb dX9_join_223 (lv_at hl 7 rfl) ?_
            have hJ := jn_end (S := Ts t) (T := Ts u) (i := i) (j := j) (d := dn - n) (by omega) (by omega)
            rw [hJ] at hcnt
            rw [hQ]
            exact pf_iret hx hb hr hlocks (by rw [hcnt]; rfl) dX9_join_225
          · refine lv_iload hx hb dX9_join_42 (lv_at hl 5 rfl) ?_
            refine lv_aload_n hx hb dX9_join_44 rfl (lv_at hl 0 rfl) ?_
            refine rg_many hC hP k_many dX9_join_45 ?_
            refine lv_iload_n hx hb dX9_join_48 rfl (lv_at hl 1 rfl) ?_
            refine rl_many hC hP (by omega) dX9_join_49 ?_
            refine nn_eqi (y := nI ((Ts t).length)) t1 ?_
            refine nn_ne hx hb dX9_join_50 (tgt := 57) (by decide) (by omega) (by omega) (fun c_80 => ?_) (fun c_80 => ?_)
            · refine lv_iload hx hb dX9_join_57 (lv_at hl 6 rfl) ?_
              refine lv_aload_n hx hb dX9_join_59 rfl (lv_at hl 0 rfl) ?_
              refine rg_many hC hP k_many dX9_join_60 ?_
              refine lv_iload_n hx hb dX9_join_63 rfl (lv_at hl 2 rfl) ?_
              refine rl_many hC hP (by omega) dX9_join_64 ?_
              refine nn_eqi (y := nI ((Ts u).length)) u1 ?_
              refine nn_ne hx hb dX9_join_65 (tgt := 72) (by decide) (by omega) (by omega) (fun c_81 => ?_) (fun c_81 => ?_)
              · refine lv_aload_n hx hb dX9_join_72 rfl (lv_at hl 0 rfl) ?_
                refine lv_iload_n hx hb dX9_join_73 rfl (lv_at hl 1 rfl) ?_
                refine lv_iload hx hb dX9_join_74 (lv_at hl 5 rfl) ?_
                refine lv_iload_n hx hb dX9_join_76 rfl (lv_at hl 2 rfl) ?_
                refine lv_iload hx hb dX9_join_77 (lv_at hl 6 rfl) ?_
                refine pf_callV (C := RX9) (As := [.int (nI t), .int (nI i), .int (nI u), .int (nI j)]) (rest := []) (m_orderOf l hT (Ts) t i u j hRT ht (by omega) hu (by omega)) ⟨hx, hb, hml, hown, hts⟩ (cwV 4 hts gX9_join_X9_orderOf rfl rfl rfl (by decide +kernel) ⟨Nat.le_of_ble_eq_true rfl, Nat.le_of_ble_eq_true rfl⟩) hK hP (r_recv hK hP) rfl hl.1 rfl (Nat.le_of_ble_eq_true rfl) dX9_join_79 ⟨Nat.le_of_ble_eq_true rfl, Nat.le_of_ble_eq_true rfl⟩ (fun r_82 hr_82 => ?_)
                obtain ⟨o1, rfl, ho1⟩ := hr_82
                refine lv_istore (lv' := [(8, .int o1), (0, .ref x), (1, .int (nI t)), (2, .int (nI u)), (3, .int (nI dn)), (4, .int (-1)), (5, .int (nI i)), (6, .int (nI j)), (7, .int (nI n))]) hx hb dX9_join_82 hl (by decide) rfl (fun ls hl => ?_)
                rcases Int.lt_trichotomy (pcm ((Ts t).getD i e0).1 ((Ts u).getD j e0).1) 0 with hz | hz | hz
                · refine lv_iload hx hb dX9_join_84 (lv_at hl 0 rfl) ?_
                  refine zi_ne hx hb ho1 dX9_join_86 (tgt := 102) (by decide) (fun c_83 => ?_) (fun c_83 => ?_)
                  · refine lv_iconst (v := bI true) hx hb dX9_join_102 rfl ?_
                    refine lv_goto (tgt := 107) hx hb dX9_join_103 (by decide) ?_
                    refine lv_istore (lv' := [(9, .int (bI true)), (8, .int o1), (0, .ref x), (1, .int (nI t)), (2, .int (nI u)), (3, .int (nI dn)), (4, .int (-1)), (5, .int (nI i)), (6, .int (nI j)), (7, .int (nI n))]) hx hb dX9_join_107 hl (by decide) rfl (fun ls hl => ?_)
                    refine lv_iload hx hb dX9_join_109 (lv_at hl 0 rfl) ?_
                    refine nb_ifeq hx hb dX9_join_111 (tgt := 124) (by decide) (fun c_84 => ?_) (fun c_84 => ?_)
                    · cases c_84
                    · refine lv_iload hx hb dX9_join_114 (lv_at hl 9 rfl) ?_
                      refine lv_iload_n hx hb dX9_join_116 rfl (lv_at hl 5 rfl) ?_
                      refine nn_ge hx hb dX9_join_117 (tgt := 124) (by decide) (by omega) (by omega) (fun c_85 => ?_) (fun c_85 => ?_)
                      · refine lv_iconst (v := bI false) hx hb dX9_join_124 rfl ?_
                        refine lv_istore (lv' := [(10, .int (bI false)), (9, .int (bI true)), (8, .int o1), (0, .ref x), (1, .int (nI t)), (2, .int (nI u)), (3, .int (nI dn)), (4, .int (-1)), (5, .int (nI i)), (6, .int (nI j)), (7, .int (nI n))]) hx hb dX9_join_125 hl (by decide) rfl (fun ls hl => ?_)
                        refine lv_iload hx hb dX9_join_127 (lv_at hl 7 rfl) ?_
                        refine zi_lt hx hb (show (-1 : Int32).toInt = -1 from rfl) dX9_join_129 (tgt := 151) (by decide) (fun c_86 => ?_) (fun c_86 => ?_)
                        · refine lv_iload hx hb dX9_join_151 (lv_at hl 7 rfl) ?_
                          refine zi_lt hx hb (show (-1 : Int32).toInt = -1 from rfl) dX9_join_153 (tgt := 175) (by decide) (fun c_87 => ?_) (fun c_87 => ?_)
                          · refine lv_iload hx hb dX9_join_175 (lv_at hl 10 rfl) ?_
                            refine lv_iload hx hb dX9_join_177 (lv_at hl 1 rfl) ?_
                            refine nb_ifeq hx hb dX9_join_179 (tgt := 186) (by decide) (fun c_88 => ?_) (fun c_88 => ?_)
                            · cases c_88
                            · refine lv_iconst (v := nI 1) hx hb dX9_join_182 rfl ?_
                              refine lv_goto (tgt := 187) hx hb dX9_join_183 (by decide) ?_
                              refine nn_add hx hb dX9_join_187 ?_
                              refine lv_istore (lv' := [(7, .int (nI (n + 1))), (10, .int (bI false)), (9, .int (bI true)), (8, .int o1), (0, .ref x), (1, .int (nI t)), (2, .int (nI u)), (3, .int (nI dn)), (4, .int (-1)), (5, .int (nI i)), (6, .int (nI j))]) hx hb dX9_join_188 hl (by decide) rfl (fun ls hl => ?_)
                              refine lv_iload hx hb dX9_join_190 (lv_at hl 9 rfl) ?_
                              refine lv_iload hx hb dX9_join_192 (lv_at hl 3 rfl) ?_
                              refine zi_gt hx hb ho1 dX9_join_194 (tgt := 201) (by decide) (fun c_89 => ?_) (fun c_89 => ?_)
                              · exact absurd c_89 (by omega)
                              · refine lv_iconst (v := nI 1) hx hb dX9_join_197 rfl ?_
                                refine lv_goto (tgt := 202) hx hb dX9_join_198 (by decide) ?_
                                refine nn_add hx hb dX9_join_202 ?_
                                refine lv_istore (lv' := [(5, .int (nI (i + 1))), (7, .int (nI (n + 1))), (10, .int (bI false)), (9, .int (bI true)), (8, .int o1), (0, .ref x), (1, .int (nI t)), (2, .int (nI u)), (3, .int (nI dn)), (4, .int (-1)), (6, .int (nI j))]) hx hb dX9_join_203 hl (by decide) rfl (fun ls hl => ?_)
                                refine lv_iload hx hb dX9_join_205 (lv_at hl 10 rfl) ?_
                                refine lv_iload hx hb dX9_join_207 (lv_at hl 4 rfl) ?_
                                refine zi_lt hx hb ho1 dX9_join_209 (tgt := 216) (by decide) (fun c_90 => ?_) (fun c_90 => ?_)
                                · refine lv_iconst (v := nI 0) hx hb dX9_join_216 rfl ?_
                                  refine nn_add0 hx hb dX9_join_217 ?_
                                  refine lv_istore (lv' := [(6, .int (nI j)), (5, .int (nI (i + 1))), (7, .int (nI (n + 1))), (10, .int (bI false)), (9, .int (bI true)), (8, .int o1), (0, .ref x), (1, .int (nI t)), (2, .int (nI u)), (3, .int (nI dn)), (4, .int (-1))]) hx hb dX9_join_218 hl (by decide) rfl (fun ls hl => ?_)
                                  refine lv_goto (tgt := 20) hx hb dX9_join_220 (by decide) ?_
                                  have hJ := jn_S (S := Ts t) (T := Ts u) (i := i) (j := j) (d := dn - n) (by omega) (by first | exact Or.inl (by omega) | exact Or.inr ⟨by omega, by omega⟩)
                                  rw [if_neg (by omega), Nat.sub_sub] at hJ
                                  rw [hJ] at hcnt
                                  dsimp only at hcnt
                                  exact ih_20 (i + 1) j (n + 1) _ (by omega) (by omega) (by omega) (by omega) (by omega) (lv_sub hl [6, 7, 8, 9, 10, 1, 0, 2] rfl)
                                · exact absurd c_90 (by omega)
                          · exact absurd c_87 (by omega)
                        · exact absurd c_86 (by omega)
                      · refine lv_iconst (v := bI true) hx hb dX9_join_120 rfl ?_
                        refine lv_goto (tgt := 125) hx hb dX9_join_121 (by decide) ?_
                        refine lv_istore (lv' := [(10, .int (bI true)), (9, .int (bI true)), (8, .int o1), (0, .ref x), (1, .int (nI t)), (2, .int (nI u)), (3, .int (nI dn)), (4, .int (-1)), (5, .int (nI i)), (6, .int (nI j)), (7, .int (nI n))]) hx hb dX9_join_125 hl (by decide) rfl (fun ls hl => ?_)
                        refine lv_iload hx hb dX9_join_127 (lv_at hl 7 rfl) ?_
                        refine zi_lt hx hb (show (-1 : Int32).toInt = -1 from rfl) dX9_join_129 (tgt := 151) (by decide) (fun c_91 => ?_) (fun c_91 => ?_)
                        · refine lv_iload hx hb dX9_join_151 (lv_at hl 7 rfl) ?_
                          refine zi_lt hx hb (show (-1 : Int32).toInt = -1 from rfl) dX9_join_153 (tgt := 175) (by decide) (fun c_92 => ?_) (fun c_92 => ?_)
                          · refine lv_iload hx hb dX9_join_175 (lv_at hl 10 rfl) ?_
                            refine lv_iload hx hb dX9_join_177 (lv_at hl 1 rfl) ?_
                            refine nb_ifeq hx hb dX9_join_179 (tgt := 186) (by decide) (fun c_93 => ?_) (fun c_93 => ?_)
                            · cases c_93
                            · refine lv_iconst (v := nI 1) hx hb dX9_join_182 rfl ?_
                              refine lv_goto (tgt := 187) hx hb dX9_join_183 (by decide) ?_
                              refine nn_add hx hb dX9_join_187 ?_
                              refine lv_istore (lv' := [(7, .int (nI (n + 1))), (10, .int (bI true)), (9, .int (bI true)), (8, .int o1), (0, .ref x), (1, .int (nI t)), (2, .int (nI u)), (3, .int (nI dn)), (4, .int (-1)), (5, .int (nI i)), (6, .int (nI j))]) hx hb dX9_join_188 hl (by decide) rfl (fun ls hl => ?_)
                              refine lv_iload hx hb dX9_join_190 (lv_at hl 9 rfl) ?_
                              refine lv_iload hx hb dX9_join_192 (lv_at hl 3 rfl) ?_
                              refine zi_gt hx hb ho1 dX9_join_194 (tgt := 201) (by decide) (fun c_94 => ?_) (fun c_94 => ?_)
                              · exact absurd c_94 (by omega)
                              · refine lv_iconst (v := nI 1) hx hb dX9_join_197 rfl ?_
                                refine lv_goto (tgt := 202) hx hb dX9_join_198 (by decide) ?_
                                refine nn_add hx hb dX9_join_202 ?_
                                refine lv_istore (lv' := [(5, .int (nI (i + 1))), (7, .int (nI (n + 1))), (10, .int (bI true)), (9, .int (bI true)), (8, .int o1), (0, .ref x), (1, .int (nI t)), (2, .int (nI u)), (3, .int (nI dn)), (4, .int (-1)), (6, .int (nI j))]) hx hb dX9_join_203 hl (by decide) rfl (fun ls hl => ?_)
                                refine lv_iload hx hb dX9_join_205 (lv_at hl 10 rfl) ?_
                                refine lv_iload hx hb dX9_join_207 (lv_at hl 4 rfl) ?_
                                refine zi_lt hx hb ho1 dX9_join_209 (tgt := 216) (by decide) (fun c_95 => ?_) (fun c_95 => ?_)
                                · refine lv_iconst (v := nI 0) hx hb dX9_join_216 rfl ?_
                                  refine nn_add0 hx hb dX9_join_217 ?_
                                  refine lv_istore (lv' := [(6, .int (nI j)), (5, .int (nI (i + 1))), (7, .int (nI (n + 1))), (10, .int (bI true)), (9, .int (bI true)), (8, .int o1), (0, .ref x), (1, .int (nI t)), (2, .int (nI u)), (3, .int (nI dn)), (4, .int (-1))]) hx hb dX9_join_218 hl (by decide) rfl (fun ls hl => ?_)
                                  refine lv_goto (tgt := 20) hx hb dX9_join_220 (by decide) ?_
                                  have hJ := jn_S (S := Ts t) (T := Ts u) (i := i) (j := j) (d := dn - n) (by omega) (by first | exact Or.inl (by omega) | exact Or.inr ⟨by omega, by omega⟩)
                                  rw [if_pos (by omega), Nat.sub_sub] at hJ
                                  rw [hJ] at hcnt
                                  dsimp only at hcnt
                                  exact ih_20 (i + 1) j (n + 1) _ (by omega) (by omega) (by omega) (by omega) (by omega) (lv_sub hl [6, 7, 8, 9, 10, 1, 0, 2] rfl)
                                · exact absurd c_95 (by omega)
                          · exact absurd c_92 (by omega)
                        · exact absurd c_91 (by omega)
                  · exact absurd c_83 (by omega)
                · refine lv_iload hx hb dX9_join_84 (lv_at hl 0 rfl) ?_
                  refine zi_ne hx hb ho1 dX9_join_86 (tgt := 102) (by decide) (fun c_96 => ?_) (fun c_96 => ?_)
                  · exact absurd c_96 (by omega)
                  · refine lv_aload_n hx hb dX9_join_89 rfl (lv_at hl 1 rfl) ?_
                    refine lv_iload_n hx hb dX9_join_90 rfl (lv_at hl 2 rfl) ?_
                    refine lv_iload hx hb dX9_join_91 (lv_at hl 6 rfl) ?_
                    refine lv_iload_n hx hb dX9_join_93 rfl (lv_at hl 3 rfl) ?_
                    refine lv_iload hx hb dX9_join_94 (lv_at hl 7 rfl) ?_
                    refine pf_callV (C := RX9) (As := [.int (nI t), .int (nI i), .int (nI u), .int (nI j)]) (rest := []) (m_isSame l hT (Ts) t i u j hRT ht (by omega) hu (by omega)) ⟨hx, hb, hml, hown, hts⟩ (cwV 4 hts gX9_join_X9_isSame rfl rfl rfl (by decide +kernel) ⟨Nat.le_of_ble_eq_true rfl, Nat.le_of_ble_eq_true rfl⟩) hK hP (r_recv hK hP) rfl hl.1 rfl (Nat.le_of_ble_eq_true rfl) dX9_join_96 ⟨Nat.le_of_ble_eq_true rfl, Nat.le_of_ble_eq_true rfl⟩ (fun r_97 hr_97 => ?_)
                    subst hr_97
                    refine nb_ifne hx hb dX9_join_99 (tgt := 106) (by decide) (fun c_98 => ?_) (fun c_98 => ?_)
                    · refine lv_iconst (v := bI false) hx hb dX9_join_106 rfl ?_
                      refine lv_istore (lv' := [(9, .int (bI false)), (8, .int o1), (0, .ref x), (1, .int (nI t)), (2, .int (nI u)), (3, .int (nI dn)), (4, .int (-1)), (5, .int (nI i)), (6, .int (nI j)), (7, .int (nI n))]) hx hb dX9_join_107 hl (by decide) rfl (fun ls hl => ?_)
                      refine lv_iload hx hb dX9_join_109 (lv_at hl 0 rfl) ?_
                      refine nb_ifeq hx hb dX9_join_111 (tgt := 124) (by decide) (fun c_99 => ?_) (fun c_99 => ?_)
                      · refine lv_iconst (v := bI false) hx hb dX9_join_124 rfl ?_
                        refine lv_istore (lv' := [(10, .int (bI false)), (9, .int (bI false)), (8, .int o1), (0, .ref x), (1, .int (nI t)), (2, .int (nI u)), (3, .int (nI dn)), (4, .int (-1)), (5, .int (nI i)), (6, .int (nI j)), (7, .int (nI n))]) hx hb dX9_join_125 hl (by decide) rfl (fun ls hl => ?_)
                        refine lv_iload hx hb dX9_join_127 (lv_at hl 7 rfl) ?_
                        refine zi_lt hx hb (show (-1 : Int32).toInt = -1 from rfl) dX9_join_129 (tgt := 151) (by decide) (fun c_100 => ?_) (fun c_100 => ?_)
                        · refine lv_iload hx hb dX9_join_151 (lv_at hl 7 rfl) ?_
                          refine zi_lt hx hb (show (-1 : Int32).toInt = -1 from rfl) dX9_join_153 (tgt := 175) (by decide) (fun c_101 => ?_) (fun c_101 => ?_)
                          · refine lv_iload hx hb dX9_join_175 (lv_at hl 10 rfl) ?_
                            refine lv_iload hx hb dX9_join_177 (lv_at hl 1 rfl) ?_
                            refine nb_ifeq hx hb dX9_join_179 (tgt := 186) (by decide) (fun c_102 => ?_) (fun c_102 => ?_)
                            · refine lv_iconst (v := nI 0) hx hb dX9_join_186 rfl ?_
                              refine nn_add0 hx hb dX9_join_187 ?_
                              refine lv_istore (lv' := [(7, .int (nI n)), (10, .int (bI false)), (9, .int (bI false)), (8, .int o1), (0, .ref x), (1, .int (nI t)), (2, .int (nI u)), (3, .int (nI dn)), (4, .int (-1)), (5, .int (nI i)), (6, .int (nI j))]) hx hb dX9_join_188 hl (by decide) rfl (fun ls hl => ?_)
                              refine lv_iload hx hb dX9_join_190 (lv_at hl 9 rfl) ?_
                              refine lv_iload hx hb dX9_join_192 (lv_at hl 3 rfl) ?_
                              refine zi_gt hx hb ho1 dX9_join_194 (tgt := 201) (by decide) (fun c_103 => ?_) (fun c_103 => ?_)
                              · exact absurd c_103 (by omega)
                              · refine lv_iconst (v := nI 1) hx hb dX9_join_197 rfl ?_
                                refine lv_goto (tgt := 202) hx hb dX9_join_198 (by decide) ?_
                                refine nn_add hx hb dX9_join_202 ?_
                                refine lv_istore (lv' := [(5, .int (nI (i + 1))), (7, .int (nI n)), (10, .int (bI false)), (9, .int (bI false)), (8, .int o1), (0, .ref x), (1, .int (nI t)), (2, .int (nI u)), (3, .int (nI dn)), (4, .int (-1)), (6, .int (nI j))]) hx hb dX9_join_203 hl (by decide) rfl (fun ls hl => ?_)
                                refine lv_iload hx hb dX9_join_205 (lv_at hl 10 rfl) ?_
                                refine lv_iload hx hb dX9_join_207 (lv_at hl 4 rfl) ?_
                                refine zi_lt hx hb ho1 dX9_join_209 (tgt := 216) (by decide) (fun c_104 => ?_) (fun c_104 => ?_)
                                · exact absurd c_104 (by omega)
                                · refine lv_iconst (v := nI 1) hx hb dX9_join_212 rfl ?_
                                  refine lv_goto (tgt := 217) hx hb dX9_join_213 (by decide) ?_
                                  refine nn_add hx hb dX9_join_217 ?_
                                  refine lv_istore (lv' := [(6, .int (nI (j + 1))), (5, .int (nI (i + 1))), (7, .int (nI n)), (10, .int (bI false)), (9, .int (bI false)), (8, .int o1), (0, .ref x), (1, .int (nI t)), (2, .int (nI u)), (3, .int (nI dn)), (4, .int (-1))]) hx hb dX9_join_218 hl (by decide) rfl (fun ls hl => ?_)
                                  refine lv_goto (tgt := 20) hx hb dX9_join_220 (by decide) ?_
                                  have hJ := jn_E (S := Ts t) (T := Ts u) (i := i) (j := j) (d := dn - n) (by omega) (by omega) hz (of_decide_eq_true (by assumption))
                                  rw [hJ] at hcnt
                                  dsimp only at hcnt
                                  exact ih_20 (i + 1) (j + 1) n _ (by omega) (by omega) (by omega) (by omega) (by omega) (lv_sub hl [6, 7, 8, 9, 10, 1, 0, 2] rfl)
                            · cases c_102
                          · exact absurd c_101 (by omega)
                        · exact absurd c_100 (by omega)
                      · cases c_99
                    · refine lv_iconst (v := bI true) hx hb dX9_join_102 rfl ?_
                      refine lv_goto (tgt := 107) hx hb dX9_join_103 (by decide) ?_
                      refine lv_istore (lv' := [(9, .int (bI true)), (8, .int o1), (0, .ref x), (1, .int (nI t)), (2, .int (nI u)), (3, .int (nI dn)), (4, .int (-1)), (5, .int (nI i)), (6, .int (nI j)), (7, .int (nI n))]) hx hb dX9_join_107 hl (by decide) rfl (fun ls hl => ?_)
                      refine lv_iload hx hb dX9_join_109 (lv_at hl 0 rfl) ?_
                      refine nb_ifeq hx hb dX9_join_111 (tgt := 124) (by decide) (fun c_105 => ?_) (fun c_105 => ?_)
                      · cases c_105
                      · refine lv_iload hx hb dX9_join_114 (lv_at hl 9 rfl) ?_
                        refine lv_iload_n hx hb dX9_join_116 rfl (lv_at hl 5 rfl) ?_
                        refine nn_ge hx hb dX9_join_117 (tgt := 124) (by decide) (by omega) (by omega) (fun c_106 => ?_) (fun c_106 => ?_)
                        · refine lv_iconst (v := bI false) hx hb dX9_join_124 rfl ?_
                          refine lv_istore (lv' := [(10, .int (bI false)), (9, .int (bI true)), (8, .int o1), (0, .ref x), (1, .int (nI t)), (2, .int (nI u)), (3, .int (nI dn)), (4, .int (-1)), (5, .int (nI i)), (6, .int (nI j)), (7, .int (nI n))]) hx hb dX9_join_125 hl (by decide) rfl (fun ls hl => ?_)
                          refine lv_iload hx hb dX9_join_127 (lv_at hl 7 rfl) ?_
                          refine zi_lt hx hb (show (-1 : Int32).toInt = -1 from rfl) dX9_join_129 (tgt := 151) (by decide) (fun c_107 => ?_) (fun c_107 => ?_)
                          · refine lv_iload hx hb dX9_join_151 (lv_at hl 7 rfl) ?_
                            refine zi_lt hx hb (show (-1 : Int32).toInt = -1 from rfl) dX9_join_153 (tgt := 175) (by decide) (fun c_108 => ?_) (fun c_108 => ?_)
                            · refine lv_iload hx hb dX9_join_175 (lv_at hl 10 rfl) ?_
                              refine lv_iload hx hb dX9_join_177 (lv_at hl 1 rfl) ?_
                              refine nb_ifeq hx hb dX9_join_179 (tgt := 186) (by decide) (fun c_109 => ?_) (fun c_109 => ?_)
                              · cases c_109
                              · refine lv_iconst (v := nI 1) hx hb dX9_join_182 rfl ?_
                                refine lv_goto (tgt := 187) hx hb dX9_join_183 (by decide) ?_
                                refine nn_add hx hb dX9_join_187 ?_
                                refine lv_istore (lv' := [(7, .int (nI (n + 1))), (10, .int (bI false)), (9, .int (bI true)), (8, .int o1), (0, .ref x), (1, .int (nI t)), (2, .int (nI u)), (3, .int (nI dn)), (4, .int (-1)), (5, .int (nI i)), (6, .int (nI j))]) hx hb dX9_join_188 hl (by decide) rfl (fun ls hl => ?_)
                                refine lv_iload hx hb dX9_join_190 (lv_at hl 9 rfl) ?_
                                refine lv_iload hx hb dX9_join_192 (lv_at hl 3 rfl) ?_
                                refine zi_gt hx hb ho1 dX9_join_194 (tgt := 201) (by decide) (fun c_110 => ?_) (fun c_110 => ?_)
                                · exact absurd c_110 (by omega)
                                · refine lv_iconst (v := nI 1) hx hb dX9_join_197 rfl ?_
                                  refine lv_goto (tgt := 202) hx hb dX9_join_198 (by decide) ?_
                                  refine nn_add hx hb dX9_join_202 ?_
                                  refine lv_istore (lv' := [(5, .int (nI (i + 1))), (7, .int (nI (n + 1))), (10, .int (bI false)), (9, .int (bI true)), (8, .int o1), (0, .ref x), (1, .int (nI t)), (2, .int (nI u)), (3, .int (nI dn)), (4, .int (-1)), (6, .int (nI j))]) hx hb dX9_join_203 hl (by decide) rfl (fun ls hl => ?_)
                                  refine lv_iload hx hb dX9_join_205 (lv_at hl 10 rfl) ?_
                                  refine lv_iload hx hb dX9_join_207 (lv_at hl 4 rfl) ?_
                                  refine zi_lt hx hb ho1 dX9_join_209 (tgt := 216) (by decide) (fun c_111 => ?_) (fun c_111 => ?_)
                                  · exact absurd c_111 (by omega)
                                  · refine lv_iconst (v := nI 1) hx hb dX9_join_212 rfl ?_
                                    refine lv_goto (tgt := 217) hx hb dX9_join_213 (by decide) ?_
                                    refine nn_add hx hb dX9_join_217 ?_
                                    refine lv_istore (lv' := [(6, .int (nI (j + 1))), (5, .int (nI (i + 1))), (7, .int (nI (n + 1))), (10, .int (bI false)), (9, .int (bI true)), (8, .int o1), (0, .ref x), (1, .int (nI t)), (2, .int (nI u)), (3, .int (nI dn)), (4, .int (-1))]) hx hb dX9_join_218 hl (by decide) rfl (fun ls hl => ?_)
                                    refine lv_goto (tgt := 20) hx hb dX9_join_220 (by decide) ?_
                                    have hJ := jn_C (S := Ts t) (T := Ts u) (i := i) (j := j) (d := dn - n) (by omega) (by omega) hz (of_decide_eq_false (by assumption))
                                    rw [if_neg (by omega), Nat.sub_sub] at hJ
                                    rw [hJ] at hcnt
                                    dsimp only at hcnt
                                    exact ih_20 (i + 1) (j + 1) (n + 1) _ (by omega) (by omega) (by omega) (by omega) (by omega) (lv_sub hl [6, 7, 8, 9, 10, 1, 0, 2] rfl)
                            · exact absurd c_108 (by omega)
                          · exact absurd c_107 (by omega)
                        · refine lv_iconst (v := bI true) hx hb dX9_join_120 rfl ?_
                          refine lv_goto (tgt := 125) hx hb dX9_join_121 (by decide) ?_
                          refine lv_istore (lv' := [(10, .int (bI true)), (9, .int (bI true)), (8, .int o1), (0, .ref x), (1, .int (nI t)), (2, .int (nI u)), (3, .int (nI dn)), (4, .int (-1)), (5, .int (nI i)), (6, .int (nI j)), (7, .int (nI n))]) hx hb dX9_join_125 hl (by decide) rfl (fun ls hl => ?_)
                          refine lv_iload hx hb dX9_join_127 (lv_at hl 7 rfl) ?_
                          refine zi_lt hx hb (show (-1 : Int32).toInt = -1 from rfl) dX9_join_129 (tgt := 151) (by decide) (fun c_112 => ?_) (fun c_112 => ?_)
                          · refine lv_iload hx hb dX9_join_151 (lv_at hl 7 rfl) ?_
                            refine zi_lt hx hb (show (-1 : Int32).toInt = -1 from rfl) dX9_join_153 (tgt := 175) (by decide) (fun c_113 => ?_) (fun c_113 => ?_)
                            · refine lv_iload hx hb dX9_join_175 (lv_at hl 10 rfl) ?_
                              refine lv_iload hx hb dX9_join_177 (lv_at hl 1 rfl) ?_
                              refine nb_ifeq hx hb dX9_join_179 (tgt := 186) (by decide) (fun c_114 => ?_) (fun c_114 => ?_)
                              · cases c_114
                              · refine lv_iconst (v := nI 1) hx hb dX9_join_182 rfl ?_
                                refine lv_goto (tgt := 187) hx hb dX9_join_183 (by decide) ?_
                                refine nn_add hx hb dX9_join_187 ?_
                                refine lv_istore (lv' := [(7, .int (nI (n + 1))), (10, .int (bI true)), (9, .int (bI true)), (8, .int o1), (0, .ref x), (1, .int (nI t)), (2, .int (nI u)), (3, .int (nI dn)), (4, .int (-1)), (5, .int (nI i)), (6, .int (nI j))]) hx hb dX9_join_188 hl (by decide) rfl (fun ls hl => ?_)
                                refine lv_iload hx hb dX9_join_190 (lv_at hl 9 rfl) ?_
                                refine lv_iload hx hb dX9_join_192 (lv_at hl 3 rfl) ?_
                                refine zi_gt hx hb ho1 dX9_join_194 (tgt := 201) (by decide) (fun c_115 => ?_) (fun c_115 => ?_)
                                · exact absurd c_115 (by omega)
                                · refine lv_iconst (v := nI 1) hx hb dX9_join_197 rfl ?_
                                  refine lv_goto (tgt := 202) hx hb dX9_join_198 (by decide) ?_
                                  refine nn_add hx hb dX9_join_202 ?_
                                  refine lv_istore (lv' := [(5, .int (nI (i + 1))), (7, .int (nI (n + 1))), (10, .int (bI true)), (9, .int (bI true)), (8, .int o1), (0, .ref x), (1, .int (nI t)), (2, .int (nI u)), (3, .int (nI dn)), (4, .int (-1)), (6, .int (nI j))]) hx hb dX9_join_203 hl (by decide) rfl (fun ls hl => ?_)
                                  refine lv_iload hx hb dX9_join_205 (lv_at hl 10 rfl) ?_
                                  refine lv_iload hx hb dX9_join_207 (lv_at hl 4 rfl) ?_
                                  refine zi_lt hx hb ho1 dX9_join_209 (tgt := 216) (by decide) (fun c_116 => ?_) (fun c_116 => ?_)
                                  · exact absurd c_116 (by omega)
                                  · refine lv_iconst (v := nI 1) hx hb dX9_join_212 rfl ?_
                                    refine lv_goto (tgt := 217) hx hb dX9_join_213 (by decide) ?_
                                    refine nn_add hx hb dX9_join_217 ?_
                                    refine lv_istore (lv' := [(6, .int (nI (j + 1))), (5, .int (nI (i + 1))), (7, .int (nI (n + 1))), (10, .int (bI true)), (9, .int (bI true)), (8, .int o1), (0, .ref x), (1, .int (nI t)), (2, .int (nI u)), (3, .int (nI dn)), (4, .int (-1))]) hx hb dX9_join_218 hl (by decide) rfl (fun ls hl => ?_)
                                    refine lv_goto (tgt := 20) hx hb dX9_join_220 (by decide) ?_
                                    have hJ := jn_C (S := Ts t) (T := Ts u) (i := i) (j := j) (d := dn - n) (by omega) (by omega) hz (of_decide_eq_false (by assumption))
                                    rw [if_pos (by omega), Nat.sub_sub] at hJ
                                    rw [hJ] at hcnt
                                    dsimp only at hcnt
                                    exact ih_20 (i + 1) (j + 1) (n + 1) _ (by omega) (by omega) (by omega) (by omega) (by omega) (lv_sub hl [6, 7, 8, 9, 10, 1, 0, 2] rfl)
                            · exact absurd c_113 (by omega)
                          · exact absurd c_112 (by omega)
                · refine lv_iload hx hb dX9_join_84 (lv_at hl 0 rfl) ?_
                  refine zi_ne hx hb ho1 dX9_join_86 (tgt := 102) (by decide) (fun c_117 => ?_) (fun c_117 => ?_)
                  · refine lv_iconst (v := bI true) hx hb dX9_join_102 rfl ?_
                    refine lv_goto (tgt := 107) hx hb dX9_join_103 (by decide) ?_
                    refine lv_istore (lv' := [(9, .int (bI true)), (8, .int o1), (0, .ref x), (1, .int (nI t)), (2, .int (nI u)), (3, .int (nI dn)), (4, .int (-1)), (5, .int (nI i)), (6, .int (nI j)), (7, .int (nI n))]) hx hb dX9_join_107 hl (by decide) rfl (fun ls hl => ?_)
                    refine lv_iload hx hb dX9_join_109 (lv_at hl 0 rfl) ?_
                    refine nb_ifeq hx hb dX9_join_111 (tgt := 124) (by decide) (fun c_118 => ?_) (fun c_118 => ?_)
                    · cases c_118
                    · refine lv_iload hx hb dX9_join_114 (lv_at hl 9 rfl) ?_
                      refine lv_iload_n hx hb dX9_join_116 rfl (lv_at hl 5 rfl) ?_
                      refine nn_ge hx hb dX9_join_117 (tgt := 124) (by decide) (by omega) (by omega) (fun c_119 => ?_) (fun c_119 => ?_)
                      · refine lv_iconst (v := bI false) hx hb dX9_join_124 rfl ?_
                        refine lv_istore (lv' := [(10, .int (bI false)), (9, .int (bI true)), (8, .int o1), (0, .ref x), (1, .int (nI t)), (2, .int (nI u)), (3, .int (nI dn)), (4, .int (-1)), (5, .int (nI i)), (6, .int (nI j)), (7, .int (nI n))]) hx hb dX9_join_125 hl (by decide) rfl (fun ls hl => ?_)
                        refine lv_iload hx hb dX9_join_127 (lv_at hl 7 rfl) ?_
                        refine zi_lt hx hb (show (-1 : Int32).toInt = -1 from rfl) dX9_join_129 (tgt := 151) (by decide) (fun c_120 => ?_) (fun c_120 => ?_)
                        · refine lv_iload hx hb dX9_join_151 (lv_at hl 7 rfl) ?_
                          refine zi_lt hx hb (show (-1 : Int32).toInt = -1 from rfl) dX9_join_153 (tgt := 175) (by decide) (fun c_121 => ?_) (fun c_121 => ?_)
                          · refine lv_iload hx hb dX9_join_175 (lv_at hl 10 rfl) ?_
                            refine lv_iload hx hb dX9_join_177 (lv_at hl 1 rfl) ?_
                            refine nb_ifeq hx hb dX9_join_179 (tgt := 186) (by decide) (fun c_122 => ?_) (fun c_122 => ?_)
                            · cases c_122
                            · refine lv_iconst (v := nI 1) hx hb dX9_join_182 rfl ?_
                              refine lv_goto (tgt := 187) hx hb dX9_join_183 (by decide) ?_
                              refine nn_add hx hb dX9_join_187 ?_
                              refine lv_istore (lv' := [(7, .int (nI (n + 1))), (10, .int (bI false)), (9, .int (bI true)), (8, .int o1), (0, .ref x), (1, .int (nI t)), (2, .int (nI u)), (3, .int (nI dn)), (4, .int (-1)), (5, .int (nI i)), (6, .int (nI j))]) hx hb dX9_join_188 hl (by decide) rfl (fun ls hl => ?_)
                              refine lv_iload hx hb dX9_join_190 (lv_at hl 9 rfl) ?_
                              refine lv_iload hx hb dX9_join_192 (lv_at hl 3 rfl) ?_
                              refine zi_gt hx hb ho1 dX9_join_194 (tgt := 201) (by decide) (fun c_123 => ?_) (fun c_123 => ?_)
                              · refine lv_iconst (v := nI 0) hx hb dX9_join_201 rfl ?_
                                refine nn_add0 hx hb dX9_join_202 ?_
                                refine lv_istore (lv' := [(5, .int (nI i)), (7, .int (nI (n + 1))), (10, .int (bI false)), (9, .int (bI true)), (8, .int o1), (0, .ref x), (1, .int (nI t)), (2, .int (nI u)), (3, .int (nI dn)), (4, .int (-1)), (6, .int (nI j))]) hx hb dX9_join_203 hl (by decide) rfl (fun ls hl => ?_)
                                refine lv_iload hx hb dX9_join_205 (lv_at hl 10 rfl) ?_
                                refine lv_iload hx hb dX9_join_207 (lv_at hl 4 rfl) ?_
                                refine zi_lt hx hb ho1 dX9_join_209 (tgt := 216) (by decide) (fun c_124 => ?_) (fun c_124 => ?_)
                                · exact absurd c_124 (by omega)
                                · refine lv_iconst (v := nI 1) hx hb dX9_join_212 rfl ?_
                                  refine lv_goto (tgt := 217) hx hb dX9_join_213 (by decide) ?_
                                  refine nn_add hx hb dX9_join_217 ?_
                                  refine lv_istore (lv' := [(6, .int (nI (j + 1))), (5, .int (nI i)), (7, .int (nI (n + 1))), (10, .int (bI false)), (9, .int (bI true)), (8, .int o1), (0, .ref x), (1, .int (nI t)), (2, .int (nI u)), (3, .int (nI dn)), (4, .int (-1))]) hx hb dX9_join_218 hl (by decide) rfl (fun ls hl => ?_)
                                  refine lv_goto (tgt := 20) hx hb dX9_join_220 (by decide) ?_
                                  have hJ := jn_T (S := Ts t) (T := Ts u) (i := i) (j := j) (d := dn - n) (by omega) (by first | exact Or.inl (by omega) | exact Or.inr ⟨by omega, by omega⟩)
                                  rw [if_neg (by omega), Nat.sub_sub] at hJ
                                  rw [hJ] at hcnt
                                  dsimp only at hcnt
                                  exact ih_20 i (j + 1) (n + 1) _ (by omega) (by omega) (by omega) (by omega) (by omega) (lv_sub hl [6, 7, 8, 9, 10, 1, 0, 2] rfl)
                              · exact absurd c_123 (by omega)
                          · exact absurd c_121 (by omega)
                        · exact absurd c_120 (by omega)
                      · refine lv_iconst (v := bI true) hx hb dX9_join_120 rfl ?_
                        refine lv_goto (tgt := 125) hx hb dX9_join_121 (by decide) ?_
                        refine lv_istore (lv' := [(10, .int (bI true)), (9, .int (bI true)), (8, .int o1), (0, .ref x), (1, .int (nI t)), (2, .int (nI u)), (3, .int (nI dn)), (4, .int (-1)), (5, .int (nI i)), (6, .int (nI j)), (7, .int (nI n))]) hx hb dX9_join_125 hl (by decide) rfl (fun ls hl => ?_)
                        refine lv_iload hx hb dX9_join_127 (lv_at hl 7 rfl) ?_
                        refine zi_lt hx hb (show (-1 : Int32).toInt = -1 from rfl) dX9_join_129 (tgt := 151) (by decide) (fun c_125 => ?_) (fun c_125 => ?_)
                        · refine lv_iload hx hb dX9_join_151 (lv_at hl 7 rfl) ?_
                          refine zi_lt hx hb (show (-1 : Int32).toInt = -1 from rfl) dX9_join_153 (tgt := 175) (by decide) (fun c_126 => ?_) (fun c_126 => ?_)
                          · refine lv_iload hx hb dX9_join_175 (lv_at hl 10 rfl) ?_
                            refine lv_iload hx hb dX9_join_177 (lv_at hl 1 rfl) ?_
                            refine nb_ifeq hx hb dX9_join_179 (tgt := 186) (by decide) (fun c_127 => ?_) (fun c_127 => ?_)
                            · cases c_127
                            · refine lv_iconst (v := nI 1) hx hb dX9_join_182 rfl ?_
                              refine lv_goto (tgt := 187) hx hb dX9_join_183 (by decide) ?_
                              refine nn_add hx hb dX9_join_187 ?_
                              refine lv_istore (lv' := [(7, .int (nI (n + 1))), (10, .int (bI true)), (9, .int (bI true)), (8, .int o1), (0, .ref x), (1, .int (nI t)), (2, .int (nI u)), (3, .int (nI dn)), (4, .int (-1)), (5, .int (nI i)), (6, .int (nI j))]) hx hb dX9_join_188 hl (by decide) rfl (fun ls hl => ?_)
                              refine lv_iload hx hb dX9_join_190 (lv_at hl 9 rfl) ?_
                              refine lv_iload hx hb dX9_join_192 (lv_at hl 3 rfl) ?_
                              refine zi_gt hx hb ho1 dX9_join_194 (tgt := 201) (by decide) (fun c_128 => ?_) (fun c_128 => ?_)
                              · refine lv_iconst (v := nI 0) hx hb dX9_join_201 rfl ?_
                                refine nn_add0 hx hb dX9_join_202 ?_
                                refine lv_istore (lv' := [(5, .int (nI i)), (7, .int (nI (n + 1))), (10, .int (bI true)), (9, .int (bI true)), (8, .int o1), (0, .ref x), (1, .int (nI t)), (2, .int (nI u)), (3, .int (nI dn)), (4, .int (-1)), (6, .int (nI j))]) hx hb dX9_join_203 hl (by decide) rfl (fun ls hl => ?_)
                                refine lv_iload hx hb dX9_join_205 (lv_at hl 10 rfl) ?_
                                refine lv_iload hx hb dX9_join_207 (lv_at hl 4 rfl) ?_
                                refine zi_lt hx hb ho1 dX9_join_209 (tgt := 216) (by decide) (fun c_129 => ?_) (fun c_129 => ?_)
                                · exact absurd c_129 (by omega)
                                · refine lv_iconst (v := nI 1) hx hb dX9_join_212 rfl ?_
                                  refine lv_goto (tgt := 217) hx hb dX9_join_213 (by decide) ?_
                                  refine nn_add hx hb dX9_join_217 ?_
                                  refine lv_istore (lv' := [(6, .int (nI (j + 1))), (5, .int (nI i)), (7, .int (nI (n + 1))), (10, .int (bI true)), (9, .int (bI true)), (8, .int o1), (0, .ref x), (1, .int (nI t)), (2, .int (nI u)), (3, .int (nI dn)), (4, .int (-1))]) hx hb dX9_join_218 hl (by decide) rfl (fun ls hl => ?_)
                                  refine lv_goto (tgt := 20) hx hb dX9_join_220 (by decide) ?_
                                  have hJ := jn_T (S := Ts t) (T := Ts u) (i := i) (j := j) (d := dn - n) (by omega) (by first | exact Or.inl (by omega) | exact Or.inr ⟨by omega, by omega⟩)
                                  rw [if_pos (by omega), Nat.sub_sub] at hJ
                                  rw [hJ] at hcnt
                                  dsimp only at hcnt
                                  exact ih_20 i (j + 1) (n + 1) _ (by omega) (by omega) (by omega) (by omega) (by omega) (lv_sub hl [6, 7, 8, 9, 10, 1, 0, 2] rfl)
                              · exact absurd c_128 (by omega)
                          · exact absurd c_126 (by omega)
                        · exact absurd c_125 (by omega)
                  · exact absurd c_117 (by omega)
              · refine lv_iconst (v := (-1)) hx hb dX9_join_68 rfl ?_
                refine lv_goto (tgt := 82) hx hb dX9_join_69 (by decide) ?_
                refine lv_istore (lv' := [(8, .int (-1)), (0, .ref x), (1, .int (nI t)), (2, .int (nI u)), (3, .int (nI dn)), (4, .int (-1)), (5, .int (nI i)), (6, .int (nI j)), (7, .int (nI n))]) hx hb dX9_join_82 hl (by decide) rfl (fun ls hl => ?_)
                refine lv_iload hx hb dX9_join_84 (lv_at hl 0 rfl) ?_
                refine zi_ne hx hb (show (-1 : Int32).toInt = -1 from rfl) dX9_join_86 (tgt := 102) (by decide) (fun c_130 => ?_) (fun c_130 => ?_)
                · refine lv_iconst (v := bI true) hx hb dX9_join_102 rfl ?_
                  refine lv_goto (tgt := 107) hx hb dX9_join_103 (by decide) ?_
                  refine lv_istore (lv' := [(9, .int (bI true)), (8, .int (-1)), (0, .ref x), (1, .int (nI t)), (2, .int (nI u)), (3, .int (nI dn)), (4, .int (-1)), (5, .int (nI i)), (6, .int (nI j)), (7, .int (nI n))]) hx hb dX9_join_107 hl (by decide) rfl (fun ls hl => ?_)
                  refine lv_iload hx hb dX9_join_109 (lv_at hl 0 rfl) ?_
                  refine nb_ifeq hx hb dX9_join_111 (tgt := 124) (by decide) (fun c_131 => ?_) (fun c_131 => ?_)
                  · cases c_131
                  · refine lv_iload hx hb dX9_join_114 (lv_at hl 9 rfl) ?_
                    refine lv_iload_n hx hb dX9_join_116 rfl (lv_at hl 5 rfl) ?_
                    refine nn_ge hx hb dX9_join_117 (tgt := 124) (by decide) (by omega) (by omega) (fun c_132 => ?_) (fun c_132 => ?_)
                    · refine lv_iconst (v := bI false) hx hb dX9_join_124 rfl ?_
                      refine lv_istore (lv' := [(10, .int (bI false)), (9, .int (bI true)), (8, .int (-1)), (0, .ref x), (1, .int (nI t)), (2, .int (nI u)), (3, .int (nI dn)), (4, .int (-1)), (5, .int (nI i)), (6, .int (nI j)), (7, .int (nI n))]) hx hb dX9_join_125 hl (by decide) rfl (fun ls hl => ?_)
                      refine lv_iload hx hb dX9_join_127 (lv_at hl 7 rfl) ?_
                      refine zi_lt hx hb (show (-1 : Int32).toInt = -1 from rfl) dX9_join_129 (tgt := 151) (by decide) (fun c_133 => ?_) (fun c_133 => ?_)
                      · refine lv_iload hx hb dX9_join_151 (lv_at hl 7 rfl) ?_
                        refine zi_lt hx hb (show (-1 : Int32).toInt = -1 from rfl) dX9_join_153 (tgt := 175) (by decide) (fun c_134 => ?_) (fun c_134 => ?_)
                        · refine lv_iload hx hb dX9_join_175 (lv_at hl 10 rfl) ?_
                          refine lv_iload hx hb dX9_join_177 (lv_at hl 1 rfl) ?_
                          refine nb_ifeq hx hb dX9_join_179 (tgt := 186) (by decide) (fun c_135 => ?_) (fun c_135 => ?_)
                          · cases c_135
                          · refine lv_iconst (v := nI 1) hx hb dX9_join_182 rfl ?_
                            refine lv_goto (tgt := 187) hx hb dX9_join_183 (by decide) ?_
                            refine nn_add hx hb dX9_join_187 ?_
                            refine lv_istore (lv' := [(7, .int (nI (n + 1))), (10, .int (bI false)), (9, .int (bI true)), (8, .int (-1)), (0, .ref x), (1, .int (nI t)), (2, .int (nI u)), (3, .int (nI dn)), (4, .int (-1)), (5, .int (nI i)), (6, .int (nI j))]) hx hb dX9_join_188 hl (by decide) rfl (fun ls hl => ?_)
                            refine lv_iload hx hb dX9_join_190 (lv_at hl 9 rfl) ?_
                            refine lv_iload hx hb dX9_join_192 (lv_at hl 3 rfl) ?_
                            refine zi_gt hx hb (show (-1 : Int32).toInt = -1 from rfl) dX9_join_194 (tgt := 201) (by decide) (fun c_136 => ?_) (fun c_136 => ?_)
                            · exact absurd c_136 (by omega)
                            · refine lv_iconst (v := nI 1) hx hb dX9_join_197 rfl ?_
                              refine lv_goto (tgt := 202) hx hb dX9_join_198 (by decide) ?_
                              refine nn_add hx hb dX9_join_202 ?_
                              refine lv_istore (lv' := [(5, .int (nI (i + 1))), (7, .int (nI (n + 1))), (10, .int (bI false)), (9, .int (bI true)), (8, .int (-1)), (0, .ref x), (1, .int (nI t)), (2, .int (nI u)), (3, .int (nI dn)), (4, .int (-1)), (6, .int (nI j))]) hx hb dX9_join_203 hl (by decide) rfl (fun ls hl => ?_)
                              refine lv_iload hx hb dX9_join_205 (lv_at hl 10 rfl) ?_
                              refine lv_iload hx hb dX9_join_207 (lv_at hl 4 rfl) ?_
                              refine zi_lt hx hb (show (-1 : Int32).toInt = -1 from rfl) dX9_join_209 (tgt := 216) (by decide) (fun c_137 => ?_) (fun c_137 => ?_)
                              · refine lv_iconst (v := nI 0) hx hb dX9_join_216 rfl ?_
                                refine nn_add0 hx hb dX9_join_217 ?_
                                refine lv_istore (lv' := [(6, .int (nI j)), (5, .int (nI (i + 1))), (7, .int (nI (n + 1))), (10, .int (bI false)), (9, .int (bI true)), (8, .int (-1)), (0, .ref x), (1, .int (nI t)), (2, .int (nI u)), (3, .int (nI dn)), (4, .int (-1))]) hx hb dX9_join_218 hl (by decide) rfl (fun ls hl => ?_)
                                refine lv_goto (tgt := 20) hx hb dX9_join_220 (by decide) ?_
                                have hJ := jn_S (S := Ts t) (T := Ts u) (i := i) (j := j) (d := dn - n) (by omega) (by first | exact Or.inl (by omega) | exact Or.inr ⟨by omega, by omega⟩)
                                rw [if_neg (by omega), Nat.sub_sub] at hJ
                                rw [hJ] at hcnt
                                dsimp only at hcnt
                                exact ih_20 (i + 1) j (n + 1) _ (by omega) (by omega) (by omega) (by omega) (by omega) (lv_sub hl [6, 7, 8, 9, 10, 1, 0, 2] rfl)
                              · exact absurd c_137 (by omega)
                        · exact absurd c_134 (by omega)
                      · exact absurd c_133 (by omega)
                    · refine lv_iconst (v := bI true) hx hb dX9_join_120 rfl ?_
                      refine lv_goto (tgt := 125) hx hb dX9_join_121 (by decide) ?_
                      refine lv_istore (lv' := [(10, .int (bI true)), (9, .int (bI true)), (8, .int (-1)), (0, .ref x), (1, .int (nI t)), (2, .int (nI u)), (3, .int (nI dn)), (4, .int (-1)), (5, .int (nI i)), (6, .int (nI j)), (7, .int (nI n))]) hx hb dX9_join_125 hl (by decide) rfl (fun ls hl => ?_)
                      refine lv_iload hx hb dX9_join_127 (lv_at hl 7 rfl) ?_
                      refine zi_lt hx hb (show (-1 : Int32).toInt = -1 from rfl) dX9_join_129 (tgt := 151) (by decide) (fun c_138 => ?_) (fun c_138 => ?_)
                      · refine lv_iload hx hb dX9_join_151 (lv_at hl 7 rfl) ?_
                        refine zi_lt hx hb (show (-1 : Int32).toInt = -1 from rfl) dX9_join_153 (tgt := 175) (by decide) (fun c_139 => ?_) (fun c_139 => ?_)
                        · refine lv_iload hx hb dX9_join_175 (lv_at hl 10 rfl) ?_
                          refine lv_iload hx hb dX9_join_177 (lv_at hl 1 rfl) ?_
                          refine nb_ifeq hx hb dX9_join_179 (tgt := 186) (by decide) (fun c_140 => ?_) (fun c_140 => ?_)
                          · cases c_140
                          · refine lv_iconst (v := nI 1) hx hb dX9_join_182 rfl ?_
                            refine lv_goto (tgt := 187) hx hb dX9_join_183 (by decide) ?_
                            refine nn_add hx hb dX9_join_187 ?_
                            refine lv_istore (lv' := [(7, .int (nI (n + 1))), (10, .int (bI true)), (9, .int (bI true)), (8, .int (-1)), (0, .ref x), (1, .int (nI t)), (2, .int (nI u)), (3, .int (nI dn)), (4, .int (-1)), (5, .int (nI i)), (6, .int (nI j))]) hx hb dX9_join_188 hl (by decide) rfl (fun ls hl => ?_)
                            refine lv_iload hx hb dX9_join_190 (lv_at hl 9 rfl) ?_
                            refine lv_iload hx hb dX9_join_192 (lv_at hl 3 rfl) ?_
                            refine zi_gt hx hb (show (-1 : Int32).toInt = -1 from rfl) dX9_join_194 (tgt := 201) (by decide) (fun c_141 => ?_) (fun c_141 => ?_)
                            · exact absurd c_141 (by omega)
                            · refine lv_iconst (v := nI 1) hx hb dX9_join_197 rfl ?_
                              refine lv_goto (tgt := 202) hx hb dX9_join_198 (by decide) ?_
                              refine nn_add hx hb dX9_join_202 ?_
                              refine lv_istore (lv' := [(5, .int (nI (i + 1))), (7, .int (nI (n + 1))), (10, .int (bI true)), (9, .int (bI true)), (8, .int (-1)), (0, .ref x), (1, .int (nI t)), (2, .int (nI u)), (3, .int (nI dn)), (4, .int (-1)), (6, .int (nI j))]) hx hb dX9_join_203 hl (by decide) rfl (fun ls hl => ?_)
                              refine lv_iload hx hb dX9_join_205 (lv_at hl 10 rfl) ?_
                              refine lv_iload hx hb dX9_join_207 (lv_at hl 4 rfl) ?_
                              refine zi_lt hx hb (show (-1 : Int32).toInt = -1 from rfl) dX9_join_209 (tgt := 216) (by decide) (fun c_142 => ?_) (fun c_142 => ?_)
                              · refine lv_iconst (v := nI 0) hx hb dX9_join_216 rfl ?_
                                refine nn_add0 hx hb dX9_join_217 ?_
                                refine lv_istore (lv' := [(6, .int (nI j)), (5, .int (nI (i + 1))), (7, .int (nI (n + 1))), (10, .int (bI true)), (9, .int (bI true)), (8, .int (-1)), (0, .ref x), (1, .int (nI t)), (2, .int (nI u)), (3, .int (nI dn)), (4, .int (-1))]) hx hb dX9_join_218 hl (by decide) rfl (fun ls hl => ?_)
                                refine lv_goto (tgt := 20) hx hb dX9_join_220 (by decide) ?_
                                have hJ := jn_S (S := Ts t) (T := Ts u) (i := i) (j := j) (d := dn - n) (by omega) (by first | exact Or.inl (by omega) | exact Or.inr ⟨by omega, by omega⟩)
                                rw [if_pos (by omega), Nat.sub_sub] at hJ
                                rw [hJ] at hcnt
                                dsimp only at hcnt
                                exact ih_20 (i + 1) j (n + 1) _ (by omega) (by omega) (by omega) (by omega) (by omega) (lv_sub hl [6, 7, 8, 9, 10, 1, 0, 2] rfl)
                              · exact absurd c_142 (by omega)
                        · exact absurd c_139 (by omega)
                      · exact absurd c_138 (by omega)
                · exact absurd c_130 (by omega)
            · refine lv_iconst (v := nI 1) hx hb dX9_join_53 rfl ?_
              refine lv_goto (tgt := 82) hx hb dX9_join_54 (by decide) ?_
              refine lv_istore (lv' := [(8, .int (nI 1)), (0, .ref x), (1, .int (nI t)), (2, .int (nI u)), (3, .int (nI dn)), (4, .int (-1)), (5, .int (nI i)), (6, .int (nI j)), (7, .int (nI n))]) hx hb dX9_join_82 hl (by decide) rfl (fun ls hl => ?_)
              refine lv_iload hx hb dX9_join_84 (lv_at hl 0 rfl) ?_
              refine zi_ne hx hb (show (nI 1).toInt = 1 from rfl) dX9_join_86 (tgt := 102) (by decide) (fun c_143 => ?_) (fun c_143 => ?_)
              · refine lv_iconst (v := bI true) hx hb dX9_join_102 rfl ?_
                refine lv_goto (tgt := 107) hx hb dX9_join_103 (by decide) ?_
                refine lv_istore (lv' := [(9, .int (bI true)), (8, .int (nI 1)), (0, .ref x), (1, .int (nI t)), (2, .int (nI u)), (3, .int (nI dn)), (4, .int (-1)), (5, .int (nI i)), (6, .int (nI j)), (7, .int (nI n))]) hx hb dX9_join_107 hl (by decide) rfl (fun ls hl => ?_)
                refine lv_iload hx hb dX9_join_109 (lv_at hl 0 rfl) ?_
                refine nb_ifeq hx hb dX9_join_111 (tgt := 124) (by decide) (fun c_144 => ?_) (fun c_144 => ?_)
                · cases c_144
                · refine lv_iload hx hb dX9_join_114 (lv_at hl 9 rfl) ?_
                  refine lv_iload_n hx hb dX9_join_116 rfl (lv_at hl 5 rfl) ?_
                  refine nn_ge hx hb dX9_join_117 (tgt := 124) (by decide) (by omega) (by omega) (fun c_145 => ?_) (fun c_145 => ?_)
                  · refine lv_iconst (v := bI false) hx hb dX9_join_124 rfl ?_
                    refine lv_istore (lv' := [(10, .int (bI false)), (9, .int (bI true)), (8, .int (nI 1)), (0, .ref x), (1, .int (nI t)), (2, .int (nI u)), (3, .int (nI dn)), (4, .int (-1)), (5, .int (nI i)), (6, .int (nI j)), (7, .int (nI n))]) hx hb dX9_join_125 hl (by decide) rfl (fun ls hl => ?_)
                    refine lv_iload hx hb dX9_join_127 (lv_at hl 7 rfl) ?_
                    refine zi_lt hx hb (show (-1 : Int32).toInt = -1 from rfl) dX9_join_129 (tgt := 151) (by decide) (fun c_146 => ?_) (fun c_146 => ?_)
                    · refine lv_iload hx hb dX9_join_151 (lv_at hl 7 rfl) ?_
                      refine zi_lt hx hb (show (-1 : Int32).toInt = -1 from rfl) dX9_join_153 (tgt := 175) (by decide) (fun c_147 => ?_) (fun c_147 => ?_)
                      · refine lv_iload hx hb dX9_join_175 (lv_at hl 10 rfl) ?_
                        refine lv_iload hx hb dX9_join_177 (lv_at hl 1 rfl) ?_
                        refine nb_ifeq hx hb dX9_join_179 (tgt := 186) (by decide) (fun c_148 => ?_) (fun c_148 => ?_)
                        · cases c_148
                        · refine lv_iconst (v := nI 1) hx hb dX9_join_182 rfl ?_
                          refine lv_goto (tgt := 187) hx hb dX9_join_183 (by decide) ?_
                          refine nn_add hx hb dX9_join_187 ?_
                          refine lv_istore (lv' := [(7, .int (nI (n + 1))), (10, .int (bI false)), (9, .int (bI true)), (8, .int (nI 1)), (0, .ref x), (1, .int (nI t)), (2, .int (nI u)), (3, .int (nI dn)), (4, .int (-1)), (5, .int (nI i)), (6, .int (nI j))]) hx hb dX9_join_188 hl (by decide) rfl (fun ls hl => ?_)
                          refine lv_iload hx hb dX9_join_190 (lv_at hl 9 rfl) ?_
                          refine lv_iload hx hb dX9_join_192 (lv_at hl 3 rfl) ?_
                          refine zi_gt hx hb (show (nI 1).toInt = 1 from rfl) dX9_join_194 (tgt := 201) (by decide) (fun c_149 => ?_) (fun c_149 => ?_)
                          · refine lv_iconst (v := nI 0) hx hb dX9_join_201 rfl ?_
                            refine nn_add0 hx hb dX9_join_202 ?_
                            refine lv_istore (lv' := [(5, .int (nI i)), (7, .int (nI (n + 1))), (10, .int (bI false)), (9, .int (bI true)), (8, .int (nI 1)), (0, .ref x), (1, .int (nI t)), (2, .int (nI u)), (3, .int (nI dn)), (4, .int (-1)), (6, .int (nI j))]) hx hb dX9_join_203 hl (by decide) rfl (fun ls hl => ?_)
                            refine lv_iload hx hb dX9_join_205 (lv_at hl 10 rfl) ?_
                            refine lv_iload hx hb dX9_join_207 (lv_at hl 4 rfl) ?_
                            refine zi_lt hx hb (show (nI 1).toInt = 1 from rfl) dX9_join_209 (tgt := 216) (by decide) (fun c_150 => ?_) (fun c_150 => ?_)
                            · exact absurd c_150 (by omega)
                            · refine lv_iconst (v := nI 1) hx hb dX9_join_212 rfl ?_
                              refine lv_goto (tgt := 217) hx hb dX9_join_213 (by decide) ?_
                              refine nn_add hx hb dX9_join_217 ?_
                              refine lv_istore (lv' := [(6, .int (nI (j + 1))), (5, .int (nI i)), (7, .int (nI (n + 1))), (10, .int (bI false)), (9, .int (bI true)), (8, .int (nI 1)), (0, .ref x), (1, .int (nI t)), (2, .int (nI u)), (3, .int (nI dn)), (4, .int (-1))]) hx hb dX9_join_218 hl (by decide) rfl (fun ls hl => ?_)
                              refine lv_goto (tgt := 20) hx hb dX9_join_220 (by decide) ?_
                              have hJ := jn_T (S := Ts t) (T := Ts u) (i := i) (j := j) (d := dn - n) (by omega) (by first | exact Or.inl (by omega) | exact Or.inr ⟨by omega, by omega⟩)
                              rw [if_neg (by omega), Nat.sub_sub] at hJ
                              rw [hJ] at hcnt
                              dsimp only at hcnt
                              exact ih_20 i (j + 1) (n + 1) _ (by omega) (by omega) (by omega) (by omega) (by omega) (lv_sub hl [6, 7, 8, 9, 10, 1, 0, 2] rfl)
                          · exact absurd c_149 (by omega)
                      · exact absurd c_147 (by omega)
                    · exact absurd c_146 (by omega)
                  · refine lv_iconst (v := bI true) hx hb dX9_join_120 rfl ?_
                    refine lv_goto (tgt := 125) hx hb dX9_join_121 (by decide) ?_
                    refine lv_istore (lv' := [(10, .int (bI true)), (9, .int (bI true)), (8, .int (nI 1)), (0, .ref x), (1, .int (nI t)), (2, .int (nI u)), (3, .int (nI dn)), (4, .int (-1)), (5, .int (nI i)), (6, .int (nI j)), (7, .int (nI n))]) hx hb dX9_join_125 hl (by decide) rfl (fun ls hl => ?_)
                    refine lv_iload hx hb dX9_join_127 (lv_at hl 7 rfl) ?_
                    refine zi_lt hx hb (show (-1 : Int32).toInt = -1 from rfl) dX9_join_129 (tgt := 151) (by decide) (fun c_151 => ?_) (fun c_151 => ?_)
                    · refine lv_iload hx hb dX9_join_151 (lv_at hl 7 rfl) ?_
                      refine zi_lt hx hb (show (-1 : Int32).toInt = -1 from rfl) dX9_join_153 (tgt := 175) (by decide) (fun c_152 => ?_) (fun c_152 => ?_)
                      · refine lv_iload hx hb dX9_join_175 (lv_at hl 10 rfl) ?_
                        refine lv_iload hx hb dX9_join_177 (lv_at hl 1 rfl) ?_
                        refine nb_ifeq hx hb dX9_join_179 (tgt := 186) (by decide) (fun c_153 => ?_) (fun c_153 => ?_)
                        · cases c_153
                        · refine lv_iconst (v := nI 1) hx hb dX9_join_182 rfl ?_
                          refine lv_goto (tgt := 187) hx hb dX9_join_183 (by decide) ?_
                          refine nn_add hx hb dX9_join_187 ?_
                          refine lv_istore (lv' := [(7, .int (nI (n + 1))), (10, .int (bI true)), (9, .int (bI true)), (8, .int (nI 1)), (0, .ref x), (1, .int (nI t)), (2, .int (nI u)), (3, .int (nI dn)), (4, .int (-1)), (5, .int (nI i)), (6, .int (nI j))]) hx hb dX9_join_188 hl (by decide) rfl (fun ls hl => ?_)
                          refine lv_iload hx hb dX9_join_190 (lv_at hl 9 rfl) ?_
                          refine lv_iload hx hb dX9_join_192 (lv_at hl 3 rfl) ?_
                          refine zi_gt hx hb (show (nI 1).toInt = 1 from rfl) dX9_join_194 (tgt := 201) (by decide) (fun c_154 => ?_) (fun c_154 => ?_)
                          · refine lv_iconst (v := nI 0) hx hb dX9_join_201 rfl ?_
                            refine nn_add0 hx hb dX9_join_202 ?_
                            refine lv_istore (lv' := [(5, .int (nI i)), (7, .int (nI (n + 1))), (10, .int (bI true)), (9, .int (bI true)), (8, .int (nI 1)), (0, .ref x), (1, .int (nI t)), (2, .int (nI u)), (3, .int (nI dn)), (4, .int (-1)), (6, .int (nI j))]) hx hb dX9_join_203 hl (by decide) rfl (fun ls hl => ?_)
                            refine lv_iload hx hb dX9_join_205 (lv_at hl 10 rfl) ?_
                            refine lv_iload hx hb dX9_join_207 (lv_at hl 4 rfl) ?_
                            refine zi_lt hx hb (show (nI 1).toInt = 1 from rfl) dX9_join_209 (tgt := 216) (by decide) (fun c_155 => ?_) (fun c_155 => ?_)
                            · exact absurd c_155 (by omega)
                            · refine lv_iconst (v := nI 1) hx hb dX9_join_212 rfl ?_
                              refine lv_goto (tgt := 217) hx hb dX9_join_213 (by decide) ?_
                              refine nn_add hx hb dX9_join_217 ?_
                              refine lv_istore (lv' := [(6, .int (nI (j + 1))), (5, .int (nI i)), (7, .int (nI (n + 1))), (10, .int (bI true)), (9, .int (bI true)), (8, .int (nI 1)), (0, .ref x), (1, .int (nI t)), (2, .int (nI u)), (3, .int (nI dn)), (4, .int (-1))]) hx hb dX9_join_218 hl (by decide) rfl (fun ls hl => ?_)
                              refine lv_goto (tgt := 20) hx hb dX9_join_220 (by decide) ?_
                              have hJ := jn_T (S := Ts t) (T := Ts u) (i := i) (j := j) (d := dn - n) (by omega) (by first | exact Or.inl (by omega) | exact Or.inr ⟨by omega, by omega⟩)
                              rw [if_pos (by omega), Nat.sub_sub] at hJ
                              rw [hJ] at hcnt
                              dsimp only at hcnt
                              exact ih_20 i (j + 1) (n + 1) _ (by omega) (by omega) (by omega) (by omega) (by omega) (lv_sub hl [6, 7, 8, 9, 10, 1, 0, 2] rfl)
                          · exact absurd c_154 (by omega)
                      · exact absurd c_152 (by omega)
                    · exact absurd c_151 (by omega)
              · exact absurd c_143 (by omega)
    exact lp_20 ((((Ts t).length - 0 + ((Ts u).length - 0))) + 1) 0 0 0 _ (Nat.lt_succ_self _) (Nat.zero_le _) (Nat.zero_le _) (Nat.zero_le _) (by simp) (lv_sub hl [3, 4, 5, 6, 7, 2, 1, 0] rfl)
  · exact absurd c_1 (by omega)
