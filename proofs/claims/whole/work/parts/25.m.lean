set_option maxHeartbeats 4000000 in
set_option maxRecDepth 100000 in
theorem m_isName (l : Launch) {G : va_G} {tys : List (ClassId × FieldType)} {cI : ClassId} (hT : tys[1]? = some (cI, .int)) {w : va_W} {k1 a1 n1 : Nat} {f : Nat → Int32} (ha : w[k1]? = some (a1, .inl (cI, n1, .inl f))) (hn : n1 < 2 ^ 31) (fm : Nat) (P1 : List Nat) (hp1 : en f fm P1) (hl1 : fm + P1.length ≤ n1) (hq1 : ∀ b ∈ P1, b < 256) : pMet l yX9_isName wsX9_isName ({ frames := 0, cells := 0, slots := 0, locals := 0 } : Room) G tys [.ref a1, .int (nI fm), .int (nI P1.length)] w (fun r => r = .int (bI (nmOK P1))) := by
  refine Met.ofW (cc := cX9_isName) (maxL := 6) (ret := (some .boolean)) (by decide) rfl ?_
  intro p e s m args below meth c s₁ B hml hv
  obtain ⟨hargs, hP, hK⟩ := hv
  have hx := B.exec
  have hb := B.bytes
  have hr := B.returns
  have hts := atoms_spec (ws := wsX9_isName) B.pre
  have hown : s.vm.findClass RX9 = some m.cls := findClass_of_methodNamed B.named
  have hlocks := B.notSynchronized
  obtain ⟨Q, hQ⟩ : ∃ Q : State → Prop, Q = MQ below (pQ (fun r => r = .int (bI (nmOK P1)))) args s 0 0 (fun _ => False) := ⟨_, rfl⟩
  change W p l e ({ frames := 0, cells := 0, slots := 0, locals := 0 } : Room) s m args below meth c s.heap [] 0 0 (MQ below (pQ (fun r => r = .int (bI (nmOK P1)))) args s 0 0 (fun _ => False)) (entryFrame m args 6)
  rw [← hQ]
  refine nn_entry hargs (Nat.le_of_ble_eq_true rfl) (lv := [(0, .ref a1), (1, .int (nI fm)), (2, .int (nI P1.length))]) rfl (fun ls hl => ?_)
  refine lv_iload_n hx hb dX9_isName_0 rfl (lv_at hl 2 rfl) ?_
  refine lv_iconst (v := nI 1) hx hb dX9_isName_1 rfl ?_
  refine nn_lt hx hb dX9_isName_2 (tgt := 11) (by decide) (by omega) (by omega) (fun c_1 => ?_) (fun c_1 => ?_)
  · refine lv_iconst (v := bI false) hx hb dX9_isName_11 rfl ?_
    rw [hQ]
    exact pf_zret hx hb hr hlocks (bI_01 _) (by first | (rw [nmOK_no (by omega)]) | (rw [nmOK_end (by omega) (by omega) hdt hz2]; simp [*])) dX9_isName_12
  · refine lv_iload_n hx hb dX9_isName_5 rfl (lv_at hl 2 rfl) ?_
    refine lv_bipush (v := nI 24) hx hb dX9_isName_6 (by decide) ?_
    refine nn_le hx hb dX9_isName_8 (tgt := 13) (by decide) (by omega) (by omega) (fun c_2 => ?_) (fun c_2 => ?_)
    · have hv0 : P1.getD 0 0 < 256 := hq1 _ (gd_mem (by omega))
      have mg_46 : ∀ (dt : Bool) (ls : Array Slot), (dt = true ↔ (P1 = [46] ∨ P1 = [46, 46])) → lv_has ls 6 [(0, .ref a1), (1, .int (nI fm)), (2, .int (nI P1.length))] → W p l e ({ frames := 0, cells := 0, slots := 0, locals := 0 } : Room) s m args below meth c s.heap [] 0 0 Q (F0 m 46 ls [.int (bI dt)]) := by
        intro dt ls hdt hl
        refine lv_istore_n (lv' := [(3, .int (bI dt)), (0, .ref a1), (1, .int (nI fm)), (2, .int (nI P1.length))]) hx hb dX9_isName_46 rfl hl (by decide) rfl (fun ls hl => ?_)
        refine lv_iconst (v := bI false) hx hb dX9_isName_47 rfl ?_
        refine lv_istore (lv' := [(4, .int (bI false)), (3, .int (bI dt)), (0, .ref a1), (1, .int (nI fm)), (2, .int (nI P1.length))]) hx hb dX9_isName_48 hl (by decide) rfl (fun ls hl => ?_)
        refine lv_iconst (v := nI 0) hx hb dX9_isName_50 rfl ?_
        refine lv_istore (lv' := [(5, .int (nI 0)), (4, .int (bI false)), (3, .int (bI dt)), (0, .ref a1), (1, .int (nI fm)), (2, .int (nI P1.length))]) hx hb dX9_isName_51 hl (by decide) rfl (fun ls hl => ?_)
        have lp_53 : ∀ (n_53 : Nat) (k : Nat) (zb : Bool) (ls : Array Slot), (P1.length - k) < n_53 → (k ≤ P1.length) → (zb = true ↔ ∃ j, j < k ∧ P1.getD j 0 = 0) → lv_has ls 6 [(5, .int (nI k)), (4, .int (bI zb)), (3, .int (bI dt)), (0, .ref a1), (1, .int (nI fm)), (2, .int (nI P1.length))] → W p l e ({ frames := 0, cells := 0, slots := 0, locals := 0 } : Room) s m args below meth c s.heap [] 0 0 Q (F0 m 53 ls []) := by
          intro n_53
          induction n_53 with
          | zero => intro k zb ls h0; exact absurd h0 (Nat.not_lt_zero _)
          | succ n_53 ih_53 =>
            intro k zb ls hm_53 hk hz hl
            refine lv_iload hx hb dX9_isName_53 (lv_at hl 0 rfl) ?_
            refine lv_iload_n hx hb dX9_isName_55 rfl (lv_at hl 5 rfl) ?_
            refine nn_ge hx hb dX9_isName_56 (tgt := 86) (by decide) (by omega) (by omega) (fun c_3 => ?_) (fun c_3 => ?_)
            · have hz2 : zb = true ↔ ∃ k, k < P1.length ∧ P1.getD k 0 = 0 := by rw [hz]; exact ⟨fun ⟨a, b, d⟩ => ⟨a, by omega, d⟩, fun ⟨a, b, d⟩ => ⟨a, by omega, d⟩⟩
              refine lv_iload_n hx hb dX9_isName_86 rfl (lv_at hl 2 rfl) ?_
              refine nb_ifne hx hb dX9_isName_87 (tgt := 99) (by decide) (fun c_4 => ?_) (fun c_4 => ?_)
              · refine lv_iconst (v := bI false) hx hb dX9_isName_99 rfl ?_
                rw [hQ]
                exact pf_zret hx hb hr hlocks (bI_01 _) (by first | (rw [nmOK_no (by omega)]) | (rw [nmOK_end (by omega) (by omega) hdt hz2]; simp [*])) dX9_isName_100
              · refine lv_iload hx hb dX9_isName_90 (lv_at hl 1 rfl) ?_
                refine nb_ifne hx hb dX9_isName_92 (tgt := 99) (by decide) (fun c_5 => ?_) (fun c_5 => ?_)
                · refine lv_iconst (v := bI false) hx hb dX9_isName_99 rfl ?_
                  rw [hQ]
                  exact pf_zret hx hb hr hlocks (bI_01 _) (by first | (rw [nmOK_no (by omega)]) | (rw [nmOK_end (by omega) (by omega) hdt hz2]; simp [*])) dX9_isName_100
                · refine lv_iconst (v := bI true) hx hb dX9_isName_95 rfl ?_
                  refine lv_goto (tgt := 100) hx hb dX9_isName_96 (by decide) ?_
                  rw [hQ]
                  exact pf_zret hx hb hr hlocks (bI_01 _) (by first | (rw [nmOK_no (by omega)]) | (rw [nmOK_end (by omega) (by omega) hdt hz2]; simp [*])) dX9_isName_100
            · refine lv_iload hx hb dX9_isName_59 (lv_at hl 1 rfl) ?_
              refine nb_ifne hx hb dX9_isName_61 (tgt := 73) (by decide) (fun c_6 => ?_) (fun c_6 => ?_)
              · refine lv_iconst (v := bI true) hx hb dX9_isName_73 rfl ?_
                refine lv_goto (tgt := 78) hx hb dX9_isName_74 (by decide) ?_
                refine lv_istore (lv' := [(4, .int (bI true)), (5, .int (nI k)), (3, .int (bI dt)), (0, .ref a1), (1, .int (nI fm)), (2, .int (nI P1.length))]) hx hb dX9_isName_78 hl (by decide) rfl (fun ls hl => ?_)
                refine lv_iinc (v := nI (k + 1)) (lv' := [(5, .int (nI (k + 1))), (4, .int (bI true)), (3, .int (bI dt)), (0, .ref a1), (1, .int (nI fm)), (2, .int (nI P1.length))]) hx hb dX9_isName_80 hl (k := 1) rfl (nI_add k 1) (by decide) rfl (fun ls hl => ?_)
                refine lv_goto (tgt := 53) hx hb dX9_isName_83 (by decide) ?_
                exact ih_53 (k + 1) true _ (by omega) (by omega) ⟨fun _ => by first | exact ⟨k, Nat.lt_succ_self _, by omega⟩ | (obtain ⟨j, h1, h2⟩ := hz.mp (by assumption); exact ⟨j, by omega, h2⟩), fun _ => rfl⟩ (lv_sub hl [0, 1, 2, 3, 4, 5] rfl)
              · have hv2 : P1.getD k 0 < 256 := hq1 _ (gd_mem (by omega))
                refine lv_aload_n hx hb dX9_isName_64 rfl (lv_at hl 3 rfl) ?_
                refine lv_iload_n hx hb dX9_isName_65 rfl (lv_at hl 4 rfl) ?_
                refine lv_iload hx hb dX9_isName_66 (lv_at hl 0 rfl) ?_
                refine nn_add hx hb dX9_isName_68 ?_
                refine nn_iald hx hb hK hT hP ha (by omega) hn dX9_isName_69 ?_
                refine nn_eqi (y := nI (P1.getD k 0)) (hp1 k (by omega)) ?_
                refine nz_ne hx hb dX9_isName_70 (tgt := 77) (by decide) (by omega) (fun c_7 => ?_) (fun c_7 => ?_)
                · refine lv_iconst (v := bI false) hx hb dX9_isName_77 rfl ?_
                  refine lv_istore (lv' := [(4, .int (bI false)), (5, .int (nI k)), (3, .int (bI dt)), (0, .ref a1), (1, .int (nI fm)), (2, .int (nI P1.length))]) hx hb dX9_isName_78 hl (by decide) rfl (fun ls hl => ?_)
                  refine lv_iinc (v := nI (k + 1)) (lv' := [(5, .int (nI (k + 1))), (4, .int (bI false)), (3, .int (bI dt)), (0, .ref a1), (1, .int (nI fm)), (2, .int (nI P1.length))]) hx hb dX9_isName_80 hl (k := 1) rfl (nI_add k 1) (by decide) rfl (fun ls hl => ?_)
                  refine lv_goto (tgt := 53) hx hb dX9_isName_83 (by decide) ?_
                  exact ih_53 (k + 1) false _ (by omega) (by omega) ⟨fun h => absurd h (by decide), fun ⟨j, h1, h2⟩ => by rcases Nat.lt_succ_iff_lt_or_eq.mp h1 with h3 | h3; exact absurd (hz.mpr ⟨j, h3, h2⟩) (by rw [show zb = false by assumption]; decide); subst h3; omega⟩ (lv_sub hl [0, 1, 2, 3, 4, 5] rfl)
                · refine lv_iconst (v := bI true) hx hb dX9_isName_73 rfl ?_
                  refine lv_goto (tgt := 78) hx hb dX9_isName_74 (by decide) ?_
                  refine lv_istore (lv' := [(4, .int (bI true)), (5, .int (nI k)), (3, .int (bI dt)), (0, .ref a1), (1, .int (nI fm)), (2, .int (nI P1.length))]) hx hb dX9_isName_78 hl (by decide) rfl (fun ls hl => ?_)
                  refine lv_iinc (v := nI (k + 1)) (lv' := [(5, .int (nI (k + 1))), (4, .int (bI true)), (3, .int (bI dt)), (0, .ref a1), (1, .int (nI fm)), (2, .int (nI P1.length))]) hx hb dX9_isName_80 hl (k := 1) rfl (nI_add k 1) (by decide) rfl (fun ls hl => ?_)
                  refine lv_goto (tgt := 53) hx hb dX9_isName_83 (by decide) ?_
                  exact ih_53 (k + 1) true _ (by omega) (by omega) ⟨fun _ => by first | exact ⟨k, Nat.lt_succ_self _, by omega⟩ | (obtain ⟨j, h1, h2⟩ := hz.mp (by assumption); exact ⟨j, by omega, h2⟩), fun _ => rfl⟩ (lv_sub hl [0, 1, 2, 3, 4, 5] rfl)
        exact lp_53 (((P1.length - 0)) + 1) 0 false _ (Nat.lt_succ_self _) (Nat.zero_le _) ⟨fun h => absurd h (by decide), fun ⟨j, h, _⟩ => absurd h (Nat.not_lt_zero _)⟩ (lv_sub hl [0, 1, 2, 3, 4, 5] rfl)
      refine lv_aload_n hx hb dX9_isName_13 rfl (lv_at hl 0 rfl) ?_
      refine lv_iload_n hx hb dX9_isName_14 rfl (lv_at hl 1 rfl) ?_
      refine nn_iald hx hb hK hT hP ha (by omega) hn dX9_isName_15 ?_
      refine nn_eqi (y := nI (P1.getD 0 0)) (hp1 0 (by omega)) ?_
      refine lv_bipush (v := nI 46) hx hb dX9_isName_16 (by decide) ?_
      refine nn_ne hx hb dX9_isName_18 (tgt := 45) (by decide) (by omega) (by omega) (fun c_8 => ?_) (fun c_8 => ?_)
      · refine lv_iconst (v := bI false) hx hb dX9_isName_45 rfl ?_
        exact mg_46 false _ (by rw [dots_iff (by omega)]; exact ⟨fun h => absurd h (by decide), fun h => absurd h (by omega)⟩) (lv_sub hl [0, 1, 2] rfl)
      · refine lv_iload_n hx hb dX9_isName_21 rfl (lv_at hl 2 rfl) ?_
        refine lv_iconst (v := nI 1) hx hb dX9_isName_22 rfl ?_
        refine nn_eq hx hb dX9_isName_23 (tgt := 41) (by decide) (by omega) (by omega) (fun c_9 => ?_) (fun c_9 => ?_)
        · refine lv_iconst (v := bI true) hx hb dX9_isName_41 rfl ?_
          refine lv_goto (tgt := 46) hx hb dX9_isName_42 (by decide) ?_
          exact mg_46 true _ (by rw [dots_iff (by omega)]; exact ⟨fun _ => by omega, fun _ => rfl⟩) (lv_sub hl [0, 1, 2] rfl)
        · refine lv_iload_n hx hb dX9_isName_26 rfl (lv_at hl 2 rfl) ?_
          refine lv_iconst (v := nI 2) hx hb dX9_isName_27 rfl ?_
          refine nn_ne hx hb dX9_isName_28 (tgt := 45) (by decide) (by omega) (by omega) (fun c_10 => ?_) (fun c_10 => ?_)
          · refine lv_iconst (v := bI false) hx hb dX9_isName_45 rfl ?_
            exact mg_46 false _ (by rw [dots_iff (by omega)]; exact ⟨fun h => absurd h (by decide), fun h => absurd h (by omega)⟩) (lv_sub hl [0, 1, 2] rfl)
          · have hv1 : P1.getD 1 0 < 256 := hq1 _ (gd_mem (by omega))
            refine lv_aload_n hx hb dX9_isName_31 rfl (lv_at hl 0 rfl) ?_
            refine lv_iload_n hx hb dX9_isName_32 rfl (lv_at hl 1 rfl) ?_
            refine lv_iconst (v := nI 1) hx hb dX9_isName_33 rfl ?_
            refine nn_add hx hb dX9_isName_34 ?_
            refine nn_iald hx hb hK hT hP ha (by omega) hn dX9_isName_35 ?_
            refine nn_eqi (y := nI (P1.getD 1 0)) (hp1 1 (by omega)) ?_
            refine lv_bipush (v := nI 46) hx hb dX9_isName_36 (by decide) ?_
            refine nn_ne hx hb dX9_isName_38 (tgt := 45) (by decide) (by omega) (by omega) (fun c_11 => ?_) (fun c_11 => ?_)
            · refine lv_iconst (v := bI false) hx hb dX9_isName_45 rfl ?_
              exact mg_46 false _ (by rw [dots_iff (by omega)]; exact ⟨fun h => absurd h (by decide), fun h => absurd h (by omega)⟩) (lv_sub hl [0, 1, 2] rfl)
            · refine lv_iconst (v := bI true) hx hb dX9_isName_41 rfl ?_
              refine lv_goto (tgt := 46) hx hb dX9_isName_42 (by decide) ?_
              exact mg_46 true _ (by rw [dots_iff (by omega)]; exact ⟨fun _ => by omega, fun _ => rfl⟩) (lv_sub hl [0, 1, 2] rfl)
    · refine lv_iconst (v := bI false) hx hb dX9_isName_11 rfl ?_
      rw [hQ]
      exact pf_zret hx hb hr hlocks (bI_01 _) (by first | (rw [nmOK_no (by omega)]) | (rw [nmOK_end (by omega) (by omega) hdt hz2]; simp [*])) dX9_isName_12
set_option maxHeartbeats 4000000 in
set_option maxRecDepth 100000 in
theorem m_isPath (l : Launch) {G : va_G} {tys : List (ClassId × FieldType)} {cI : ClassId} (hT : tys[1]? = some (cI, .int)) {x : Nat} {q : Nat → Nat} {v_thrown v_taped v_state v_operations v_changes v_sessions v_begun v_isChosen v_chosenMany : Int32} {f_many f_bytes f_kinds f_modes f_times f_paths f_contentAt f_contents f_path f_content f_ready f_tape f_sessionTime f_sessionChanges f_chosen : Nat → Int32} (tp : List Nat) (htp : en f_tape 0 tp) (htl : tp.length ≤ 400) (htb : ∀ b ∈ tp, b < 256) : pMet l yX9_isPath wsX9_isPath ({ frames := 1, cells := 0, slots := 0, locals := 25 } : Room) G tys [.ref x, .int (nI tp.length)] (rwx cI x q v_thrown v_taped v_state v_operations v_changes v_sessions v_begun v_isChosen v_chosenMany f_many f_bytes f_kinds f_modes f_times f_paths f_contentAt f_contents f_path f_content f_ready f_tape f_sessionTime f_sessionChanges f_chosen) (fun r => r = .int (bI (pathOK tp))) := by
  refine Met.ofW (cc := cX9_isPath) (maxL := 6) (ret := (some .boolean)) (by decide) rfl ?_
  intro p e s m args below meth c s₁ B hml hv
  obtain ⟨hargs, hP, hK⟩ := hv
  have hx := B.exec
  have hb := B.bytes
  have hr := B.returns
  have hts := atoms_spec (ws := wsX9_isPath) B.pre
  have hown : s.vm.findClass RX9 = some m.cls := findClass_of_methodNamed B.named
  have hlocks := B.notSynchronized
  have hC : rC p s m args c cX9_isPath G tys cI wsX9_isPath := ⟨hx, hb, hts, (by decide +kernel), hown, hK, hT⟩
  have k_tape := hts (.fieldLink RX9 45 "MirrorKeepModel" "tape" "[I") (by decide +kernel)
  obtain ⟨Q, hQ⟩ : ∃ Q : State → Prop, Q = MQ below (pQ (fun r => r = .int (bI (pathOK tp)))) args s 0 0 (fun _ => False) := ⟨_, rfl⟩
  change W p l e ({ frames := 1, cells := 0, slots := 0, locals := 25 } : Room) s m args below meth c s.heap [] 0 0 (MQ below (pQ (fun r => r = .int (bI (pathOK tp)))) args s 0 0 (fun _ => False)) (entryFrame m args 6)
  rw [← hQ]
  refine nn_entry hargs (Nat.le_of_ble_eq_true rfl) (lv := [(0, .ref x), (1, .int (nI tp.length))]) rfl (fun ls hl => ?_)
  refine lv_iconst (v := nI 0) hx hb dX9_isPath_0 rfl ?_
  refine lv_istore_n (lv' := [(2, .int (nI 0)), (0, .ref x), (1, .int (nI tp.length))]) hx hb dX9_isPath_1 rfl hl (by decide) rfl (fun ls hl => ?_)
  refine lv_iconst (v := nI 0) hx hb dX9_isPath_2 rfl ?_
  refine lv_istore_n (lv' := [(3, .int (nI 0)), (2, .int (nI 0)), (0, .ref x), (1, .int (nI tp.length))]) hx hb dX9_isPath_3 rfl hl (by decide) rfl (fun ls hl => ?_)
  refine lv_iconst (v := bI true) hx hb dX9_isPath_4 rfl ?_
  refine lv_istore (lv' := [(4, .int (bI true)), (3, .int (nI 0)), (2, .int (nI 0)), (0, .ref x), (1, .int (nI tp.length))]) hx hb dX9_isPath_5 hl (by decide) rfl (fun ls hl => ?_)
  refine lv_iconst (v := nI 0) hx hb dX9_isPath_7 rfl ?_
  refine lv_istore (lv' := [(5, .int (nI 0)), (4, .int (bI true)), (3, .int (nI 0)), (2, .int (nI 0)), (0, .ref x), (1, .int (nI tp.length))]) hx hb dX9_isPath_8 hl (by decide) rfl (fun ls hl => ?_)
  have lp_10 : ∀ (n_10 : Nat) (k : Nat) (nm : Nat) (fm : Nat) (is1 : Bool) (ls : Array Slot), (tp.length + 1 - k) < n_10 → (k ≤ tp.length + 1) → (fm ≤ k) → (nm ≤ k) → ((is1 = true → k ≤ tp.length → (pk2 [] tp).1 = (pk2 (pc3 tp fm k) (tp.drop k)).1 ∧ (pk2 [] tp).2 = nm + (pk2 (pc3 tp fm k) (tp.drop k)).2) ∧ (is1 = true → k = tp.length + 1 → (pk2 [] tp).1 = true ∧ (pk2 [] tp).2 = nm) ∧ (is1 = false → (pk2 [] tp).1 = false)) → lv_has ls 6 [(5, .int (nI k)), (4, .int (bI is1)), (3, .int (nI fm)), (2, .int (nI nm)), (0, .ref x), (1, .int (nI tp.length))] → W p l e ({ frames := 1, cells := 0, slots := 0, locals := 25 } : Room) s m args below meth c s.heap [] 0 0 Q (F0 m 10 ls []) := by
    intro n_10
    induction n_10 with
    | zero => intro k nm fm is1 ls h0; exact absurd h0 (Nat.not_lt_zero _)
    | succ n_10 ih_10 =>
      intro k nm fm is1 ls hm_10 hk hfm hnm hpk hl
      refine lv_iload hx hb dX9_isPath_10 (lv_at hl 0 rfl) ?_
      refine lv_iload_n hx hb dX9_isPath_12 rfl (lv_at hl 5 rfl) ?_
      refine nn_gt hx hb dX9_isPath_13 (tgt := 70) (by decide) (by omega) (by omega) (fun c_1 => ?_) (fun c_1 => ?_)
      · refine lv_iload hx hb dX9_isPath_70 (lv_at hl 1 rfl) ?_
        refine nb_ifeq hx hb dX9_isPath_72 (tgt := 85) (by decide) (fun c_2 => ?_) (fun c_2 => ?_)
        · refine lv_iconst (v := bI false) hx hb dX9_isPath_85 rfl ?_
          rw [hQ]
          exact pf_zret hx hb hr hlocks (bI_01 _) (congrArg (fun b => Value.int (bI b)) (by first | exact absurd ((Eq.symm (by assumption : is1 = false)).trans (by assumption : is1 = true)) (by decide) | (have := isPath_end hpk (by first | exact Or.inr (by assumption) | exact Or.inl (by omega)); rw [this]; simp [*]))) dX9_isPath_86
        · refine lv_iload_n hx hb dX9_isPath_75 rfl (lv_at hl 3 rfl) ?_
          refine lv_bipush (v := nI 6) hx hb dX9_isPath_76 (by decide) ?_
          refine nn_gt hx hb dX9_isPath_78 (tgt := 85) (by decide) (by omega) (by omega) (fun c_3 => ?_) (fun c_3 => ?_)
          · refine lv_iconst (v := bI false) hx hb dX9_isPath_85 rfl ?_
            rw [hQ]
            exact pf_zret hx hb hr hlocks (bI_01 _) (congrArg (fun b => Value.int (bI b)) (by first | exact absurd ((Eq.symm (by assumption : is1 = false)).trans (by assumption : is1 = true)) (by decide) | (have := isPath_end hpk (by first | exact Or.inr (by assumption) | exact Or.inl (by omega)); rw [this]; simp [*]))) dX9_isPath_86
          · refine lv_iconst (v := bI true) hx hb dX9_isPath_81 rfl ?_
            refine lv_goto (tgt := 86) hx hb dX9_isPath_82 (by decide) ?_
            rw [hQ]
            exact pf_zret hx hb hr hlocks (bI_01 _) (congrArg (fun b => Value.int (bI b)) (by first | exact absurd ((Eq.symm (by assumption : is1 = false)).trans (by assumption : is1 = true)) (by decide) | (have := isPath_end hpk (by first | exact Or.inr (by assumption) | exact Or.inl (by omega)); rw [this]; simp [*]))) dX9_isPath_86
      · refine lv_iload hx hb dX9_isPath_16 (lv_at hl 1 rfl) ?_
        refine nb_ifeq hx hb dX9_isPath_18 (tgt := 70) (by decide) (fun c_4 => ?_) (fun c_4 => ?_)
        · refine lv_iload hx hb dX9_isPath_70 (lv_at hl 1 rfl) ?_
          refine nb_ifeq hx hb dX9_isPath_72 (tgt := 85) (by decide) (fun c_5 => ?_) (fun c_5 => ?_)
          · refine lv_iconst (v := bI false) hx hb dX9_isPath_85 rfl ?_
            rw [hQ]
            exact pf_zret hx hb hr hlocks (bI_01 _) (congrArg (fun b => Value.int (bI b)) (by first | exact absurd ((Eq.symm (by assumption : is1 = false)).trans (by assumption : is1 = true)) (by decide) | (have := isPath_end hpk (by first | exact Or.inr (by assumption) | exact Or.inl (by omega)); rw [this]; simp [*]))) dX9_isPath_86
          · refine lv_iload_n hx hb dX9_isPath_75 rfl (lv_at hl 3 rfl) ?_
            refine lv_bipush (v := nI 6) hx hb dX9_isPath_76 (by decide) ?_
            refine nn_gt hx hb dX9_isPath_78 (tgt := 85) (by decide) (by omega) (by omega) (fun c_6 => ?_) (fun c_6 => ?_)
            · refine lv_iconst (v := bI false) hx hb dX9_isPath_85 rfl ?_
              rw [hQ]
              exact pf_zret hx hb hr hlocks (bI_01 _) (congrArg (fun b => Value.int (bI b)) (by first | exact absurd ((Eq.symm (by assumption : is1 = false)).trans (by assumption : is1 = true)) (by decide) | (have := isPath_end hpk (by first | exact Or.inr (by assumption) | exact Or.inl (by omega)); rw [this]; simp [*]))) dX9_isPath_86
            · refine lv_iconst (v := bI true) hx hb dX9_isPath_81 rfl ?_
              refine lv_goto (tgt := 86) hx hb dX9_isPath_82 (by decide) ?_
              rw [hQ]
              exact pf_zret hx hb hr hlocks (bI_01 _) (congrArg (fun b => Value.int (bI b)) (by first | exact absurd ((Eq.symm (by assumption : is1 = false)).trans (by assumption : is1 = true)) (by decide) | (have := isPath_end hpk (by first | exact Or.inr (by assumption) | exact Or.inl (by omega)); rw [this]; simp [*]))) dX9_isPath_86
        · refine lv_iload hx hb dX9_isPath_21 (lv_at hl 0 rfl) ?_
          refine lv_iload_n hx hb dX9_isPath_23 rfl (lv_at hl 5 rfl) ?_
          refine nn_ge hx hb dX9_isPath_24 (tgt := 42) (by decide) (by omega) (by omega) (fun c_7 => ?_) (fun c_7 => ?_)
          · refine lv_aload_n hx hb dX9_isPath_42 rfl (lv_at hl 4 rfl) ?_
            refine rg_tape hC hP k_tape dX9_isPath_43 ?_
            refine lv_iload_n hx hb dX9_isPath_46 rfl (lv_at hl 2 rfl) ?_
            refine lv_iload hx hb dX9_isPath_47 (lv_at hl 0 rfl) ?_
            refine lv_iload_n hx hb dX9_isPath_49 rfl (lv_at hl 2 rfl) ?_
            refine nn_sub hx hb (by omega) dX9_isPath_50 ?_
            refine nn_eqi (y := nI (pc3 tp fm k).length) (by rw [pc3_len (by omega)]) ?_
            have hen := pc3_en (a := fm) (b := k) htp (by omega)
            rw [Nat.zero_add] at hen
            refine pf_callS (As := [.ref (q 11), .int (nI fm), .int (nI ((pc3 tp fm k).length))]) (rest := []) (m_isName l hT (k1 := 12) rfl (by decide) fm (pc3 tp fm k) hen (by rw [pc3_len (by omega)]; omega) (fun b hb => htb b (pc3_mem hb))) ⟨hx, hb, hml, hown, hts⟩ (va_cwS 3 hts gX9_isPath_X9_isName rfl rfl rfl (by decide +kernel) ⟨Nat.le_of_ble_eq_true rfl, Nat.le_of_ble_eq_true rfl⟩) hK hP rfl hl.1 rfl (Nat.le_of_ble_eq_true rfl) dX9_isPath_51 ⟨Nat.le_of_ble_eq_true rfl, Nat.le_of_ble_eq_true rfl⟩ (fun r_8 hr_8 => ?_)
            subst hr_8
            refine lv_istore (lv' := [(4, .int (bI (nmOK (pc3 tp fm k)))), (5, .int (nI k)), (3, .int (nI fm)), (2, .int (nI nm)), (0, .ref x), (1, .int (nI tp.length))]) hx hb dX9_isPath_54 hl (by decide) rfl (fun ls hl => ?_)
            refine lv_iinc (v := nI (nm + 1)) (lv' := [(2, .int (nI (nm + 1))), (4, .int (bI (nmOK (pc3 tp fm k)))), (5, .int (nI k)), (3, .int (nI fm)), (0, .ref x), (1, .int (nI tp.length))]) hx hb dX9_isPath_56 hl (k := 3) rfl (nI_add nm 1) (by decide) rfl (fun ls hl => ?_)
            refine lv_iload hx hb dX9_isPath_59 (lv_at hl 2 rfl) ?_
            refine lv_iconst (v := nI 1) hx hb dX9_isPath_61 rfl ?_
            refine nn_add hx hb dX9_isPath_62 ?_
            refine lv_istore_n (lv' := [(3, .int (nI (k + 1))), (2, .int (nI (nm + 1))), (4, .int (bI (nmOK (pc3 tp fm k)))), (5, .int (nI k)), (0, .ref x), (1, .int (nI tp.length))]) hx hb dX9_isPath_63 rfl hl (by decide) rfl (fun ls hl => ?_)
            refine lv_iinc (v := nI (k + 1)) (lv' := [(5, .int (nI (k + 1))), (3, .int (nI (k + 1))), (2, .int (nI (nm + 1))), (4, .int (bI (nmOK (pc3 tp fm k)))), (0, .ref x), (1, .int (nI tp.length))]) hx hb dX9_isPath_64 hl (k := 3) rfl (nI_add k 1) (by decide) rfl (fun ls hl => ?_)
            refine lv_goto (tgt := 10) hx hb dX9_isPath_67 (by decide) ?_
            exact ih_10 (k + 1) (nm + 1) (k + 1) (nmOK (pc3 tp fm k)) _ (by omega) (by omega) (by omega) (by omega) (isPath_s2 hpk (by assumption) (by omega) (by omega) (by omega)) (lv_sub hl [0, 3, 1, 2, 4, 5] rfl)
          · have hv0 : tp.getD k 0 < 256 := htb _ (gd_mem (by omega))
            refine lv_aload_n hx hb dX9_isPath_27 rfl (lv_at hl 4 rfl) ?_
            refine rg_tape hC hP k_tape dX9_isPath_28 ?_
            refine lv_iload hx hb dX9_isPath_31 (lv_at hl 0 rfl) ?_
            refine rl_tape hC hP (by omega) dX9_isPath_33 ?_
            refine nn_eqi (y := nI (tp.getD k 0)) (by have := htp k (by omega); rwa [Nat.zero_add] at this) ?_
            refine lv_bipush (v := nI 47) hx hb dX9_isPath_34 (by decide) ?_
            refine nn_eq hx hb dX9_isPath_36 (tgt := 42) (by decide) (by omega) (by omega) (fun c_9 => ?_) (fun c_9 => ?_)
            · refine lv_aload_n hx hb dX9_isPath_42 rfl (lv_at hl 4 rfl) ?_
              refine rg_tape hC hP k_tape dX9_isPath_43 ?_
              refine lv_iload_n hx hb dX9_isPath_46 rfl (lv_at hl 2 rfl) ?_
              refine lv_iload hx hb dX9_isPath_47 (lv_at hl 0 rfl) ?_
              refine lv_iload_n hx hb dX9_isPath_49 rfl (lv_at hl 2 rfl) ?_
              refine nn_sub hx hb (by omega) dX9_isPath_50 ?_
              refine nn_eqi (y := nI (pc3 tp fm k).length) (by rw [pc3_len (by omega)]) ?_
              have hen := pc3_en (a := fm) (b := k) htp (by omega)
              rw [Nat.zero_add] at hen
              refine pf_callS (As := [.ref (q 11), .int (nI fm), .int (nI ((pc3 tp fm k).length))]) (rest := []) (m_isName l hT (k1 := 12) rfl (by decide) fm (pc3 tp fm k) hen (by rw [pc3_len (by omega)]; omega) (fun b hb => htb b (pc3_mem hb))) ⟨hx, hb, hml, hown, hts⟩ (va_cwS 3 hts gX9_isPath_X9_isName rfl rfl rfl (by decide +kernel) ⟨Nat.le_of_ble_eq_true rfl, Nat.le_of_ble_eq_true rfl⟩) hK hP rfl hl.1 rfl (Nat.le_of_ble_eq_true rfl) dX9_isPath_51 ⟨Nat.le_of_ble_eq_true rfl, Nat.le_of_ble_eq_true rfl⟩ (fun r_10 hr_10 => ?_)
              subst hr_10
              refine lv_istore (lv' := [(4, .int (bI (nmOK (pc3 tp fm k)))), (5, .int (nI k)), (3, .int (nI fm)), (2, .int (nI nm)), (0, .ref x), (1, .int (nI tp.length))]) hx hb dX9_isPath_54 hl (by decide) rfl (fun ls hl => ?_)
              refine lv_iinc (v := nI (nm + 1)) (lv' := [(2, .int (nI (nm + 1))), (4, .int (bI (nmOK (pc3 tp fm k)))), (5, .int (nI k)), (3, .int (nI fm)), (0, .ref x), (1, .int (nI tp.length))]) hx hb dX9_isPath_56 hl (k := 3) rfl (nI_add nm 1) (by decide) rfl (fun ls hl => ?_)
              refine lv_iload hx hb dX9_isPath_59 (lv_at hl 2 rfl) ?_
              refine lv_iconst (v := nI 1) hx hb dX9_isPath_61 rfl ?_
              refine nn_add hx hb dX9_isPath_62 ?_
              refine lv_istore_n (lv' := [(3, .int (nI (k + 1))), (2, .int (nI (nm + 1))), (4, .int (bI (nmOK (pc3 tp fm k)))), (5, .int (nI k)), (0, .ref x), (1, .int (nI tp.length))]) hx hb dX9_isPath_63 rfl hl (by decide) rfl (fun ls hl => ?_)
              refine lv_iinc (v := nI (k + 1)) (lv' := [(5, .int (nI (k + 1))), (3, .int (nI (k + 1))), (2, .int (nI (nm + 1))), (4, .int (bI (nmOK (pc3 tp fm k)))), (0, .ref x), (1, .int (nI tp.length))]) hx hb dX9_isPath_64 hl (k := 3) rfl (nI_add k 1) (by decide) rfl (fun ls hl => ?_)
              refine lv_goto (tgt := 10) hx hb dX9_isPath_67 (by decide) ?_
              exact ih_10 (k + 1) (nm + 1) (k + 1) (nmOK (pc3 tp fm k)) _ (by omega) (by omega) (by omega) (by omega) (isPath_s2 hpk (by assumption) (by omega) (by omega) (by omega)) (lv_sub hl [0, 3, 1, 2, 4, 5] rfl)
            · refine lv_goto (tgt := 64) hx hb dX9_isPath_39 (by decide) ?_
              refine lv_iinc (v := nI (k + 1)) (lv' := [(5, .int (nI (k + 1))), (4, .int (bI is1)), (3, .int (nI fm)), (2, .int (nI nm)), (0, .ref x), (1, .int (nI tp.length))]) hx hb dX9_isPath_64 hl (k := 0) rfl (nI_add k 1) (by decide) rfl (fun ls hl => ?_)
              refine lv_goto (tgt := 10) hx hb dX9_isPath_67 (by decide) ?_
              exact ih_10 (k + 1) nm fm is1 _ (by omega) (by omega) (by omega) (by omega) (isPath_s1 hpk (by assumption) (by omega) (by omega) (by assumption)) (lv_sub hl [0, 1, 2, 3, 4, 5] rfl)
  exact lp_10 (((tp.length + 1 - 0)) + 1) 0 0 0 true _ (Nat.lt_succ_self _) (Nat.zero_le _) (Nat.zero_le _) (Nat.zero_le _) ⟨fun _ _ => by rw [pc3_nil]; simp, fun _ h => absurd h (by omega), fun h => absurd h (by decide)⟩ (lv_sub hl [0, 1, 2, 3, 4, 5] rfl)
set_option maxHeartbeats 4000000 in
set_option maxRecDepth 100000 in
theorem m_chooseTape (l : Launch) {G : va_G} {tys : List (ClassId × FieldType)} {cI : ClassId} (hT : tys[1]? = some (cI, .int)) {A : Nat → Prop} {x : Nat} {q : Nat → Nat} {v_thrown v_taped v_state v_operations v_changes v_sessions v_begun v_isChosen v_chosenMany : Int32} {f_many f_bytes f_kinds f_modes f_times f_paths f_contentAt f_contents f_path f_content f_ready f_tape f_sessionTime f_sessionChanges f_chosen : Nat → Int32} (tp : List Nat) (htp : en f_tape 0 tp) (htl : tp.length ≤ 150) : rMet l yX9_chooseTape wsX9_chooseTape ({ frames := 0, cells := 0, slots := 0, locals := 0 } : Room) G tys A [.ref x, .int (nI tp.length)] (rwx cI x q v_thrown v_taped v_state v_operations v_changes v_sessions v_begun v_isChosen v_chosenMany f_many f_bytes f_kinds f_modes f_times f_paths f_contentAt f_contents f_path f_content f_ready f_tape f_sessionTime f_sessionChanges f_chosen) (fun r w => r = none ∧ ∃ g : Nat → Int32, w = rwx cI x q v_thrown v_taped v_state v_operations v_changes v_sessions v_begun (bI true) (nI tp.length) f_many f_bytes f_kinds f_modes f_times f_paths f_contentAt f_contents f_path f_content f_ready f_tape f_sessionTime f_sessionChanges g ∧ en g 0 tp) := by
  refine Met.ofW (cc := cX9_chooseTape) (maxL := 3) (ret := none) (by decide) rfl ?_
  intro p e s m args below meth c s₁ B hml hv
  obtain ⟨hargs, hP, hK, hD⟩ := hv
  have hx := B.exec
  have hb := B.bytes
  have hr := B.returns
  have hts := atoms_spec (ws := wsX9_chooseTape) B.pre
  have hown : s.vm.findClass RX9 = some m.cls := findClass_of_methodNamed B.named
  have hlocks := B.notSynchronized
  have hC : rC p s m args c cX9_chooseTape G tys cI wsX9_chooseTape := ⟨hx, hb, hts, (by decide +kernel), hown, hK, hT⟩
  have k_chosen := hts (.fieldLink RX9 54 "MirrorKeepModel" "chosen" "[I") (by decide +kernel)
  have k_chosenMany := hts (.fieldLink RX9 100 "MirrorKeepModel" "chosenMany" "I") (by decide +kernel)
  have k_isChosen := hts (.fieldLink RX9 96 "MirrorKeepModel" "isChosen" "Z") (by decide +kernel)
  have k_tape := hts (.fieldLink RX9 45 "MirrorKeepModel" "tape" "[I") (by decide +kernel)
  have hR : rR G A s.heap s.heap [] (rwx cI x q v_thrown v_taped v_state v_operations v_changes v_sessions v_begun v_isChosen v_chosenMany f_many f_bytes f_kinds f_modes f_times f_paths f_contentAt f_contents f_path f_content f_ready f_tape f_sessionTime f_sessionChanges f_chosen) := ⟨hP, hD, va_S.rf⟩
  obtain ⟨Q, hQ⟩ : ∃ Q : State → Prop, Q = MQ below (rQ G A (fun r w => r = none ∧ ∃ g : Nat → Int32, w = rwx cI x q v_thrown v_taped v_state v_operations v_changes v_sessions v_begun (bI true) (nI tp.length) f_many f_bytes f_kinds f_modes f_times f_paths f_contentAt f_contents f_path f_content f_ready f_tape f_sessionTime f_sessionChanges g ∧ en g 0 tp)) args s 0 0 A := ⟨_, rfl⟩
  change W p l e ({ frames := 0, cells := 0, slots := 0, locals := 0 } : Room) s m args below meth c s.heap [] 0 0 (MQ below (rQ G A (fun r w => r = none ∧ ∃ g : Nat → Int32, w = rwx cI x q v_thrown v_taped v_state v_operations v_changes v_sessions v_begun (bI true) (nI tp.length) f_many f_bytes f_kinds f_modes f_times f_paths f_contentAt f_contents f_path f_content f_ready f_tape f_sessionTime f_sessionChanges g ∧ en g 0 tp)) args s 0 0 A) (entryFrame m args 3)
  rw [← hQ]
  refine nn_entry hargs (Nat.le_of_ble_eq_true rfl) (lv := [(0, .ref x), (1, .int (nI tp.length))]) rfl (fun ls hl => ?_)
  refine lv_aload_n hx hb dX9_chooseTape_0 rfl (lv_at hl 0 rfl) ?_
  refine lv_iconst (v := bI true) hx hb dX9_chooseTape_1 rfl ?_
  refine rp_isChosen hC hR k_isChosen (bI_01 _) dX9_chooseTape_2 (fun H locs hR => ?_)
  refine lv_aload_n hx hb dX9_chooseTape_5 rfl (lv_at hl 0 rfl) ?_
  refine lv_iload_n hx hb dX9_chooseTape_6 rfl (lv_at hl 1 rfl) ?_
  refine rp_chosenMany hC hR k_chosenMany dX9_chooseTape_7 (fun H locs hR => ?_)
  refine lv_iconst (v := nI 0) hx hb dX9_chooseTape_10 rfl ?_
  refine lv_istore_n (lv' := [(2, .int (nI 0)), (0, .ref x), (1, .int (nI tp.length))]) hx hb dX9_chooseTape_11 rfl hl (by decide) rfl (fun ls hl => ?_)
  have lp_12 : ∀ (n_12 : Nat) (k : Nat) (g : Nat → Int32) (H : Heap) (locs : List Loc) (ls : Array Slot), (tp.length - k) < n_12 → (k ≤ tp.length) → (∀ j, j < k → g j = nI (tp.getD j 0)) → rR G A s.heap H locs (rwx cI x q v_thrown v_taped v_state v_operations v_changes v_sessions v_begun (bI true) (nI tp.length) f_many f_bytes f_kinds f_modes f_times f_paths f_contentAt f_contents f_path f_content f_ready f_tape f_sessionTime f_sessionChanges g) → lv_has ls 3 [(2, .int (nI k)), (0, .ref x), (1, .int (nI tp.length))] → W p l e ({ frames := 0, cells := 0, slots := 0, locals := 0 } : Room) s m args below meth c H locs 0 0 Q (F0 m 12 ls []) := by
    intro n_12
    induction n_12 with
    | zero => intro k g H locs ls h0; exact absurd h0 (Nat.not_lt_zero _)
    | succ n_12 ih_12 =>
      intro k g H locs ls hm_12 hk hg hR hl
      refine lv_iload_n hx hb dX9_chooseTape_12 rfl (lv_at hl 0 rfl) ?_
      refine lv_iload_n hx hb dX9_chooseTape_13 rfl (lv_at hl 2 rfl) ?_
      refine nn_ge hx hb dX9_chooseTape_14 (tgt := 35) (by decide) (by omega) (by omega) (fun c_1 => ?_) (fun c_1 => ?_)
      · have hkk : k = tp.length := by omega
        rw [hQ]
        exact rf_vret hx hb hr hlocks hR ⟨rfl, g, rfl, fun j hj => by rw [Nat.zero_add]; exact hg j (by omega)⟩ dX9_chooseTape_35
      · refine lv_aload_n hx hb dX9_chooseTape_17 rfl (lv_at hl 1 rfl) ?_
        refine rg_chosen hC hR.1 k_chosen dX9_chooseTape_18 ?_
        refine lv_iload_n hx hb dX9_chooseTape_21 rfl (lv_at hl 0 rfl) ?_
        refine lv_aload_n hx hb dX9_chooseTape_22 rfl (lv_at hl 1 rfl) ?_
        refine rg_tape hC hR.1 k_tape dX9_chooseTape_23 ?_
        refine lv_iload_n hx hb dX9_chooseTape_26 rfl (lv_at hl 0 rfl) ?_
        refine rl_tape hC hR.1 (by omega) dX9_chooseTape_27 ?_
        refine nn_eqi (y := nI (tp.getD k 0)) (by have := htp k (by omega); rwa [Nat.zero_add] at this) ?_
        refine rs_chosen hC hR (by omega) dX9_chooseTape_28 (fun H locs hR => ?_)
        refine lv_iinc (v := nI (k + 1)) (lv' := [(2, .int (nI (k + 1))), (0, .ref x), (1, .int (nI tp.length))]) hx hb dX9_chooseTape_29 hl (k := 0) rfl (nI_add k 1) (by decide) rfl (fun ls hl => ?_)
        refine lv_goto (tgt := 12) hx hb dX9_chooseTape_32 (by decide) ?_
        exact ih_12 (k + 1) (upd g k (nI (tp.getD k 0))) _ _ _ (by omega) (by omega) (fun j hj => by by_cases h : j = k; (subst h; rw [pk_us]); (rw [pk_un h]; exact hg j (by omega))) hR (lv_sub hl [0, 1, 2] rfl)
  exact lp_12 (((tp.length - 0)) + 1) 0 f_chosen _ _ _ (Nat.lt_succ_self _) (Nat.zero_le _) (fun j h => absurd h (Nat.not_lt_zero _)) hR (lv_sub hl [0, 1, 2] rfl)
set_option maxHeartbeats 4000000 in
set_option maxRecDepth 100000 in
theorem m_chosenAt (l : Launch) {G : va_G} {tys : List (ClassId × FieldType)} {cI : ClassId} (hT : tys[1]? = some (cI, .int)) {x : Nat} {q : Nat → Nat} {v_thrown v_taped v_state v_operations v_changes v_sessions v_begun v_chosenMany : Int32} {f_many f_bytes f_kinds f_modes f_times f_paths f_contentAt f_contents f_path f_content f_ready f_tape f_sessionTime f_sessionChanges f_chosen : Nat → Int32} (Ts : Nat → List En) (hRT : RT f_many f_bytes f_kinds f_modes f_times f_paths f_contentAt f_contents f_path f_content Ts) (cs : Bool) (cp : List Nat) (hch : cs = true → v_chosenMany = nI cp.length ∧ en f_chosen 0 cp ∧ cp.length ≤ 150 ∧ ∀ b ∈ cp, b < 256) : pMet l yX9_chosenAt wsX9_chosenAt ({ frames := 3, cells := 0, slots := 0, locals := 74 } : Room) G tys [.ref x] (rwx cI x q v_thrown v_taped v_state v_operations v_changes v_sessions v_begun (bI cs) v_chosenMany f_many f_bytes f_kinds f_modes f_times f_paths f_contentAt f_contents f_path f_content f_ready f_tape f_sessionTime f_sessionChanges f_chosen) (fun r => r = .int (cAt (Ts 0) cs cp)) := by
  refine Met.ofW (cc := cX9_chosenAt) (maxL := 1) (ret := (some .int)) (by decide) rfl ?_
  intro p e s m args below meth c s₁ B hml hv
  obtain ⟨hargs, hP, hK⟩ := hv
  have hx := B.exec
  have hb := B.bytes
  have hr := B.returns
  have hts := atoms_spec (ws := wsX9_chosenAt) B.pre
  have hown : s.vm.findClass RX9 = some m.cls := findClass_of_methodNamed B.named
  have hlocks := B.notSynchronized
  have hC : rC p s m args c cX9_chosenAt G tys cI wsX9_chosenAt := ⟨hx, hb, hts, (by decide +kernel), hown, hK, hT⟩
  have k_chosen := hts (.fieldLink RX9 54 "MirrorKeepModel" "chosen" "[I") (by decide +kernel)
  have k_chosenMany := hts (.fieldLink RX9 100 "MirrorKeepModel" "chosenMany" "I") (by decide +kernel)
  have k_isChosen := hts (.fieldLink RX9 96 "MirrorKeepModel" "isChosen" "Z") (by decide +kernel)
  obtain ⟨Q, hQ⟩ : ∃ Q : State → Prop, Q = MQ below (pQ (fun r => r = .int (cAt (Ts 0) cs cp))) args s 0 0 (fun _ => False) := ⟨_, rfl⟩
  change W p l e ({ frames := 3, cells := 0, slots := 0, locals := 74 } : Room) s m args below meth c s.heap [] 0 0 (MQ below (pQ (fun r => r = .int (cAt (Ts 0) cs cp))) args s 0 0 (fun _ => False)) (entryFrame m args 1)
  rw [← hQ]
  refine nn_entry hargs (Nat.le_of_ble_eq_true rfl) (lv := [(0, .ref x)]) rfl (fun ls hl => ?_)
  refine lv_aload_n hx hb dX9_chosenAt_0 rfl (lv_at hl 0 rfl) ?_
  refine rg_isChosen hC hP k_isChosen dX9_chosenAt_1 ?_
  refine nb_ifeq hx hb dX9_chosenAt_4 (tgt := 23) (by decide) (fun c_1 => ?_) (fun c_1 => ?_)
  · refine lv_iconst (v := (-1)) hx hb dX9_chosenAt_23 rfl ?_
    rw [hQ]
    exact pf_iret hx hb hr hlocks (by unfold cAt; first | rw [if_pos (by assumption)] | rw [if_neg (by simp [*])]) dX9_chosenAt_24
  · refine lv_aload_n hx hb dX9_chosenAt_7 rfl (lv_at hl 0 rfl) ?_
    refine lv_iconst (v := nI 0) hx hb dX9_chosenAt_8 rfl ?_
    refine lv_aload_n hx hb dX9_chosenAt_9 rfl (lv_at hl 0 rfl) ?_
    refine rg_chosen hC hP k_chosen dX9_chosenAt_10 ?_
    refine lv_aload_n hx hb dX9_chosenAt_13 rfl (lv_at hl 0 rfl) ?_
    refine rg_chosenMany hC hP k_chosenMany dX9_chosenAt_14 ?_
    obtain ⟨hc1, hc2, hc3, hc4⟩ := hch (by assumption)
    refine nn_eqi (y := nI cp.length) hc1 ?_
    refine pf_callV (C := RX9) (As := [.int (nI 0), .ref (q 14), .int (nI cp.length)]) (rest := []) (m_find l hT Ts 0 hRT (by decide) (k2 := 15) rfl (by decide) cp hc2 (by omega) hc4) ⟨hx, hb, hml, hown, hts⟩ (cwV 3 hts gX9_chosenAt_X9_find rfl rfl rfl (by decide +kernel) ⟨Nat.le_of_ble_eq_true rfl, Nat.le_of_ble_eq_true rfl⟩) hK hP (r_recv hK hP) rfl hl.1 rfl (Nat.le_of_ble_eq_true rfl) dX9_chosenAt_17 ⟨Nat.le_of_ble_eq_true rfl, Nat.le_of_ble_eq_true rfl⟩ (fun r_2 hr_2 => ?_)
    subst hr_2
    refine lv_goto (tgt := 24) hx hb dX9_chosenAt_20 (by decide) ?_
    rw [hQ]
    exact pf_iret hx hb hr hlocks (by unfold cAt; first | rw [if_pos (by assumption)] | rw [if_neg (by simp [*])]) dX9_chosenAt_24
set_option maxHeartbeats 4000000 in
set_option maxRecDepth 100000 in
theorem m_isBelow (l : Launch) {G : va_G} {tys : List (ClassId × FieldType)} {cI : ClassId} (hT : tys[1]? = some (cI, .int)) {x : Nat} {q : Nat → Nat} {v_thrown v_taped v_state v_operations v_changes v_sessions v_begun v_isChosen : Int32} {f_many f_bytes f_kinds f_modes f_times f_paths f_contentAt f_contents f_path f_content f_ready f_tape f_sessionTime f_sessionChanges f_chosen : Nat → Int32} (Ts : Nat → List En) (hRT : RT f_many f_bytes f_kinds f_modes f_times f_paths f_contentAt f_contents f_path f_content Ts) (i : Nat) (hi : i < (Ts 0).length) (cp : List Nat) (hc2 : en f_chosen 0 cp) (hc3 : cp.length ≤ 150) (hc4 : ∀ b ∈ cp, b < 256) : pMet l yX9_isBelow wsX9_isBelow ({ frames := 1, cells := 0, slots := 0, locals := 21 } : Room) G tys [.ref x, .int (nI i)] (rwx cI x q v_thrown v_taped v_state v_operations v_changes v_sessions v_begun v_isChosen (nI cp.length) f_many f_bytes f_kinds f_modes f_times f_paths f_contentAt f_contents f_path f_content f_ready f_tape f_sessionTime f_sessionChanges f_chosen) (fun r => r = .int (bI (blw ((Ts 0).getD i e0).1 cp))) := by
  refine Met.ofW (cc := cX9_isBelow) (maxL := 5) (ret := (some .boolean)) (by decide) rfl ?_
  intro p e s m args below meth c s₁ B hml hv
  obtain ⟨hargs, hP, hK⟩ := hv
  have hx := B.exec
  have hb := B.bytes
  have hr := B.returns
  have hts := atoms_spec (ws := wsX9_isBelow) B.pre
  have hown : s.vm.findClass RX9 = some m.cls := findClass_of_methodNamed B.named
  have hlocks := B.notSynchronized
  have hC : rC p s m args c cX9_isBelow G tys cI wsX9_isBelow := ⟨hx, hb, hts, (by decide +kernel), hown, hK, hT⟩
  have k_chosen := hts (.fieldLink RX9 54 "MirrorKeepModel" "chosen" "[I") (by decide +kernel)
  have k_chosenMany := hts (.fieldLink RX9 100 "MirrorKeepModel" "chosenMany" "I") (by decide +kernel)
  have k_path := hts (.fieldLink RX9 35 "MirrorKeepModel" "path" "[I") (by decide +kernel)
  have k_paths := hts (.fieldLink RX9 25 "MirrorKeepModel" "paths" "[I") (by decide +kernel)
  obtain ⟨Q, hQ⟩ : ∃ Q : State → Prop, Q = MQ below (pQ (fun r => r = .int (bI (blw ((Ts 0).getD i e0).1 cp)))) args s 0 0 (fun _ => False) := ⟨_, rfl⟩
  change W p l e ({ frames := 1, cells := 0, slots := 0, locals := 21 } : Room) s m args below meth c s.heap [] 0 0 (MQ below (pQ (fun r => r = .int (bI (blw ((Ts 0).getD i e0).1 cp)))) args s 0 0 (fun _ => False)) (entryFrame m args 5)
  rw [← hQ]
  refine nn_entry hargs (Nat.le_of_ble_eq_true rfl) (lv := [(0, .ref x), (1, .int (nI i))]) rfl (fun ls hl => ?_)
  obtain ⟨t1, t2, t3, t4, t5⟩ := hRT 0 (by decide)
  obtain ⟨d1, d2, d3, d4, d5, d6, d7, d8, d9, d10, d11⟩ := t5 i hi
  refine lv_iconst (v := nI 0) hx hb dX9_isBelow_0 rfl ?_
  refine lv_iload_n hx hb dX9_isBelow_1 rfl (lv_at hl 1 rfl) ?_
  refine pf_callS (As := [.int (nI 0), .int (nI i)]) (rest := []) (m_place l hT 0 i) ⟨hx, hb, hml, hown, hts⟩ (va_cwS 2 hts gX9_isBelow_X9_place rfl rfl rfl (by decide +kernel) ⟨Nat.le_of_ble_eq_true rfl, Nat.le_of_ble_eq_true rfl⟩) hK nn_nil rfl hl.1 rfl (Nat.le_of_ble_eq_true rfl) dX9_isBelow_2 ⟨Nat.le_of_ble_eq_true rfl, Nat.le_of_ble_eq_true rfl⟩ (fun r_1 hr_1 => ?_)
  subst hr_1
  refine lv_istore_n (lv' := [(2, .int (nI (120 * 0 + i))), (0, .ref x), (1, .int (nI i))]) hx hb dX9_isBelow_5 rfl hl (by decide) rfl (fun ls hl => ?_)
  have mg_57 : ∀ (is1 : Bool) (ls : Array Slot), (is1 = true ↔ (((Ts 0).getD i e0).1.length = cp.length ∨ (cp.length < ((Ts 0).getD i e0).1.length ∧ ((Ts 0).getD i e0).1.getD cp.length 0 = 47))) → lv_has ls 5 [(2, .int (nI (120 * 0 + i))), (0, .ref x), (1, .int (nI i))] → W p l e ({ frames := 1, cells := 0, slots := 0, locals := 21 } : Room) s m args below meth c s.heap [] 0 0 Q (F0 m 57 ls [.int (bI is1)]) := by
    intro is1 ls his1 hl
    refine lv_istore_n (lv' := [(3, .int (bI is1)), (2, .int (nI (120 * 0 + i))), (0, .ref x), (1, .int (nI i))]) hx hb dX9_isBelow_57 rfl hl (by decide) rfl (fun ls hl => ?_)
    refine lv_iconst (v := nI 0) hx hb dX9_isBelow_58 rfl ?_
    refine lv_istore (lv' := [(4, .int (nI 0)), (3, .int (bI is1)), (2, .int (nI (120 * 0 + i))), (0, .ref x), (1, .int (nI i))]) hx hb dX9_isBelow_59 hl (by decide) rfl (fun ls hl => ?_)
    have lp_61 : ∀ (n_61 : Nat) (k : Nat) (is2 : Bool) (ls : Array Slot), (cp.length - k) < n_61 → (k ≤ cp.length) → (is2 = true ↔ (((Ts 0).getD i e0).1.length = cp.length ∨ (cp.length < ((Ts 0).getD i e0).1.length ∧ ((Ts 0).getD i e0).1.getD cp.length 0 = 47)) ∧ ∀ jj, jj < k → ((Ts 0).getD i e0).1.getD jj 0 = cp.getD jj 0) → lv_has ls 5 [(4, .int (nI k)), (3, .int (bI is2)), (2, .int (nI (120 * 0 + i))), (0, .ref x), (1, .int (nI i))] → W p l e ({ frames := 1, cells := 0, slots := 0, locals := 21 } : Room) s m args below meth c s.heap [] 0 0 Q (F0 m 61 ls []) := by
      intro n_61
      induction n_61 with
      | zero => intro k is2 ls h0; exact absurd h0 (Nat.not_lt_zero _)
      | succ n_61 ih_61 =>
        intro k is2 ls hm_61 hk his hl
        refine lv_iload hx hb dX9_isBelow_61 (lv_at hl 0 rfl) ?_
        refine lv_aload_n hx hb dX9_isBelow_63 rfl (lv_at hl 3 rfl) ?_
        refine rg_chosenMany hC hP k_chosenMany dX9_isBelow_64 ?_
        refine nn_ge hx hb dX9_isBelow_67 (tgt := 109) (by decide) (by omega) (by omega) (fun c_2 => ?_) (fun c_2 => ?_)
        · have hex : cp.length ≤ k ∨ is2 = false := by first | exact Or.inr (by assumption) | exact Or.inl (by assumption)
          refine lv_iload_n hx hb dX9_isBelow_109 rfl (lv_at hl 1 rfl) ?_
          rw [hQ]
          exact pf_zret hx hb hr hlocks (bI_01 _) (congrArg (fun b => Value.int (bI b)) (blw_end hk his hex)) dX9_isBelow_110
        · refine lv_iload_n hx hb dX9_isBelow_70 rfl (lv_at hl 1 rfl) ?_
          refine nb_ifeq hx hb dX9_isBelow_71 (tgt := 109) (by decide) (fun c_3 => ?_) (fun c_3 => ?_)
          · have hex : cp.length ≤ k ∨ is2 = false := by first | exact Or.inr (by assumption) | exact Or.inl (by assumption)
            refine lv_iload_n hx hb dX9_isBelow_109 rfl (lv_at hl 1 rfl) ?_
            rw [hQ]
            exact pf_zret hx hb hr hlocks (bI_01 _) (congrArg (fun b => Value.int (bI b)) (blw_end hk his hex)) dX9_isBelow_110
          · obtain ⟨hb1, hbj⟩ := his.mp (by assumption)
            have hv1 : ((Ts 0).getD i e0).1.getD k 0 < 256 := d10 _ (gd_mem (by omega))
            have hv2 : cp.getD k 0 < 256 := hc4 _ (gd_mem (by omega))
            refine lv_aload_n hx hb dX9_isBelow_74 rfl (lv_at hl 3 rfl) ?_
            refine rg_path hC hP k_path dX9_isBelow_75 ?_
            refine lv_sipush (v := nI 150) hx hb dX9_isBelow_78 (by decide) ?_
            refine lv_iload_n hx hb dX9_isBelow_81 rfl (lv_at hl 2 rfl) ?_
            refine nn_mul hx hb dX9_isBelow_82 ?_
            refine lv_iload hx hb dX9_isBelow_83 (lv_at hl 0 rfl) ?_
            refine nn_add hx hb dX9_isBelow_85 ?_
            refine rl_path hC hP (by omega) dX9_isBelow_86 ?_
            refine nn_eqi (y := nI (((Ts 0).getD i e0).1.getD k 0)) (d8 k (by omega)) ?_
            refine lv_aload_n hx hb dX9_isBelow_87 rfl (lv_at hl 3 rfl) ?_
            refine rg_chosen hC hP k_chosen dX9_isBelow_88 ?_
            refine lv_iload hx hb dX9_isBelow_91 (lv_at hl 0 rfl) ?_
            refine rl_chosen hC hP (by omega) dX9_isBelow_93 ?_
            refine nn_eqi (y := nI (cp.getD k 0)) (by have := hc2 k (by omega); rwa [Nat.zero_add] at this) ?_
            refine nn_ne hx hb dX9_isBelow_94 (tgt := 101) (by decide) (by omega) (by omega) (fun c_4 => ?_) (fun c_4 => ?_)
            · refine lv_iconst (v := bI false) hx hb dX9_isBelow_101 rfl ?_
              refine lv_istore_n (lv' := [(3, .int (bI false)), (4, .int (nI k)), (2, .int (nI (120 * 0 + i))), (0, .ref x), (1, .int (nI i))]) hx hb dX9_isBelow_102 rfl hl (by decide) rfl (fun ls hl => ?_)
              refine lv_iinc (v := nI (k + 1)) (lv' := [(4, .int (nI (k + 1))), (3, .int (bI false)), (2, .int (nI (120 * 0 + i))), (0, .ref x), (1, .int (nI i))]) hx hb dX9_isBelow_103 hl (k := 1) rfl (nI_add k 1) (by decide) rfl (fun ls hl => ?_)
              refine lv_goto (tgt := 61) hx hb dX9_isBelow_106 (by decide) ?_
              exact ih_61 (k + 1) false _ (by omega) (by omega) ⟨fun h => absurd h (by decide), fun h => absurd (h.2 k (by omega)) (by assumption)⟩ (lv_sub hl [0, 1, 2, 3, 4] rfl)
            · refine lv_iconst (v := bI true) hx hb dX9_isBelow_97 rfl ?_
              refine lv_goto (tgt := 102) hx hb dX9_isBelow_98 (by decide) ?_
              refine lv_istore_n (lv' := [(3, .int (bI true)), (4, .int (nI k)), (2, .int (nI (120 * 0 + i))), (0, .ref x), (1, .int (nI i))]) hx hb dX9_isBelow_102 rfl hl (by decide) rfl (fun ls hl => ?_)
              refine lv_iinc (v := nI (k + 1)) (lv' := [(4, .int (nI (k + 1))), (3, .int (bI true)), (2, .int (nI (120 * 0 + i))), (0, .ref x), (1, .int (nI i))]) hx hb dX9_isBelow_103 hl (k := 1) rfl (nI_add k 1) (by decide) rfl (fun ls hl => ?_)
              refine lv_goto (tgt := 61) hx hb dX9_isBelow_106 (by decide) ?_
              exact ih_61 (k + 1) true _ (by omega) (by omega) ⟨fun _ => ⟨hb1, lt_s (p := fun jj => ((Ts 0).getD i e0).1.getD jj 0 = cp.getD jj 0) hbj (by assumption)⟩, fun _ => rfl⟩ (lv_sub hl [0, 1, 2, 3, 4] rfl)
    exact lp_61 (((cp.length - 0)) + 1) 0 is1 _ (Nat.lt_succ_self _) (Nat.zero_le _) (by rw [his1]; exact ⟨fun h => ⟨h, fun _ h0 => absurd h0 (Nat.not_lt_zero _)⟩, fun h => h.1⟩) (lv_sub hl [0, 1, 2, 3, 4] rfl)
  refine lv_aload_n hx hb dX9_isBelow_6 rfl (lv_at hl 1 rfl) ?_
  refine rg_paths hC hP k_paths dX9_isBelow_7 ?_
  refine lv_iload_n hx hb dX9_isBelow_10 rfl (lv_at hl 0 rfl) ?_
  refine rl_paths hC hP (by omega) dX9_isBelow_11 ?_
  refine nn_eqi (y := nI (((Ts 0).getD i e0).1.length)) d4 ?_
  refine lv_aload_n hx hb dX9_isBelow_12 rfl (lv_at hl 1 rfl) ?_
  refine rg_chosenMany hC hP k_chosenMany dX9_isBelow_13 ?_
  refine nn_eq hx hb dX9_isBelow_16 (tgt := 52) (by decide) (by omega) (by omega) (fun c_5 => ?_) (fun c_5 => ?_)
  · refine lv_iconst (v := bI true) hx hb dX9_isBelow_52 rfl ?_
    refine lv_goto (tgt := 57) hx hb dX9_isBelow_53 (by decide) ?_
    exact mg_57 true _ (by constructor; (intro _; omega); (intro _; rfl)) (lv_sub hl [0, 1, 2] rfl)
  · refine lv_aload_n hx hb dX9_isBelow_19 rfl (lv_at hl 1 rfl) ?_
    refine rg_paths hC hP k_paths dX9_isBelow_20 ?_
    refine lv_iload_n hx hb dX9_isBelow_23 rfl (lv_at hl 0 rfl) ?_
    refine rl_paths hC hP (by omega) dX9_isBelow_24 ?_
    refine nn_eqi (y := nI (((Ts 0).getD i e0).1.length)) d4 ?_
    refine lv_aload_n hx hb dX9_isBelow_25 rfl (lv_at hl 1 rfl) ?_
    refine rg_chosenMany hC hP k_chosenMany dX9_isBelow_26 ?_
    refine nn_le hx hb dX9_isBelow_29 (tgt := 56) (by decide) (by omega) (by omega) (fun c_6 => ?_) (fun c_6 => ?_)
    · refine lv_iconst (v := bI false) hx hb dX9_isBelow_56 rfl ?_
      exact mg_57 false _ (by constructor; (intro h; exact absurd h (by decide)); (intro h; omega)) (lv_sub hl [0, 1, 2] rfl)
    · have hv0 : ((Ts 0).getD i e0).1.getD cp.length 0 < 256 := d10 _ (gd_mem (by omega))
      refine lv_aload_n hx hb dX9_isBelow_32 rfl (lv_at hl 1 rfl) ?_
      refine rg_path hC hP k_path dX9_isBelow_33 ?_
      refine lv_sipush (v := nI 150) hx hb dX9_isBelow_36 (by decide) ?_
      refine lv_iload_n hx hb dX9_isBelow_39 rfl (lv_at hl 0 rfl) ?_
      refine nn_mul hx hb dX9_isBelow_40 ?_
      refine lv_aload_n hx hb dX9_isBelow_41 rfl (lv_at hl 1 rfl) ?_
      refine rg_chosenMany hC hP k_chosenMany dX9_isBelow_42 ?_
      refine nn_add hx hb dX9_isBelow_45 ?_
      refine rl_path hC hP (by omega) dX9_isBelow_46 ?_
      refine nn_eqi (y := nI (((Ts 0).getD i e0).1.getD cp.length 0)) (d8 _ (by omega)) ?_
      refine lv_bipush (v := nI 47) hx hb dX9_isBelow_47 (by decide) ?_
      refine nn_ne hx hb dX9_isBelow_49 (tgt := 56) (by decide) (by omega) (by omega) (fun c_7 => ?_) (fun c_7 => ?_)
      · refine lv_iconst (v := bI false) hx hb dX9_isBelow_56 rfl ?_
        exact mg_57 false _ (by constructor; (intro h; exact absurd h (by decide)); (intro h; omega)) (lv_sub hl [0, 1, 2] rfl)
      · refine lv_iconst (v := bI true) hx hb dX9_isBelow_52 rfl ?_
        refine lv_goto (tgt := 57) hx hb dX9_isBelow_53 (by decide) ?_
        exact mg_57 true _ (by constructor; (intro _; omega); (intro _; rfl)) (lv_sub hl [0, 1, 2] rfl)
set_option maxHeartbeats 4000000 in
set_option maxRecDepth 100000 in
theorem m_latest (l : Launch) {G : va_G} {tys : List (ClassId × FieldType)} {cI : ClassId} (hT : tys[1]? = some (cI, .int)) {x : Nat} {q : Nat → Nat} {v_thrown v_taped v_state v_operations v_changes v_begun v_isChosen v_chosenMany : Int32} {f_many f_bytes f_kinds f_modes f_times f_paths f_contentAt f_contents f_path f_content f_ready f_tape f_sessionTime f_sessionChanges f_chosen : Nat → Int32} (ns : Nat) (hns : ns ≤ 40) (tm : Int32) : pMet l yX9_latest wsX9_latest ({ frames := 0, cells := 0, slots := 0, locals := 0 } : Room) G tys [.ref x, .int tm] (rwx cI x q v_thrown v_taped v_state v_operations v_changes (nI ns) v_begun v_isChosen v_chosenMany f_many f_bytes f_kinds f_modes f_times f_paths f_contentAt f_contents f_path f_content f_ready f_tape f_sessionTime f_sessionChanges f_chosen) (fun r => r = .int (ltst f_sessionTime tm ns)) := by
  refine Met.ofW (cc := cX9_latest) (maxL := 4) (ret := (some .int)) (by decide) rfl ?_
  intro p e s m args below meth c s₁ B hml hv
  obtain ⟨hargs, hP, hK⟩ := hv
  have hx := B.exec
  have hb := B.bytes
  have hr := B.returns
  have hts := atoms_spec (ws := wsX9_latest) B.pre
  have hown : s.vm.findClass RX9 = some m.cls := findClass_of_methodNamed B.named
  have hlocks := B.notSynchronized
  have hC : rC p s m args c cX9_latest G tys cI wsX9_latest := ⟨hx, hb, hts, (by decide +kernel), hown, hK, hT⟩
  have k_sessionTime := hts (.fieldLink RX9 48 "MirrorKeepModel" "sessionTime" "[I") (by decide +kernel)
  have k_sessions := hts (.fieldLink RX9 138 "MirrorKeepModel" "sessions" "I") (by decide +kernel)
  obtain ⟨Q, hQ⟩ : ∃ Q : State → Prop, Q = MQ below (pQ (fun r => r = .int (ltst f_sessionTime tm ns))) args s 0 0 (fun _ => False) := ⟨_, rfl⟩
  change W p l e ({ frames := 0, cells := 0, slots := 0, locals := 0 } : Room) s m args below meth c s.heap [] 0 0 (MQ below (pQ (fun r => r = .int (ltst f_sessionTime tm ns))) args s 0 0 (fun _ => False)) (entryFrame m args 4)
  rw [← hQ]
  refine nn_entry hargs (Nat.le_of_ble_eq_true rfl) (lv := [(0, .ref x), (1, .int tm)]) rfl (fun ls hl => ?_)
  refine lv_iconst (v := (-1)) hx hb dX9_latest_0 rfl ?_
  refine lv_istore_n (lv' := [(2, .int (-1)), (0, .ref x), (1, .int tm)]) hx hb dX9_latest_1 rfl hl (by decide) rfl (fun ls hl => ?_)
  refine lv_iconst (v := nI 0) hx hb dX9_latest_2 rfl ?_
  refine lv_istore_n (lv' := [(3, .int (nI 0)), (2, .int (-1)), (0, .ref x), (1, .int tm)]) hx hb dX9_latest_3 rfl hl (by decide) rfl (fun ls hl => ?_)
  have lp_4 : ∀ (n_4 : Nat) (k : Nat) (fo : Int32) (ls : Array Slot), (ns - k) < n_4 → (k ≤ ns) → (fo = ltst f_sessionTime tm k) → lv_has ls 4 [(3, .int (nI k)), (2, .int fo), (0, .ref x), (1, .int tm)] → W p l e ({ frames := 0, cells := 0, slots := 0, locals := 0 } : Room) s m args below meth c s.heap [] 0 0 Q (F0 m 4 ls []) := by
    intro n_4
    induction n_4 with
    | zero => intro k fo ls h0; exact absurd h0 (Nat.not_lt_zero _)
    | succ n_4 ih_4 =>
      intro k fo ls hm_4 hk hfo hl
      refine lv_iload_n hx hb dX9_latest_4 rfl (lv_at hl 0 rfl) ?_
      refine lv_aload_n hx hb dX9_latest_5 rfl (lv_at hl 2 rfl) ?_
      refine rg_sessions hC hP k_sessions dX9_latest_6 ?_
      refine nn_ge hx hb dX9_latest_9 (tgt := 34) (by decide) (by omega) (by omega) (fun c_1 => ?_) (fun c_1 => ?_)
      · have hkk : k = ns := by omega
        refine lv_iload_n hx hb dX9_latest_34 rfl (lv_at hl 1 rfl) ?_
        rw [hQ]
        exact pf_iret hx hb hr hlocks (by rw [hfo, hkk]) dX9_latest_35
      · refine lv_aload_n hx hb dX9_latest_12 rfl (lv_at hl 2 rfl) ?_
        refine rg_sessionTime hC hP k_sessionTime dX9_latest_13 ?_
        refine lv_iload_n hx hb dX9_latest_16 rfl (lv_at hl 0 rfl) ?_
        refine rl_sessionTime hC hP (by omega) dX9_latest_17 ?_
        refine lv_iload_n hx hb dX9_latest_18 rfl (lv_at hl 3 rfl) ?_
        refine lv_icmp_gt (tgt := 26) hx hb dX9_latest_19 (by decide) (fun c_2 => ?_) (fun c_2 => ?_)
        · refine lv_iload_n hx hb dX9_latest_26 rfl (lv_at hl 1 rfl) ?_
          refine lv_istore_n (lv' := [(2, .int fo), (3, .int (nI k)), (0, .ref x), (1, .int tm)]) hx hb dX9_latest_27 rfl hl (by decide) rfl (fun ls hl => ?_)
          refine lv_iinc (v := nI (k + 1)) (lv' := [(3, .int (nI (k + 1))), (2, .int fo), (0, .ref x), (1, .int tm)]) hx hb dX9_latest_28 hl (k := 1) rfl (nI_add k 1) (by decide) rfl (fun ls hl => ?_)
          refine lv_goto (tgt := 4) hx hb dX9_latest_31 (by decide) ?_
          exact ih_4 (k + 1) fo _ (by omega) (by omega) (by simp only [ltst]; first | (rw [if_pos (by assumption)]; exact hfo) | rw [if_neg (by assumption)]) (lv_sub hl [0, 1, 2, 3] rfl)
        · refine lv_iload_n hx hb dX9_latest_22 rfl (lv_at hl 0 rfl) ?_
          refine lv_goto (tgt := 27) hx hb dX9_latest_23 (by decide) ?_
          refine lv_istore_n (lv' := [(2, .int (nI k)), (3, .int (nI k)), (0, .ref x), (1, .int tm)]) hx hb dX9_latest_27 rfl hl (by decide) rfl (fun ls hl => ?_)
          refine lv_iinc (v := nI (k + 1)) (lv' := [(3, .int (nI (k + 1))), (2, .int (nI k)), (0, .ref x), (1, .int tm)]) hx hb dX9_latest_28 hl (k := 1) rfl (nI_add k 1) (by decide) rfl (fun ls hl => ?_)
          refine lv_goto (tgt := 4) hx hb dX9_latest_31 (by decide) ?_
          exact ih_4 (k + 1) (nI k) _ (by omega) (by omega) (by simp only [ltst]; first | (rw [if_pos (by assumption)]; exact hfo) | rw [if_neg (by assumption)]) (lv_sub hl [0, 1, 2, 3] rfl)
  exact lp_4 (((ns - 0)) + 1) 0 (-1) _ (Nat.lt_succ_self _) (Nat.zero_le _) rfl (lv_sub hl [0, 1, 2, 3] rfl)
set_option maxHeartbeats 4000000 in
set_option maxRecDepth 100000 in
theorem m_updates (l : Launch) {G : va_G} {tys : List (ClassId × FieldType)} {cI : ClassId} (hT : tys[1]? = some (cI, .int)) {x : Nat} {q : Nat → Nat} {v_thrown v_taped v_state v_sessions v_begun v_isChosen v_chosenMany : Int32} {f_many f_bytes f_kinds f_modes f_times f_paths f_contentAt f_contents f_path f_content f_ready f_tape f_sessionTime f_sessionChanges f_chosen : Nat → Int32} (ops cg : Nat) (ho : ops < 1000) (hcg : cg < 1000) : pMet l yX9_updates wsX9_updates ({ frames := 0, cells := 0, slots := 0, locals := 0 } : Room) G tys [.ref x] (rwx cI x q v_thrown v_taped v_state (nI ops) (nI cg) v_sessions v_begun v_isChosen v_chosenMany f_many f_bytes f_kinds f_modes f_times f_paths f_contentAt f_contents f_path f_content f_ready f_tape f_sessionTime f_sessionChanges f_chosen) (fun r => r = .int (nI (upds ops cg))) := by
  refine Met.ofW (cc := cX9_updates) (maxL := 1) (ret := (some .int)) (by decide) rfl ?_
  intro p e s m args below meth c s₁ B hml hv
  obtain ⟨hargs, hP, hK⟩ := hv
  have hx := B.exec
  have hb := B.bytes
  have hr := B.returns
  have hts := atoms_spec (ws := wsX9_updates) B.pre
  have hown : s.vm.findClass RX9 = some m.cls := findClass_of_methodNamed B.named
  have hlocks := B.notSynchronized
  have hC : rC p s m args c cX9_updates G tys cI wsX9_updates := ⟨hx, hb, hts, (by decide +kernel), hown, hK, hT⟩
  have k_changes := hts (.fieldLink RX9 150 "MirrorKeepModel" "changes" "I") (by decide +kernel)
  have k_operations := hts (.fieldLink RX9 141 "MirrorKeepModel" "operations" "I") (by decide +kernel)
  obtain ⟨Q, hQ⟩ : ∃ Q : State → Prop, Q = MQ below (pQ (fun r => r = .int (nI (upds ops cg)))) args s 0 0 (fun _ => False) := ⟨_, rfl⟩
  change W p l e ({ frames := 0, cells := 0, slots := 0, locals := 0 } : Room) s m args below meth c s.heap [] 0 0 (MQ below (pQ (fun r => r = .int (nI (upds ops cg)))) args s 0 0 (fun _ => False)) (entryFrame m args 1)
  rw [← hQ]
  refine nn_entry hargs (Nat.le_of_ble_eq_true rfl) (lv := [(0, .ref x)]) rfl (fun ls hl => ?_)
  refine lv_aload_n hx hb dX9_updates_0 rfl (lv_at hl 0 rfl) ?_
  refine rg_operations hC hP k_operations dX9_updates_1 ?_
  refine lv_iconst (v := nI 1) hx hb dX9_updates_4 rfl ?_
  refine nn_ge hx hb dX9_updates_5 (tgt := 12) (by decide) (by omega) (by omega) (fun c_1 => ?_) (fun c_1 => ?_)
  · refine lv_aload_n hx hb dX9_updates_12 rfl (lv_at hl 0 rfl) ?_
    refine rg_operations hC hP k_operations dX9_updates_13 ?_
    refine lv_iconst (v := nI 1) hx hb dX9_updates_16 rfl ?_
    refine nn_sub hx hb (by omega) dX9_updates_17 ?_
    refine lv_iconst (v := nI 2) hx hb dX9_updates_18 rfl ?_
    refine nn_div hx hb (by omega) (by omega) (by decide) dX9_updates_19 ?_
    refine lv_aload_n hx hb dX9_updates_20 rfl (lv_at hl 0 rfl) ?_
    refine rg_changes hC hP k_changes dX9_updates_21 ?_
    refine nn_ge hx hb dX9_updates_24 (tgt := 38) (by decide) (by omega) (by omega) (fun c_2 => ?_) (fun c_2 => ?_)
    · refine lv_aload_n hx hb dX9_updates_38 rfl (lv_at hl 0 rfl) ?_
      refine rg_changes hC hP k_changes dX9_updates_39 ?_
      rw [hQ]
      exact pf_iret hx hb hr hlocks (by unfold upds; first | rw [if_pos (by omega)] | rw [if_neg (by omega), if_pos (by omega)] | rw [if_neg (by omega), if_neg (by omega)]) dX9_updates_42
    · refine lv_aload_n hx hb dX9_updates_27 rfl (lv_at hl 0 rfl) ?_
      refine rg_operations hC hP k_operations dX9_updates_28 ?_
      refine lv_iconst (v := nI 1) hx hb dX9_updates_31 rfl ?_
      refine nn_sub hx hb (by omega) dX9_updates_32 ?_
      refine lv_iconst (v := nI 2) hx hb dX9_updates_33 rfl ?_
      refine nn_div hx hb (by omega) (by omega) (by decide) dX9_updates_34 ?_
      refine lv_goto (tgt := 42) hx hb dX9_updates_35 (by decide) ?_
      rw [hQ]
      exact pf_iret hx hb hr hlocks (by unfold upds; first | rw [if_pos (by omega)] | rw [if_neg (by omega), if_pos (by omega)] | rw [if_neg (by omega), if_neg (by omega)]) dX9_updates_42
  · refine lv_iconst (v := nI 0) hx hb dX9_updates_8 rfl ?_
    refine lv_goto (tgt := 42) hx hb dX9_updates_9 (by decide) ?_
    rw [hQ]
    exact pf_iret hx hb hr hlocks (by unfold upds; first | rw [if_pos (by omega)] | rw [if_neg (by omega), if_pos (by omega)] | rw [if_neg (by omega), if_neg (by omega)]) dX9_updates_42
set_option maxHeartbeats 4000000 in
set_option maxRecDepth 100000 in
theorem m_increments (l : Launch) {G : va_G} {tys : List (ClassId × FieldType)} {cI : ClassId} (hT : tys[1]? = some (cI, .int)) {x : Nat} {q : Nat → Nat} {v_thrown v_taped v_state v_sessions v_begun v_isChosen v_chosenMany : Int32} {f_many f_bytes f_kinds f_modes f_times f_paths f_contentAt f_contents f_path f_content f_ready f_tape f_sessionTime f_sessionChanges f_chosen : Nat → Int32} (ops cg : Nat) (ho : ops < 1000) (hcg : cg < 1000) : pMet l yX9_increments wsX9_increments ({ frames := 0, cells := 0, slots := 0, locals := 0 } : Room) G tys [.ref x] (rwx cI x q v_thrown v_taped v_state (nI ops) (nI cg) v_sessions v_begun v_isChosen v_chosenMany f_many f_bytes f_kinds f_modes f_times f_paths f_contentAt f_contents f_path f_content f_ready f_tape f_sessionTime f_sessionChanges f_chosen) (fun r => r = .int (nI (incs ops cg))) := by
  refine Met.ofW (cc := cX9_increments) (maxL := 1) (ret := (some .int)) (by decide) rfl ?_
  intro p e s m args below meth c s₁ B hml hv
  obtain ⟨hargs, hP, hK⟩ := hv
  have hx := B.exec
  have hb := B.bytes
  have hr := B.returns
  have hts := atoms_spec (ws := wsX9_increments) B.pre
  have hown : s.vm.findClass RX9 = some m.cls := findClass_of_methodNamed B.named
  have hlocks := B.notSynchronized
  have hC : rC p s m args c cX9_increments G tys cI wsX9_increments := ⟨hx, hb, hts, (by decide +kernel), hown, hK, hT⟩
  have k_changes := hts (.fieldLink RX9 150 "MirrorKeepModel" "changes" "I") (by decide +kernel)
  have k_operations := hts (.fieldLink RX9 141 "MirrorKeepModel" "operations" "I") (by decide +kernel)
  obtain ⟨Q, hQ⟩ : ∃ Q : State → Prop, Q = MQ below (pQ (fun r => r = .int (nI (incs ops cg)))) args s 0 0 (fun _ => False) := ⟨_, rfl⟩
  change W p l e ({ frames := 0, cells := 0, slots := 0, locals := 0 } : Room) s m args below meth c s.heap [] 0 0 (MQ below (pQ (fun r => r = .int (nI (incs ops cg)))) args s 0 0 (fun _ => False)) (entryFrame m args 1)
  rw [← hQ]
  refine nn_entry hargs (Nat.le_of_ble_eq_true rfl) (lv := [(0, .ref x)]) rfl (fun ls hl => ?_)
  refine lv_aload_n hx hb dX9_increments_0 rfl (lv_at hl 0 rfl) ?_
  refine rg_operations hC hP k_operations dX9_increments_1 ?_
  refine lv_iconst (v := nI 2) hx hb dX9_increments_4 rfl ?_
  refine nn_div hx hb (by omega) (by omega) (by decide) dX9_increments_5 ?_
  refine lv_aload_n hx hb dX9_increments_6 rfl (lv_at hl 0 rfl) ?_
  refine rg_changes hC hP k_changes dX9_increments_7 ?_
  refine nn_ge hx hb dX9_increments_10 (tgt := 22) (by decide) (by omega) (by omega) (fun c_1 => ?_) (fun c_1 => ?_)
  · refine lv_aload_n hx hb dX9_increments_22 rfl (lv_at hl 0 rfl) ?_
    refine rg_changes hC hP k_changes dX9_increments_23 ?_
    rw [hQ]
    exact pf_iret hx hb hr hlocks (by unfold incs; first | rw [if_pos (by omega)] | rw [if_neg (by omega)]) dX9_increments_26
  · refine lv_aload_n hx hb dX9_increments_13 rfl (lv_at hl 0 rfl) ?_
    refine rg_operations hC hP k_operations dX9_increments_14 ?_
    refine lv_iconst (v := nI 2) hx hb dX9_increments_17 rfl ?_
    refine nn_div hx hb (by omega) (by omega) (by decide) dX9_increments_18 ?_
    refine lv_goto (tgt := 26) hx hb dX9_increments_19 (by decide) ?_
    rw [hQ]
    exact pf_iret hx hb hr hlocks (by unfold incs; first | rw [if_pos (by omega)] | rw [if_neg (by omega)]) dX9_increments_26
set_option maxHeartbeats 4000000 in
set_option maxRecDepth 100000 in
theorem m_isEntry (l : Launch) {G : va_G} {tys : List (ClassId × FieldType)} {cI : ClassId} (hT : tys[1]? = some (cI, .int)) {x : Nat} {q : Nat → Nat} {v_thrown v_taped v_state v_operations v_changes v_sessions v_begun v_isChosen v_chosenMany : Int32} {f_many f_bytes f_kinds f_modes f_times f_paths f_contentAt f_contents f_path f_content f_ready f_tape f_sessionTime f_sessionChanges f_chosen : Nat → Int32} (Ts : Nat → List En) (hRT : RT f_many f_bytes f_kinds f_modes f_times f_paths f_contentAt f_contents f_path f_content Ts) (tr ix : Int32) : pMet l yX9_isEntry wsX9_isEntry ({ frames := 0, cells := 0, slots := 0, locals := 0 } : Room) G tys [.ref x, .int tr, .int ix] (rwx cI x q v_thrown v_taped v_state v_operations v_changes v_sessions v_begun v_isChosen v_chosenMany f_many f_bytes f_kinds f_modes f_times f_paths f_contentAt f_contents f_path f_content f_ready f_tape f_sessionTime f_sessionChanges f_chosen) (fun r => r = .int (bI (decide (0 ≤ tr.toInt ∧ tr.toInt < 3 ∧ 0 ≤ ix.toInt ∧ ix.toInt < (Ts tr.toInt.toNat).length)))) := by
  refine Met.ofW (cc := cX9_isEntry) (maxL := 3) (ret := (some .boolean)) (by decide) rfl ?_
  intro p e s m args below meth c s₁ B hml hv
  obtain ⟨hargs, hP, hK⟩ := hv
  have hx := B.exec
  have hb := B.bytes
  have hr := B.returns
  have hts := atoms_spec (ws := wsX9_isEntry) B.pre
  have hown : s.vm.findClass RX9 = some m.cls := findClass_of_methodNamed B.named
  have hlocks := B.notSynchronized
  have hC : rC p s m args c cX9_isEntry G tys cI wsX9_isEntry := ⟨hx, hb, hts, (by decide +kernel), hown, hK, hT⟩
  have k_many := hts (.fieldLink RX9 7 "MirrorKeepModel" "many" "[I") (by decide +kernel)
  obtain ⟨Q, hQ⟩ : ∃ Q : State → Prop, Q = MQ below (pQ (fun r => r = .int (bI (decide (0 ≤ tr.toInt ∧ tr.toInt < 3 ∧ 0 ≤ ix.toInt ∧ ix.toInt < (Ts tr.toInt.toNat).length))))) args s 0 0 (fun _ => False) := ⟨_, rfl⟩
  change W p l e ({ frames := 0, cells := 0, slots := 0, locals := 0 } : Room) s m args below meth c s.heap [] 0 0 (MQ below (pQ (fun r => r = .int (bI (decide (0 ≤ tr.toInt ∧ tr.toInt < 3 ∧ 0 ≤ ix.toInt ∧ ix.toInt < (Ts tr.toInt.toNat).length))))) args s 0 0 (fun _ => False)) (entryFrame m args 3)
  rw [← hQ]
  refine nn_entry hargs (Nat.le_of_ble_eq_true rfl) (lv := [(0, .ref x), (1, .int tr), (2, .int ix)]) rfl (fun ls hl => ?_)
  refine lv_iload_n hx hb dX9_isEntry_0 rfl (lv_at hl 1 rfl) ?_
  refine zi_lt hx hb rfl dX9_isEntry_1 (tgt := 27) (by decide) (fun c_1 => ?_) (fun c_1 => ?_)
  · refine lv_iconst (v := bI false) hx hb dX9_isEntry_27 rfl ?_
    rw [hQ]
    exact pf_zret hx hb hr hlocks (bI_01 _) (congrArg (fun b => Value.int (bI b)) (decide_eq_false (by first | omega | (rw [show tr.toInt.toNat = j1 by omega]; omega))).symm) dX9_isEntry_28
  · refine lv_iload_n hx hb dX9_isEntry_4 rfl (lv_at hl 1 rfl) ?_
    refine lv_iconst (v := nI 3) hx hb dX9_isEntry_5 rfl ?_
    refine zc_ge hx hb rfl (nI_toInt (by omega)) dX9_isEntry_6 (tgt := 27) (by decide) (fun c_2 => ?_) (fun c_2 => ?_)
    · refine lv_iconst (v := bI false) hx hb dX9_isEntry_27 rfl ?_
      rw [hQ]
      exact pf_zret hx hb hr hlocks (bI_01 _) (congrArg (fun b => Value.int (bI b)) (decide_eq_false (by first | omega | (rw [show tr.toInt.toNat = j1 by omega]; omega))).symm) dX9_isEntry_28
    · refine lv_iload_n hx hb dX9_isEntry_9 rfl (lv_at hl 2 rfl) ?_
      refine zi_lt hx hb rfl dX9_isEntry_10 (tgt := 27) (by decide) (fun c_3 => ?_) (fun c_3 => ?_)
      · refine lv_iconst (v := bI false) hx hb dX9_isEntry_27 rfl ?_
        rw [hQ]
        exact pf_zret hx hb hr hlocks (bI_01 _) (congrArg (fun b => Value.int (bI b)) (decide_eq_false (by first | omega | (rw [show tr.toInt.toNat = j1 by omega]; omega))).symm) dX9_isEntry_28
      · obtain ⟨j1, hj1, hj2, hj3⟩ := zn_ex (x := tr) (by omega)
        obtain ⟨t1, t2, t3, t4, t5⟩ := hRT j1 (by omega)
        refine lv_iload_n hx hb dX9_isEntry_13 rfl (lv_at hl 2 rfl) ?_
        refine lv_aload_n hx hb dX9_isEntry_14 rfl (lv_at hl 0 rfl) ?_
        refine rg_many hC hP k_many dX9_isEntry_15 ?_
        refine lv_iload_n hx hb dX9_isEntry_18 rfl (lv_at hl 1 rfl) ?_
        refine nn_eqi (y := nI j1) hj1 ?_
        refine rl_many hC hP (by omega) dX9_isEntry_19 ?_
        refine nn_eqi (y := nI ((Ts j1).length)) t1 ?_
        refine zc_ge hx hb rfl (nI_toInt (by omega)) dX9_isEntry_20 (tgt := 27) (by decide) (fun c_4 => ?_) (fun c_4 => ?_)
        · refine lv_iconst (v := bI false) hx hb dX9_isEntry_27 rfl ?_
          rw [hQ]
          exact pf_zret hx hb hr hlocks (bI_01 _) (congrArg (fun b => Value.int (bI b)) (decide_eq_false (by first | omega | (rw [show tr.toInt.toNat = j1 by omega]; omega))).symm) dX9_isEntry_28
        · refine lv_iconst (v := bI true) hx hb dX9_isEntry_23 rfl ?_
          refine lv_goto (tgt := 28) hx hb dX9_isEntry_24 (by decide) ?_
          rw [hQ]
          exact pf_zret hx hb hr hlocks (bI_01 _) (congrArg (fun b => Value.int (bI b)) (decide_eq_true (by rw [show tr.toInt.toNat = j1 by omega]; omega)).symm) dX9_isEntry_28
