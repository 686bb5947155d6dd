set_option maxHeartbeats 4000000 in
set_option maxRecDepth 100000 in
theorem m_rank (l : Launch) {G : va_G} {tys : List (ClassId × FieldType)} {cI : ClassId} (hT : tys[1]? = some (cI, .int)) {w : va_W} {k1 a1 n1 : Nat} {f : Nat → Int32} (ha : w[k1]? = some (a1, .inl (cI, n1, .inl f))) (hn : n1 < 2 ^ 31) (fm n k : Nat) (hk : k < 2 ^ 31) (hk2 : n < 2 ^ 31) (hin : k < n → fm + k < n1) : pMet l yX9_rank wsX9_rank ({ frames := 0, cells := 0, slots := 0, locals := 0 } : Room) G tys [.ref a1, .int (nI fm), .int (nI n), .int (nI k)] w (fun r => r = .int (rkI f fm n k)) := by
  refine Met.ofW (cc := cX9_rank) (maxL := 4) (ret := (some .int)) (by decide) rfl ?_
  intro p e s m args below meth c s₁ B hml hv
  obtain ⟨hargs, hP, hK⟩ := hv
  have hx := B.exec
  have hb := B.bytes
  have hr := B.returns
  have hts := atoms_spec (ws := wsX9_rank) B.pre
  have hown : s.vm.findClass RX9 = some m.cls := findClass_of_methodNamed B.named
  have hlocks := B.notSynchronized
  obtain ⟨Q, hQ⟩ : ∃ Q : State → Prop, Q = MQ below (pQ (fun r => r = .int (rkI f fm n k))) args s 0 0 (fun _ => False) := ⟨_, rfl⟩
  change W p l e ({ frames := 0, cells := 0, slots := 0, locals := 0 } : Room) s m args below meth c s.heap [] 0 0 (MQ below (pQ (fun r => r = .int (rkI f fm n k))) args s 0 0 (fun _ => False)) (entryFrame m args 4)
  rw [← hQ]
  refine nn_entry hargs (Nat.le_of_ble_eq_true rfl) (lv := [(0, .ref a1), (1, .int (nI fm)), (2, .int (nI n)), (3, .int (nI k))]) rfl (fun ls hl => ?_)
  refine lv_iload_n hx hb dX9_rank_0 rfl (lv_at hl 3 rfl) ?_
  refine lv_iload_n hx hb dX9_rank_1 rfl (lv_at hl 2 rfl) ?_
  refine nn_lt hx hb dX9_rank_2 (tgt := 9) (by decide) (by omega) (by omega) (fun c_1 => ?_) (fun c_1 => ?_)
  · refine lv_aload_n hx hb dX9_rank_9 rfl (lv_at hl 0 rfl) ?_
    refine lv_iload_n hx hb dX9_rank_10 rfl (lv_at hl 1 rfl) ?_
    refine lv_iload_n hx hb dX9_rank_11 rfl (lv_at hl 3 rfl) ?_
    refine nn_add hx hb dX9_rank_12 ?_
    refine nn_iald hx hb hK hT hP ha (hin (by omega)) hn dX9_rank_13 ?_
    refine lv_bipush (v := nI 47) hx hb dX9_rank_14 (by decide) ?_
    refine lv_icmp_ne (tgt := 23) hx hb dX9_rank_16 (by decide) (fun c_2 => ?_) (fun c_2 => ?_)
    · refine lv_aload_n hx hb dX9_rank_23 rfl (lv_at hl 0 rfl) ?_
      refine lv_iload_n hx hb dX9_rank_24 rfl (lv_at hl 1 rfl) ?_
      refine lv_iload_n hx hb dX9_rank_25 rfl (lv_at hl 3 rfl) ?_
      refine nn_add hx hb dX9_rank_26 ?_
      refine nn_iald hx hb hK hT hP ha (hin (by omega)) hn dX9_rank_27 ?_
      refine lv_iconst (v := nI 1) hx hb dX9_rank_28 rfl ?_
      refine lv_iadd hx hb dX9_rank_29 ?_
      rw [hQ]
      exact pf_iret hx hb hr hlocks (by unfold rkI; first | rw [if_pos (by omega)] | rw [if_neg (by omega), if_pos (by assumption)] | rw [if_neg (by omega), if_neg (by assumption)]) dX9_rank_30
    · refine lv_iconst (v := nI 0) hx hb dX9_rank_19 rfl ?_
      refine lv_goto (tgt := 30) hx hb dX9_rank_20 (by decide) ?_
      rw [hQ]
      exact pf_iret hx hb hr hlocks (by unfold rkI; first | rw [if_pos (by omega)] | rw [if_neg (by omega), if_pos (by assumption)] | rw [if_neg (by omega), if_neg (by assumption)]) dX9_rank_30
  · refine lv_iconst (v := (-1)) hx hb dX9_rank_5 rfl ?_
    refine lv_goto (tgt := 30) hx hb dX9_rank_6 (by decide) ?_
    rw [hQ]
    exact pf_iret hx hb hr hlocks (by unfold rkI; first | rw [if_pos (by omega)] | rw [if_neg (by omega), if_pos (by assumption)] | rw [if_neg (by omega), if_neg (by assumption)]) dX9_rank_30
set_option maxHeartbeats 4000000 in
set_option maxRecDepth 100000 in
theorem m_order (l : Launch) {G : va_G} {tys : List (ClassId × FieldType)} {cI : ClassId} (hT : tys[1]? = some (cI, .int)) {w : va_W} {k1 a1 n1 k2 a2 n2 : Nat} {f g : Nat → Int32} (ha : w[k1]? = some (a1, .inl (cI, n1, .inl f))) (ha2 : w[k2]? = some (a2, .inl (cI, n2, .inl g))) (hn : n1 < 2 ^ 31) (hn2 : n2 < 2 ^ 31) {ao bo : Nat} {P1 P2 : List Nat} (hp1 : en f ao P1) (hp2 : en g bo P2) (hl1 : ao + P1.length ≤ n1) (hl2 : bo + P2.length ≤ n2) (hq1 : ∀ b ∈ P1, b < 256) (hq2 : ∀ b ∈ P2, b < 256) : pMet l yX9_order wsX9_order ({ frames := 1, cells := 0, slots := 0, locals := 23 } : Room) G tys [.ref a1, .int (nI ao), .int (nI P1.length), .ref a2, .int (nI bo), .int (nI P2.length)] w (fun r => ∃ v : Int32, r = .int v ∧ v.toInt = pcm P1 P2) := by
  refine Met.ofW (cc := cX9_order) (maxL := 7) (ret := (some .int)) (by decide) rfl ?_
  intro p e s m args below meth c s₁ B hml hv
  obtain ⟨hargs, hP, hK⟩ := hv
  have hx := B.exec
  have hb := B.bytes
  have hr := B.returns
  have hts := atoms_spec (ws := wsX9_order) B.pre
  have hown : s.vm.findClass RX9 = some m.cls := findClass_of_methodNamed B.named
  have hlocks := B.notSynchronized
  obtain ⟨Q, hQ⟩ : ∃ Q : State → Prop, Q = MQ below (pQ (fun r => ∃ v : Int32, r = .int v ∧ v.toInt = pcm P1 P2)) args s 0 0 (fun _ => False) := ⟨_, rfl⟩
  change W p l e ({ frames := 1, cells := 0, slots := 0, locals := 23 } : Room) s m args below meth c s.heap [] 0 0 (MQ below (pQ (fun r => ∃ v : Int32, r = .int v ∧ v.toInt = pcm P1 P2)) args s 0 0 (fun _ => False)) (entryFrame m args 7)
  rw [← hQ]
  refine nn_entry hargs (Nat.le_of_ble_eq_true rfl) (lv := [(0, .ref a1), (1, .int (nI ao)), (2, .int (nI P1.length)), (3, .ref a2), (4, .int (nI bo)), (5, .int (nI P2.length))]) rfl (fun ls hl => ?_)
  refine lv_iconst (v := nI 0) hx hb dX9_order_0 rfl ?_
  refine lv_istore (lv' := [(6, .int (nI 0)), (0, .ref a1), (1, .int (nI ao)), (2, .int (nI P1.length)), (3, .ref a2), (4, .int (nI bo)), (5, .int (nI P2.length))]) hx hb dX9_order_1 hl (by decide) rfl (fun ls hl => ?_)
  have lp_3 : ∀ (n_3 : Nat) (k : Nat) (ls : Array Slot), (P1.length - k) < n_3 → (k ≤ P1.length) → (k ≤ P2.length) → (pcm P1 P2 = pcm (P1.drop k) (P2.drop k)) → lv_has ls 7 [(6, .int (nI k)), (0, .ref a1), (1, .int (nI ao)), (2, .int (nI P1.length)), (3, .ref a2), (4, .int (nI bo)), (5, .int (nI P2.length))] → W p l e ({ frames := 1, cells := 0, slots := 0, locals := 23 } : Room) s m args below meth c s.heap [] 0 0 Q (F0 m 3 ls []) := by
    intro n_3
    induction n_3 with
    | zero => intro k ls h0; exact absurd h0 (Nat.not_lt_zero _)
    | succ n_3 ih_3 =>
      intro k ls hm_3 hk hk2 hpc hl
      refine lv_iload hx hb dX9_order_3 (lv_at hl 0 rfl) ?_
      refine lv_iload_n hx hb dX9_order_5 rfl (lv_at hl 3 rfl) ?_
      refine nn_ge hx hb dX9_order_6 (tgt := 38) (by decide) (by omega) (by omega) (fun c_1 => ?_) (fun c_1 => ?_)
      · have hex : P1.length ≤ k ∨ P2.length ≤ k ∨ P1.getD k 0 ≠ P2.getD k 0 := by omega
        refine lv_aload_n hx hb dX9_order_38 rfl (lv_at hl 1 rfl) ?_
        refine lv_iload_n hx hb dX9_order_39 rfl (lv_at hl 2 rfl) ?_
        refine lv_iload_n hx hb dX9_order_40 rfl (lv_at hl 3 rfl) ?_
        refine lv_iload hx hb dX9_order_41 (lv_at hl 0 rfl) ?_
        refine pf_callS (As := [.ref a1, .int (nI ao), .int (nI P1.length), .int (nI k)]) (rest := []) (m_rank l hT ha hn ao P1.length k (by omega) (by omega) (by omega)) ⟨hx, hb, hml, hown, hts⟩ (va_cwS 4 hts gX9_order_X9_rank rfl rfl rfl (by decide +kernel) ⟨Nat.le_of_ble_eq_true rfl, Nat.le_of_ble_eq_true rfl⟩) hK hP rfl hl.1 rfl (Nat.le_of_ble_eq_true rfl) dX9_order_43 ⟨Nat.le_of_ble_eq_true rfl, Nat.le_of_ble_eq_true rfl⟩ (fun r_2 hr_2 => ?_)
        subst hr_2
        refine lv_aload_n hx hb dX9_order_46 rfl (lv_at hl 4 rfl) ?_
        refine lv_iload hx hb dX9_order_47 (lv_at hl 5 rfl) ?_
        refine lv_iload hx hb dX9_order_49 (lv_at hl 6 rfl) ?_
        refine lv_iload hx hb dX9_order_51 (lv_at hl 0 rfl) ?_
        refine pf_callS (As := [.ref a2, .int (nI bo), .int (nI P2.length), .int (nI k)]) (rest := [.int (rkI f ao P1.length k)]) (m_rank l hT ha2 hn2 bo P2.length k (by omega) (by omega) (by omega)) ⟨hx, hb, hml, hown, hts⟩ (va_cwS 4 hts gX9_order_X9_rank rfl rfl rfl (by decide +kernel) ⟨Nat.le_of_ble_eq_true rfl, Nat.le_of_ble_eq_true rfl⟩) hK hP rfl hl.1 rfl (Nat.le_of_ble_eq_true rfl) dX9_order_53 ⟨Nat.le_of_ble_eq_true rfl, Nat.le_of_ble_eq_true rfl⟩ (fun r_3 hr_3 => ?_)
        subst hr_3
        refine lv_isub hx hb dX9_order_56 ?_
        rw [hQ]
        exact pf_iret hx hb hr hlocks ⟨_, rfl, order_end hp1 hp2 hq1 hq2 hpc hex⟩ dX9_order_57
      · refine lv_iload hx hb dX9_order_9 (lv_at hl 0 rfl) ?_
        refine lv_iload hx hb dX9_order_11 (lv_at hl 6 rfl) ?_
        refine nn_ge hx hb dX9_order_13 (tgt := 38) (by decide) (by omega) (by omega) (fun c_4 => ?_) (fun c_4 => ?_)
        · have hex : P1.length ≤ k ∨ P2.length ≤ k ∨ P1.getD k 0 ≠ P2.getD k 0 := by omega
          refine lv_aload_n hx hb dX9_order_38 rfl (lv_at hl 1 rfl) ?_
          refine lv_iload_n hx hb dX9_order_39 rfl (lv_at hl 2 rfl) ?_
          refine lv_iload_n hx hb dX9_order_40 rfl (lv_at hl 3 rfl) ?_
          refine lv_iload hx hb dX9_order_41 (lv_at hl 0 rfl) ?_
          refine pf_callS (As := [.ref a1, .int (nI ao), .int (nI P1.length), .int (nI k)]) (rest := []) (m_rank l hT ha hn ao P1.length k (by omega) (by omega) (by omega)) ⟨hx, hb, hml, hown, hts⟩ (va_cwS 4 hts gX9_order_X9_rank rfl rfl rfl (by decide +kernel) ⟨Nat.le_of_ble_eq_true rfl, Nat.le_of_ble_eq_true rfl⟩) hK hP rfl hl.1 rfl (Nat.le_of_ble_eq_true rfl) dX9_order_43 ⟨Nat.le_of_ble_eq_true rfl, Nat.le_of_ble_eq_true rfl⟩ (fun r_5 hr_5 => ?_)
          subst hr_5
          refine lv_aload_n hx hb dX9_order_46 rfl (lv_at hl 4 rfl) ?_
          refine lv_iload hx hb dX9_order_47 (lv_at hl 5 rfl) ?_
          refine lv_iload hx hb dX9_order_49 (lv_at hl 6 rfl) ?_
          refine lv_iload hx hb dX9_order_51 (lv_at hl 0 rfl) ?_
          refine pf_callS (As := [.ref a2, .int (nI bo), .int (nI P2.length), .int (nI k)]) (rest := [.int (rkI f ao P1.length k)]) (m_rank l hT ha2 hn2 bo P2.length k (by omega) (by omega) (by omega)) ⟨hx, hb, hml, hown, hts⟩ (va_cwS 4 hts gX9_order_X9_rank rfl rfl rfl (by decide +kernel) ⟨Nat.le_of_ble_eq_true rfl, Nat.le_of_ble_eq_true rfl⟩) hK hP rfl hl.1 rfl (Nat.le_of_ble_eq_true rfl) dX9_order_53 ⟨Nat.le_of_ble_eq_true rfl, Nat.le_of_ble_eq_true rfl⟩ (fun r_6 hr_6 => ?_)
          subst hr_6
          refine lv_isub hx hb dX9_order_56 ?_
          rw [hQ]
          exact pf_iret hx hb hr hlocks ⟨_, rfl, order_end hp1 hp2 hq1 hq2 hpc hex⟩ dX9_order_57
        · have hv1 : P1.getD k 0 < 256 := hq1 _ (gd_mem (by omega))
          have hv2 : P2.getD k 0 < 256 := hq2 _ (gd_mem (by omega))
          refine lv_aload_n hx hb dX9_order_16 rfl (lv_at hl 1 rfl) ?_
          refine lv_iload_n hx hb dX9_order_17 rfl (lv_at hl 2 rfl) ?_
          refine lv_iload hx hb dX9_order_18 (lv_at hl 0 rfl) ?_
          refine nn_add hx hb dX9_order_20 ?_
          refine nn_iald hx hb hK hT hP ha (by omega) hn dX9_order_21 ?_
          refine nn_eqi (y := nI (P1.getD k 0)) (hp1 k (by omega)) ?_
          refine lv_aload_n hx hb dX9_order_22 rfl (lv_at hl 4 rfl) ?_
          refine lv_iload hx hb dX9_order_23 (lv_at hl 5 rfl) ?_
          refine lv_iload hx hb dX9_order_25 (lv_at hl 0 rfl) ?_
          refine nn_add hx hb dX9_order_27 ?_
          refine nn_iald hx hb hK hT hP ha2 (by omega) hn2 dX9_order_28 ?_
          refine nn_eqi (y := nI (P2.getD k 0)) (hp2 k (by omega)) ?_
          refine nn_ne hx hb dX9_order_29 (tgt := 38) (by decide) (by omega) (by omega) (fun c_7 => ?_) (fun c_7 => ?_)
          · have hex : P1.length ≤ k ∨ P2.length ≤ k ∨ P1.getD k 0 ≠ P2.getD k 0 := by omega
            refine lv_aload_n hx hb dX9_order_38 rfl (lv_at hl 1 rfl) ?_
            refine lv_iload_n hx hb dX9_order_39 rfl (lv_at hl 2 rfl) ?_
            refine lv_iload_n hx hb dX9_order_40 rfl (lv_at hl 3 rfl) ?_
            refine lv_iload hx hb dX9_order_41 (lv_at hl 0 rfl) ?_
            refine pf_callS (As := [.ref a1, .int (nI ao), .int (nI P1.length), .int (nI k)]) (rest := []) (m_rank l hT ha hn ao P1.length k (by omega) (by omega) (by omega)) ⟨hx, hb, hml, hown, hts⟩ (va_cwS 4 hts gX9_order_X9_rank rfl rfl rfl (by decide +kernel) ⟨Nat.le_of_ble_eq_true rfl, Nat.le_of_ble_eq_true rfl⟩) hK hP rfl hl.1 rfl (Nat.le_of_ble_eq_true rfl) dX9_order_43 ⟨Nat.le_of_ble_eq_true rfl, Nat.le_of_ble_eq_true rfl⟩ (fun r_8 hr_8 => ?_)
            subst hr_8
            refine lv_aload_n hx hb dX9_order_46 rfl (lv_at hl 4 rfl) ?_
            refine lv_iload hx hb dX9_order_47 (lv_at hl 5 rfl) ?_
            refine lv_iload hx hb dX9_order_49 (lv_at hl 6 rfl) ?_
            refine lv_iload hx hb dX9_order_51 (lv_at hl 0 rfl) ?_
            refine pf_callS (As := [.ref a2, .int (nI bo), .int (nI P2.length), .int (nI k)]) (rest := [.int (rkI f ao P1.length k)]) (m_rank l hT ha2 hn2 bo P2.length k (by omega) (by omega) (by omega)) ⟨hx, hb, hml, hown, hts⟩ (va_cwS 4 hts gX9_order_X9_rank rfl rfl rfl (by decide +kernel) ⟨Nat.le_of_ble_eq_true rfl, Nat.le_of_ble_eq_true rfl⟩) hK hP rfl hl.1 rfl (Nat.le_of_ble_eq_true rfl) dX9_order_53 ⟨Nat.le_of_ble_eq_true rfl, Nat.le_of_ble_eq_true rfl⟩ (fun r_9 hr_9 => ?_)
            subst hr_9
            refine lv_isub hx hb dX9_order_56 ?_
            rw [hQ]
            exact pf_iret hx hb hr hlocks ⟨_, rfl, order_end hp1 hp2 hq1 hq2 hpc hex⟩ dX9_order_57
          · refine lv_iinc (v := nI (k + 1)) (lv' := [(6, .int (nI (k + 1))), (0, .ref a1), (1, .int (nI ao)), (2, .int (nI P1.length)), (3, .ref a2), (4, .int (nI bo)), (5, .int (nI P2.length))]) hx hb dX9_order_32 hl (k := 0) rfl (nI_add k 1) (by decide) rfl (fun ls hl => ?_)
            refine lv_goto (tgt := 3) hx hb dX9_order_35 (by decide) ?_
            exact ih_3 (k + 1) _ (by omega) (by omega) (by omega) (by rw [hpc]; exact pcm_drop (by omega) (by omega) (by assumption)) (lv_sub hl [0, 1, 2, 3, 4, 5, 6] rfl)
  exact lp_3 (((P1.length - 0)) + 1) 0 _ (Nat.lt_succ_self _) (Nat.zero_le _) (Nat.zero_le _) rfl (lv_sub hl [0, 1, 2, 3, 4, 5, 6] rfl)
