set_option maxHeartbeats 4000000 in
set_option maxRecDepth 100000 in
theorem c_withContent (l : Launch) {G : va_G} {tys : List (ClassId × FieldType)} {cB cI cE cS : ClassId} (hT : tys = [(cB, .byte), (cI, .int), (cE, .object RX1), (cS, .object RX4)]) {pl : va_W} {sz : Nat} {a : Nat} {u : En} (he : pEnt pl cB a u) {cb : Nat} {Cn : List Nat} (hcb : bArr pl cB cb Cn) : cMet l yX1_withContent wsX1_withContent ({ frames := 2, cells := 1, slots := 5, locals := 37 } : Room) G tys [.ref a, .ref cb] [] pl sz 1 5 (fun o9 X1 nw => X1 = [] ∧ ∃ q, o9 = some (.ref q) ∧ pEnt (pl ++ nw) cB q (u.1, u.2.1, u.2.2.1, u.2.2.2.1, Cn)) := by
  have hT0 : tys[0]? = some (cB, .byte) := by rw [hT]; rfl
  have hT1 : tys[1]? = some (cI, .int) := by rw [hT]; rfl
  have hT2 : tys[2]? = some (cE, .object RX1) := by rw [hT]; rfl
  have hT3 : tys[3]? = some (cS, .object RX4) := by rw [hT]; rfl
  refine Met.ofW (cc := cX1_withContent) (maxL := 2) (ret := (some (.object "MirrorKeep$Entry"))) (by decide) rfl ?_
  intro p e s m args below meth c s₁ B hml hv
  obtain ⟨hargs, hsz, hP, hK, hD0, hZ⟩ := hv
  have hx := B.exec
  have hb := B.bytes
  have hr := B.returns
  have hts := atoms_spec (ws := wsX1_withContent) B.pre
  have hown : s.vm.findClass RX1 = some m.cls := findClass_of_methodNamed B.named
  have hlocks := B.notSynchronized
  subst hsz
  have hD := hD0.self (sz := s.heap.size)
  obtain ⟨A, hAe⟩ : ∃ A : Nat → Prop, A = va_A ([] ++ pl) s.heap.size := ⟨_, rfl⟩
  rw [← hAe] at hD
  have hA : ∀ q : Nat, s.heap.size ≤ q → A q := fun q h => by rw [hAe]; exact Or.inr h
  have inX1 : ∀ w ∈ wsX10, w ∈ wsX1_withContent := by decide +kernel
  have k_7 := hts (.fieldLink RX1 7 "MirrorKeep$Entry" "path" "[B") (by decide +kernel)
  have k_13 := hts (.fieldLink RX1 13 "MirrorKeep$Entry" "kind" "I") (by decide +kernel)
  have k_17 := hts (.fieldLink RX1 17 "MirrorKeep$Entry" "mode" "I") (by decide +kernel)
  have k_20 := hts (.fieldLink RX1 20 "MirrorKeep$Entry" "time" "I") (by decide +kernel)
  have hR : rR G A s.heap s.heap [] ([] ++ pl) := ⟨hP, hD, va_S.rf⟩
  obtain ⟨Q, hQ⟩ : ∃ Q : State → Prop, Q = MQ below (cQ G A pl (fun o9 X1 nw => X1 = [] ∧ ∃ q, o9 = some (.ref q) ∧ pEnt (pl ++ nw) cB q (u.1, u.2.1, u.2.2.1, u.2.2.2.1, Cn))) args s 1 5 A := ⟨_, rfl⟩
  change W p l e ({ frames := 2, cells := 1, slots := 5, locals := 37 } : Room) s m args below meth c s.heap [] 0 0 (MQ below (cQ G (va_A ([] ++ pl) s.heap.size) pl (fun o9 X1 nw => X1 = [] ∧ ∃ q, o9 = some (.ref q) ∧ pEnt (pl ++ nw) cB q (u.1, u.2.1, u.2.2.1, u.2.2.2.1, Cn))) args s 1 5 (va_A ([] ++ pl) s.heap.size)) (entryFrame m args 2)
  rw [← hAe]
  rw [← hQ]
  refine nn_entry hargs (Nat.le_of_ble_eq_true rfl) (lv := [(0, .ref a), (1, .ref cb)]) rfl (fun ls hl => ?_)
  obtain ⟨pae_1, cae_1, hme_1, hpae_1, hcae_1⟩ := id he
  refine va_new (D := G) (ci := 1) (C := RX1) (T := TX1) (N := 5) (fs := [.null, .int 0, .int 0, .int 0, .null]) hx hb hts inX1 tyX1 tyX1_ok hown (hts (.classLink RX1 8 RX1) (by decide +kernel)) (hts (.instantiable RX1 5) (by decide +kernel)) (hts (.initialized RX1) (by decide +kernel)) hK hR.1 hR.2.1 hR.2.2 hA rfl (by decide) (Nat.le_of_ble_eq_true rfl) (Nat.le_of_ble_eq_true rfl) dX1_withContent_0 (fun q_2 H hP hD hS => ?_)
  have hR : rR G A s.heap _ _ ([(q_2, .inr (1, [.null, .int 0, .int 0, .int 0, .null]))] ++ pl) := ⟨hP.swap, hD.swap, hS⟩
  refine lv_dup hx hb dX1_withContent_3 rfl ?_
  refine lv_aload_n hx hb dX1_withContent_4 rfl (lv_at hl 0 rfl) ?_
  refine xg (ci := 1) (C := RX1) (T := TX1) (N := 5) (v := .ref pae_1) hx hb hts inX1 hown hK hR.1 (List.mem_append_right _ hme_1) rfl 0 (by decide) k_7 (fun _ h => h) rfl dX1_withContent_5 ?_
  refine lv_aload_n hx hb dX1_withContent_8 rfl (lv_at hl 0 rfl) ?_
  refine xg (ci := 1) (C := RX1) (T := TX1) (N := 5) (v := .int u.2.1) hx hb hts inX1 hown hK hR.1 (List.mem_append_right _ hme_1) rfl 1 (by decide) k_13 (fun _ h => h) rfl dX1_withContent_9 ?_
  refine lv_aload_n hx hb dX1_withContent_12 rfl (lv_at hl 0 rfl) ?_
  refine xg (ci := 1) (C := RX1) (T := TX1) (N := 5) (v := .int u.2.2.1) hx hb hts inX1 hown hK hR.1 (List.mem_append_right _ hme_1) rfl 2 (by decide) k_17 (fun _ h => h) rfl dX1_withContent_13 ?_
  refine lv_aload_n hx hb dX1_withContent_16 rfl (lv_at hl 0 rfl) ?_
  refine xg (ci := 1) (C := RX1) (T := TX1) (N := 5) (v := .int u.2.2.2.1) hx hb hts inX1 hown hK hR.1 (List.mem_append_right _ hme_1) rfl 3 (by decide) k_20 (fun _ h => h) rfl dX1_withContent_17 ?_
  refine lv_aload_n hx hb dX1_withContent_20 rfl (lv_at hl 1 rfl) ?_
  refine xc_callI (As := [.ref pae_1, .int u.2.1, .int u.2.2.1, .int u.2.2.2.1, .ref cb]) (rest := [.ref q_2]) (cx := [(q_2, .inr (1, [.null, .int 0, .int 0, .int 0, .null]))]) (wr := []) (c_entInit l hT u.2.1 u.2.2.1 u.2.2.2.1) ⟨hx, hb, hml, hown, hts⟩ (cwI 5 hts gX1_withContent_X1_init rfl rfl rfl (hts (.initialized RX1) (by decide +kernel)) (hts (.methodLink RX1 26 yX1_init) (by decide +kernel)) (hts (.instanceMethod yX1_init) (by decide +kernel)) rfl (by decide +kernel) ⟨Nat.le_of_ble_eq_true rfl, Nat.le_of_ble_eq_true rfl⟩) hK hZ hR hA [0] [] rfl rfl (by decide) (by decide) (by decide) rfl hl.1 rfl (Nat.le_of_ble_eq_true rfl) dX1_withContent_21 ⟨Nat.le_of_ble_eq_true rfl, Nat.le_of_ble_eq_true rfl⟩ (fun r_3 X_r_3 nw_r_3 H locs hr_3 hR => ?_)
  obtain ⟨rfl, rfl, rfl⟩ := hr_3
  have hR : rR G A s.heap _ _ ([(q_2, .inr (1, [.ref pae_1, .int u.2.1, .int u.2.2.1, .int u.2.2.2.1, .ref cb]))] ++ pl) := (xc_nil hR)
  have hR : rR G A s.heap _ _ ([] ++ (pl ++ [(q_2, .inr (1, [.ref pae_1, .int u.2.1, .int u.2.2.1, .int u.2.2.2.1, .ref cb]))])) := xc_pool (X := []) (q := (q_2, .inr (1, [.ref pae_1, .int u.2.1, .int u.2.2.1, .int u.2.2.2.1, .ref cb]))) hR
  obtain ⟨pl1, e_pl1, sb_pl_pl1⟩ : ∃ z : va_W, z = pl ++ [(q_2, .inr (1, [.ref pae_1, .int u.2.1, .int u.2.2.1, .int u.2.2.2.1, .ref cb]))] ∧ ∀ q, q ∈ pl → q ∈ z := ⟨_, rfl, plm⟩
  rw [← e_pl1] at hR
  have t_pl1 : pl1 = pl ++ [(q_2, .inr (1, [.ref pae_1, .int u.2.1, .int u.2.2.1, .int u.2.2.2.1, .ref cb]))] := e_pl1
  have hm_q_2 : (q_2, .inr (1, [.ref pae_1, .int u.2.1, .int u.2.2.1, .int u.2.2.2.1, .ref cb])) ∈ pl1 := by rw [e_pl1]; exact List.mem_append_right _ List.mem_cons_self
  rw [hQ]
  refine W.widen (k := 1) (n := 5) (by omega) (by omega) ?_
  refine xc_aret (X1 := []) (nw := [(q_2, .inr (1, [.ref pae_1, .int u.2.1, .int u.2.2.1, .int u.2.2.2.1, .ref cb]))]) hx hb hr (Or.inl ⟨_, rfl⟩) (Or.inr ⟨_, rfl⟩) hlocks ?_ ?_ dX1_withContent_24
  · rw [← t_pl1]; exact hR
  · try rw [← t_pl1]
    exact ⟨rfl, _, rfl, pae_1, cb, hm_q_2, (hpae_1.mono sb_pl_pl1), (hcb.mono sb_pl_pl1)⟩
set_option maxHeartbeats 4000000 in
set_option maxRecDepth 100000 in
theorem c_withMT (l : Launch) {G : va_G} {tys : List (ClassId × FieldType)} {cB cI cE cS : ClassId} (hT : tys = [(cB, .byte), (cI, .int), (cE, .object RX1), (cS, .object RX4)]) {pl : va_W} {sz : Nat} {a : Nat} {u : En} (he : pEnt pl cB a u) (md tm : Int32) : cMet l yX1_withModeAndTime wsX1_withModeAndTime ({ frames := 2, cells := 1, slots := 5, locals := 37 } : Room) G tys [.ref a, .int md, .int tm] [] pl sz 1 5 (fun o9 X1 nw => X1 = [] ∧ ∃ q, o9 = some (.ref q) ∧ pEnt (pl ++ nw) cB q (u.1, u.2.1, md, tm, ct u)) := by
  have hT0 : tys[0]? = some (cB, .byte) := by rw [hT]; rfl
  have hT1 : tys[1]? = some (cI, .int) := by rw [hT]; rfl
  have hT2 : tys[2]? = some (cE, .object RX1) := by rw [hT]; rfl
  have hT3 : tys[3]? = some (cS, .object RX4) := by rw [hT]; rfl
  refine Met.ofW (cc := cX1_withModeAndTime) (maxL := 3) (ret := (some (.object "MirrorKeep$Entry"))) (by decide) rfl ?_
  intro p e s m args below meth c s₁ B hml hv
  obtain ⟨hargs, hsz, hP, hK, hD0, hZ⟩ := hv
  have hx := B.exec
  have hb := B.bytes
  have hr := B.returns
  have hts := atoms_spec (ws := wsX1_withModeAndTime) B.pre
  have hown : s.vm.findClass RX1 = some m.cls := findClass_of_methodNamed B.named
  have hlocks := B.notSynchronized
  subst hsz
  have hD := hD0.self (sz := s.heap.size)
  obtain ⟨A, hAe⟩ : ∃ A : Nat → Prop, A = va_A ([] ++ pl) s.heap.size := ⟨_, rfl⟩
  rw [← hAe] at hD
  have hA : ∀ q : Nat, s.heap.size ≤ q → A q := fun q h => by rw [hAe]; exact Or.inr h
  have inX1 : ∀ w ∈ wsX10, w ∈ wsX1_withModeAndTime := by decide +kernel
  have k_7 := hts (.fieldLink RX1 7 "MirrorKeep$Entry" "path" "[B") (by decide +kernel)
  have k_13 := hts (.fieldLink RX1 13 "MirrorKeep$Entry" "kind" "I") (by decide +kernel)
  have k_23 := hts (.fieldLink RX1 23 "MirrorKeep$Entry" "content" "[B") (by decide +kernel)
  have hR : rR G A s.heap s.heap [] ([] ++ pl) := ⟨hP, hD, va_S.rf⟩
  obtain ⟨Q, hQ⟩ : ∃ Q : State → Prop, Q = MQ below (cQ G A pl (fun o9 X1 nw => X1 = [] ∧ ∃ q, o9 = some (.ref q) ∧ pEnt (pl ++ nw) cB q (u.1, u.2.1, md, tm, ct u))) args s 1 5 A := ⟨_, rfl⟩
  change W p l e ({ frames := 2, cells := 1, slots := 5, locals := 37 } : Room) s m args below meth c s.heap [] 0 0 (MQ below (cQ G (va_A ([] ++ pl) s.heap.size) pl (fun o9 X1 nw => X1 = [] ∧ ∃ q, o9 = some (.ref q) ∧ pEnt (pl ++ nw) cB q (u.1, u.2.1, md, tm, ct u))) args s 1 5 (va_A ([] ++ pl) s.heap.size)) (entryFrame m args 3)
  rw [← hAe]
  rw [← hQ]
  refine nn_entry hargs (Nat.le_of_ble_eq_true rfl) (lv := [(0, .ref a), (1, .int md), (2, .int tm)]) rfl (fun ls hl => ?_)
  obtain ⟨pae_1, cae_1, hme_1, hpae_1, hcae_1⟩ := id he
  refine va_new (D := G) (ci := 1) (C := RX1) (T := TX1) (N := 5) (fs := [.null, .int 0, .int 0, .int 0, .null]) hx hb hts inX1 tyX1 tyX1_ok hown (hts (.classLink RX1 8 RX1) (by decide +kernel)) (hts (.instantiable RX1 5) (by decide +kernel)) (hts (.initialized RX1) (by decide +kernel)) hK hR.1 hR.2.1 hR.2.2 hA rfl (by decide) (Nat.le_of_ble_eq_true rfl) (Nat.le_of_ble_eq_true rfl) dX1_withModeAndTime_0 (fun q_2 H hP hD hS => ?_)
  have hR : rR G A s.heap _ _ ([(q_2, .inr (1, [.null, .int 0, .int 0, .int 0, .null]))] ++ pl) := ⟨hP.swap, hD.swap, hS⟩
  refine lv_dup hx hb dX1_withModeAndTime_3 rfl ?_
  refine lv_aload_n hx hb dX1_withModeAndTime_4 rfl (lv_at hl 0 rfl) ?_
  refine xg (ci := 1) (C := RX1) (T := TX1) (N := 5) (v := .ref pae_1) hx hb hts inX1 hown hK hR.1 (List.mem_append_right _ hme_1) rfl 0 (by decide) k_7 (fun _ h => h) rfl dX1_withModeAndTime_5 ?_
  refine lv_aload_n hx hb dX1_withModeAndTime_8 rfl (lv_at hl 0 rfl) ?_
  refine xg (ci := 1) (C := RX1) (T := TX1) (N := 5) (v := .int u.2.1) hx hb hts inX1 hown hK hR.1 (List.mem_append_right _ hme_1) rfl 1 (by decide) k_13 (fun _ h => h) rfl dX1_withModeAndTime_9 ?_
  refine lv_iload_n hx hb dX1_withModeAndTime_12 rfl (lv_at hl 1 rfl) ?_
  refine lv_iload_n hx hb dX1_withModeAndTime_13 rfl (lv_at hl 2 rfl) ?_
  refine lv_aload_n hx hb dX1_withModeAndTime_14 rfl (lv_at hl 0 rfl) ?_
  refine xg (ci := 1) (C := RX1) (T := TX1) (N := 5) (v := .ref cae_1) hx hb hts inX1 hown hK hR.1 (List.mem_append_right _ hme_1) rfl 4 (by decide) k_23 (fun _ h => h) rfl dX1_withModeAndTime_15 ?_
  refine xc_callI (As := [.ref pae_1, .int u.2.1, .int md, .int tm, .ref cae_1]) (rest := [.ref q_2]) (cx := [(q_2, .inr (1, [.null, .int 0, .int 0, .int 0, .null]))]) (wr := []) (c_entInit l hT u.2.1 md tm) ⟨hx, hb, hml, hown, hts⟩ (cwI 5 hts gX1_withModeAndTime_X1_init rfl rfl rfl (hts (.initialized RX1) (by decide +kernel)) (hts (.methodLink RX1 26 yX1_init) (by decide +kernel)) (hts (.instanceMethod yX1_init) (by decide +kernel)) rfl (by decide +kernel) ⟨Nat.le_of_ble_eq_true rfl, Nat.le_of_ble_eq_true rfl⟩) hK hZ hR hA [0] [] rfl rfl (by decide) (by decide) (by decide) rfl hl.1 rfl (Nat.le_of_ble_eq_true rfl) dX1_withModeAndTime_18 ⟨Nat.le_of_ble_eq_true rfl, Nat.le_of_ble_eq_true rfl⟩ (fun r_3 X_r_3 nw_r_3 H locs hr_3 hR => ?_)
  obtain ⟨rfl, rfl, rfl⟩ := hr_3
  have hR : rR G A s.heap _ _ ([(q_2, .inr (1, [.ref pae_1, .int u.2.1, .int md, .int tm, .ref cae_1]))] ++ pl) := (xc_nil hR)
  have hR : rR G A s.heap _ _ ([] ++ (pl ++ [(q_2, .inr (1, [.ref pae_1, .int u.2.1, .int md, .int tm, .ref cae_1]))])) := xc_pool (X := []) (q := (q_2, .inr (1, [.ref pae_1, .int u.2.1, .int md, .int tm, .ref cae_1]))) hR
  obtain ⟨pl1, e_pl1, sb_pl_pl1⟩ : ∃ z : va_W, z = pl ++ [(q_2, .inr (1, [.ref pae_1, .int u.2.1, .int md, .int tm, .ref cae_1]))] ∧ ∀ q, q ∈ pl → q ∈ z := ⟨_, rfl, plm⟩
  rw [← e_pl1] at hR
  have t_pl1 : pl1 = pl ++ [(q_2, .inr (1, [.ref pae_1, .int u.2.1, .int md, .int tm, .ref cae_1]))] := e_pl1
  have hm_q_2 : (q_2, .inr (1, [.ref pae_1, .int u.2.1, .int md, .int tm, .ref cae_1])) ∈ pl1 := by rw [e_pl1]; exact List.mem_append_right _ List.mem_cons_self
  rw [hQ]
  refine W.widen (k := 1) (n := 5) (by omega) (by omega) ?_
  refine xc_aret (X1 := []) (nw := [(q_2, .inr (1, [.ref pae_1, .int u.2.1, .int md, .int tm, .ref cae_1]))]) hx hb hr (Or.inl ⟨_, rfl⟩) (Or.inr ⟨_, rfl⟩) hlocks ?_ ?_ dX1_withModeAndTime_21
  · rw [← t_pl1]; exact hR
  · try rw [← t_pl1]
    exact ⟨rfl, _, rfl, pae_1, cae_1, hm_q_2, (hpae_1.mono sb_pl_pl1), (hcae_1.mono sb_pl_pl1)⟩
set_option maxHeartbeats 4000000 in
set_option maxRecDepth 100000 in
theorem c_fill (l : Launch) {G : va_G} {tys : List (ClassId × FieldType)} {cB cI cE cS : ClassId} (hT : tys = [(cB, .byte), (cI, .int), (cE, .object RX1), (cS, .object RX4)]) {pl : va_W} {sz : Nat} {wd : Nat} {g : Nat → Int32} (v : Int32) : cMet l yJ7_fill_53178 wsJ7_fill_53178 ({ frames := 0, cells := 0, slots := 0, locals := 0 } : Room) G tys [.ref wd, .int v] [(wd, .inl (cI, 5, .inl g))] pl sz 0 0 (fun o9 X1 nw => o9 = none ∧ nw = [] ∧ ∃ g2 : Nat → Int32, X1 = [(wd, .inl (cI, 5, .inl g2))] ∧ ∀ j, j < 5 → g2 j = v) := by
  have hT0 : tys[0]? = some (cB, .byte) := by rw [hT]; rfl
  have hT1 : tys[1]? = some (cI, .int) := by rw [hT]; rfl
  have hT2 : tys[2]? = some (cE, .object RX1) := by rw [hT]; rfl
  have hT3 : tys[3]? = some (cS, .object RX4) := by rw [hT]; rfl
  refine Met.ofW (cc := cJ7_fill_53178) (maxL := 4) (ret := none) (by decide) rfl ?_
  intro p e s m args below meth c s₁ B hml hv
  obtain ⟨hargs, hsz, hP, hK, hD0, hZ⟩ := hv
  have hx := B.exec
  have hb := B.bytes
  have hr := B.returns
  have hts := atoms_spec (ws := wsJ7_fill_53178) B.pre
  have hown : s.vm.findClass RJ7 = some m.cls := findClass_of_methodNamed B.named
  have hlocks := B.notSynchronized
  subst hsz
  have hD := hD0.self (sz := s.heap.size)
  obtain ⟨A, hAe⟩ : ∃ A : Nat → Prop, A = va_A ([(wd, .inl (cI, 5, .inl g))] ++ pl) s.heap.size := ⟨_, rfl⟩
  rw [← hAe] at hD
  have hA : ∀ q : Nat, s.heap.size ≤ q → A q := fun q h => by rw [hAe]; exact Or.inr h
  have hR : rR G A s.heap s.heap [] ([(wd, .inl (cI, 5, .inl g))] ++ pl) := ⟨hP, hD, va_S.rf⟩
  obtain ⟨Q, hQ⟩ : ∃ Q : State → Prop, Q = MQ below (cQ G A pl (fun o9 X1 nw => o9 = none ∧ nw = [] ∧ ∃ g2 : Nat → Int32, X1 = [(wd, .inl (cI, 5, .inl g2))] ∧ ∀ j, j < 5 → g2 j = v)) args s 0 0 A := ⟨_, rfl⟩
  change W p l e ({ frames := 0, cells := 0, slots := 0, locals := 0 } : Room) s m args below meth c s.heap [] 0 0 (MQ below (cQ G (va_A ([(wd, .inl (cI, 5, .inl g))] ++ pl) s.heap.size) pl (fun o9 X1 nw => o9 = none ∧ nw = [] ∧ ∃ g2 : Nat → Int32, X1 = [(wd, .inl (cI, 5, .inl g2))] ∧ ∀ j, j < 5 → g2 j = v)) args s 0 0 (va_A ([(wd, .inl (cI, 5, .inl g))] ++ pl) s.heap.size)) (entryFrame m args 4)
  rw [← hAe]
  rw [← hQ]
  refine nn_entry hargs (Nat.le_of_ble_eq_true rfl) (lv := [(0, .ref wd), (1, .int v)]) rfl (fun ls hl => ?_)
  refine lv_iconst (v := nI 0) hx hb dJ7_fill_53178_0 rfl ?_
  refine lv_istore_n (lv' := [(2, .int (nI 0)), (0, .ref wd), (1, .int v)]) hx hb dJ7_fill_53178_1 rfl hl (by decide) rfl (fun ls hl => ?_)
  refine lv_aload_n hx hb dJ7_fill_53178_2 rfl (lv_at hl 1 rfl) ?_
  refine va_alen (v := nI 5) hx hb hK hR.1 0 1 rfl hT1 rfl dJ7_fill_53178_3 ?_
  refine lv_istore_n (lv' := [(3, .int (nI 5)), (2, .int (nI 0)), (0, .ref wd), (1, .int v)]) hx hb dJ7_fill_53178_4 rfl hl (by decide) rfl (fun ls hl => ?_)
  have lp_5 : ∀ (n_5 : Nat) (k : Nat) (g2 : Nat → Int32) (H : Heap) (locs : List Loc) (ls : Array Slot), (5 - k) < n_5 → (k ≤ 5) → (∀ j, j < k → g2 j = v) → rR G A s.heap H locs ([(wd, .inl (cI, 5, .inl g2))] ++ pl) → lv_has ls 4 [(3, .int (nI 5)), (2, .int (nI k)), (0, .ref wd), (1, .int v)] → W p l e ({ frames := 0, cells := 0, slots := 0, locals := 0 } : Room) s m args below meth c H locs 0 0 Q (F0 m 5 ls []) := by
    intro n_5
    induction n_5 with
    | zero => intro k g2 H locs ls h0; exact absurd h0 (Nat.not_lt_zero _)
    | succ n_5 ih_5 =>
      intro k g2 H locs ls hm_5 hk hg hR hl
      refine lv_iload_n hx hb dJ7_fill_53178_5 rfl (lv_at hl 1 rfl) ?_
      refine lv_iload_n hx hb dJ7_fill_53178_6 rfl (lv_at hl 0 rfl) ?_
      refine nn_ge hx hb dJ7_fill_53178_7 (tgt := 20) (by decide) (by omega) (by omega) (fun c_1 => ?_) (fun c_1 => ?_)
      · rw [hQ]
        exact xc_vret (X1 := [(wd, .inl (cI, 5, .inl g2))]) (nw := []) hx hb hr hlocks (by rw [List.append_nil]; exact hR) ⟨rfl, rfl, g2, rfl, fun j hj => hg j (by omega)⟩ dJ7_fill_53178_20
      · refine lv_aload_n hx hb dJ7_fill_53178_10 rfl (lv_at hl 2 rfl) ?_
        refine lv_iload_n hx hb dJ7_fill_53178_11 rfl (lv_at hl 1 rfl) ?_
        refine lv_iload_n hx hb dJ7_fill_53178_12 rfl (lv_at hl 3 rfl) ?_
        refine xc_ist hx hb hK hT1 hR 0 rfl (by omega) (by decide) dJ7_fill_53178_13 (fun H locs hR => ?_)
        have hR : rR G A s.heap _ _ ([(wd, .inl (cI, 5, .inl (upd g2 k v)))] ++ pl) := hR
        refine lv_iinc (v := nI (k + 1)) (lv' := [(2, .int (nI (k + 1))), (3, .int (nI 5)), (0, .ref wd), (1, .int v)]) hx hb dJ7_fill_53178_14 hl (k := 1) rfl (nI_add k 1) (by decide) rfl (fun ls hl => ?_)
        refine lv_goto (tgt := 5) hx hb dJ7_fill_53178_17 (by decide) ?_
        exact ih_5 (k + 1) (upd g2 k v) _ _ _ (by omega) (by omega) (fill_s (f := g2) hg) hR (lv_sub hl [1, 0, 2, 3] rfl)
  exact lp_5 (((5 - 0)) + 1) 0 g _ _ _ (Nat.lt_succ_self _) (Nat.zero_le _) (fun j h => absurd h (Nat.not_lt_zero _)) hR (lv_sub hl [0, 1, 2, 3] rfl)
set_option maxHeartbeats 4000000 in
set_option maxRecDepth 100000 in
theorem c_makeReady (l : Launch) {G : va_G} {tys : List (ClassId × FieldType)} {cB cI cE cS : ClassId} (hT : tys = [(cB, .byte), (cI, .int), (cE, .object RX1), (cS, .object RX4)]) {pl : va_W} {sz : Nat} {tp wd by1 : Nat} {g fb : Nat → Int32} {T : List Nat} (htp : tpR fb T) (wa wb wc wd9 we : Int32) : cMet l yX5_makeReady wsX5_makeReady ({ frames := 0, cells := 0, slots := 0, locals := 0 } : Room) G tys [.ref tp, .int wa, .int wb, .int wc, .int wd9, .int we] [(tp, .inr (4, [.ref wd, .ref by1, .int (nI T.length)])), (wd, .inl (cI, 5, .inl g)), (by1, .inl (cB, 400, .inl fb))] pl sz 0 0 (fun o9 X1 nw => o9 = none ∧ nw = [] ∧ ∃ g2 : Nat → Int32, X1 = [(tp, .inr (4, [.ref wd, .ref by1, .int (nI T.length)])), (wd, .inl (cI, 5, .inl g2)), (by1, .inl (cB, 400, .inl fb))] ∧ rdW g2 = feedL wa wb wc wd9 we) := by
  have hT0 : tys[0]? = some (cB, .byte) := by rw [hT]; rfl
  have hT1 : tys[1]? = some (cI, .int) := by rw [hT]; rfl
  have hT2 : tys[2]? = some (cE, .object RX1) := by rw [hT]; rfl
  have hT3 : tys[3]? = some (cS, .object RX4) := by rw [hT]; rfl
  refine Met.ofW (cc := cX5_makeReady) (maxL := 6) (ret := none) (by decide) rfl ?_
  intro p e s m args below meth c s₁ B hml hv
  obtain ⟨hargs, hsz, hP, hK, hD0, hZ⟩ := hv
  have hx := B.exec
  have hb := B.bytes
  have hr := B.returns
  have hts := atoms_spec (ws := wsX5_makeReady) B.pre
  have hown : s.vm.findClass RX5 = some m.cls := findClass_of_methodNamed B.named
  have hlocks := B.notSynchronized
  subst hsz
  have hD := hD0.self (sz := s.heap.size)
  obtain ⟨A, hAe⟩ : ∃ A : Nat → Prop, A = va_A ([(tp, .inr (4, [.ref wd, .ref by1, .int (nI T.length)])), (wd, .inl (cI, 5, .inl g)), (by1, .inl (cB, 400, .inl fb))] ++ pl) s.heap.size := ⟨_, rfl⟩
  rw [← hAe] at hD
  have hA : ∀ q : Nat, s.heap.size ≤ q → A q := fun q h => by rw [hAe]; exact Or.inr h
  have inX5 : ∀ w ∈ wsX50, w ∈ wsX5_makeReady := by decide +kernel
  have k_11 := hts (.fieldLink RX5 11 "MirrorKeep$Tape" "words" "[I") (by decide +kernel)
  have hR : rR G A s.heap s.heap [] ([(tp, .inr (4, [.ref wd, .ref by1, .int (nI T.length)])), (wd, .inl (cI, 5, .inl g)), (by1, .inl (cB, 400, .inl fb))] ++ pl) := ⟨hP, hD, va_S.rf⟩
  obtain ⟨Q, hQ⟩ : ∃ Q : State → Prop, Q = MQ below (cQ G A pl (fun o9 X1 nw => o9 = none ∧ nw = [] ∧ ∃ g2 : Nat → Int32, X1 = [(tp, .inr (4, [.ref wd, .ref by1, .int (nI T.length)])), (wd, .inl (cI, 5, .inl g2)), (by1, .inl (cB, 400, .inl fb))] ∧ rdW g2 = feedL wa wb wc wd9 we)) args s 0 0 A := ⟨_, rfl⟩
  change W p l e ({ frames := 0, cells := 0, slots := 0, locals := 0 } : Room) s m args below meth c s.heap [] 0 0 (MQ below (cQ G (va_A ([(tp, .inr (4, [.ref wd, .ref by1, .int (nI T.length)])), (wd, .inl (cI, 5, .inl g)), (by1, .inl (cB, 400, .inl fb))] ++ pl) s.heap.size) pl (fun o9 X1 nw => o9 = none ∧ nw = [] ∧ ∃ g2 : Nat → Int32, X1 = [(tp, .inr (4, [.ref wd, .ref by1, .int (nI T.length)])), (wd, .inl (cI, 5, .inl g2)), (by1, .inl (cB, 400, .inl fb))] ∧ rdW g2 = feedL wa wb wc wd9 we)) args s 0 0 (va_A ([(tp, .inr (4, [.ref wd, .ref by1, .int (nI T.length)])), (wd, .inl (cI, 5, .inl g)), (by1, .inl (cB, 400, .inl fb))] ++ pl) s.heap.size)) (entryFrame m args 6)
  rw [← hAe]
  rw [← hQ]
  refine nn_entry hargs (Nat.le_of_ble_eq_true rfl) (lv := [(0, .ref tp), (1, .int wa), (2, .int wb), (3, .int wc), (4, .int wd9), (5, .int we)]) rfl (fun ls hl => ?_)
  have htl := tpR_lt htp
  refine lv_aload_n hx hb dX5_makeReady_0 rfl (lv_at hl 0 rfl) ?_
  refine xg (ci := 4) (C := RX5) (T := TX5) (N := 3) (v := .ref wd) hx hb hts inX5 hown hK hR.1 (List.mem_of_getElem? (i := 0) rfl) rfl 0 (by decide) k_11 (fun _ h => h) rfl dX5_makeReady_1 ?_
  refine lv_iconst (v := nI 0) hx hb dX5_makeReady_4 rfl ?_
  refine lv_iload_n hx hb dX5_makeReady_5 rfl (lv_at hl 1 rfl) ?_
  refine xc_ist hx hb hK hT1 hR 1 rfl (by omega) (by decide) dX5_makeReady_6 (fun H locs hR => ?_)
  have hR : rR G A s.heap _ _ ([(tp, .inr (4, [.ref wd, .ref by1, .int (nI T.length)])), (wd, .inl (cI, 5, .inl (upd g 0 wa))), (by1, .inl (cB, 400, .inl fb))] ++ pl) := hR
  refine lv_aload_n hx hb dX5_makeReady_7 rfl (lv_at hl 0 rfl) ?_
  refine xg (ci := 4) (C := RX5) (T := TX5) (N := 3) (v := .ref wd) hx hb hts inX5 hown hK hR.1 (List.mem_of_getElem? (i := 0) rfl) rfl 0 (by decide) k_11 (fun _ h => h) rfl dX5_makeReady_8 ?_
  refine lv_iconst (v := nI 1) hx hb dX5_makeReady_11 rfl ?_
  refine lv_iload_n hx hb dX5_makeReady_12 rfl (lv_at hl 2 rfl) ?_
  refine xc_ist hx hb hK hT1 hR 1 rfl (by omega) (by decide) dX5_makeReady_13 (fun H locs hR => ?_)
  have hR : rR G A s.heap _ _ ([(tp, .inr (4, [.ref wd, .ref by1, .int (nI T.length)])), (wd, .inl (cI, 5, .inl (upd (upd g 0 wa) 1 wb))), (by1, .inl (cB, 400, .inl fb))] ++ pl) := hR
  refine lv_aload_n hx hb dX5_makeReady_14 rfl (lv_at hl 0 rfl) ?_
  refine xg (ci := 4) (C := RX5) (T := TX5) (N := 3) (v := .ref wd) hx hb hts inX5 hown hK hR.1 (List.mem_of_getElem? (i := 0) rfl) rfl 0 (by decide) k_11 (fun _ h => h) rfl dX5_makeReady_15 ?_
  refine lv_iconst (v := nI 2) hx hb dX5_makeReady_18 rfl ?_
  refine lv_iload_n hx hb dX5_makeReady_19 rfl (lv_at hl 3 rfl) ?_
  refine xc_ist hx hb hK hT1 hR 1 rfl (by omega) (by decide) dX5_makeReady_20 (fun H locs hR => ?_)
  have hR : rR G A s.heap _ _ ([(tp, .inr (4, [.ref wd, .ref by1, .int (nI T.length)])), (wd, .inl (cI, 5, .inl (upd (upd (upd g 0 wa) 1 wb) 2 wc))), (by1, .inl (cB, 400, .inl fb))] ++ pl) := hR
  refine lv_aload_n hx hb dX5_makeReady_21 rfl (lv_at hl 0 rfl) ?_
  refine xg (ci := 4) (C := RX5) (T := TX5) (N := 3) (v := .ref wd) hx hb hts inX5 hown hK hR.1 (List.mem_of_getElem? (i := 0) rfl) rfl 0 (by decide) k_11 (fun _ h => h) rfl dX5_makeReady_22 ?_
  refine lv_iconst (v := nI 3) hx hb dX5_makeReady_25 rfl ?_
  refine lv_iload hx hb dX5_makeReady_26 (lv_at hl 4 rfl) ?_
  refine xc_ist hx hb hK hT1 hR 1 rfl (by omega) (by decide) dX5_makeReady_28 (fun H locs hR => ?_)
  have hR : rR G A s.heap _ _ ([(tp, .inr (4, [.ref wd, .ref by1, .int (nI T.length)])), (wd, .inl (cI, 5, .inl (upd (upd (upd (upd g 0 wa) 1 wb) 2 wc) 3 wd9))), (by1, .inl (cB, 400, .inl fb))] ++ pl) := hR
  refine lv_aload_n hx hb dX5_makeReady_29 rfl (lv_at hl 0 rfl) ?_
  refine xg (ci := 4) (C := RX5) (T := TX5) (N := 3) (v := .ref wd) hx hb hts inX5 hown hK hR.1 (List.mem_of_getElem? (i := 0) rfl) rfl 0 (by decide) k_11 (fun _ h => h) rfl dX5_makeReady_30 ?_
  refine lv_iconst (v := nI 4) hx hb dX5_makeReady_33 rfl ?_
  refine lv_iload hx hb dX5_makeReady_34 (lv_at hl 5 rfl) ?_
  refine xc_ist hx hb hK hT1 hR 1 rfl (by omega) (by decide) dX5_makeReady_36 (fun H locs hR => ?_)
  have hR : rR G A s.heap _ _ ([(tp, .inr (4, [.ref wd, .ref by1, .int (nI T.length)])), (wd, .inl (cI, 5, .inl (upd (upd (upd (upd (upd g 0 wa) 1 wb) 2 wc) 3 wd9) 4 we))), (by1, .inl (cB, 400, .inl fb))] ++ pl) := hR
  rw [hQ]
  exact xc_vret (X1 := [(tp, .inr (4, [.ref wd, .ref by1, .int (nI T.length)])), (wd, .inl (cI, 5, .inl (upd (upd (upd (upd (upd g 0 wa) 1 wb) 2 wc) 3 wd9) 4 we))), (by1, .inl (cB, 400, .inl fb))]) (nw := []) hx hb hr hlocks (by rw [List.append_nil]; exact hR) ⟨rfl, rfl, _, rfl, rfl⟩ dX5_makeReady_37
set_option maxHeartbeats 4000000 in
set_option maxRecDepth 100000 in
theorem c_append (l : Launch) {G : va_G} {tys : List (ClassId × FieldType)} {cB cI cE cS : ClassId} (hT : tys = [(cB, .byte), (cI, .int), (cE, .object RX1), (cS, .object RX4)]) {pl : va_W} {sz : Nat} {tp wd by1 : Nat} {g fb : Nat → Int32} {T : List Nat} (htp : tpR fb T) (n0 : Int32) : cMet l yX5_append wsX5_append ({ frames := 1, cells := 0, slots := 0, locals := 23 } : Room) G tys [.ref tp, .int n0] [(tp, .inr (4, [.ref wd, .ref by1, .int (nI T.length)])), (wd, .inl (cI, 5, .inl g)), (by1, .inl (cB, 400, .inl fb))] pl sz 0 0 (fun o9 X1 nw => ((0 ≤ n0.toInt ∧ n0.toInt ≤ 20 ∧ (T.length : Int) + n0.toInt ≤ 400) ∧ nw = [] ∧ ∃ g2 f2 : Nat → Int32, o9 = some (.int (nI (T ++ (rdW g).take n0.toInt.toNat).length)) ∧ X1 = [(tp, .inr (4, [.ref wd, .ref by1, .int (nI ((T ++ (rdW g).take n0.toInt.toNat).length))])), (wd, .inl (cI, 5, .inl g2)), (by1, .inl (cB, 400, .inl f2))] ∧ tpR f2 (T ++ (rdW g).take n0.toInt.toNat) ∧ rdW g2 = List.replicate 20 0) ∨ (¬ (0 ≤ n0.toInt ∧ n0.toInt ≤ 20 ∧ (T.length : Int) + n0.toInt ≤ 400) ∧ o9 = some (.int (-1)) ∧ nw = [] ∧ X1 = [(tp, .inr (4, [.ref wd, .ref by1, .int (nI T.length)])), (wd, .inl (cI, 5, .inl g)), (by1, .inl (cB, 400, .inl fb))])) := by
  have hT0 : tys[0]? = some (cB, .byte) := by rw [hT]; rfl
  have hT1 : tys[1]? = some (cI, .int) := by rw [hT]; rfl
  have hT2 : tys[2]? = some (cE, .object RX1) := by rw [hT]; rfl
  have hT3 : tys[3]? = some (cS, .object RX4) := by rw [hT]; rfl
  refine Met.ofW (cc := cX5_append) (maxL := 3) (ret := (some .int)) (by decide) rfl ?_
  intro p e s m args below meth c s₁ B hml hv
  obtain ⟨hargs, hsz, hP, hK, hD0, hZ⟩ := hv
  have hx := B.exec
  have hb := B.bytes
  have hr := B.returns
  have hts := atoms_spec (ws := wsX5_append) B.pre
  have hown : s.vm.findClass RX5 = some m.cls := findClass_of_methodNamed B.named
  have hlocks := B.notSynchronized
  subst hsz
  have hD := hD0.self (sz := s.heap.size)
  obtain ⟨A, hAe⟩ : ∃ A : Nat → Prop, A = va_A ([(tp, .inr (4, [.ref wd, .ref by1, .int (nI T.length)])), (wd, .inl (cI, 5, .inl g)), (by1, .inl (cB, 400, .inl fb))] ++ pl) s.heap.size := ⟨_, rfl⟩
  rw [← hAe] at hD
  have hA : ∀ q : Nat, s.heap.size ≤ q → A q := fun q h => by rw [hAe]; exact Or.inr h
  have inX5 : ∀ w ∈ wsX50, w ∈ wsX5_append := by decide +kernel
  have k_11 := hts (.fieldLink RX5 11 "MirrorKeep$Tape" "words" "[I") (by decide +kernel)
  have k_15 := hts (.fieldLink RX5 15 "MirrorKeep$Tape" "bytes" "[B") (by decide +kernel)
  have k_19 := hts (.fieldLink RX5 19 "MirrorKeep$Tape" "count" "I") (by decide +kernel)
  have hR : rR G A s.heap s.heap [] ([(tp, .inr (4, [.ref wd, .ref by1, .int (nI T.length)])), (wd, .inl (cI, 5, .inl g)), (by1, .inl (cB, 400, .inl fb))] ++ pl) := ⟨hP, hD, va_S.rf⟩
  obtain ⟨Q, hQ⟩ : ∃ Q : State → Prop, Q = MQ below (cQ G A pl (fun o9 X1 nw => ((0 ≤ n0.toInt ∧ n0.toInt ≤ 20 ∧ (T.length : Int) + n0.toInt ≤ 400) ∧ nw = [] ∧ ∃ g2 f2 : Nat → Int32, o9 = some (.int (nI (T ++ (rdW g).take n0.toInt.toNat).length)) ∧ X1 = [(tp, .inr (4, [.ref wd, .ref by1, .int (nI ((T ++ (rdW g).take n0.toInt.toNat).length))])), (wd, .inl (cI, 5, .inl g2)), (by1, .inl (cB, 400, .inl f2))] ∧ tpR f2 (T ++ (rdW g).take n0.toInt.toNat) ∧ rdW g2 = List.replicate 20 0) ∨ (¬ (0 ≤ n0.toInt ∧ n0.toInt ≤ 20 ∧ (T.length : Int) + n0.toInt ≤ 400) ∧ o9 = some (.int (-1)) ∧ nw = [] ∧ X1 = [(tp, .inr (4, [.ref wd, .ref by1, .int (nI T.length)])), (wd, .inl (cI, 5, .inl g)), (by1, .inl (cB, 400, .inl fb))]))) args s 0 0 A := ⟨_, rfl⟩
  change W p l e ({ frames := 1, cells := 0, slots := 0, locals := 23 } : Room) s m args below meth c s.heap [] 0 0 (MQ below (cQ G (va_A ([(tp, .inr (4, [.ref wd, .ref by1, .int (nI T.length)])), (wd, .inl (cI, 5, .inl g)), (by1, .inl (cB, 400, .inl fb))] ++ pl) s.heap.size) pl (fun o9 X1 nw => ((0 ≤ n0.toInt ∧ n0.toInt ≤ 20 ∧ (T.length : Int) + n0.toInt ≤ 400) ∧ nw = [] ∧ ∃ g2 f2 : Nat → Int32, o9 = some (.int (nI (T ++ (rdW g).take n0.toInt.toNat).length)) ∧ X1 = [(tp, .inr (4, [.ref wd, .ref by1, .int (nI ((T ++ (rdW g).take n0.toInt.toNat).length))])), (wd, .inl (cI, 5, .inl g2)), (by1, .inl (cB, 400, .inl f2))] ∧ tpR f2 (T ++ (rdW g).take n0.toInt.toNat) ∧ rdW g2 = List.replicate 20 0) ∨ (¬ (0 ≤ n0.toInt ∧ n0.toInt ≤ 20 ∧ (T.length : Int) + n0.toInt ≤ 400) ∧ o9 = some (.int (-1)) ∧ nw = [] ∧ X1 = [(tp, .inr (4, [.ref wd, .ref by1, .int (nI T.length)])), (wd, .inl (cI, 5, .inl g)), (by1, .inl (cB, 400, .inl fb))]))) args s 0 0 (va_A ([(tp, .inr (4, [.ref wd, .ref by1, .int (nI T.length)])), (wd, .inl (cI, 5, .inl g)), (by1, .inl (cB, 400, .inl fb))] ++ pl) s.heap.size)) (entryFrame m args 3)
  rw [← hAe]
  rw [← hQ]
  refine nn_entry hargs (Nat.le_of_ble_eq_true rfl) (lv := [(0, .ref tp), (1, .int n0)]) rfl (fun ls hl => ?_)
  have htl := tpR_lt htp
  refine lv_iload_n hx hb dX5_append_0 rfl (lv_at hl 1 rfl) ?_
  refine zi_lt hx hb rfl dX5_append_1 (tgt := 22) (by decide) (fun c_1 => ?_) (fun c_1 => ?_)
  · refine lv_iconst (v := (-1)) hx hb dX5_append_22 rfl ?_
    rw [hQ]
    exact xc_iret (X1 := [(tp, .inr (4, [.ref wd, .ref by1, .int (nI T.length)])), (wd, .inl (cI, 5, .inl g)), (by1, .inl (cB, 400, .inl fb))]) (nw := []) hx hb hr hlocks (by rw [List.append_nil]; exact hR) (Or.inr ⟨by omega, rfl, rfl, rfl⟩) dX5_append_23
  · refine lv_iload_n hx hb dX5_append_4 rfl (lv_at hl 1 rfl) ?_
    refine lv_bipush (v := nI 20) hx hb dX5_append_5 (by decide) ?_
    refine zc_gt hx hb rfl (nI_toInt (by omega)) dX5_append_7 (tgt := 22) (by decide) (fun c_2 => ?_) (fun c_2 => ?_)
    · refine lv_iconst (v := (-1)) hx hb dX5_append_22 rfl ?_
      rw [hQ]
      exact xc_iret (X1 := [(tp, .inr (4, [.ref wd, .ref by1, .int (nI T.length)])), (wd, .inl (cI, 5, .inl g)), (by1, .inl (cB, 400, .inl fb))]) (nw := []) hx hb hr hlocks (by rw [List.append_nil]; exact hR) (Or.inr ⟨by omega, rfl, rfl, rfl⟩) dX5_append_23
    · obtain ⟨n, hn, hn2, hn3⟩ := zn_ex (x := n0) (by omega)
      rw [hn] at hl
      refine lv_aload_n hx hb dX5_append_10 rfl (lv_at hl 0 rfl) ?_
      refine xg (ci := 4) (C := RX5) (T := TX5) (N := 3) (v := .int (nI T.length)) hx hb hts inX5 hown hK hR.1 (List.mem_of_getElem? (i := 0) rfl) rfl 2 (by decide) k_19 (fun _ h => h) rfl dX5_append_11 ?_
      refine lv_iload_n hx hb dX5_append_14 rfl (lv_at hl 1 rfl) ?_
      refine nn_add hx hb dX5_append_15 ?_
      refine lv_sipush (v := nI 400) hx hb dX5_append_16 (by decide) ?_
      refine nn_le hx hb dX5_append_19 (tgt := 24) (by decide) (by omega) (by omega) (fun c_3 => ?_) (fun c_3 => ?_)
      · refine lv_iconst (v := nI 0) hx hb dX5_append_24 rfl ?_
        refine lv_istore_n (lv' := [(2, .int (nI 0)), (0, .ref tp), (1, .int (nI n))]) hx hb dX5_append_25 rfl hl (by decide) rfl (fun ls hl => ?_)
        have lp_26 : ∀ (n_26 : Nat) (i : Nat) (f2 : Nat → Int32) (H : Heap) (locs : List Loc) (ls : Array Slot), (n - i) < n_26 → (i ≤ n) → (∀ k, k < i → f2 (T.length + k) = sb_b (bt (g (k / 4)) (k % 4))) → (∀ k, k < T.length ∨ T.length + i ≤ k → f2 k = fb k) → rR G A s.heap H locs ([(tp, .inr (4, [.ref wd, .ref by1, .int (nI T.length)])), (wd, .inl (cI, 5, .inl g)), (by1, .inl (cB, 400, .inl f2))] ++ pl) → lv_has ls 3 [(2, .int (nI i)), (0, .ref tp), (1, .int (nI n))] → W p l e ({ frames := 1, cells := 0, slots := 0, locals := 23 } : Room) s m args below meth c H locs 0 0 Q (F0 m 26 ls []) := by
          intro n_26
          induction n_26 with
          | zero => intro i f2 H locs ls h0; exact absurd h0 (Nat.not_lt_zero _)
          | succ n_26 ih_26 =>
            intro i f2 H locs ls hm_26 hi hf1 hf2 hR hl
            refine lv_iload_n hx hb dX5_append_26 rfl (lv_at hl 0 rfl) ?_
            refine lv_iload_n hx hb dX5_append_27 rfl (lv_at hl 2 rfl) ?_
            refine nn_ge hx hb dX5_append_28 (tgt := 53) (by decide) (by omega) (by omega) (fun c_4 => ?_) (fun c_4 => ?_)
            · refine lv_aload_n hx hb dX5_append_53 rfl (lv_at hl 1 rfl) ?_
              refine lv_dup hx hb dX5_append_54 rfl ?_
              refine xg (ci := 4) (C := RX5) (T := TX5) (N := 3) (v := .int (nI T.length)) hx hb hts inX5 hown hK hR.1 (List.mem_of_getElem? (i := 0) rfl) rfl 2 (by decide) k_19 (fun _ h => h) rfl dX5_append_55 ?_
              refine lv_iload_n hx hb dX5_append_58 rfl (lv_at hl 2 rfl) ?_
              refine nn_add hx hb dX5_append_59 ?_
              refine va_put (D := G) (ci := 4) (v := .int (nI (T.length + n))) (ty := .int) (C := RX5) (T := TX5) (N := 3) hx hb hts inX5 tyX5 tyX5_ok nmX5 hown hK hR.1 hR.2.1 hR.2.2 0 rfl rfl 2 (by decide) k_19 (fun _ h => h) rfl (by decide +kernel) rfl rfl (Nat.le_of_ble_eq_true rfl) dX5_append_60 (fun H locs hP hD hS => ?_)
              have hR : rR G A s.heap _ _ ([(tp, .inr (4, [.ref wd, .ref by1, .int (nI (T.length + n))])), (wd, .inl (cI, 5, .inl g)), (by1, .inl (cB, 400, .inl f2))] ++ pl) := ⟨hP, hD, hS⟩
              refine lv_aload_n hx hb dX5_append_63 rfl (lv_at hl 1 rfl) ?_
              refine xg (ci := 4) (C := RX5) (T := TX5) (N := 3) (v := .ref wd) hx hb hts inX5 hown hK hR.1 (List.mem_of_getElem? (i := 0) rfl) rfl 0 (by decide) k_11 (fun _ h => h) rfl dX5_append_64 ?_
              refine lv_iconst (v := nI 0) hx hb dX5_append_67 rfl ?_
              refine xc_callS (As := [.ref wd, .int (nI 0)]) (rest := []) (cx := [(wd, .inl (cI, 5, .inl g))]) (wr := [(tp, .inr (4, [.ref wd, .ref by1, .int (nI (T.length + n))])), (by1, .inl (cB, 400, .inl f2))]) (c_fill l hT (nI 0)) ⟨hx, hb, hml, hown, hts⟩ (va_cwS 2 hts gX5_append_J7_fill_53178 rfl rfl rfl (by decide +kernel) ⟨Nat.le_of_ble_eq_true rfl, Nat.le_of_ble_eq_true rfl⟩) hK hZ hR hA [1] [0, 2] rfl rfl (by decide) (by decide) (by decide) rfl hl.1 rfl (Nat.le_of_ble_eq_true rfl) dX5_append_68 ⟨Nat.le_of_ble_eq_true rfl, Nat.le_of_ble_eq_true rfl⟩ (fun r_5 X_r_5 nw_r_5 H locs hr_5 hR => ?_)
              obtain ⟨rfl, rfl, g2, rfl, hg2⟩ := hr_5
              have hR : rR G A s.heap _ _ ([(tp, .inr (4, [.ref wd, .ref by1, .int (nI (T.length + n))])), (wd, .inl (cI, 5, .inl g2)), (by1, .inl (cB, 400, .inl f2))] ++ pl) := xc_perm (xc_nil hR) [0, 2, 1] rfl (by decide)
              refine lv_aload_n hx hb dX5_append_71 rfl (lv_at hl 1 rfl) ?_
              refine xg (ci := 4) (C := RX5) (T := TX5) (N := 3) (v := .int (nI (T.length + n))) hx hb hts inX5 hown hK hR.1 (List.mem_of_getElem? (i := 0) rfl) rfl 2 (by decide) k_19 (fun _ h => h) rfl dX5_append_72 ?_
              rw [hQ]
              exact xc_iret (X1 := [(tp, .inr (4, [.ref wd, .ref by1, .int (nI (T.length + n))])), (wd, .inl (cI, 5, .inl g2)), (by1, .inl (cB, 400, .inl f2))]) (nw := []) hx hb hr hlocks (by rw [List.append_nil]; exact hR) (Or.inl ⟨by omega, rfl, g2, f2, by rw [show n0.toInt.toNat = n by omega, List.length_append, List.length_take, rdW_len]; congr 3; omega, by rw [show n0.toInt.toNat = n by omega, List.length_append, List.length_take, rdW_len, show min n 20 = n by omega], by rw [show n0.toInt.toNat = n by omega]; exact tpR_app htp (by omega) (by omega) (fun k hk => hf1 k (by omega)) (fun k hk => hf2 k (by omega)), rd_z hg2⟩) dX5_append_75
            · refine lv_aload_n hx hb dX5_append_31 rfl (lv_at hl 1 rfl) ?_
              refine xg (ci := 4) (C := RX5) (T := TX5) (N := 3) (v := .ref by1) hx hb hts inX5 hown hK hR.1 (List.mem_of_getElem? (i := 0) rfl) rfl 1 (by decide) k_15 (fun _ h => h) rfl dX5_append_32 ?_
              refine lv_aload_n hx hb dX5_append_35 rfl (lv_at hl 1 rfl) ?_
              refine xg (ci := 4) (C := RX5) (T := TX5) (N := 3) (v := .int (nI T.length)) hx hb hts inX5 hown hK hR.1 (List.mem_of_getElem? (i := 0) rfl) rfl 2 (by decide) k_19 (fun _ h => h) rfl dX5_append_36 ?_
              refine lv_iload_n hx hb dX5_append_39 rfl (lv_at hl 0 rfl) ?_
              refine nn_add hx hb dX5_append_40 ?_
              refine lv_aload_n hx hb dX5_append_41 rfl (lv_at hl 1 rfl) ?_
              refine lv_iload_n hx hb dX5_append_42 rfl (lv_at hl 0 rfl) ?_
              refine pf_callV (C := RX5) (As := [.int (nI i)]) (rest := [.int (nI (T.length + i)), .ref by1]) (p_ready l hT (T := T) (List.mem_of_getElem? (i := 0) rfl) (List.mem_of_getElem? (i := 1) rfl) i (by omega)) ⟨hx, hb, hml, hown, hts⟩ (cwV 1 hts gX5_append_X5_readyByte rfl rfl rfl (by decide +kernel) ⟨Nat.le_of_ble_eq_true rfl, Nat.le_of_ble_eq_true rfl⟩) hK hR.1 (xrecv (ci := 4) hK hR.1 rfl (List.mem_of_getElem? (i := 0) rfl)) rfl hl.1 rfl (Nat.le_of_ble_eq_true rfl) dX5_append_43 ⟨Nat.le_of_ble_eq_true rfl, Nat.le_of_ble_eq_true rfl⟩ (fun r_6 hr_6 => ?_)
              subst hr_6
              refine xc_bst hx hb hK hT0 hR 2 rfl (by omega) (by omega) (sb_vnar (bt_lt _ _)) dX5_append_46 (fun H locs hR => ?_)
              have hR : rR G A s.heap _ _ ([(tp, .inr (4, [.ref wd, .ref by1, .int (nI T.length)])), (wd, .inl (cI, 5, .inl g)), (by1, .inl (cB, 400, .inl (upd f2 (T.length + i) (sb_b (bt (g (i / 4)) (i % 4))))))] ++ pl) := hR
              refine lv_iinc (v := nI (i + 1)) (lv' := [(2, .int (nI (i + 1))), (0, .ref tp), (1, .int (nI n))]) hx hb dX5_append_47 hl (k := 0) rfl (nI_add i 1) (by decide) rfl (fun ls hl => ?_)
              refine lv_goto (tgt := 26) hx hb dX5_append_50 (by decide) ?_
              exact ih_26 (i + 1) (upd f2 (T.length + i) (sb_b (bt (g (i / 4)) (i % 4)))) _ _ _ (by omega) (by omega) (fun k hk => by by_cases e9 : k = i; (rw [e9, pk_us]); (rw [pk_un (by omega)]; exact hf1 k (by omega))) (fun k hk => by rw [pk_un (by omega)]; exact hf2 k (by omega)) hR (lv_sub hl [0, 1, 2] rfl)
        exact lp_26 (((n - 0)) + 1) 0 fb _ _ _ (Nat.lt_succ_self _) (Nat.zero_le _) (fun j h => absurd h (Nat.not_lt_zero _)) (fun _ _ => rfl) hR (lv_sub hl [0, 1, 2] rfl)
      · refine lv_iconst (v := (-1)) hx hb dX5_append_22 rfl ?_
        rw [hQ]
        exact xc_iret (X1 := [(tp, .inr (4, [.ref wd, .ref by1, .int (nI T.length)])), (wd, .inl (cI, 5, .inl g)), (by1, .inl (cB, 400, .inl fb))]) (nw := []) hx hb hr hlocks (by rw [List.append_nil]; exact hR) (Or.inr ⟨by omega, rfl, rfl, rfl⟩) dX5_append_23
set_option maxHeartbeats 4000000 in
set_option maxRecDepth 100000 in
theorem c_take (l : Launch) {G : va_G} {tys : List (ClassId × FieldType)} {cB cI cE cS : ClassId} (hT : tys = [(cB, .byte), (cI, .int), (cE, .object RX1), (cS, .object RX4)]) {pl : va_W} {sz : Nat} {tp wd by1 : Nat} {g fb : Nat → Int32} {T : List Nat} (htp : tpR fb T) : cMet l yX5_take wsX5_take ({ frames := 2, cells := 1, slots := 1500, locals := 82 } : Room) G tys [.ref tp] [(tp, .inr (4, [.ref wd, .ref by1, .int (nI T.length)])), (wd, .inl (cI, 5, .inl g)), (by1, .inl (cB, 400, .inl fb))] pl sz 1 1500 (fun o9 X1 nw => ∃ q, o9 = some (.ref q) ∧ X1 = [(tp, .inr (4, [.ref wd, .ref by1, .int (nI 0)])), (wd, .inl (cI, 5, .inl g)), (by1, .inl (cB, 400, .inl fb))] ∧ bArr (pl ++ nw) cB q T) := by
  have hT0 : tys[0]? = some (cB, .byte) := by rw [hT]; rfl
  have hT1 : tys[1]? = some (cI, .int) := by rw [hT]; rfl
  have hT2 : tys[2]? = some (cE, .object RX1) := by rw [hT]; rfl
  have hT3 : tys[3]? = some (cS, .object RX4) := by rw [hT]; rfl
  refine Met.ofW (cc := cX5_take) (maxL := 2) (ret := (some (.array .byte))) (by decide) rfl ?_
  intro p e s m args below meth c s₁ B hml hv
  obtain ⟨hargs, hsz, hP, hK, hD0, hZ⟩ := hv
  have hx := B.exec
  have hb := B.bytes
  have hr := B.returns
  have hts := atoms_spec (ws := wsX5_take) B.pre
  have hown : s.vm.findClass RX5 = some m.cls := findClass_of_methodNamed B.named
  have hlocks := B.notSynchronized
  subst hsz
  have hD := hD0.self (sz := s.heap.size)
  obtain ⟨A, hAe⟩ : ∃ A : Nat → Prop, A = va_A ([(tp, .inr (4, [.ref wd, .ref by1, .int (nI T.length)])), (wd, .inl (cI, 5, .inl g)), (by1, .inl (cB, 400, .inl fb))] ++ pl) s.heap.size := ⟨_, rfl⟩
  rw [← hAe] at hD
  have hA : ∀ q : Nat, s.heap.size ≤ q → A q := fun q h => by rw [hAe]; exact Or.inr h
  have inX5 : ∀ w ∈ wsX50, w ∈ wsX5_take := by decide +kernel
  have k_15 := hts (.fieldLink RX5 15 "MirrorKeep$Tape" "bytes" "[B") (by decide +kernel)
  have k_19 := hts (.fieldLink RX5 19 "MirrorKeep$Tape" "count" "I") (by decide +kernel)
  have hR : rR G A s.heap s.heap [] ([(tp, .inr (4, [.ref wd, .ref by1, .int (nI T.length)])), (wd, .inl (cI, 5, .inl g)), (by1, .inl (cB, 400, .inl fb))] ++ pl) := ⟨hP, hD, va_S.rf⟩
  obtain ⟨Q, hQ⟩ : ∃ Q : State → Prop, Q = MQ below (cQ G A pl (fun o9 X1 nw => ∃ q, o9 = some (.ref q) ∧ X1 = [(tp, .inr (4, [.ref wd, .ref by1, .int (nI 0)])), (wd, .inl (cI, 5, .inl g)), (by1, .inl (cB, 400, .inl fb))] ∧ bArr (pl ++ nw) cB q T)) args s 1 1500 A := ⟨_, rfl⟩
  change W p l e ({ frames := 2, cells := 1, slots := 1500, locals := 82 } : Room) s m args below meth c s.heap [] 0 0 (MQ below (cQ G (va_A ([(tp, .inr (4, [.ref wd, .ref by1, .int (nI T.length)])), (wd, .inl (cI, 5, .inl g)), (by1, .inl (cB, 400, .inl fb))] ++ pl) s.heap.size) pl (fun o9 X1 nw => ∃ q, o9 = some (.ref q) ∧ X1 = [(tp, .inr (4, [.ref wd, .ref by1, .int (nI 0)])), (wd, .inl (cI, 5, .inl g)), (by1, .inl (cB, 400, .inl fb))] ∧ bArr (pl ++ nw) cB q T)) args s 1 1500 (va_A ([(tp, .inr (4, [.ref wd, .ref by1, .int (nI T.length)])), (wd, .inl (cI, 5, .inl g)), (by1, .inl (cB, 400, .inl fb))] ++ pl) s.heap.size)) (entryFrame m args 2)
  rw [← hAe]
  rw [← hQ]
  refine nn_entry hargs (Nat.le_of_ble_eq_true rfl) (lv := [(0, .ref tp)]) rfl (fun ls hl => ?_)
  have htl := tpR_lt htp
  refine lv_aload_n hx hb dX5_take_0 rfl (lv_at hl 0 rfl) ?_
  refine xg (ci := 4) (C := RX5) (T := TX5) (N := 3) (v := .ref by1) hx hb hts inX5 hown hK hR.1 (List.mem_of_getElem? (i := 0) rfl) rfl 1 (by decide) k_15 (fun _ h => h) rfl dX5_take_1 ?_
  refine lv_aload_n hx hb dX5_take_4 rfl (lv_at hl 0 rfl) ?_
  refine xg (ci := 4) (C := RX5) (T := TX5) (N := 3) (v := .int (nI T.length)) hx hb hts inX5 hown hK hR.1 (List.mem_of_getElem? (i := 0) rfl) rfl 2 (by decide) k_19 (fun _ h => h) rfl dX5_take_5 ?_
  obtain ⟨B, hB, hBl, hBt⟩ := tpR_arr (cB := cB) (by1 := by1) (pl := pl) htp
  refine xc_callS (As := [.ref by1, .int (nI T.length)]) (rest := []) (cx := [(by1, .inl (cB, 400, .inl fb))]) (wr := [(tp, .inr (4, [.ref wd, .ref by1, .int (nI T.length)])), (wd, .inl (cI, 5, .inl g))]) (c_copyOf l hT hB (by omega) (by omega)) ⟨hx, hb, hml, hown, hts⟩ (va_cwS 2 hts gX5_take_J7_copyOf_9075b rfl rfl rfl (by decide +kernel) ⟨Nat.le_of_ble_eq_true rfl, Nat.le_of_ble_eq_true rfl⟩) hK hZ hR hA [2] [0, 1] rfl rfl (by decide) (by decide) (by decide) rfl hl.1 rfl (Nat.le_of_ble_eq_true rfl) dX5_take_8 ⟨Nat.le_of_ble_eq_true rfl, Nat.le_of_ble_eq_true rfl⟩ (fun r_1 X_r_1 nw_r_1 H locs hr_1 hR => ?_)
  obtain ⟨rfl, q, gq, rfl, hnw, -, hq⟩ := hr_1
  rw [hBt] at hq
  obtain hR : rR G A s.heap H locs (_ ++ (pl ++ nw_r_1)) := hR
  obtain ⟨pl1, e_pl1, sb_pl_pl1⟩ : ∃ z : va_W, z = pl ++ nw_r_1 ∧ ∀ q, q ∈ pl → q ∈ z := ⟨_, rfl, plm⟩
  rw [← e_pl1] at hR hq
  have t_pl1 : pl1 = pl ++ nw_r_1 := e_pl1
  have hR : rR G A s.heap _ _ ([(tp, .inr (4, [.ref wd, .ref by1, .int (nI T.length)])), (wd, .inl (cI, 5, .inl g)), (by1, .inl (cB, 400, .inl fb))] ++ pl1) := hR
  refine lv_astore_n (lv' := [(1, .ref q), (0, .ref tp)]) hx hb dX5_take_11 rfl hl (by decide) rfl (fun ls hl => ?_)
  refine lv_aload_n hx hb dX5_take_12 rfl (lv_at hl 1 rfl) ?_
  refine lv_iconst (v := nI 0) hx hb dX5_take_13 rfl ?_
  refine va_put (D := G) (ci := 4) (v := .int (nI 0)) (ty := .int) (C := RX5) (T := TX5) (N := 3) hx hb hts inX5 tyX5 tyX5_ok nmX5 hown hK hR.1 hR.2.1 hR.2.2 0 rfl rfl 2 (by decide) k_19 (fun _ h => h) rfl (by decide +kernel) rfl rfl (Nat.le_of_ble_eq_true rfl) dX5_take_14 (fun H locs hP hD hS => ?_)
  have hR : rR G A s.heap _ _ ([(tp, .inr (4, [.ref wd, .ref by1, .int (nI 0)])), (wd, .inl (cI, 5, .inl g)), (by1, .inl (cB, 400, .inl fb))] ++ pl1) := ⟨hP, hD, hS⟩
  refine lv_aload_n hx hb dX5_take_17 rfl (lv_at hl 0 rfl) ?_
  rw [hQ]
  refine W.widen (k := 1) (n := 1500) (by omega) (by omega) ?_
  refine xc_aret (X1 := [(tp, .inr (4, [.ref wd, .ref by1, .int (nI 0)])), (wd, .inl (cI, 5, .inl g)), (by1, .inl (cB, 400, .inl fb))]) (nw := nw_r_1) hx hb hr (Or.inr ⟨_, rfl⟩) (Or.inr ⟨_, rfl⟩) hlocks ?_ ?_ dX5_take_18
  · rw [← t_pl1]; exact hR
  · try rw [← t_pl1]
    exact ⟨q, rfl, rfl, hq⟩
set_option maxHeartbeats 4000000 in
set_option maxRecDepth 100000 in
theorem c_treeInit (l : Launch) {G : va_G} {tys : List (ClassId × FieldType)} {cB cI cE cS : ClassId} (hT : tys = [(cB, .byte), (cI, .int), (cE, .object RX1), (cS, .object RX4)]) {pl : va_W} {sz : Nat} {t : Nat} : cMet l yX6_init wsX6_init ({ frames := 1, cells := 1, slots := 120, locals := 12 } : Room) G tys [.ref t] [(t, .inr (5, [.null, .int 0]))] pl sz 1 120 (fun o9 X1 nw => o9 = none ∧ nw = [] ∧ ∃ r, X1 = [(t, .inr (5, [.ref r, .int (nI 0)])), (r, .inl (cE, 120, rfs (fun _ => none)))]) := by
  have hT0 : tys[0]? = some (cB, .byte) := by rw [hT]; rfl
  have hT1 : tys[1]? = some (cI, .int) := by rw [hT]; rfl
  have hT2 : tys[2]? = some (cE, .object RX1) := by rw [hT]; rfl
  have hT3 : tys[3]? = some (cS, .object RX4) := by rw [hT]; rfl
  refine Met.ofW (cc := cX6_init) (maxL := 1) (ret := none) (by decide) rfl ?_
  intro p e s m args below meth c s₁ B hml hv
  obtain ⟨hargs, hsz, hP, hK, hD0, hZ⟩ := hv
  have hx := B.exec
  have hb := B.bytes
  have hr := B.returns
  have hts := atoms_spec (ws := wsX6_init) B.pre
  have hown : s.vm.findClass RX6 = some m.cls := findClass_of_methodNamed B.named
  have hlocks := B.notSynchronized
  have hin : meth.name = "<init>" := (name_of_methodNamed B.named B.method).1
  subst hsz
  have hD := hD0.self (sz := s.heap.size)
  obtain ⟨A, hAe⟩ : ∃ A : Nat → Prop, A = va_A ([(t, .inr (5, [.null, .int 0]))] ++ pl) s.heap.size := ⟨_, rfl⟩
  rw [← hAe] at hD
  have hA : ∀ q : Nat, s.heap.size ≤ q → A q := fun q h => by rw [hAe]; exact Or.inr h
  have inX6 : ∀ w ∈ wsX60, w ∈ wsX6_init := by decide +kernel
  have k_13 := hts (.fieldLink RX6 13 "MirrorKeep$Tree" "rows" "[LMirrorKeep$Entry;") (by decide +kernel)
  have k_17 := hts (.fieldLink RX6 17 "MirrorKeep$Tree" "count" "I") (by decide +kernel)
  have hR : rR G A s.heap s.heap [] ([(t, .inr (5, [.null, .int 0]))] ++ pl) := ⟨hP, hD, va_S.rf⟩
  obtain ⟨Q, hQ⟩ : ∃ Q : State → Prop, Q = MQ below (cQ G A pl (fun o9 X1 nw => o9 = none ∧ nw = [] ∧ ∃ r, X1 = [(t, .inr (5, [.ref r, .int (nI 0)])), (r, .inl (cE, 120, rfs (fun _ => none)))])) args s 1 120 A := ⟨_, rfl⟩
  change W p l e ({ frames := 1, cells := 1, slots := 120, locals := 12 } : Room) s m args below meth c s.heap [] 0 0 (MQ below (cQ G (va_A ([(t, .inr (5, [.null, .int 0]))] ++ pl) s.heap.size) pl (fun o9 X1 nw => o9 = none ∧ nw = [] ∧ ∃ r, X1 = [(t, .inr (5, [.ref r, .int (nI 0)])), (r, .inl (cE, 120, rfs (fun _ => none)))])) args s 1 120 (va_A ([(t, .inr (5, [.null, .int 0]))] ++ pl) s.heap.size)) (entryFrame m args 1)
  rw [← hAe]
  rw [← hQ]
  refine nn_entry hargs (Nat.le_of_ble_eq_true rfl) (lv := [(0, .ref t)]) rfl (fun ls hl => ?_)
  refine lv_aload_n hx hb dX6_init_0 rfl (lv_at hl 0 rfl) ?_
  refine W.objInit hx hb hown (hts (.methodLink RX6 3 objectInit) (by decide +kernel)) (hts (.instanceMethod objectInit) (by decide +kernel)) (hts (.code objectInit ⟨#[0xb1]⟩ 1 none) (by decide +kernel)) rfl (by rw [hml]; exact hl.1) rfl dX6_init_1 (Nat.le_of_ble_eq_true rfl) (Nat.le_of_ble_eq_true rfl) ?_
  refine W.eq (g2 := F0 m 4 ls []) rfl ?_
  refine lv_aload_n hx hb dX6_init_4 rfl (lv_at hl 0 rfl) ?_
  refine lv_bipush (v := nI 120) hx hb dX6_init_5 (by decide) ?_
  refine xc_newq (t0 := 2) (C := RX1) hx hb hown (hts (.classLink RX6 11 RX1) (by decide +kernel)) hZ.1 hK hT2 hR hA (by omega) (Nat.le_of_ble_eq_true rfl) (Nat.le_of_ble_eq_true rfl) dX6_init_7 (fun q_1 H hR => ?_)
  have hR : rR G A s.heap _ _ ([(t, .inr (5, [.null, .int 0])), (q_1, .inl (cE, 120, rfs (fun _ => none)))] ++ pl) := hR
  refine va_putF (D := G) (ci := 5) (v := .ref q_1) (ty := .array (.object "MirrorKeep$Entry")) (C := RX6) (T := TX6) (N := 2) hx hb hts inX6 tyX6 tyX6_ok nmX6 hown hK hR.1 hR.2.1 hR.2.2 0 rfl rfl 0 (by decide) k_13 (fun _ h => h) rfl hin rfl (by decide +kernel) rfl rfl (Nat.le_of_ble_eq_true rfl) dX6_init_10 (fun H locs hP hD hS => ?_)
  have hR : rR G A s.heap _ _ ([(t, .inr (5, [.ref q_1, .int 0])), (q_1, .inl (cE, 120, rfs (fun _ => none)))] ++ pl) := ⟨hP, hD, hS⟩
  refine lv_aload_n hx hb dX6_init_13 rfl (lv_at hl 0 rfl) ?_
  refine lv_iconst (v := nI 0) hx hb dX6_init_14 rfl ?_
  refine va_put (D := G) (ci := 5) (v := .int (nI 0)) (ty := .int) (C := RX6) (T := TX6) (N := 2) hx hb hts inX6 tyX6 tyX6_ok nmX6 hown hK hR.1 hR.2.1 hR.2.2 0 rfl rfl 1 (by decide) k_17 (fun _ h => h) rfl (by decide +kernel) rfl rfl (Nat.le_of_ble_eq_true rfl) dX6_init_15 (fun H locs hP hD hS => ?_)
  have hR : rR G A s.heap _ _ ([(t, .inr (5, [.ref q_1, .int (nI 0)])), (q_1, .inl (cE, 120, rfs (fun _ => none)))] ++ pl) := ⟨hP, hD, hS⟩
  rw [hQ]
  refine W.widen (k := 1) (n := 120) (by omega) (by omega) ?_
  exact xc_vret (X1 := [(t, .inr (5, [.ref q_1, .int (nI 0)])), (q_1, .inl (cE, 120, rfs (fun _ => none)))]) (nw := []) hx hb hr hlocks (by rw [List.append_nil]; exact hR) ⟨rfl, rfl, _, rfl⟩ dX6_init_18
set_option maxHeartbeats 4000000 in
set_option maxRecDepth 100000 in
theorem c_tapeInit (l : Launch) {G : va_G} {tys : List (ClassId × FieldType)} {cB cI cE cS : ClassId} (hT : tys = [(cB, .byte), (cI, .int), (cE, .object RX1), (cS, .object RX4)]) {pl : va_W} {sz : Nat} {tp : Nat} : cMet l yX5_init wsX5_init ({ frames := 1, cells := 2, slots := 405, locals := 12 } : Room) G tys [.ref tp] [(tp, .inr (4, [.null, .null, .int 0]))] pl sz 2 405 (fun o9 X1 nw => o9 = none ∧ nw = [] ∧ ∃ wd by1, X1 = [(tp, .inr (4, [.ref wd, .ref by1, .int (nI 0)])), (wd, .inl (cI, 5, .inl (fun _ => 0))), (by1, .inl (cB, 400, .inl (fun _ => 0)))]) := by
  have hT0 : tys[0]? = some (cB, .byte) := by rw [hT]; rfl
  have hT1 : tys[1]? = some (cI, .int) := by rw [hT]; rfl
  have hT2 : tys[2]? = some (cE, .object RX1) := by rw [hT]; rfl
  have hT3 : tys[3]? = some (cS, .object RX4) := by rw [hT]; rfl
  refine Met.ofW (cc := cX5_init) (maxL := 1) (ret := none) (by decide) rfl ?_
  intro p e s m args below meth c s₁ B hml hv
  obtain ⟨hargs, hsz, hP, hK, hD0, hZ⟩ := hv
  have hx := B.exec
  have hb := B.bytes
  have hr := B.returns
  have hts := atoms_spec (ws := wsX5_init) B.pre
  have hown : s.vm.findClass RX5 = some m.cls := findClass_of_methodNamed B.named
  have hlocks := B.notSynchronized
  have hin : meth.name = "<init>" := (name_of_methodNamed B.named B.method).1
  subst hsz
  have hD := hD0.self (sz := s.heap.size)
  obtain ⟨A, hAe⟩ : ∃ A : Nat → Prop, A = va_A ([(tp, .inr (4, [.null, .null, .int 0]))] ++ pl) s.heap.size := ⟨_, rfl⟩
  rw [← hAe] at hD
  have hA : ∀ q : Nat, s.heap.size ≤ q → A q := fun q h => by rw [hAe]; exact Or.inr h
  have inX5 : ∀ w ∈ wsX50, w ∈ wsX5_init := by decide +kernel
  have k_11 := hts (.fieldLink RX5 11 "MirrorKeep$Tape" "words" "[I") (by decide +kernel)
  have k_15 := hts (.fieldLink RX5 15 "MirrorKeep$Tape" "bytes" "[B") (by decide +kernel)
  have k_19 := hts (.fieldLink RX5 19 "MirrorKeep$Tape" "count" "I") (by decide +kernel)
  have hR : rR G A s.heap s.heap [] ([(tp, .inr (4, [.null, .null, .int 0]))] ++ pl) := ⟨hP, hD, va_S.rf⟩
  obtain ⟨Q, hQ⟩ : ∃ Q : State → Prop, Q = MQ below (cQ G A pl (fun o9 X1 nw => o9 = none ∧ nw = [] ∧ ∃ wd by1, X1 = [(tp, .inr (4, [.ref wd, .ref by1, .int (nI 0)])), (wd, .inl (cI, 5, .inl (fun _ => 0))), (by1, .inl (cB, 400, .inl (fun _ => 0)))])) args s 2 405 A := ⟨_, rfl⟩
  change W p l e ({ frames := 1, cells := 2, slots := 405, locals := 12 } : Room) s m args below meth c s.heap [] 0 0 (MQ below (cQ G (va_A ([(tp, .inr (4, [.null, .null, .int 0]))] ++ pl) s.heap.size) pl (fun o9 X1 nw => o9 = none ∧ nw = [] ∧ ∃ wd by1, X1 = [(tp, .inr (4, [.ref wd, .ref by1, .int (nI 0)])), (wd, .inl (cI, 5, .inl (fun _ => 0))), (by1, .inl (cB, 400, .inl (fun _ => 0)))])) args s 2 405 (va_A ([(tp, .inr (4, [.null, .null, .int 0]))] ++ pl) s.heap.size)) (entryFrame m args 1)
  rw [← hAe]
  rw [← hQ]
  refine nn_entry hargs (Nat.le_of_ble_eq_true rfl) (lv := [(0, .ref tp)]) rfl (fun ls hl => ?_)
  refine lv_aload_n hx hb dX5_init_0 rfl (lv_at hl 0 rfl) ?_
  refine W.objInit hx hb hown (hts (.methodLink RX5 3 objectInit) (by decide +kernel)) (hts (.instanceMethod objectInit) (by decide +kernel)) (hts (.code objectInit ⟨#[0xb1]⟩ 1 none) (by decide +kernel)) rfl (by rw [hml]; exact hl.1) rfl dX5_init_1 (Nat.le_of_ble_eq_true rfl) (Nat.le_of_ble_eq_true rfl) ?_
  refine W.eq (g2 := F0 m 4 ls []) rfl ?_
  refine lv_aload_n hx hb dX5_init_4 rfl (lv_at hl 0 rfl) ?_
  refine lv_iconst (v := nI 5) hx hb dX5_init_5 rfl ?_
  refine xc_newi hx hb (hts (.arrayClass .int) (by decide +kernel)) hK hT1 hR hA (by omega) (Nat.le_of_ble_eq_true rfl) (Nat.le_of_ble_eq_true rfl) dX5_init_6 (fun q_1 H hR => ?_)
  have hR : rR G A s.heap _ _ ([(tp, .inr (4, [.null, .null, .int 0])), (q_1, .inl (cI, 5, .inl (fun _ => 0)))] ++ pl) := hR
  refine va_putF (D := G) (ci := 4) (v := .ref q_1) (ty := .array .int) (C := RX5) (T := TX5) (N := 3) hx hb hts inX5 tyX5 tyX5_ok nmX5 hown hK hR.1 hR.2.1 hR.2.2 0 rfl rfl 0 (by decide) k_11 (fun _ h => h) rfl hin rfl (by decide +kernel) rfl rfl (Nat.le_of_ble_eq_true rfl) dX5_init_8 (fun H locs hP hD hS => ?_)
  have hR : rR G A s.heap _ _ ([(tp, .inr (4, [.ref q_1, .null, .int 0])), (q_1, .inl (cI, 5, .inl (fun _ => 0)))] ++ pl) := ⟨hP, hD, hS⟩
  refine lv_aload_n hx hb dX5_init_11 rfl (lv_at hl 0 rfl) ?_
  refine lv_sipush (v := nI 400) hx hb dX5_init_12 (by decide) ?_
  refine xc_newb hx hb (hts (.arrayClass .byte) (by decide +kernel)) hK hT0 hR hA (by omega) (Nat.le_of_ble_eq_true rfl) (Nat.le_of_ble_eq_true rfl) dX5_init_15 (fun q_2 H hR => ?_)
  have hR : rR G A s.heap _ _ ([(tp, .inr (4, [.ref q_1, .null, .int 0])), (q_1, .inl (cI, 5, .inl (fun _ => 0))), (q_2, .inl (cB, 400, .inl (fun _ => 0)))] ++ pl) := hR
  refine va_putF (D := G) (ci := 4) (v := .ref q_2) (ty := .array .byte) (C := RX5) (T := TX5) (N := 3) hx hb hts inX5 tyX5 tyX5_ok nmX5 hown hK hR.1 hR.2.1 hR.2.2 0 rfl rfl 1 (by decide) k_15 (fun _ h => h) rfl hin rfl (by decide +kernel) rfl rfl (Nat.le_of_ble_eq_true rfl) dX5_init_17 (fun H locs hP hD hS => ?_)
  have hR : rR G A s.heap _ _ ([(tp, .inr (4, [.ref q_1, .ref q_2, .int 0])), (q_1, .inl (cI, 5, .inl (fun _ => 0))), (q_2, .inl (cB, 400, .inl (fun _ => 0)))] ++ pl) := ⟨hP, hD, hS⟩
  refine lv_aload_n hx hb dX5_init_20 rfl (lv_at hl 0 rfl) ?_
  refine lv_iconst (v := nI 0) hx hb dX5_init_21 rfl ?_
  refine va_put (D := G) (ci := 4) (v := .int (nI 0)) (ty := .int) (C := RX5) (T := TX5) (N := 3) hx hb hts inX5 tyX5 tyX5_ok nmX5 hown hK hR.1 hR.2.1 hR.2.2 0 rfl rfl 2 (by decide) k_19 (fun _ h => h) rfl (by decide +kernel) rfl rfl (Nat.le_of_ble_eq_true rfl) dX5_init_22 (fun H locs hP hD hS => ?_)
  have hR : rR G A s.heap _ _ ([(tp, .inr (4, [.ref q_1, .ref q_2, .int (nI 0)])), (q_1, .inl (cI, 5, .inl (fun _ => 0))), (q_2, .inl (cB, 400, .inl (fun _ => 0)))] ++ pl) := ⟨hP, hD, hS⟩
  rw [hQ]
  refine W.widen (k := 2) (n := 405) (by omega) (by omega) ?_
  exact xc_vret (X1 := [(tp, .inr (4, [.ref q_1, .ref q_2, .int (nI 0)])), (q_1, .inl (cI, 5, .inl (fun _ => 0))), (q_2, .inl (cB, 400, .inl (fun _ => 0)))]) (nw := []) hx hb hr hlocks (by rw [List.append_nil]; exact hR) ⟨rfl, rfl, _, _, rfl⟩ dX5_init_25
set_option maxHeartbeats 4000000 in
set_option maxRecDepth 100000 in
theorem c_histInit (l : Launch) {G : va_G} {tys : List (ClassId × FieldType)} {cB cI cE cS : ClassId} (hT : tys = [(cB, .byte), (cI, .int), (cE, .object RX1), (cS, .object RX4)]) {pl : va_W} {sz : Nat} {h : Nat} : cMet l yX2_init wsX2_init ({ frames := 1, cells := 1, slots := 40, locals := 12 } : Room) G tys [.ref h] [(h, .inr (2, [.null, .int 0]))] pl sz 1 40 (fun o9 X1 nw => o9 = none ∧ nw = [] ∧ ∃ r, X1 = [(h, .inr (2, [.ref r, .int (nI 0)])), (r, .inl (cS, 40, rfs (fun _ => none)))]) := by
  have hT0 : tys[0]? = some (cB, .byte) := by rw [hT]; rfl
  have hT1 : tys[1]? = some (cI, .int) := by rw [hT]; rfl
  have hT2 : tys[2]? = some (cE, .object RX1) := by rw [hT]; rfl
  have hT3 : tys[3]? = some (cS, .object RX4) := by rw [hT]; rfl
  refine Met.ofW (cc := cX2_init) (maxL := 1) (ret := none) (by decide) rfl ?_
  intro p e s m args below meth c s₁ B hml hv
  obtain ⟨hargs, hsz, hP, hK, hD0, hZ⟩ := hv
  have hx := B.exec
  have hb := B.bytes
  have hr := B.returns
  have hts := atoms_spec (ws := wsX2_init) B.pre
  have hown : s.vm.findClass RX2 = some m.cls := findClass_of_methodNamed B.named
  have hlocks := B.notSynchronized
  have hin : meth.name = "<init>" := (name_of_methodNamed B.named B.method).1
  subst hsz
  have hD := hD0.self (sz := s.heap.size)
  obtain ⟨A, hAe⟩ : ∃ A : Nat → Prop, A = va_A ([(h, .inr (2, [.null, .int 0]))] ++ pl) s.heap.size := ⟨_, rfl⟩
  rw [← hAe] at hD
  have hA : ∀ q : Nat, s.heap.size ≤ q → A q := fun q h => by rw [hAe]; exact Or.inr h
  have inX2 : ∀ w ∈ wsX20, w ∈ wsX2_init := by decide +kernel
  have k_13 := hts (.fieldLink RX2 13 "MirrorKeep$History" "rows" "[LMirrorKeep$Session;") (by decide +kernel)
  have k_17 := hts (.fieldLink RX2 17 "MirrorKeep$History" "count" "I") (by decide +kernel)
  have hR : rR G A s.heap s.heap [] ([(h, .inr (2, [.null, .int 0]))] ++ pl) := ⟨hP, hD, va_S.rf⟩
  obtain ⟨Q, hQ⟩ : ∃ Q : State → Prop, Q = MQ below (cQ G A pl (fun o9 X1 nw => o9 = none ∧ nw = [] ∧ ∃ r, X1 = [(h, .inr (2, [.ref r, .int (nI 0)])), (r, .inl (cS, 40, rfs (fun _ => none)))])) args s 1 40 A := ⟨_, rfl⟩
  change W p l e ({ frames := 1, cells := 1, slots := 40, locals := 12 } : Room) s m args below meth c s.heap [] 0 0 (MQ below (cQ G (va_A ([(h, .inr (2, [.null, .int 0]))] ++ pl) s.heap.size) pl (fun o9 X1 nw => o9 = none ∧ nw = [] ∧ ∃ r, X1 = [(h, .inr (2, [.ref r, .int (nI 0)])), (r, .inl (cS, 40, rfs (fun _ => none)))])) args s 1 40 (va_A ([(h, .inr (2, [.null, .int 0]))] ++ pl) s.heap.size)) (entryFrame m args 1)
  rw [← hAe]
  rw [← hQ]
  refine nn_entry hargs (Nat.le_of_ble_eq_true rfl) (lv := [(0, .ref h)]) rfl (fun ls hl => ?_)
  refine lv_aload_n hx hb dX2_init_0 rfl (lv_at hl 0 rfl) ?_
  refine W.objInit hx hb hown (hts (.methodLink RX2 3 objectInit) (by decide +kernel)) (hts (.instanceMethod objectInit) (by decide +kernel)) (hts (.code objectInit ⟨#[0xb1]⟩ 1 none) (by decide +kernel)) rfl (by rw [hml]; exact hl.1) rfl dX2_init_1 (Nat.le_of_ble_eq_true rfl) (Nat.le_of_ble_eq_true rfl) ?_
  refine W.eq (g2 := F0 m 4 ls []) rfl ?_
  refine lv_aload_n hx hb dX2_init_4 rfl (lv_at hl 0 rfl) ?_
  refine lv_bipush (v := nI 40) hx hb dX2_init_5 (by decide) ?_
  refine xc_newq (t0 := 3) (C := RX4) hx hb hown (hts (.classLink RX2 11 RX4) (by decide +kernel)) hZ.2.1 hK hT3 hR hA (by omega) (Nat.le_of_ble_eq_true rfl) (Nat.le_of_ble_eq_true rfl) dX2_init_7 (fun q_1 H hR => ?_)
  have hR : rR G A s.heap _ _ ([(h, .inr (2, [.null, .int 0])), (q_1, .inl (cS, 40, rfs (fun _ => none)))] ++ pl) := hR
  refine va_putF (D := G) (ci := 2) (v := .ref q_1) (ty := .array (.object "MirrorKeep$Session")) (C := RX2) (T := TX2) (N := 2) hx hb hts inX2 tyX2 tyX2_ok nmX2 hown hK hR.1 hR.2.1 hR.2.2 0 rfl rfl 0 (by decide) k_13 (fun _ h => h) rfl hin rfl (by decide +kernel) rfl rfl (Nat.le_of_ble_eq_true rfl) dX2_init_10 (fun H locs hP hD hS => ?_)
  have hR : rR G A s.heap _ _ ([(h, .inr (2, [.ref q_1, .int 0])), (q_1, .inl (cS, 40, rfs (fun _ => none)))] ++ pl) := ⟨hP, hD, hS⟩
  refine lv_aload_n hx hb dX2_init_13 rfl (lv_at hl 0 rfl) ?_
  refine lv_iconst (v := nI 0) hx hb dX2_init_14 rfl ?_
  refine va_put (D := G) (ci := 2) (v := .int (nI 0)) (ty := .int) (C := RX2) (T := TX2) (N := 2) hx hb hts inX2 tyX2 tyX2_ok nmX2 hown hK hR.1 hR.2.1 hR.2.2 0 rfl rfl 1 (by decide) k_17 (fun _ h => h) rfl (by decide +kernel) rfl rfl (Nat.le_of_ble_eq_true rfl) dX2_init_15 (fun H locs hP hD hS => ?_)
  have hR : rR G A s.heap _ _ ([(h, .inr (2, [.ref q_1, .int (nI 0)])), (q_1, .inl (cS, 40, rfs (fun _ => none)))] ++ pl) := ⟨hP, hD, hS⟩
  rw [hQ]
  refine W.widen (k := 1) (n := 40) (by omega) (by omega) ?_
  exact xc_vret (X1 := [(h, .inr (2, [.ref q_1, .int (nI 0)])), (q_1, .inl (cS, 40, rfs (fun _ => none)))]) (nw := []) hx hb hr hlocks (by rw [List.append_nil]; exact hR) ⟨rfl, rfl, _, rfl⟩ dX2_init_18
set_option maxHeartbeats 4000000 in
set_option maxRecDepth 100000 in
theorem c_chInit (l : Launch) {G : va_G} {tys : List (ClassId × FieldType)} {cB cI cE cS : ClassId} (hT : tys = [(cB, .byte), (cI, .int), (cE, .object RX1), (cS, .object RX4)]) {pl : va_W} {sz : Nat} {ch : Nat} : cMet l yX0_init wsX0_init ({ frames := 1, cells := 2, slots := 360, locals := 12 } : Room) G tys [.ref ch] [(ch, .inr (0, [.null, .null, .int 0]))] pl sz 2 360 (fun o9 X1 nw => o9 = none ∧ nw = [] ∧ ∃ b1 b2, X1 = [(ch, .inr (0, [.ref b1, .ref b2, .int (nI 0)])), (b1, .inl (cE, 180, rfs (fun _ => none))), (b2, .inl (cE, 180, rfs (fun _ => none)))]) := by
  have hT0 : tys[0]? = some (cB, .byte) := by rw [hT]; rfl
  have hT1 : tys[1]? = some (cI, .int) := by rw [hT]; rfl
  have hT2 : tys[2]? = some (cE, .object RX1) := by rw [hT]; rfl
  have hT3 : tys[3]? = some (cS, .object RX4) := by rw [hT]; rfl
  refine Met.ofW (cc := cX0_init) (maxL := 1) (ret := none) (by decide) rfl ?_
  intro p e s m args below meth c s₁ B hml hv
  obtain ⟨hargs, hsz, hP, hK, hD0, hZ⟩ := hv
  have hx := B.exec
  have hb := B.bytes
  have hr := B.returns
  have hts := atoms_spec (ws := wsX0_init) B.pre
  have hown : s.vm.findClass RX0 = some m.cls := findClass_of_methodNamed B.named
  have hlocks := B.notSynchronized
  have hin : meth.name = "<init>" := (name_of_methodNamed B.named B.method).1
  subst hsz
  have hD := hD0.self (sz := s.heap.size)
  obtain ⟨A, hAe⟩ : ∃ A : Nat → Prop, A = va_A ([(ch, .inr (0, [.null, .null, .int 0]))] ++ pl) s.heap.size := ⟨_, rfl⟩
  rw [← hAe] at hD
  have hA : ∀ q : Nat, s.heap.size ≤ q → A q := fun q h => by rw [hAe]; exact Or.inr h
  have inX0 : ∀ w ∈ wsX00, w ∈ wsX0_init := by decide +kernel
  have k_13 := hts (.fieldLink RX0 13 "MirrorKeep$Changes" "before" "[LMirrorKeep$Entry;") (by decide +kernel)
  have k_17 := hts (.fieldLink RX0 17 "MirrorKeep$Changes" "after" "[LMirrorKeep$Entry;") (by decide +kernel)
  have k_20 := hts (.fieldLink RX0 20 "MirrorKeep$Changes" "count" "I") (by decide +kernel)
  have hR : rR G A s.heap s.heap [] ([(ch, .inr (0, [.null, .null, .int 0]))] ++ pl) := ⟨hP, hD, va_S.rf⟩
  obtain ⟨Q, hQ⟩ : ∃ Q : State → Prop, Q = MQ below (cQ G A pl (fun o9 X1 nw => o9 = none ∧ nw = [] ∧ ∃ b1 b2, X1 = [(ch, .inr (0, [.ref b1, .ref b2, .int (nI 0)])), (b1, .inl (cE, 180, rfs (fun _ => none))), (b2, .inl (cE, 180, rfs (fun _ => none)))])) args s 2 360 A := ⟨_, rfl⟩
  change W p l e ({ frames := 1, cells := 2, slots := 360, locals := 12 } : Room) s m args below meth c s.heap [] 0 0 (MQ below (cQ G (va_A ([(ch, .inr (0, [.null, .null, .int 0]))] ++ pl) s.heap.size) pl (fun o9 X1 nw => o9 = none ∧ nw = [] ∧ ∃ b1 b2, X1 = [(ch, .inr (0, [.ref b1, .ref b2, .int (nI 0)])), (b1, .inl (cE, 180, rfs (fun _ => none))), (b2, .inl (cE, 180, rfs (fun _ => none)))])) args s 2 360 (va_A ([(ch, .inr (0, [.null, .null, .int 0]))] ++ pl) s.heap.size)) (entryFrame m args 1)
  rw [← hAe]
  rw [← hQ]
  refine nn_entry hargs (Nat.le_of_ble_eq_true rfl) (lv := [(0, .ref ch)]) rfl (fun ls hl => ?_)
  refine lv_aload_n hx hb dX0_init_0 rfl (lv_at hl 0 rfl) ?_
  refine W.objInit hx hb hown (hts (.methodLink RX0 3 objectInit) (by decide +kernel)) (hts (.instanceMethod objectInit) (by decide +kernel)) (hts (.code objectInit ⟨#[0xb1]⟩ 1 none) (by decide +kernel)) rfl (by rw [hml]; exact hl.1) rfl dX0_init_1 (Nat.le_of_ble_eq_true rfl) (Nat.le_of_ble_eq_true rfl) ?_
  refine W.eq (g2 := F0 m 4 ls []) rfl ?_
  refine lv_aload_n hx hb dX0_init_4 rfl (lv_at hl 0 rfl) ?_
  refine lv_sipush (v := nI 180) hx hb dX0_init_5 (by decide) ?_
  refine xc_newq (t0 := 2) (C := RX1) hx hb hown (hts (.classLink RX0 11 RX1) (by decide +kernel)) hZ.1 hK hT2 hR hA (by omega) (Nat.le_of_ble_eq_true rfl) (Nat.le_of_ble_eq_true rfl) dX0_init_8 (fun q_1 H hR => ?_)
  have hR : rR G A s.heap _ _ ([(ch, .inr (0, [.null, .null, .int 0])), (q_1, .inl (cE, 180, rfs (fun _ => none)))] ++ pl) := hR
  refine va_putF (D := G) (ci := 0) (v := .ref q_1) (ty := .array (.object "MirrorKeep$Entry")) (C := RX0) (T := TX0) (N := 3) hx hb hts inX0 tyX0 tyX0_ok nmX0 hown hK hR.1 hR.2.1 hR.2.2 0 rfl rfl 0 (by decide) k_13 (fun _ h => h) rfl hin rfl (by decide +kernel) rfl rfl (Nat.le_of_ble_eq_true rfl) dX0_init_11 (fun H locs hP hD hS => ?_)
  have hR : rR G A s.heap _ _ ([(ch, .inr (0, [.ref q_1, .null, .int 0])), (q_1, .inl (cE, 180, rfs (fun _ => none)))] ++ pl) := ⟨hP, hD, hS⟩
  refine lv_aload_n hx hb dX0_init_14 rfl (lv_at hl 0 rfl) ?_
  refine lv_sipush (v := nI 180) hx hb dX0_init_15 (by decide) ?_
  refine xc_newq (t0 := 2) (C := RX1) hx hb hown (hts (.classLink RX0 11 RX1) (by decide +kernel)) hZ.1 hK hT2 hR hA (by omega) (Nat.le_of_ble_eq_true rfl) (Nat.le_of_ble_eq_true rfl) dX0_init_18 (fun q_2 H hR => ?_)
  have hR : rR G A s.heap _ _ ([(ch, .inr (0, [.ref q_1, .null, .int 0])), (q_1, .inl (cE, 180, rfs (fun _ => none))), (q_2, .inl (cE, 180, rfs (fun _ => none)))] ++ pl) := hR
  refine va_putF (D := G) (ci := 0) (v := .ref q_2) (ty := .array (.object "MirrorKeep$Entry")) (C := RX0) (T := TX0) (N := 3) hx hb hts inX0 tyX0 tyX0_ok nmX0 hown hK hR.1 hR.2.1 hR.2.2 0 rfl rfl 1 (by decide) k_17 (fun _ h => h) rfl hin rfl (by decide +kernel) rfl rfl (Nat.le_of_ble_eq_true rfl) dX0_init_21 (fun H locs hP hD hS => ?_)
  have hR : rR G A s.heap _ _ ([(ch, .inr (0, [.ref q_1, .ref q_2, .int 0])), (q_1, .inl (cE, 180, rfs (fun _ => none))), (q_2, .inl (cE, 180, rfs (fun _ => none)))] ++ pl) := ⟨hP, hD, hS⟩
  refine lv_aload_n hx hb dX0_init_24 rfl (lv_at hl 0 rfl) ?_
  refine lv_iconst (v := nI 0) hx hb dX0_init_25 rfl ?_
  refine va_put (D := G) (ci := 0) (v := .int (nI 0)) (ty := .int) (C := RX0) (T := TX0) (N := 3) hx hb hts inX0 tyX0 tyX0_ok nmX0 hown hK hR.1 hR.2.1 hR.2.2 0 rfl rfl 2 (by decide) k_20 (fun _ h => h) rfl (by decide +kernel) rfl rfl (Nat.le_of_ble_eq_true rfl) dX0_init_26 (fun H locs hP hD hS => ?_)
  have hR : rR G A s.heap _ _ ([(ch, .inr (0, [.ref q_1, .ref q_2, .int (nI 0)])), (q_1, .inl (cE, 180, rfs (fun _ => none))), (q_2, .inl (cE, 180, rfs (fun _ => none)))] ++ pl) := ⟨hP, hD, hS⟩
  rw [hQ]
  refine W.widen (k := 2) (n := 360) (by omega) (by omega) ?_
  exact xc_vret (X1 := [(ch, .inr (0, [.ref q_1, .ref q_2, .int (nI 0)])), (q_1, .inl (cE, 180, rfs (fun _ => none))), (q_2, .inl (cE, 180, rfs (fun _ => none)))]) (nw := []) hx hb hr hlocks (by rw [List.append_nil]; exact hR) ⟨rfl, rfl, _, _, rfl⟩ dX0_init_29
set_option maxHeartbeats 4000000 in
set_option maxRecDepth 100000 in
theorem c_workInit (l : Launch) {G : va_G} {tys : List (ClassId × FieldType)} {cB cI cE cS : ClassId} (hT : tys = [(cB, .byte), (cI, .int), (cE, .object RX1), (cS, .object RX4)]) {pl : va_W} {sz : Nat} {wk : Nat} : cMet l yX7_init wsX7_init ({ frames := 2, cells := 3, slots := 363, locals := 32 } : Room) G tys [.ref wk] [(wk, .inr (6, [.null, .int 0, .int 0]))] pl sz 3 363 (fun o9 X1 nw => o9 = none ∧ nw = [] ∧ ∃ ch b1 b2, X1 = [(wk, .inr (6, [.ref ch, .int (nI 0), .int (nI 0)])), (ch, .inr (0, [.ref b1, .ref b2, .int (nI 0)])), (b1, .inl (cE, 180, rfs (fun _ => none))), (b2, .inl (cE, 180, rfs (fun _ => none)))]) := by
  have hT0 : tys[0]? = some (cB, .byte) := by rw [hT]; rfl
  have hT1 : tys[1]? = some (cI, .int) := by rw [hT]; rfl
  have hT2 : tys[2]? = some (cE, .object RX1) := by rw [hT]; rfl
  have hT3 : tys[3]? = some (cS, .object RX4) := by rw [hT]; rfl
  refine Met.ofW (cc := cX7_init) (maxL := 1) (ret := none) (by decide) rfl ?_
  intro p e s m args below meth c s₁ B hml hv
  obtain ⟨hargs, hsz, hP, hK, hD0, hZ⟩ := hv
  have hx := B.exec
  have hb := B.bytes
  have hr := B.returns
  have hts := atoms_spec (ws := wsX7_init) B.pre
  have hown : s.vm.findClass RX7 = some m.cls := findClass_of_methodNamed B.named
  have hlocks := B.notSynchronized
  have hin : meth.name = "<init>" := (name_of_methodNamed B.named B.method).1
  subst hsz
  have hD := hD0.self (sz := s.heap.size)
  obtain ⟨A, hAe⟩ : ∃ A : Nat → Prop, A = va_A ([(wk, .inr (6, [.null, .int 0, .int 0]))] ++ pl) s.heap.size := ⟨_, rfl⟩
  rw [← hAe] at hD
  have hA : ∀ q : Nat, s.heap.size ≤ q → A q := fun q h => by rw [hAe]; exact Or.inr h
  have inX0 : ∀ w ∈ wsX00, w ∈ wsX7_init := by decide +kernel
  have inX7 : ∀ w ∈ wsX70, w ∈ wsX7_init := by decide +kernel
  have k_10 := hts (.fieldLink RX7 10 "MirrorKeep$Work" "changes" "LMirrorKeep$Changes;") (by decide +kernel)
  have k_16 := hts (.fieldLink RX7 16 "MirrorKeep$Work" "time" "I") (by decide +kernel)
  have k_20 := hts (.fieldLink RX7 20 "MirrorKeep$Work" "done" "I") (by decide +kernel)
  have hR : rR G A s.heap s.heap [] ([(wk, .inr (6, [.null, .int 0, .int 0]))] ++ pl) := ⟨hP, hD, va_S.rf⟩
  obtain ⟨Q, hQ⟩ : ∃ Q : State → Prop, Q = MQ below (cQ G A pl (fun o9 X1 nw => o9 = none ∧ nw = [] ∧ ∃ ch b1 b2, X1 = [(wk, .inr (6, [.ref ch, .int (nI 0), .int (nI 0)])), (ch, .inr (0, [.ref b1, .ref b2, .int (nI 0)])), (b1, .inl (cE, 180, rfs (fun _ => none))), (b2, .inl (cE, 180, rfs (fun _ => none)))])) args s 3 363 A := ⟨_, rfl⟩
  change W p l e ({ frames := 2, cells := 3, slots := 363, locals := 32 } : Room) s m args below meth c s.heap [] 0 0 (MQ below (cQ G (va_A ([(wk, .inr (6, [.null, .int 0, .int 0]))] ++ pl) s.heap.size) pl (fun o9 X1 nw => o9 = none ∧ nw = [] ∧ ∃ ch b1 b2, X1 = [(wk, .inr (6, [.ref ch, .int (nI 0), .int (nI 0)])), (ch, .inr (0, [.ref b1, .ref b2, .int (nI 0)])), (b1, .inl (cE, 180, rfs (fun _ => none))), (b2, .inl (cE, 180, rfs (fun _ => none)))])) args s 3 363 (va_A ([(wk, .inr (6, [.null, .int 0, .int 0]))] ++ pl) s.heap.size)) (entryFrame m args 1)
  rw [← hAe]
  rw [← hQ]
  refine nn_entry hargs (Nat.le_of_ble_eq_true rfl) (lv := [(0, .ref wk)]) rfl (fun ls hl => ?_)
  refine lv_aload_n hx hb dX7_init_0 rfl (lv_at hl 0 rfl) ?_
  refine W.objInit hx hb hown (hts (.methodLink RX7 1 objectInit) (by decide +kernel)) (hts (.instanceMethod objectInit) (by decide +kernel)) (hts (.code objectInit ⟨#[0xb1]⟩ 1 none) (by decide +kernel)) rfl (by rw [hml]; exact hl.1) rfl dX7_init_1 (Nat.le_of_ble_eq_true rfl) (Nat.le_of_ble_eq_true rfl) ?_
  refine W.eq (g2 := F0 m 4 ls []) rfl ?_
  refine lv_aload_n hx hb dX7_init_4 rfl (lv_at hl 0 rfl) ?_
  refine va_new (D := G) (ci := 0) (C := RX0) (T := TX0) (N := 3) (fs := [.null, .null, .int 0]) hx hb hts inX0 tyX0 tyX0_ok hown (hts (.classLink RX7 7 RX0) (by decide +kernel)) (hts (.instantiable RX0 3) (by decide +kernel)) (hts (.initialized RX0) (by decide +kernel)) hK hR.1 hR.2.1 hR.2.2 hA rfl (by decide) (Nat.le_of_ble_eq_true rfl) (Nat.le_of_ble_eq_true rfl) dX7_init_5 (fun q_1 H hP hD hS => ?_)
  have hR : rR G A s.heap _ _ ([(wk, .inr (6, [.null, .int 0, .int 0])), (q_1, .inr (0, [.null, .null, .int 0]))] ++ pl) := ⟨hP.swap, hD.swap, hS⟩
  refine lv_dup hx hb dX7_init_8 rfl ?_
  refine xc_callIN (As := []) (rest := [.ref q_1, .ref wk]) (cx := [(q_1, .inr (0, [.null, .null, .int 0]))]) (wr := [(wk, .inr (6, [.null, .int 0, .int 0]))]) (c_chInit l hT) ⟨hx, hb, hml, hown, hts⟩ ⟨va_cnB 0 hts gX7_init_X0_init_n9 rfl rfl rfl (hZ.2.2.1 (.methodLinkNest RX7 9 yX0_init "MirrorKeep") (by decide +kernel)) (hts (.initialized RX0) (by decide +kernel)) (by decide +kernel) ⟨Nat.le_of_ble_eq_true rfl, Nat.le_of_ble_eq_true rfl⟩, rfl, hts (.instanceMethod yX0_init) (by decide +kernel)⟩ hK hZ hR hA [1] [0] rfl rfl (by decide) (by decide) (by decide) rfl hl.1 rfl (Nat.le_of_ble_eq_true rfl) dX7_init_9 ⟨Nat.le_of_ble_eq_true rfl, Nat.le_of_ble_eq_true rfl⟩ (fun r_4 X_r_4 nw_r_4 H locs hr_4 hR => ?_)
  obtain ⟨rfl, rfl, b_2, b_3, rfl⟩ := hr_4
  have hR : rR G A s.heap _ _ ([(wk, .inr (6, [.null, .int 0, .int 0])), (q_1, .inr (0, [.ref b_2, .ref b_3, .int (nI 0)])), (b_2, .inl (cE, 180, rfs (fun _ => none))), (b_3, .inl (cE, 180, rfs (fun _ => none)))] ++ pl) := (xc_nil hR)
  refine va_putF (D := G) (ci := 6) (v := .ref q_1) (ty := .object "MirrorKeep$Changes") (C := RX7) (T := TX7) (N := 3) hx hb hts inX7 tyX7 tyX7_ok nmX7 hown hK hR.1 hR.2.1 hR.2.2 0 rfl rfl 0 (by decide) k_10 (fun _ h => h) rfl hin rfl (by decide +kernel) rfl rfl (Nat.le_of_ble_eq_true rfl) dX7_init_12 (fun H locs hP hD hS => ?_)
  have hR : rR G A s.heap _ _ ([(wk, .inr (6, [.ref q_1, .int 0, .int 0])), (q_1, .inr (0, [.ref b_2, .ref b_3, .int (nI 0)])), (b_2, .inl (cE, 180, rfs (fun _ => none))), (b_3, .inl (cE, 180, rfs (fun _ => none)))] ++ pl) := ⟨hP, hD, hS⟩
  refine lv_aload_n hx hb dX7_init_15 rfl (lv_at hl 0 rfl) ?_
  refine lv_iconst (v := nI 0) hx hb dX7_init_16 rfl ?_
  refine va_put (D := G) (ci := 6) (v := .int (nI 0)) (ty := .int) (C := RX7) (T := TX7) (N := 3) hx hb hts inX7 tyX7 tyX7_ok nmX7 hown hK hR.1 hR.2.1 hR.2.2 0 rfl rfl 1 (by decide) k_16 (fun _ h => h) rfl (by decide +kernel) rfl rfl (Nat.le_of_ble_eq_true rfl) dX7_init_17 (fun H locs hP hD hS => ?_)
  have hR : rR G A s.heap _ _ ([(wk, .inr (6, [.ref q_1, .int (nI 0), .int 0])), (q_1, .inr (0, [.ref b_2, .ref b_3, .int (nI 0)])), (b_2, .inl (cE, 180, rfs (fun _ => none))), (b_3, .inl (cE, 180, rfs (fun _ => none)))] ++ pl) := ⟨hP, hD, hS⟩
  refine lv_aload_n hx hb dX7_init_20 rfl (lv_at hl 0 rfl) ?_
  refine lv_iconst (v := nI 0) hx hb dX7_init_21 rfl ?_
  refine va_put (D := G) (ci := 6) (v := .int (nI 0)) (ty := .int) (C := RX7) (T := TX7) (N := 3) hx hb hts inX7 tyX7 tyX7_ok nmX7 hown hK hR.1 hR.2.1 hR.2.2 0 rfl rfl 2 (by decide) k_20 (fun _ h => h) rfl (by decide +kernel) rfl rfl (Nat.le_of_ble_eq_true rfl) dX7_init_22 (fun H locs hP hD hS => ?_)
  have hR : rR G A s.heap _ _ ([(wk, .inr (6, [.ref q_1, .int (nI 0), .int (nI 0)])), (q_1, .inr (0, [.ref b_2, .ref b_3, .int (nI 0)])), (b_2, .inl (cE, 180, rfs (fun _ => none))), (b_3, .inl (cE, 180, rfs (fun _ => none)))] ++ pl) := ⟨hP, hD, hS⟩
  rw [hQ]
  refine W.widen (k := 3) (n := 363) (by omega) (by omega) ?_
  exact xc_vret (X1 := [(wk, .inr (6, [.ref q_1, .int (nI 0), .int (nI 0)])), (q_1, .inr (0, [.ref b_2, .ref b_3, .int (nI 0)])), (b_2, .inl (cE, 180, rfs (fun _ => none))), (b_3, .inl (cE, 180, rfs (fun _ => none)))]) (nw := []) hx hb hr hlocks (by rw [List.append_nil]; exact hR) ⟨rfl, rfl, _, _, _, rfl⟩ dX7_init_25
