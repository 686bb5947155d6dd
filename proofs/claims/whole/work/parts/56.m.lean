set_option maxHeartbeats 4000000 in
set_option maxRecDepth 100000 in
theorem K_commit (l : Launch) {G : va_G} {tys : List (ClassId × FieldType)} {cB cI cE cS : ClassId} (hT : tys = [(cB, .byte), (cI, .int), (cE, .object RX1), (cS, .object RX4)]) {pl : va_W} {sz : Nat} {z : Nat → Nat} {X : va_W} {T rd : List Nat} {Ls Lm Lr : List En} {Sn : List Se} {Cw C2 : List Cg} {tm0 : Int32} {dn : Nat} {cho : Int32} {st : Nat} (hk : kRep cB cI cE cS z X pl T rd Ls Lm Lr Sn Cw C2 tm0 dn cho st) (hSl : Sn.length < 40) : cMet l yX8_commit wsX8_commit ({ frames := 3, cells := 3, slots := 125, locals := 55 } : Room) G tys [.ref (z 0)] X pl sz 3 125 (fun o9 X1 nw => o9 = none ∧ kRep cB cI cE cS z X1 (pl ++ nw) T rd Ls Lm Lr (Sn ++ [(tm0, Cw.length, Lm)]) Cw C2 tm0 dn cho 0) := by
  obtain ⟨g, fb, f1, f2, f3, fh, c1, c2, c3, c4, rfl, hrd, htp, hr1, hr2, hr3, hhr, hcr, hcr2⟩ := hk
  have hT0 : tys[0]? = some (cB, .byte) := by rw [hT]; rfl
  have hT1 : tys[1]? = some (cI, .int) := by rw [hT]; rfl
  have hT2 : tys[2]? = some (cE, .object RX1) := by rw [hT]; rfl
  have hT3 : tys[3]? = some (cS, .object RX4) := by rw [hT]; rfl
  refine Met.ofW (cc := cX8_commit) (maxL := 1) (ret := none) (by decide) rfl ?_
  intro p e s m args below meth c s₁ B hml hv
  obtain ⟨hargs, hsz, hP, hK, hD0, hZ⟩ := hv
  have hx := B.exec
  have hb := B.bytes
  have hr := B.returns
  have hts := atoms_spec (ws := wsX8_commit) B.pre
  have hown : s.vm.findClass RX8 = some m.cls := findClass_of_methodNamed B.named
  have hlocks := B.notSynchronized
  subst hsz
  have hD := hD0.self (sz := s.heap.size)
  obtain ⟨A, hAe⟩ : ∃ A : Nat → Prop, A = va_A ((kX cB cI cE cS z T.length g fb Ls.length f1 Lm.length f2 Lr.length f3 Sn.length fh tm0 dn Cw.length c1 c2 C2.length c3 c4 cho st) ++ pl) s.heap.size := ⟨_, rfl⟩
  rw [← hAe] at hD
  have hA : ∀ q : Nat, s.heap.size ≤ q → A q := fun q h => by rw [hAe]; exact Or.inr h
  have inX4 : ∀ w ∈ wsX40, w ∈ wsX8_commit := by decide +kernel
  have inX7 : ∀ w ∈ wsX70, w ∈ wsX8_commit := by decide +kernel
  have inX8 : ∀ w ∈ wsX80, w ∈ wsX8_commit := by decide +kernel
  have k_23 := hts (.fieldLink RX8 23 "MirrorKeep" "mirror" "LMirrorKeep$Tree;") (by decide +kernel)
  have k_32 := hts (.fieldLink RX8 32 "MirrorKeep" "history" "LMirrorKeep$History;") (by decide +kernel)
  have k_39 := hts (.fieldLink RX8 39 "MirrorKeep" "work" "LMirrorKeep$Work;") (by decide +kernel)
  have k_54 := hts (.fieldLink RX8 54 "MirrorKeep" "state" "I") (by decide +kernel)
  have k_278 := hts (.fieldLink RX8 278 "MirrorKeep$Work" "time" "I") (by decide +kernel)
  have k_279 := hts (.fieldLink RX8 279 "MirrorKeep$Work" "changes" "LMirrorKeep$Changes;") (by decide +kernel)
  have hR : rR G A s.heap s.heap [] ((kX cB cI cE cS z T.length g fb Ls.length f1 Lm.length f2 Lr.length f3 Sn.length fh tm0 dn Cw.length c1 c2 C2.length c3 c4 cho st) ++ pl) := ⟨hP, hD, va_S.rf⟩
  obtain ⟨Q, hQ⟩ : ∃ Q : State → Prop, Q = MQ below (cQ G A pl (fun o9 X1 nw => o9 = none ∧ kRep cB cI cE cS z X1 (pl ++ nw) T rd Ls Lm Lr (Sn ++ [(tm0, Cw.length, Lm)]) Cw C2 tm0 dn cho 0)) args s 3 125 A := ⟨_, rfl⟩
  change W p l e ({ frames := 3, cells := 3, slots := 125, locals := 55 } : Room) s m args below meth c s.heap [] 0 0 (MQ below (cQ G (va_A ((kX cB cI cE cS z T.length g fb Ls.length f1 Lm.length f2 Lr.length f3 Sn.length fh tm0 dn Cw.length c1 c2 C2.length c3 c4 cho st) ++ pl) s.heap.size) pl (fun o9 X1 nw => o9 = none ∧ kRep cB cI cE cS z X1 (pl ++ nw) T rd Ls Lm Lr (Sn ++ [(tm0, Cw.length, Lm)]) Cw C2 tm0 dn cho 0)) args s 3 125 (va_A ((kX cB cI cE cS z T.length g fb Ls.length f1 Lm.length f2 Lr.length f3 Sn.length fh tm0 dn Cw.length c1 c2 C2.length c3 c4 cho st) ++ pl) s.heap.size)) (entryFrame m args 1)
  rw [← hAe]
  rw [← hQ]
  refine nn_entry hargs (Nat.le_of_ble_eq_true rfl) (lv := [(0, .ref (z 0))]) rfl (fun ls hl => ?_)
  refine lv_aload_n hx hb dX8_commit_0 rfl (lv_at hl 0 rfl) ?_
  refine xg (ci := 7) (C := RX8) (T := TX8) (N := 9) (v := .ref (z 10)) hx hb hts inX8 hown hK hR.1 (List.mem_of_getElem? (i := 0) rfl) rfl 4 (by decide) k_32 (fun _ h => h) rfl dX8_commit_1 ?_
  refine va_new (D := G) (ci := 3) (C := RX4) (T := TX4) (N := 3) (fs := [.int 0, .int 0, .null]) hx hb hts inX4 tyX4 tyX4_ok hown (hts (.classLink RX8 240 RX4) (by decide +kernel)) (hts (.instantiable RX4 3) (by decide +kernel)) (hts (.initialized RX4) (by decide +kernel)) hK hR.1 hR.2.1 hR.2.2 hA rfl (by decide) (Nat.le_of_ble_eq_true rfl) (Nat.le_of_ble_eq_true rfl) dX8_commit_4 (fun q_1 H hP hD hS => ?_)
  have hR : rR G A s.heap _ _ ((kX cB cI cE cS z T.length g fb Ls.length f1 Lm.length f2 Lr.length f3 Sn.length fh tm0 dn Cw.length c1 c2 C2.length c3 c4 cho st ++ [(q_1, .inr (3, [.int 0, .int 0, .null]))]) ++ pl) := ⟨hP.swap, hD.swap, hS⟩
  refine lv_dup hx hb dX8_commit_7 rfl ?_
  refine lv_aload_n hx hb dX8_commit_8 rfl (lv_at hl 0 rfl) ?_
  refine xg (ci := 7) (C := RX8) (T := TX8) (N := 9) (v := .ref (z 12)) hx hb hts inX8 hown hK hR.1 (List.mem_of_getElem? (i := 0) rfl) rfl 5 (by decide) k_39 (fun _ h => h) rfl dX8_commit_9 ?_
  refine xg (ci := 6) (C := RX7) (T := TX7) (N := 3) (v := .int tm0) hx hb hts inX7 hown hK hR.1 (List.mem_of_getElem? (i := 12) rfl) rfl 1 (by decide) k_278 (fun _ h => h) rfl dX8_commit_12 ?_
  refine lv_aload_n hx hb dX8_commit_15 rfl (lv_at hl 0 rfl) ?_
  refine xg (ci := 7) (C := RX8) (T := TX8) (N := 9) (v := .ref (z 12)) hx hb hts inX8 hown hK hR.1 (List.mem_of_getElem? (i := 0) rfl) rfl 5 (by decide) k_39 (fun _ h => h) rfl dX8_commit_16 ?_
  refine xg (ci := 6) (C := RX7) (T := TX7) (N := 3) (v := .ref (z 13)) hx hb hts inX7 hown hK hR.1 (List.mem_of_getElem? (i := 12) rfl) rfl 0 (by decide) k_279 (fun _ h => h) rfl dX8_commit_19 ?_
  refine pf_callV (C := RX0) (As := []) (rest := [.int tm0, .ref q_1, .ref q_1, .ref (z 10)]) (p_csize l hT (cRows.rep hcr (List.mem_of_getElem? (i := 13) rfl) (List.mem_of_getElem? (i := 14) rfl) (List.mem_of_getElem? (i := 15) rfl))) ⟨hx, hb, hml, hown, hts⟩ (cwV 0 hts gX8_commit_X0_size rfl rfl rfl (by decide +kernel) ⟨Nat.le_of_ble_eq_true rfl, Nat.le_of_ble_eq_true rfl⟩) hK hR.1 (xrecv (ci := 0) hK hR.1 rfl (List.mem_of_getElem? (i := 13) rfl)) rfl hl.1 rfl (Nat.le_of_ble_eq_true rfl) dX8_commit_22 ⟨Nat.le_of_ble_eq_true rfl, Nat.le_of_ble_eq_true rfl⟩ (fun r_2 hr_2 => ?_)
  subst hr_2
  refine lv_aload_n hx hb dX8_commit_25 rfl (lv_at hl 0 rfl) ?_
  refine xg (ci := 7) (C := RX8) (T := TX8) (N := 9) (v := .ref (z 6)) hx hb hts inX8 hown hK hR.1 (List.mem_of_getElem? (i := 0) rfl) rfl 2 (by decide) k_23 (fun _ h => h) rfl dX8_commit_26 ?_
  refine xc_callI (As := [.int tm0, .int (nI Cw.length), .ref (z 6)]) (rest := [.ref q_1, .ref (z 10)]) (cx := [(q_1, .inr (3, [.int 0, .int 0, .null])), (z 6, .inr (5, [.ref (z 7), .int (nI Lm.length)])), (z 7, .inl (cE, 120, rfs f2))]) (wr := (([0, 1, 2, 3, 4, 5, 8, 9, 10, 11, 12, 13, 14, 15, 16, 17, 18] : List Nat).filterMap (fun i => (kX cB cI cE cS z T.length g fb Ls.length f1 Lm.length f2 Lr.length f3 Sn.length fh tm0 dn Cw.length c1 c2 C2.length c3 c4 cho st ++ [(q_1, .inr (3, [.int 0, .int 0, .null]))])[i]?))) (c_sesInit l hT hr2 tm0 Cw.length) ⟨hx, hb, hml, hown, hts⟩ (cwI 3 hts gX8_commit_X4_init rfl rfl rfl (hts (.initialized RX4) (by decide +kernel)) (hts (.methodLink RX8 281 yX4_init) (by decide +kernel)) (hts (.instanceMethod yX4_init) (by decide +kernel)) rfl (by decide +kernel) ⟨Nat.le_of_ble_eq_true rfl, Nat.le_of_ble_eq_true rfl⟩) hK hZ hR hA [19, 6, 7] [0, 1, 2, 3, 4, 5, 8, 9, 10, 11, 12, 13, 14, 15, 16, 17, 18] rfl rfl (by decide) (by decide) (by decide) rfl hl.1 rfl (Nat.le_of_ble_eq_true rfl) dX8_commit_29 ⟨Nat.le_of_ble_eq_true rfl, Nat.le_of_ble_eq_true rfl⟩ (fun r_3 X_r_3 nw_r_3 H locs hr_3 hR => ?_)
  obtain ⟨rfl, rfl, ts, rs, gs, rfl, hgs⟩ := hr_3
  have hR : rR G A s.heap _ _ ((kX cB cI cE cS z T.length g fb Ls.length f1 Lm.length f2 Lr.length f3 Sn.length fh tm0 dn Cw.length c1 c2 C2.length c3 c4 cho st ++ [(q_1, .inr (3, [.int tm0, .int (nI Cw.length), .ref ts])), (ts, .inr (5, [.ref rs, .int (nI Lm.length)])), (rs, .inl (cE, 120, rfs gs))]) ++ pl) := xc_perm (xc_nil hR) [0, 1, 2, 3, 4, 5, 18, 19, 6, 7, 8, 9, 10, 11, 12, 13, 14, 15, 16, 17, 20, 21] rfl (by decide)
  have hR : rR G A s.heap _ _ ((kX cB cI cE cS z T.length g fb Ls.length f1 Lm.length f2 Lr.length f3 Sn.length fh tm0 dn Cw.length c1 c2 C2.length c3 c4 cho st ++ [(q_1, .inr (3, [.int tm0, .int (nI Cw.length), .ref ts])), (ts, .inr (5, [.ref rs, .int (nI Lm.length)]))]) ++ (pl ++ [(rs, .inl (cE, 120, rfs gs))])) := xc_pool (X := (kX cB cI cE cS z T.length g fb Ls.length f1 Lm.length f2 Lr.length f3 Sn.length fh tm0 dn Cw.length c1 c2 C2.length c3 c4 cho st ++ [(q_1, .inr (3, [.int tm0, .int (nI Cw.length), .ref ts])), (ts, .inr (5, [.ref rs, .int (nI Lm.length)]))])) (q := (rs, .inl (cE, 120, rfs gs))) hR
  obtain ⟨pl1, e_pl1, sb_pl_pl1⟩ : ∃ z : va_W, z = pl ++ [(rs, .inl (cE, 120, rfs gs))] ∧ ∀ q, q ∈ pl → q ∈ z := ⟨_, rfl, plm⟩
  rw [← e_pl1] at hR
  have t_pl1 : pl1 = pl ++ [(rs, .inl (cE, 120, rfs gs))] := e_pl1
  have hm_rs : (rs, .inl (cE, 120, rfs gs)) ∈ pl1 := by rw [e_pl1]; exact List.mem_append_right _ List.mem_cons_self
  have hR : rR G A s.heap _ _ ((kX cB cI cE cS z T.length g fb Ls.length f1 Lm.length f2 Lr.length f3 Sn.length fh tm0 dn Cw.length c1 c2 C2.length c3 c4 cho st ++ [(q_1, .inr (3, [.int tm0, .int (nI Cw.length), .ref ts]))]) ++ (pl1 ++ [(ts, .inr (5, [.ref rs, .int (nI Lm.length)]))])) := xc_pool (X := (kX cB cI cE cS z T.length g fb Ls.length f1 Lm.length f2 Lr.length f3 Sn.length fh tm0 dn Cw.length c1 c2 C2.length c3 c4 cho st ++ [(q_1, .inr (3, [.int tm0, .int (nI Cw.length), .ref ts]))])) (q := (ts, .inr (5, [.ref rs, .int (nI Lm.length)]))) hR
  obtain ⟨pl2, e_pl2, sb_pl1_pl2⟩ : ∃ z : va_W, z = pl1 ++ [(ts, .inr (5, [.ref rs, .int (nI Lm.length)]))] ∧ ∀ q, q ∈ pl1 → q ∈ z := ⟨_, rfl, plm⟩
  rw [← e_pl2] at hR
  have sb_pl_pl2 : ∀ q, q ∈ pl → q ∈ pl2 := fun q h => sb_pl1_pl2 q (sb_pl_pl1 q h)
  have t_pl2 : pl2 = pl ++ ([(rs, .inl (cE, 120, rfs gs))] ++ [(ts, .inr (5, [.ref rs, .int (nI Lm.length)]))]) := by rw [e_pl2, t_pl1, List.append_assoc]
  have hm_ts : (ts, .inr (5, [.ref rs, .int (nI Lm.length)])) ∈ pl2 := by rw [e_pl2]; exact List.mem_append_right _ List.mem_cons_self
  have hR : rR G A s.heap _ _ ((kX cB cI cE cS z T.length g fb Ls.length f1 Lm.length f2 Lr.length f3 Sn.length fh tm0 dn Cw.length c1 c2 C2.length c3 c4 cho st) ++ (pl2 ++ [(q_1, .inr (3, [.int tm0, .int (nI Cw.length), .ref ts]))])) := xc_pool (X := (kX cB cI cE cS z T.length g fb Ls.length f1 Lm.length f2 Lr.length f3 Sn.length fh tm0 dn Cw.length c1 c2 C2.length c3 c4 cho st)) (q := (q_1, .inr (3, [.int tm0, .int (nI Cw.length), .ref ts]))) hR
  obtain ⟨pl3, e_pl3, sb_pl2_pl3⟩ : ∃ z : va_W, z = pl2 ++ [(q_1, .inr (3, [.int tm0, .int (nI Cw.length), .ref ts]))] ∧ ∀ q, q ∈ pl2 → q ∈ z := ⟨_, rfl, plm⟩
  rw [← e_pl3] at hR
  have sb_pl_pl3 : ∀ q, q ∈ pl → q ∈ pl3 := fun q h => sb_pl2_pl3 q (sb_pl_pl2 q h)
  have sb_pl1_pl3 : ∀ q, q ∈ pl1 → q ∈ pl3 := fun q h => sb_pl2_pl3 q (sb_pl1_pl2 q h)
  have t_pl3 : pl3 = pl ++ (([(rs, .inl (cE, 120, rfs gs))] ++ [(ts, .inr (5, [.ref rs, .int (nI Lm.length)]))]) ++ [(q_1, .inr (3, [.int tm0, .int (nI Cw.length), .ref ts]))]) := by rw [e_pl3, t_pl2, List.append_assoc]
  have hm_q_1 : (q_1, .inr (3, [.int tm0, .int (nI Cw.length), .ref ts])) ∈ pl3 := by rw [e_pl3]; exact List.mem_append_right _ List.mem_cons_self
  have hse9 : sEnt pl3 cB cE q_1 (tm0, Cw.length, Lm) := ⟨ts, rs, gs, hm_q_1, (sb_pl2_pl3 _ hm_ts), (sb_pl1_pl3 _ hm_rs), (hgs.mono sb_pl_pl3)⟩
  refine xc_callV (C := RX2) (As := [.ref q_1]) (rest := []) (cx := [(z 10, .inr (2, [.ref (z 11), .int (nI Sn.length)])), (z 11, .inl (cS, 40, rfs fh))]) (wr := (([0, 1, 2, 3, 4, 5, 6, 7, 8, 9, 12, 13, 14, 15, 16, 17, 18] : List Nat).filterMap (fun i => (kX cB cI cE cS z T.length g fb Ls.length f1 Lm.length f2 Lr.length f3 Sn.length fh tm0 dn Cw.length c1 c2 C2.length c3 c4 cho st)[i]?))) (c_hadd l hT (hhr.mono sb_pl_pl3) hse9 hSl) ⟨hx, hb, hml, hown, hts⟩ (cwV 1 hts gX8_commit_X2_add rfl rfl rfl (by decide +kernel) ⟨Nat.le_of_ble_eq_true rfl, Nat.le_of_ble_eq_true rfl⟩) hK hZ hR hA (xrecv (ci := 2) hK hR.1 rfl (List.mem_of_getElem? (i := 10) rfl)) [10, 11] [0, 1, 2, 3, 4, 5, 6, 7, 8, 9, 12, 13, 14, 15, 16, 17, 18] rfl rfl (by decide) (by decide) (by decide) rfl hl.1 rfl (Nat.le_of_ble_eq_true rfl) dX8_commit_32 ⟨Nat.le_of_ble_eq_true rfl, Nat.le_of_ble_eq_true rfl⟩ (fun r_4 X_r_4 nw_r_4 H locs hr_4 hR => ?_)
  obtain ⟨rfl, rfl, g7, rfl, hg7⟩ := hr_4
  have hR : rR G A s.heap _ _ ((kX cB cI cE cS z T.length g fb Ls.length f1 Lm.length f2 Lr.length f3 ((Sn ++ [(tm0, Cw.length, Lm)]).length) g7 tm0 dn Cw.length c1 c2 C2.length c3 c4 cho st) ++ pl3) := xc_perm (xc_nil hR) [0, 1, 2, 3, 4, 5, 6, 7, 8, 9, 17, 18, 10, 11, 12, 13, 14, 15, 16] rfl (by decide)
  refine lv_aload_n hx hb dX8_commit_35 rfl (lv_at hl 0 rfl) ?_
  refine lv_iconst (v := nI 0) hx hb dX8_commit_36 rfl ?_
  refine va_put (D := G) (ci := 7) (v := .int (nI 0)) (ty := .int) (C := RX8) (T := TX8) (N := 9) hx hb hts inX8 tyX8 tyX8_ok nmX8 hown hK hR.1 hR.2.1 hR.2.2 0 rfl rfl 8 (by decide) k_54 (fun _ h => h) rfl (by decide +kernel) rfl rfl (Nat.le_of_ble_eq_true rfl) dX8_commit_37 (fun H locs hP hD hS => ?_)
  have hR : rR G A s.heap _ _ ((kX cB cI cE cS z T.length g fb Ls.length f1 Lm.length f2 Lr.length f3 ((Sn ++ [(tm0, Cw.length, Lm)]).length) g7 tm0 dn Cw.length c1 c2 C2.length c3 c4 cho 0) ++ pl3) := ⟨hP, hD, hS⟩
  rw [hQ]
  refine W.widen (k := 3) (n := 125) (by omega) (by omega) ?_
  refine xc_vret (X1 := (kX cB cI cE cS z T.length g fb Ls.length f1 Lm.length f2 Lr.length f3 ((Sn ++ [(tm0, Cw.length, Lm)]).length) g7 tm0 dn Cw.length c1 c2 C2.length c3 c4 cho 0)) (nw := (([(rs, .inl (cE, 120, rfs gs))] ++ [(ts, .inr (5, [.ref rs, .int (nI Lm.length)]))]) ++ [(q_1, .inr (3, [.int tm0, .int (nI Cw.length), .ref ts]))])) hx hb hr hlocks ?_ ?_ dX8_commit_40
  · rw [← t_pl3]; exact hR
  · try rw [← t_pl3]
    exact ⟨rfl, ⟨_, _, _, _, _, _, _, _, _, _, rfl, hrd, htp, (hr1.mono sb_pl_pl3), (hr2.mono sb_pl_pl3), (hr3.mono sb_pl_pl3), hg7, (hcr.mono sb_pl_pl3), (hcr2.mono sb_pl_pl3)⟩⟩
set_option maxHeartbeats 4000000 in
set_option maxRecDepth 100000 in
theorem K_step (l : Launch) {G : va_G} {tys : List (ClassId × FieldType)} {cB cI cE cS : ClassId} (hT : tys = [(cB, .byte), (cI, .int), (cE, .object RX1), (cS, .object RX4)]) {pl : va_W} {sz : Nat} (hlt : l.stackTraces = false) {z : Nat → Nat} {X : va_W} {T rd : List Nat} {Ls Lm Lr : List En} {Sn : List Se} {Cw C2 : List Cg} {tm0 : Int32} {dn : Nat} {cho : Int32} {st : Nat} (hk : kRep cB cI cE cS z X pl T rd Ls Lm Lr Sn Cw C2 tm0 dn cho st) (n0 : Int32) (hst9 : st ≤ 2) (hSl : st = 1 → Sn.length < 40) (M : Nat → List En) (hq9 : st = 1 → dn ≤ 3 + 2 * Cw.length ∧ Lm = M dn ∧ ∀ d, d < 3 + 2 * Cw.length → srt (M d) ∧ doL Cw d (M d) = M (d + 1) ∧ (2 ≤ d ∧ d ≤ 2 * Cw.length ∧ d % 2 = 0 → exOK (M d) (Cw.getD (d / 2 - 1) c0).1 (Cw.getD (d / 2 - 1) c0).2))  : xMet l yX8_step wsX8_step ({ frames := 6, cells := 3, slots := 125, locals := 135 } : Room) G tys [.ref (z 0), .int n0] X pl sz 3 125 (fun o9 X1 nw => st = 1 ∧ (0 ≤ n0.toInt ∧ n0.toInt ≤ 200) ∧ ∃ cn, cn = stp n0 (3 + 2 * Cw.length - dn) ∧ o9 = some (.int (nI cn)) ∧ ((dn + cn = 3 + 2 * Cw.length ∧ kRep cB cI cE cS z X1 (pl ++ nw) T rd Ls (M (dn + cn)) Lr (Sn ++ [(tm0, Cw.length, M (dn + cn))]) Cw C2 tm0 (dn + cn) cho 0) ∨ (dn + cn ≠ 3 + 2 * Cw.length ∧ kRep cB cI cE cS z X1 (pl ++ nw) T rd Ls (M (dn + cn)) Lr Sn Cw C2 tm0 (dn + cn) cho st))) (fun E X1 nw => (E = ISE ∧ st ≠ 1 ∧ kRep cB cI cE cS z X1 (pl ++ nw) T rd Ls Lm Lr Sn Cw C2 tm0 dn cho st) ∨ (E = IAE ∧ st = 1 ∧ ¬ (0 ≤ n0.toInt ∧ n0.toInt ≤ 200) ∧ kRep cB cI cE cS z X1 (pl ++ nw) T rd Ls Lm Lr Sn Cw C2 tm0 dn cho st)) := by
  obtain ⟨g, fb, f1, f2, f3, fh, c1, c2, c3, c4, rfl, hrd, htp, hr1, hr2, hr3, hhr, hcr, hcr2⟩ := hk
  have hT0 : tys[0]? = some (cB, .byte) := by rw [hT]; rfl
  have hT1 : tys[1]? = some (cI, .int) := by rw [hT]; rfl
  have hT2 : tys[2]? = some (cE, .object RX1) := by rw [hT]; rfl
  have hT3 : tys[3]? = some (cS, .object RX4) := by rw [hT]; rfl
  refine vx_ofW (cc := cX8_step) (maxL := 4) (ret := (some .int)) (by decide) rfl ?_
  intro p e s m args below meth c s₁ B hml htb hv
  obtain ⟨hargs, ⟨hsz, hP, hK, hD0, hZ⟩, hU⟩ := hv
  have hx := B.exec
  have hb := B.bytes
  have hr := B.returns
  have hts := atoms_spec (ws := wsX8_step) B.pre
  have hown : s.vm.findClass RX8 = some m.cls := findClass_of_methodNamed B.named
  have hlocks := B.notSynchronized
  subst hsz
  have hD := hD0.self (sz := s.heap.size)
  obtain ⟨A, hAe⟩ : ∃ A : Nat → Prop, A = va_A ((kX cB cI cE cS z T.length g fb Ls.length f1 Lm.length f2 Lr.length f3 Sn.length fh tm0 dn Cw.length c1 c2 C2.length c3 c4 cho st) ++ pl) s.heap.size := ⟨_, rfl⟩
  rw [← hAe] at hD hU
  have hA : ∀ q : Nat, s.heap.size ≤ q → A q := fun q h => by rw [hAe]; exact Or.inr h
  have inX7 : ∀ w ∈ wsX70, w ∈ wsX8_step := by decide +kernel
  have inX8 : ∀ w ∈ wsX80, w ∈ wsX8_step := by decide +kernel
  have k_23 := hts (.fieldLink RX8 23 "MirrorKeep" "mirror" "LMirrorKeep$Tree;") (by decide +kernel)
  have k_39 := hts (.fieldLink RX8 39 "MirrorKeep" "work" "LMirrorKeep$Work;") (by decide +kernel)
  have k_54 := hts (.fieldLink RX8 54 "MirrorKeep" "state" "I") (by decide +kernel)
  have k_212 := hts (.fieldLink RX8 212 "MirrorKeep$Work" "done" "I") (by decide +kernel)
  have hR : rR G A s.heap s.heap [] ((kX cB cI cE cS z T.length g fb Ls.length f1 Lm.length f2 Lr.length f3 Sn.length fh tm0 dn Cw.length c1 c2 C2.length c3 c4 cho st) ++ pl) := ⟨hP, hD, va_S.rf⟩
  obtain ⟨Q, hQ⟩ : ∃ Q : State → Prop, Q = vx_MQ below (cQ G A pl (fun o9 X1 nw => st = 1 ∧ (0 ≤ n0.toInt ∧ n0.toInt ≤ 200) ∧ ∃ cn, cn = stp n0 (3 + 2 * Cw.length - dn) ∧ o9 = some (.int (nI cn)) ∧ ((dn + cn = 3 + 2 * Cw.length ∧ kRep cB cI cE cS z X1 (pl ++ nw) T rd Ls (M (dn + cn)) Lr (Sn ++ [(tm0, Cw.length, M (dn + cn))]) Cw C2 tm0 (dn + cn) cho 0) ∨ (dn + cn ≠ 3 + 2 * Cw.length ∧ kRep cB cI cE cS z X1 (pl ++ nw) T rd Ls (M (dn + cn)) Lr Sn Cw C2 tm0 (dn + cn) cho st)))) (xX G A pl (fun E X1 nw => (E = ISE ∧ st ≠ 1 ∧ kRep cB cI cE cS z X1 (pl ++ nw) T rd Ls Lm Lr Sn Cw C2 tm0 dn cho st) ∨ (E = IAE ∧ st = 1 ∧ ¬ (0 ≤ n0.toInt ∧ n0.toInt ≤ 200) ∧ kRep cB cI cE cS z X1 (pl ++ nw) T rd Ls Lm Lr Sn Cw C2 tm0 dn cho st))) args s 3 125 A := ⟨_, rfl⟩
  change W p l e ({ frames := 6, cells := 3, slots := 125, locals := 135 } : Room) s m args below meth c s.heap [] 0 0 (vx_MQ below (cQ G (va_A ((kX cB cI cE cS z T.length g fb Ls.length f1 Lm.length f2 Lr.length f3 Sn.length fh tm0 dn Cw.length c1 c2 C2.length c3 c4 cho st) ++ pl) s.heap.size) pl (fun o9 X1 nw => st = 1 ∧ (0 ≤ n0.toInt ∧ n0.toInt ≤ 200) ∧ ∃ cn, cn = stp n0 (3 + 2 * Cw.length - dn) ∧ o9 = some (.int (nI cn)) ∧ ((dn + cn = 3 + 2 * Cw.length ∧ kRep cB cI cE cS z X1 (pl ++ nw) T rd Ls (M (dn + cn)) Lr (Sn ++ [(tm0, Cw.length, M (dn + cn))]) Cw C2 tm0 (dn + cn) cho 0) ∨ (dn + cn ≠ 3 + 2 * Cw.length ∧ kRep cB cI cE cS z X1 (pl ++ nw) T rd Ls (M (dn + cn)) Lr Sn Cw C2 tm0 (dn + cn) cho st)))) (xX G (va_A ((kX cB cI cE cS z T.length g fb Ls.length f1 Lm.length f2 Lr.length f3 Sn.length fh tm0 dn Cw.length c1 c2 C2.length c3 c4 cho st) ++ pl) s.heap.size) pl (fun E X1 nw => (E = ISE ∧ st ≠ 1 ∧ kRep cB cI cE cS z X1 (pl ++ nw) T rd Ls Lm Lr Sn Cw C2 tm0 dn cho st) ∨ (E = IAE ∧ st = 1 ∧ ¬ (0 ≤ n0.toInt ∧ n0.toInt ≤ 200) ∧ kRep cB cI cE cS z X1 (pl ++ nw) T rd Ls Lm Lr Sn Cw C2 tm0 dn cho st))) args s 3 125 (va_A ((kX cB cI cE cS z T.length g fb Ls.length f1 Lm.length f2 Lr.length f3 Sn.length fh tm0 dn Cw.length c1 c2 C2.length c3 c4 cho st) ++ pl) s.heap.size)) (entryFrame m args 4)
  rw [← hAe]
  rw [← hQ]
  refine nn_entry hargs (Nat.le_of_ble_eq_true rfl) (lv := [(0, .ref (z 0)), (1, .int n0)]) rfl (fun ls hl => ?_)
  have hcw := hcr.1
  refine lv_aload_n hx hb dX8_step_0 rfl (lv_at hl 0 rfl) ?_
  refine xg (ci := 7) (C := RX8) (T := TX8) (N := 9) (v := .int (nI st)) hx hb hts inX8 hown hK hR.1 (List.mem_of_getElem? (i := 0) rfl) rfl 8 (by decide) k_54 (fun _ h => h) rfl dX8_step_1 ?_
  refine lv_iconst (v := nI 1) hx hb dX8_step_4 rfl ?_
  refine nn_eq hx hb dX8_step_5 (tgt := 18) (by decide) (by omega) (by omega) (fun c_1 => ?_) (fun c_1 => ?_)
  · obtain ⟨hdn, hM0, hM⟩ := hq9 (by omega)
    refine lv_iload_n hx hb dX8_step_18 rfl (lv_at hl 1 rfl) ?_
    refine pf_callS (As := [.int n0]) (rest := []) (p_isOperationCount l hT (w := ((kX cB cI cE cS z T.length g fb Ls.length f1 Lm.length f2 Lr.length f3 Sn.length fh tm0 dn Cw.length c1 c2 C2.length c3 c4 cho st) ++ pl)) n0) ⟨hx, hb, hml, hown, hts⟩ (va_cwS 1 hts gX8_step_X8_isOperationCount rfl rfl rfl (by decide +kernel) ⟨Nat.le_of_ble_eq_true rfl, Nat.le_of_ble_eq_true rfl⟩) hK hR.1 rfl hl.1 rfl (Nat.le_of_ble_eq_true rfl) dX8_step_19 ⟨Nat.le_of_ble_eq_true rfl, Nat.le_of_ble_eq_true rfl⟩ (fun r_2 hr_2 => ?_)
    subst hr_2
    refine nb_ifne hx hb dX8_step_22 (tgt := 35) (by decide) (fun c_3 => ?_) (fun c_3 => ?_)
    · have c_3 := of_decide_eq_true c_3
      obtain ⟨n, hn, hn2, hn3⟩ := zn_ex (x := n0) (by omega)
      rw [hn] at hl
      refine lv_iload_n hx hb dX8_step_35 rfl (lv_at hl 1 rfl) ?_
      refine lv_aload_n hx hb dX8_step_36 rfl (lv_at hl 0 rfl) ?_
      refine xg (ci := 7) (C := RX8) (T := TX8) (N := 9) (v := .ref (z 12)) hx hb hts inX8 hown hK hR.1 (List.mem_of_getElem? (i := 0) rfl) rfl 5 (by decide) k_39 (fun _ h => h) rfl dX8_step_37 ?_
      refine pf_callV (C := RX7) (As := []) (rest := [.int (nI n)]) (p_wops l hT (cRows.rep hcr (List.mem_of_getElem? (i := 13) rfl) (List.mem_of_getElem? (i := 14) rfl) (List.mem_of_getElem? (i := 15) rfl)) (List.mem_of_getElem? (i := 12) rfl) (by omega)) ⟨hx, hb, hml, hown, hts⟩ (cwV 0 hts gX8_step_X7_operations rfl rfl rfl (by decide +kernel) ⟨Nat.le_of_ble_eq_true rfl, Nat.le_of_ble_eq_true rfl⟩) hK hR.1 (xrecv (ci := 6) hK hR.1 rfl (List.mem_of_getElem? (i := 12) rfl)) rfl hl.1 rfl (Nat.le_of_ble_eq_true rfl) dX8_step_40 ⟨Nat.le_of_ble_eq_true rfl, Nat.le_of_ble_eq_true rfl⟩ (fun r_4 hr_4 => ?_)
      subst hr_4
      refine lv_aload_n hx hb dX8_step_43 rfl (lv_at hl 0 rfl) ?_
      refine xg (ci := 7) (C := RX8) (T := TX8) (N := 9) (v := .ref (z 12)) hx hb hts inX8 hown hK hR.1 (List.mem_of_getElem? (i := 0) rfl) rfl 5 (by decide) k_39 (fun _ h => h) rfl dX8_step_44 ?_
      refine xg (ci := 6) (C := RX7) (T := TX7) (N := 3) (v := .int (nI dn)) hx hb hts inX7 hown hK hR.1 (List.mem_of_getElem? (i := 12) rfl) rfl 2 (by decide) k_212 (fun _ h => h) rfl dX8_step_47 ?_
      refine nn_sub hx hb (by omega) dX8_step_50 ?_
      refine va_mmin hx hb (hml.trans hl.1.symm) hown (hts (.methodLink RX8 215 Lib.Math.min.name) (by decide +kernel)) (hts (.static Lib.Math.min.name) (by decide +kernel)) (hts (.initialized "java/lang/Math") (by decide +kernel)) (hts (.code Lib.Math.min.name Lib.Math.min.code 2 (some .int)) (by decide +kernel)) (Nat.le_of_ble_eq_true rfl) (Nat.le_of_ble_eq_true rfl) (Nat.le_of_ble_eq_true rfl) (Nat.le_of_ble_eq_true rfl) dX8_step_51 ?_
      refine nn_eqi (y := nI (if 3 + 2 * Cw.length - dn < n then 3 + 2 * Cw.length - dn else n)) (min_nI (by omega) (by omega)) ?_
      obtain ⟨cn, hcn⟩ : ∃ cn, cn = (if 3 + 2 * Cw.length - dn < n then 3 + 2 * Cw.length - dn else n) := ⟨_, rfl⟩
      have hcn2 : cn ≤ 3 + 2 * Cw.length - dn := by rw [hcn]; split <;> omega
      have hcn3 : cn = stp n0 (3 + 2 * Cw.length - dn) := by rw [hcn]; unfold stp; split <;> split <;> omega
      rw [← hcn]
      refine lv_istore_n (lv' := [(2, .int (nI cn)), (0, .ref (z 0)), (1, .int (nI n))]) hx hb dX8_step_54 rfl hl (by decide) rfl (fun ls hl => ?_)
      refine lv_iconst (v := nI 0) hx hb dX8_step_55 rfl ?_
      refine lv_istore_n (lv' := [(3, .int (nI 0)), (2, .int (nI cn)), (0, .ref (z 0)), (1, .int (nI n))]) hx hb dX8_step_56 rfl hl (by decide) rfl (fun ls hl => ?_)
      rw [hM0] at hR
      have lp_57 : ∀ (n_57 : Nat) (k : Nat) (mm : Nat) (f2 : Nat → Option Nat) (H : Heap) (locs : List Loc) (ls : Array Slot), (cn - k) < n_57 → (k ≤ cn) → (mm = dn + k) → (tRows pl cB f2 (M mm)) → rR G A s.heap H locs ((kX cB cI cE cS z T.length g fb Ls.length f1 ((M mm).length) f2 Lr.length f3 Sn.length fh tm0 mm Cw.length c1 c2 C2.length c3 c4 cho st) ++ pl) → lv_has ls 4 [(0, .ref (z 0)), (1, .int (nI n)), (2, .int (nI cn)), (3, .int (nI k))] → W p l e ({ frames := 6, cells := 3, slots := 125, locals := 135 } : Room) s m args below meth c H locs 0 0 Q (F0 m 57 ls []) := by
        intro n_57
        induction n_57 with
        | zero => intro k mm f2 H locs ls h0; exact absurd h0 (Nat.not_lt_zero _)
        | succ n_57 ih_57 =>
          intro k mm f2 H locs ls hm_57 hk hm hf2 hR hl
          refine lv_iload_n hx hb dX8_step_57 rfl (lv_at hl 3 rfl) ?_
          refine lv_iload_n hx hb dX8_step_58 rfl (lv_at hl 2 rfl) ?_
          refine nn_ge hx hb dX8_step_59 (tgt := 79) (by decide) (by omega) (by omega) (fun c_5 => ?_) (fun c_5 => ?_)
          · refine lv_aload_n hx hb dX8_step_79 rfl (lv_at hl 0 rfl) ?_
            refine xg (ci := 7) (C := RX8) (T := TX8) (N := 9) (v := .ref (z 12)) hx hb hts inX8 hown hK hR.1 (List.mem_of_getElem? (i := 0) rfl) rfl 5 (by decide) k_39 (fun _ h => h) rfl dX8_step_80 ?_
            refine xg (ci := 6) (C := RX7) (T := TX7) (N := 3) (v := .int (nI mm)) hx hb hts inX7 hown hK hR.1 (List.mem_of_getElem? (i := 12) rfl) rfl 2 (by decide) k_212 (fun _ h => h) rfl dX8_step_83 ?_
            refine lv_aload_n hx hb dX8_step_86 rfl (lv_at hl 0 rfl) ?_
            refine xg (ci := 7) (C := RX8) (T := TX8) (N := 9) (v := .ref (z 12)) hx hb hts inX8 hown hK hR.1 (List.mem_of_getElem? (i := 0) rfl) rfl 5 (by decide) k_39 (fun _ h => h) rfl dX8_step_87 ?_
            refine pf_callV (C := RX7) (As := []) (rest := [.int (nI mm)]) (p_wops l hT (cRows.rep hcr (List.mem_of_getElem? (i := 13) rfl) (List.mem_of_getElem? (i := 14) rfl) (List.mem_of_getElem? (i := 15) rfl)) (List.mem_of_getElem? (i := 12) rfl) (by omega)) ⟨hx, hb, hml, hown, hts⟩ (cwV 0 hts gX8_step_X7_operations rfl rfl rfl (by decide +kernel) ⟨Nat.le_of_ble_eq_true rfl, Nat.le_of_ble_eq_true rfl⟩) hK hR.1 (xrecv (ci := 6) hK hR.1 rfl (List.mem_of_getElem? (i := 12) rfl)) rfl hl.1 rfl (Nat.le_of_ble_eq_true rfl) dX8_step_90 ⟨Nat.le_of_ble_eq_true rfl, Nat.le_of_ble_eq_true rfl⟩ (fun r_6 hr_6 => ?_)
            subst hr_6
            refine nn_ne hx hb dX8_step_93 (tgt := 100) (by decide) (by omega) (by omega) (fun c_7 => ?_) (fun c_7 => ?_)
            · refine lv_iload_n hx hb dX8_step_100 rfl (lv_at hl 2 rfl) ?_
              rw [hQ]
              refine vx_ret ?_
              refine W.widen (k := 3) (n := 125) (by omega) (by omega) ?_
              refine xc_iret (X1 := (kX cB cI cE cS z T.length g fb Ls.length f1 ((M mm).length) f2 Lr.length f3 Sn.length fh tm0 mm Cw.length c1 c2 C2.length c3 c4 cho st)) (nw := []) hx hb hr hlocks ?_ ?_ dX8_step_101
              · rw [List.append_nil]; exact hR
              · try rw [List.append_nil]
                exact ⟨by omega, by omega, mm - dn, by omega, by rw [show mm - dn = cn by omega], Or.inr ⟨by omega, by rw [show dn + (mm - dn) = mm by omega]; exact ⟨_, _, _, _, _, _, _, _, _, _, rfl, hrd, htp, hr1, hf2, hr3, hhr, hcr, hcr2⟩⟩⟩
            · refine lv_aload_n hx hb dX8_step_96 rfl (lv_at hl 0 rfl) ?_
              have hSl9 := hSl (by omega)
              refine xc_callV (C := RX8) (As := []) (rest := []) (cx := (kX cB cI cE cS z T.length g fb Ls.length f1 ((M mm).length) f2 Lr.length f3 Sn.length fh tm0 mm Cw.length c1 c2 C2.length c3 c4 cho st)) (wr := []) (K_commit l hT ⟨_, _, _, _, _, _, _, _, _, _, rfl, hrd, htp, hr1, hf2, hr3, hhr, hcr, hcr2⟩ hSl9) ⟨hx, hb, hml, hown, hts⟩ (cwV 0 hts gX8_step_X8_commit rfl rfl rfl (by decide +kernel) ⟨Nat.le_of_ble_eq_true rfl, Nat.le_of_ble_eq_true rfl⟩) hK hZ hR hA (xrecv (ci := 7) hK hR.1 rfl (List.mem_of_getElem? (i := 0) rfl)) [0, 1, 2, 3, 4, 5, 6, 7, 8, 9, 10, 11, 12, 13, 14, 15, 16, 17, 18] [] rfl rfl (by decide) (by decide) (by decide) rfl hl.1 rfl (Nat.le_of_ble_eq_true rfl) dX8_step_97 ⟨Nat.le_of_ble_eq_true rfl, Nat.le_of_ble_eq_true rfl⟩ (fun r_8 X_r_8 nw_r_8 H locs hr_8 hR => ?_)
              obtain ⟨rfl, g, fb, f1, f2, f3, fh, c1, c2, c3, c4, rfl, hrd, htp, hr1, hr2, hr3, hhr, hcr, hcr2⟩ := hr_8
              obtain hR : rR G A s.heap H locs (_ ++ (pl ++ nw_r_8)) := hR
              obtain ⟨pl1, e_pl1, sb_pl_pl1⟩ : ∃ z : va_W, z = pl ++ nw_r_8 ∧ ∀ q, q ∈ pl → q ∈ z := ⟨_, rfl, plm⟩
              rw [← e_pl1] at hR hr1 hr2 hr3 hhr hcr hcr2
              have t_pl1 : pl1 = pl ++ nw_r_8 := e_pl1
              have hR : rR G A s.heap _ _ ((kX cB cI cE cS z T.length g fb Ls.length f1 ((M mm).length) f2 Lr.length f3 ((Sn ++ [(tm0, Cw.length, M mm)]).length) fh tm0 mm Cw.length c1 c2 C2.length c3 c4 cho 0) ++ pl1) := hR
              refine lv_iload_n hx hb dX8_step_100 rfl (lv_at hl 2 rfl) ?_
              rw [hQ]
              refine vx_ret ?_
              refine W.widen (k := 3) (n := 125) (by omega) (by omega) ?_
              refine xc_iret (X1 := (kX cB cI cE cS z T.length g fb Ls.length f1 ((M mm).length) f2 Lr.length f3 ((Sn ++ [(tm0, Cw.length, M mm)]).length) fh tm0 mm Cw.length c1 c2 C2.length c3 c4 cho 0)) (nw := nw_r_8) hx hb hr hlocks ?_ ?_ dX8_step_101
              · rw [← t_pl1]; exact hR
              · try rw [← t_pl1]
                exact (⟨by omega, by omega, mm - dn, by omega, by rw [show mm - dn = cn by omega], Or.inl ⟨by omega, by rw [show dn + (mm - dn) = mm by omega]; exact ⟨_, _, _, _, _, _, _, _, _, _, rfl, hrd, htp, hr1, hr2, hr3, hhr, hcr, hcr2⟩⟩⟩)
          · refine lv_aload_n hx hb dX8_step_62 rfl (lv_at hl 0 rfl) ?_
            refine xg (ci := 7) (C := RX8) (T := TX8) (N := 9) (v := .ref (z 12)) hx hb hts inX8 hown hK hR.1 (List.mem_of_getElem? (i := 0) rfl) rfl 5 (by decide) k_39 (fun _ h => h) rfl dX8_step_63 ?_
            refine lv_aload_n hx hb dX8_step_66 rfl (lv_at hl 0 rfl) ?_
            refine xg (ci := 7) (C := RX8) (T := TX8) (N := 9) (v := .ref (z 6)) hx hb hts inX8 hown hK hR.1 (List.mem_of_getElem? (i := 0) rfl) rfl 2 (by decide) k_23 (fun _ h => h) rfl dX8_step_67 ?_
            obtain ⟨hm1, hm2, hm3⟩ := hM mm (by omega)
            refine xc_callV (C := RX7) (As := [.ref (z 6)]) (rest := []) (cx := [(z 12, .inr (6, [.ref (z 13), .int tm0, .int (nI mm)])), (z 13, .inr (0, [.ref (z 14), .ref (z 15), .int (nI Cw.length)])), (z 14, .inl (cE, 180, rfs c1)), (z 15, .inl (cE, 180, rfs c2)), (z 6, .inr (5, [.ref (z 7), .int (nI ((M mm).length))])), (z 7, .inl (cE, 120, rfs f2))]) (wr := (([0, 1, 2, 3, 4, 5, 8, 9, 10, 11, 16, 17, 18] : List Nat).filterMap (fun i => (kX cB cI cE cS z T.length g fb Ls.length f1 ((M mm).length) f2 Lr.length f3 Sn.length fh tm0 mm Cw.length c1 c2 C2.length c3 c4 cho st)[i]?))) (c_doNext l hT hcr hf2 mm (by omega) hm1 hm3) ⟨hx, hb, hml, hown, hts⟩ (cwV 1 hts gX8_step_X7_doNext rfl rfl rfl (by decide +kernel) ⟨Nat.le_of_ble_eq_true rfl, Nat.le_of_ble_eq_true rfl⟩) hK hZ hR hA (xrecv (ci := 6) hK hR.1 rfl (List.mem_of_getElem? (i := 12) rfl)) [12, 13, 14, 15, 6, 7] [0, 1, 2, 3, 4, 5, 8, 9, 10, 11, 16, 17, 18] rfl rfl (by decide) (by decide) (by decide) rfl hl.1 rfl (Nat.le_of_ble_eq_true rfl) dX8_step_70 ⟨Nat.le_of_ble_eq_true rfl, Nat.le_of_ble_eq_true rfl⟩ (fun r_9 X_r_9 nw_r_9 H locs hr_9 hR => ?_)
            obtain ⟨rfl, rfl, g6, rfl, hg6⟩ := hr_9
            rw [hm2] at hg6 hR
            have hR : rR G A s.heap _ _ ((kX cB cI cE cS z T.length g fb Ls.length f1 ((M (mm + 1)).length) g6 Lr.length f3 Sn.length fh tm0 (mm + 1) Cw.length c1 c2 C2.length c3 c4 cho st) ++ pl) := xc_perm (xc_nil hR) [0, 1, 2, 3, 4, 5, 17, 18, 6, 7, 8, 9, 13, 14, 15, 16, 10, 11, 12] rfl (by decide)
            refine lv_iinc (v := nI (k + 1)) (lv' := [(3, .int (nI (k + 1))), (0, .ref (z 0)), (1, .int (nI n)), (2, .int (nI cn))]) hx hb dX8_step_73 hl (k := 3) rfl (nI_add k 1) (by decide) rfl (fun ls hl => ?_)
            refine lv_goto (tgt := 57) hx hb dX8_step_76 (by decide) ?_
            exact ih_57 (k + 1) (mm + 1) g6 _ _ _ (by omega) (by omega) (by omega) hg6 hR (lv_sub hl [1, 2, 3, 0] rfl)
      exact lp_57 (((cn - 0)) + 1) 0 dn f2 _ _ _ (Nat.lt_succ_self _) (Nat.zero_le _) rfl (by rw [← hM0]; exact hr2) hR (lv_sub hl [2, 3, 1, 0] rfl)
    · have c_3 := of_decide_eq_false c_3
      rw [hQ]
      refine xc_throw (X := (kX cB cI cE cS z T.length g fb Ls.length f1 Lm.length f2 Lr.length f3 Sn.length fh tm0 dn Cw.length c1 c2 C2.length c3 c4 cho st)) (nw := []) IAE 92 96 210 "no such number of operations" xfit_iae xg_iae xn_iae hx hb hlt hown hts hZ (by decide +kernel) (by decide +kernel) (by decide +kernel) (by decide +kernel) hU ?_ ?_ (hl.1.trans hml.symm) dX8_step_25 dX8_step_28 dX8_step_29 dX8_step_31 dX8_step_34 htb (Nat.le_of_ble_eq_true rfl) (Nat.le_of_ble_eq_true rfl) (Nat.le_of_ble_eq_true rfl) (Nat.le_of_ble_eq_true rfl) hlocks (Nat.le_of_ble_eq_true rfl) (Nat.le_of_ble_eq_true rfl)
      · rw [List.append_nil]; exact hR
      · try rw [List.append_nil]
        exact (Or.inr ⟨rfl, by omega, by omega, ⟨_, _, _, _, _, _, _, _, _, _, rfl, hrd, htp, hr1, hr2, hr3, hhr, hcr, hcr2⟩⟩)
  · rw [hQ]
    refine xc_throw (X := (kX cB cI cE cS z T.length g fb Ls.length f1 Lm.length f2 Lr.length f3 Sn.length fh tm0 dn Cw.length c1 c2 C2.length c3 c4 cho st)) (nw := []) ISE 65 69 205 "no session is under way" xfit_ise xg_ise xn_ise hx hb hlt hown hts hZ (by decide +kernel) (by decide +kernel) (by decide +kernel) (by decide +kernel) hU ?_ ?_ (hl.1.trans hml.symm) dX8_step_8 dX8_step_11 dX8_step_12 dX8_step_14 dX8_step_17 htb (Nat.le_of_ble_eq_true rfl) (Nat.le_of_ble_eq_true rfl) (Nat.le_of_ble_eq_true rfl) (Nat.le_of_ble_eq_true rfl) hlocks (Nat.le_of_ble_eq_true rfl) (Nat.le_of_ble_eq_true rfl)
    · rw [List.append_nil]; exact hR
    · try rw [List.append_nil]
      exact (Or.inl ⟨rfl, by omega, ⟨_, _, _, _, _, _, _, _, _, _, rfl, hrd, htp, hr1, hr2, hr3, hhr, hcr, hcr2⟩⟩)
set_option maxHeartbeats 4000000 in
set_option maxRecDepth 100000 in
theorem K_regress (l : Launch) {G : va_G} {tys : List (ClassId × FieldType)} {cB cI cE cS : ClassId} (hT : tys = [(cB, .byte), (cI, .int), (cE, .object RX1), (cS, .object RX4)]) {pl : va_W} {sz : Nat} (hlt : l.stackTraces = false) {z : Nat → Nat} {X : va_W} {T rd : List Nat} {Ls Lm Lr : List En} {Sn : List Se} {Cw C2 : List Cg} {tm0 : Int32} {dn : Nat} {cho : Int32} {st : Nat} (hk : kRep cB cI cE cS z X pl T rd Ls Lm Lr Sn Cw C2 tm0 dn cho st) (n0 : Int32) (hst9 : st ≤ 2) (M : Nat → List En) (hq9 : st = 2 → dn ≤ 3 + 2 * Cw.length ∧ Lm = M dn ∧ ∀ d, d < 3 + 2 * Cw.length → srt (M (d + 1)) ∧ bkL Cw d (M (d + 1)) = M d ∧ (2 ≤ d ∧ d ≤ 2 * Cw.length ∧ d % 2 = 0 → exOK (M (d + 1)) (Cw.getD (d / 2 - 1) c0).2 (Cw.getD (d / 2 - 1) c0).1))  : xMet l yX8_regress wsX8_regress ({ frames := 6, cells := 1, slots := 6, locals := 135 } : Room) G tys [.ref (z 0), .int n0] X pl sz 1 6 (fun o9 X1 nw => st = 2 ∧ (0 ≤ n0.toInt ∧ n0.toInt ≤ 200) ∧ ∃ cn, cn = stp n0 dn ∧ o9 = some (.int (nI cn)) ∧ kRep cB cI cE cS z X1 (pl ++ nw) T rd Ls (M (dn - cn)) Lr Sn Cw C2 tm0 (dn - cn) cho (if dn - cn = 0 then 0 else 2)) (fun E X1 nw => (E = ISE ∧ st ≠ 2 ∧ kRep cB cI cE cS z X1 (pl ++ nw) T rd Ls Lm Lr Sn Cw C2 tm0 dn cho st) ∨ (E = IAE ∧ st = 2 ∧ ¬ (0 ≤ n0.toInt ∧ n0.toInt ≤ 200) ∧ kRep cB cI cE cS z X1 (pl ++ nw) T rd Ls Lm Lr Sn Cw C2 tm0 dn cho st)) := by
  obtain ⟨g, fb, f1, f2, f3, fh, c1, c2, c3, c4, rfl, hrd, htp, hr1, hr2, hr3, hhr, hcr, hcr2⟩ := hk
  have hT0 : tys[0]? = some (cB, .byte) := by rw [hT]; rfl
  have hT1 : tys[1]? = some (cI, .int) := by rw [hT]; rfl
  have hT2 : tys[2]? = some (cE, .object RX1) := by rw [hT]; rfl
  have hT3 : tys[3]? = some (cS, .object RX4) := by rw [hT]; rfl
  refine vx_ofW (cc := cX8_regress) (maxL := 4) (ret := (some .int)) (by decide) rfl ?_
  intro p e s m args below meth c s₁ B hml htb hv
  obtain ⟨hargs, ⟨hsz, hP, hK, hD0, hZ⟩, hU⟩ := hv
  have hx := B.exec
  have hb := B.bytes
  have hr := B.returns
  have hts := atoms_spec (ws := wsX8_regress) B.pre
  have hown : s.vm.findClass RX8 = some m.cls := findClass_of_methodNamed B.named
  have hlocks := B.notSynchronized
  subst hsz
  have hD := hD0.self (sz := s.heap.size)
  obtain ⟨A, hAe⟩ : ∃ A : Nat → Prop, A = va_A ((kX cB cI cE cS z T.length g fb Ls.length f1 Lm.length f2 Lr.length f3 Sn.length fh tm0 dn Cw.length c1 c2 C2.length c3 c4 cho st) ++ pl) s.heap.size := ⟨_, rfl⟩
  rw [← hAe] at hD hU
  have hA : ∀ q : Nat, s.heap.size ≤ q → A q := fun q h => by rw [hAe]; exact Or.inr h
  have inX7 : ∀ w ∈ wsX70, w ∈ wsX8_regress := by decide +kernel
  have inX8 : ∀ w ∈ wsX80, w ∈ wsX8_regress := by decide +kernel
  have k_23 := hts (.fieldLink RX8 23 "MirrorKeep" "mirror" "LMirrorKeep$Tree;") (by decide +kernel)
  have k_39 := hts (.fieldLink RX8 39 "MirrorKeep" "work" "LMirrorKeep$Work;") (by decide +kernel)
  have k_54 := hts (.fieldLink RX8 54 "MirrorKeep" "state" "I") (by decide +kernel)
  have k_212 := hts (.fieldLink RX8 212 "MirrorKeep$Work" "done" "I") (by decide +kernel)
  have hR : rR G A s.heap s.heap [] ((kX cB cI cE cS z T.length g fb Ls.length f1 Lm.length f2 Lr.length f3 Sn.length fh tm0 dn Cw.length c1 c2 C2.length c3 c4 cho st) ++ pl) := ⟨hP, hD, va_S.rf⟩
  obtain ⟨Q, hQ⟩ : ∃ Q : State → Prop, Q = vx_MQ below (cQ G A pl (fun o9 X1 nw => st = 2 ∧ (0 ≤ n0.toInt ∧ n0.toInt ≤ 200) ∧ ∃ cn, cn = stp n0 dn ∧ o9 = some (.int (nI cn)) ∧ kRep cB cI cE cS z X1 (pl ++ nw) T rd Ls (M (dn - cn)) Lr Sn Cw C2 tm0 (dn - cn) cho (if dn - cn = 0 then 0 else 2))) (xX G A pl (fun E X1 nw => (E = ISE ∧ st ≠ 2 ∧ kRep cB cI cE cS z X1 (pl ++ nw) T rd Ls Lm Lr Sn Cw C2 tm0 dn cho st) ∨ (E = IAE ∧ st = 2 ∧ ¬ (0 ≤ n0.toInt ∧ n0.toInt ≤ 200) ∧ kRep cB cI cE cS z X1 (pl ++ nw) T rd Ls Lm Lr Sn Cw C2 tm0 dn cho st))) args s 1 6 A := ⟨_, rfl⟩
  change W p l e ({ frames := 6, cells := 1, slots := 6, locals := 135 } : Room) s m args below meth c s.heap [] 0 0 (vx_MQ below (cQ G (va_A ((kX cB cI cE cS z T.length g fb Ls.length f1 Lm.length f2 Lr.length f3 Sn.length fh tm0 dn Cw.length c1 c2 C2.length c3 c4 cho st) ++ pl) s.heap.size) pl (fun o9 X1 nw => st = 2 ∧ (0 ≤ n0.toInt ∧ n0.toInt ≤ 200) ∧ ∃ cn, cn = stp n0 dn ∧ o9 = some (.int (nI cn)) ∧ kRep cB cI cE cS z X1 (pl ++ nw) T rd Ls (M (dn - cn)) Lr Sn Cw C2 tm0 (dn - cn) cho (if dn - cn = 0 then 0 else 2))) (xX G (va_A ((kX cB cI cE cS z T.length g fb Ls.length f1 Lm.length f2 Lr.length f3 Sn.length fh tm0 dn Cw.length c1 c2 C2.length c3 c4 cho st) ++ pl) s.heap.size) pl (fun E X1 nw => (E = ISE ∧ st ≠ 2 ∧ kRep cB cI cE cS z X1 (pl ++ nw) T rd Ls Lm Lr Sn Cw C2 tm0 dn cho st) ∨ (E = IAE ∧ st = 2 ∧ ¬ (0 ≤ n0.toInt ∧ n0.toInt ≤ 200) ∧ kRep cB cI cE cS z X1 (pl ++ nw) T rd Ls Lm Lr Sn Cw C2 tm0 dn cho st))) args s 1 6 (va_A ((kX cB cI cE cS z T.length g fb Ls.length f1 Lm.length f2 Lr.length f3 Sn.length fh tm0 dn Cw.length c1 c2 C2.length c3 c4 cho st) ++ pl) s.heap.size)) (entryFrame m args 4)
  rw [← hAe]
  rw [← hQ]
  refine nn_entry hargs (Nat.le_of_ble_eq_true rfl) (lv := [(0, .ref (z 0)), (1, .int n0)]) rfl (fun ls hl => ?_)
  have hcw := hcr.1
  refine lv_aload_n hx hb dX8_regress_0 rfl (lv_at hl 0 rfl) ?_
  refine xg (ci := 7) (C := RX8) (T := TX8) (N := 9) (v := .int (nI st)) hx hb hts inX8 hown hK hR.1 (List.mem_of_getElem? (i := 0) rfl) rfl 8 (by decide) k_54 (fun _ h => h) rfl dX8_regress_1 ?_
  refine lv_iconst (v := nI 2) hx hb dX8_regress_4 rfl ?_
  refine nn_eq hx hb dX8_regress_5 (tgt := 18) (by decide) (by omega) (by omega) (fun c_1 => ?_) (fun c_1 => ?_)
  · obtain ⟨hdn, hM0, hM⟩ := hq9 (by omega)
    refine lv_iload_n hx hb dX8_regress_18 rfl (lv_at hl 1 rfl) ?_
    refine pf_callS (As := [.int n0]) (rest := []) (p_isOperationCount l hT (w := ((kX cB cI cE cS z T.length g fb Ls.length f1 Lm.length f2 Lr.length f3 Sn.length fh tm0 dn Cw.length c1 c2 C2.length c3 c4 cho st) ++ pl)) n0) ⟨hx, hb, hml, hown, hts⟩ (va_cwS 1 hts gX8_regress_X8_isOperationCount rfl rfl rfl (by decide +kernel) ⟨Nat.le_of_ble_eq_true rfl, Nat.le_of_ble_eq_true rfl⟩) hK hR.1 rfl hl.1 rfl (Nat.le_of_ble_eq_true rfl) dX8_regress_19 ⟨Nat.le_of_ble_eq_true rfl, Nat.le_of_ble_eq_true rfl⟩ (fun r_2 hr_2 => ?_)
    subst hr_2
    refine nb_ifne hx hb dX8_regress_22 (tgt := 35) (by decide) (fun c_3 => ?_) (fun c_3 => ?_)
    · have c_3 := of_decide_eq_true c_3
      obtain ⟨n, hn, hn2, hn3⟩ := zn_ex (x := n0) (by omega)
      rw [hn] at hl
      refine lv_iload_n hx hb dX8_regress_35 rfl (lv_at hl 1 rfl) ?_
      refine lv_aload_n hx hb dX8_regress_36 rfl (lv_at hl 0 rfl) ?_
      refine xg (ci := 7) (C := RX8) (T := TX8) (N := 9) (v := .ref (z 12)) hx hb hts inX8 hown hK hR.1 (List.mem_of_getElem? (i := 0) rfl) rfl 5 (by decide) k_39 (fun _ h => h) rfl dX8_regress_37 ?_
      refine xg (ci := 6) (C := RX7) (T := TX7) (N := 3) (v := .int (nI dn)) hx hb hts inX7 hown hK hR.1 (List.mem_of_getElem? (i := 12) rfl) rfl 2 (by decide) k_212 (fun _ h => h) rfl dX8_regress_40 ?_
      refine va_mmin hx hb (hml.trans hl.1.symm) hown (hts (.methodLink RX8 215 Lib.Math.min.name) (by decide +kernel)) (hts (.static Lib.Math.min.name) (by decide +kernel)) (hts (.initialized "java/lang/Math") (by decide +kernel)) (hts (.code Lib.Math.min.name Lib.Math.min.code 2 (some .int)) (by decide +kernel)) (Nat.le_of_ble_eq_true rfl) (Nat.le_of_ble_eq_true rfl) (Nat.le_of_ble_eq_true rfl) (Nat.le_of_ble_eq_true rfl) dX8_regress_43 ?_
      refine nn_eqi (y := nI (if dn < n then dn else n)) (min_nI (by omega) (by omega)) ?_
      obtain ⟨cn, hcn⟩ : ∃ cn, cn = (if dn < n then dn else n) := ⟨_, rfl⟩
      have hcn2 : cn ≤ dn := by rw [hcn]; split <;> omega
      have hcn3 : cn = stp n0 (dn) := by rw [hcn]; unfold stp; split <;> split <;> omega
      rw [← hcn]
      refine lv_istore_n (lv' := [(2, .int (nI cn)), (0, .ref (z 0)), (1, .int (nI n))]) hx hb dX8_regress_46 rfl hl (by decide) rfl (fun ls hl => ?_)
      refine lv_iconst (v := nI 0) hx hb dX8_regress_47 rfl ?_
      refine lv_istore_n (lv' := [(3, .int (nI 0)), (2, .int (nI cn)), (0, .ref (z 0)), (1, .int (nI n))]) hx hb dX8_regress_48 rfl hl (by decide) rfl (fun ls hl => ?_)
      rw [hM0] at hR
      have lp_49 : ∀ (n_49 : Nat) (k : Nat) (mm : Nat) (f2 : Nat → Option Nat) (H : Heap) (locs : List Loc) (ls : Array Slot), (cn - k) < n_49 → (k ≤ cn) → (mm + k = dn) → (tRows pl cB f2 (M mm)) → rR G A s.heap H locs ((kX cB cI cE cS z T.length g fb Ls.length f1 ((M mm).length) f2 Lr.length f3 Sn.length fh tm0 mm Cw.length c1 c2 C2.length c3 c4 cho st) ++ pl) → lv_has ls 4 [(0, .ref (z 0)), (1, .int (nI n)), (2, .int (nI cn)), (3, .int (nI k))] → W p l e ({ frames := 6, cells := 1, slots := 6, locals := 135 } : Room) s m args below meth c H locs 0 0 Q (F0 m 49 ls []) := by
        intro n_49
        induction n_49 with
        | zero => intro k mm f2 H locs ls h0; exact absurd h0 (Nat.not_lt_zero _)
        | succ n_49 ih_49 =>
          intro k mm f2 H locs ls hm_49 hk hm hf2 hR hl
          refine lv_iload_n hx hb dX8_regress_49 rfl (lv_at hl 3 rfl) ?_
          refine lv_iload_n hx hb dX8_regress_50 rfl (lv_at hl 2 rfl) ?_
          refine nn_ge hx hb dX8_regress_51 (tgt := 71) (by decide) (by omega) (by omega) (fun c_4 => ?_) (fun c_4 => ?_)
          · refine lv_aload_n hx hb dX8_regress_71 rfl (lv_at hl 0 rfl) ?_
            refine xg (ci := 7) (C := RX8) (T := TX8) (N := 9) (v := .ref (z 12)) hx hb hts inX8 hown hK hR.1 (List.mem_of_getElem? (i := 0) rfl) rfl 5 (by decide) k_39 (fun _ h => h) rfl dX8_regress_72 ?_
            refine xg (ci := 6) (C := RX7) (T := TX7) (N := 3) (v := .int (nI mm)) hx hb hts inX7 hown hK hR.1 (List.mem_of_getElem? (i := 12) rfl) rfl 2 (by decide) k_212 (fun _ h => h) rfl dX8_regress_75 ?_
            refine nz_ne hx hb dX8_regress_78 (tgt := 86) (by decide) (by omega) (fun c_5 => ?_) (fun c_5 => ?_)
            · refine lv_iload_n hx hb dX8_regress_86 rfl (lv_at hl 2 rfl) ?_
              rw [hQ]
              refine vx_ret ?_
              refine W.widen (k := 1) (n := 6) (by omega) (by omega) ?_
              refine xc_iret (X1 := (kX cB cI cE cS z T.length g fb Ls.length f1 ((M mm).length) f2 Lr.length f3 Sn.length fh tm0 mm Cw.length c1 c2 C2.length c3 c4 cho st)) (nw := []) hx hb hr hlocks ?_ ?_ dX8_regress_87
              · rw [List.append_nil]; exact hR
              · try rw [List.append_nil]
                exact ⟨by omega, by omega, dn - mm, by omega, by rw [show dn - mm = cn by omega], by rw [show dn - (dn - mm) = mm by omega, if_neg (by omega)]; exact (by obtain rfl : st = 2 := (by omega); exact ⟨_, _, _, _, _, _, _, _, _, _, rfl, hrd, htp, hr1, hf2, hr3, hhr, hcr, hcr2⟩)⟩
            · refine lv_aload_n hx hb dX8_regress_81 rfl (lv_at hl 0 rfl) ?_
              refine lv_iconst (v := nI 0) hx hb dX8_regress_82 rfl ?_
              refine va_put (D := G) (ci := 7) (v := .int (nI 0)) (ty := .int) (C := RX8) (T := TX8) (N := 9) hx hb hts inX8 tyX8 tyX8_ok nmX8 hown hK hR.1 hR.2.1 hR.2.2 0 rfl rfl 8 (by decide) k_54 (fun _ h => h) rfl (by decide +kernel) rfl rfl (Nat.le_of_ble_eq_true rfl) dX8_regress_83 (fun H locs hP hD hS => ?_)
              have hR : rR G A s.heap _ _ ((kX cB cI cE cS z T.length g fb Ls.length f1 ((M mm).length) f2 Lr.length f3 Sn.length fh tm0 mm Cw.length c1 c2 C2.length c3 c4 cho 0) ++ pl) := ⟨hP, hD, hS⟩
              refine lv_iload_n hx hb dX8_regress_86 rfl (lv_at hl 2 rfl) ?_
              rw [hQ]
              refine vx_ret ?_
              refine W.widen (k := 1) (n := 6) (by omega) (by omega) ?_
              refine xc_iret (X1 := (kX cB cI cE cS z T.length g fb Ls.length f1 ((M mm).length) f2 Lr.length f3 Sn.length fh tm0 mm Cw.length c1 c2 C2.length c3 c4 cho 0)) (nw := []) hx hb hr hlocks ?_ ?_ dX8_regress_87
              · rw [List.append_nil]; exact hR
              · try rw [List.append_nil]
                exact ⟨by omega, by omega, dn - mm, by omega, by rw [show dn - mm = cn by omega], by rw [show dn - (dn - mm) = mm by omega, if_pos (by omega)]; exact ⟨_, _, _, _, _, _, _, _, _, _, rfl, hrd, htp, hr1, hf2, hr3, hhr, hcr, hcr2⟩⟩
          · refine lv_aload_n hx hb dX8_regress_54 rfl (lv_at hl 0 rfl) ?_
            refine xg (ci := 7) (C := RX8) (T := TX8) (N := 9) (v := .ref (z 12)) hx hb hts inX8 hown hK hR.1 (List.mem_of_getElem? (i := 0) rfl) rfl 5 (by decide) k_39 (fun _ h => h) rfl dX8_regress_55 ?_
            refine lv_aload_n hx hb dX8_regress_58 rfl (lv_at hl 0 rfl) ?_
            refine xg (ci := 7) (C := RX8) (T := TX8) (N := 9) (v := .ref (z 6)) hx hb hts inX8 hown hK hR.1 (List.mem_of_getElem? (i := 0) rfl) rfl 2 (by decide) k_23 (fun _ h => h) rfl dX8_regress_59 ?_
            obtain ⟨hm1, hm2, hm3⟩ := hM (mm - 1) (by omega)
            rw [show mm - 1 + 1 = mm by omega] at hm1 hm2 hm3
            refine xc_callV (C := RX7) (As := [.ref (z 6)]) (rest := []) (cx := [(z 12, .inr (6, [.ref (z 13), .int tm0, .int (nI mm)])), (z 13, .inr (0, [.ref (z 14), .ref (z 15), .int (nI Cw.length)])), (z 14, .inl (cE, 180, rfs c1)), (z 15, .inl (cE, 180, rfs c2)), (z 6, .inr (5, [.ref (z 7), .int (nI ((M mm).length))])), (z 7, .inl (cE, 120, rfs f2))]) (wr := (([0, 1, 2, 3, 4, 5, 8, 9, 10, 11, 16, 17, 18] : List Nat).filterMap (fun i => (kX cB cI cE cS z T.length g fb Ls.length f1 ((M mm).length) f2 Lr.length f3 Sn.length fh tm0 mm Cw.length c1 c2 C2.length c3 c4 cho st)[i]?))) (c_takeBackLast l hT hcr hf2 mm (by omega) hm1 (by omega) hm3) ⟨hx, hb, hml, hown, hts⟩ (cwV 1 hts gX8_regress_X7_takeBackLast rfl rfl rfl (by decide +kernel) ⟨Nat.le_of_ble_eq_true rfl, Nat.le_of_ble_eq_true rfl⟩) hK hZ hR hA (xrecv (ci := 6) hK hR.1 rfl (List.mem_of_getElem? (i := 12) rfl)) [12, 13, 14, 15, 6, 7] [0, 1, 2, 3, 4, 5, 8, 9, 10, 11, 16, 17, 18] rfl rfl (by decide) (by decide) (by decide) rfl hl.1 rfl (Nat.le_of_ble_eq_true rfl) dX8_regress_62 ⟨Nat.le_of_ble_eq_true rfl, Nat.le_of_ble_eq_true rfl⟩ (fun r_6 X_r_6 nw_r_6 H locs hr_6 hR => ?_)
            obtain ⟨rfl, rfl, g6, rfl, hg6⟩ := hr_6
            rw [hm2] at hg6 hR
            have hR : rR G A s.heap _ _ ((kX cB cI cE cS z T.length g fb Ls.length f1 ((M (mm - 1)).length) g6 Lr.length f3 Sn.length fh tm0 (mm - 1) Cw.length c1 c2 C2.length c3 c4 cho st) ++ pl) := xc_perm (xc_nil hR) [0, 1, 2, 3, 4, 5, 17, 18, 6, 7, 8, 9, 13, 14, 15, 16, 10, 11, 12] rfl (by decide)
            refine lv_iinc (v := nI (k + 1)) (lv' := [(3, .int (nI (k + 1))), (0, .ref (z 0)), (1, .int (nI n)), (2, .int (nI cn))]) hx hb dX8_regress_65 hl (k := 3) rfl (nI_add k 1) (by decide) rfl (fun ls hl => ?_)
            refine lv_goto (tgt := 49) hx hb dX8_regress_68 (by decide) ?_
            exact ih_49 (k + 1) (mm - 1) g6 _ _ _ (by omega) (by omega) (by omega) hg6 hR (lv_sub hl [1, 2, 3, 0] rfl)
      exact lp_49 (((cn - 0)) + 1) 0 dn f2 _ _ _ (Nat.lt_succ_self _) (Nat.zero_le _) rfl (by rw [← hM0]; exact hr2) hR (lv_sub hl [2, 3, 1, 0] rfl)
    · have c_3 := of_decide_eq_false c_3
      rw [hQ]
      refine xc_throw (X := (kX cB cI cE cS z T.length g fb Ls.length f1 Lm.length f2 Lr.length f3 Sn.length fh tm0 dn Cw.length c1 c2 C2.length c3 c4 cho st)) (nw := []) IAE 92 96 210 "no such number of operations" xfit_iae xg_iae xn_iae hx hb hlt hown hts hZ (by decide +kernel) (by decide +kernel) (by decide +kernel) (by decide +kernel) hU ?_ ?_ (hl.1.trans hml.symm) dX8_regress_25 dX8_regress_28 dX8_regress_29 dX8_regress_31 dX8_regress_34 htb (Nat.le_of_ble_eq_true rfl) (Nat.le_of_ble_eq_true rfl) (Nat.le_of_ble_eq_true rfl) (Nat.le_of_ble_eq_true rfl) hlocks (Nat.le_of_ble_eq_true rfl) (Nat.le_of_ble_eq_true rfl)
      · rw [List.append_nil]; exact hR
      · try rw [List.append_nil]
        exact (Or.inr ⟨rfl, by omega, by omega, ⟨_, _, _, _, _, _, _, _, _, _, rfl, hrd, htp, hr1, hr2, hr3, hhr, hcr, hcr2⟩⟩)
  · rw [hQ]
    refine xc_throw (X := (kX cB cI cE cS z T.length g fb Ls.length f1 Lm.length f2 Lr.length f3 Sn.length fh tm0 dn Cw.length c1 c2 C2.length c3 c4 cho st)) (nw := []) ISE 65 69 226 "no session is broken" xfit_ise xg_ise xn_ise hx hb hlt hown hts hZ (by decide +kernel) (by decide +kernel) (by decide +kernel) (by decide +kernel) hU ?_ ?_ (hl.1.trans hml.symm) dX8_regress_8 dX8_regress_11 dX8_regress_12 dX8_regress_14 dX8_regress_17 htb (Nat.le_of_ble_eq_true rfl) (Nat.le_of_ble_eq_true rfl) (Nat.le_of_ble_eq_true rfl) (Nat.le_of_ble_eq_true rfl) hlocks (Nat.le_of_ble_eq_true rfl) (Nat.le_of_ble_eq_true rfl)
    · rw [List.append_nil]; exact hR
    · try rw [List.append_nil]
      exact (Or.inl ⟨rfl, by omega, ⟨_, _, _, _, _, _, _, _, _, _, rfl, hrd, htp, hr1, hr2, hr3, hhr, hcr, hcr2⟩⟩)
set_option maxHeartbeats 4000000 in
set_option maxRecDepth 100000 in
theorem K_init (l : Launch) {G : va_G} {tys : List (ClassId × FieldType)} {cB cI cE cS : ClassId} (hT : tys = [(cB, .byte), (cI, .int), (cE, .object RX1), (cS, .object RX4)]) {pl : va_W} {sz : Nat} {mk : Nat} : cMet l yX8_init wsX8_init ({ frames := 3, cells := 18, slots := 1600, locals := 52 } : Room) G tys [.ref mk] [(mk, .inr (7, [.null, .null, .null, .null, .null, .null, .null, .int 0, .int 0]))] pl sz 18 1600 (fun o9 X1 nw => o9 = none ∧ ∃ z : Nat → Nat, z 0 = mk ∧ kRep cB cI cE cS z X1 (pl ++ nw) [] (List.replicate 20 0) [] [] [] [] [] [] (nI 0) 0 (-1) 0) := by
  have hT0 : tys[0]? = some (cB, .byte) := by rw [hT]; rfl
  have hT1 : tys[1]? = some (cI, .int) := by rw [hT]; rfl
  have hT2 : tys[2]? = some (cE, .object RX1) := by rw [hT]; rfl
  have hT3 : tys[3]? = some (cS, .object RX4) := by rw [hT]; rfl
  refine Met.ofW (cc := cX8_init) (maxL := 1) (ret := none) (by decide) rfl ?_
  intro p e s m args below meth c s₁ B hml hv
  obtain ⟨hargs, hsz, hP, hK, hD0, hZ⟩ := hv
  have hx := B.exec
  have hb := B.bytes
  have hr := B.returns
  have hts := atoms_spec (ws := wsX8_init) B.pre
  have hown : s.vm.findClass RX8 = some m.cls := findClass_of_methodNamed B.named
  have hlocks := B.notSynchronized
  have hin : meth.name = "<init>" := (name_of_methodNamed B.named B.method).1
  subst hsz
  have hD := hD0.self (sz := s.heap.size)
  obtain ⟨A, hAe⟩ : ∃ A : Nat → Prop, A = va_A ([(mk, .inr (7, [.null, .null, .null, .null, .null, .null, .null, .int 0, .int 0]))] ++ pl) s.heap.size := ⟨_, rfl⟩
  rw [← hAe] at hD
  have hA : ∀ q : Nat, s.heap.size ≤ q → A q := fun q h => by rw [hAe]; exact Or.inr h
  have inX0 : ∀ w ∈ wsX00, w ∈ wsX8_init := by decide +kernel
  have inX2 : ∀ w ∈ wsX20, w ∈ wsX8_init := by decide +kernel
  have inX5 : ∀ w ∈ wsX50, w ∈ wsX8_init := by decide +kernel
  have inX6 : ∀ w ∈ wsX60, w ∈ wsX8_init := by decide +kernel
  have inX7 : ∀ w ∈ wsX70, w ∈ wsX8_init := by decide +kernel
  have inX8 : ∀ w ∈ wsX80, w ∈ wsX8_init := by decide +kernel
  have k_10 := hts (.fieldLink RX8 10 "MirrorKeep" "tape" "LMirrorKeep$Tape;") (by decide +kernel)
  have k_19 := hts (.fieldLink RX8 19 "MirrorKeep" "source" "LMirrorKeep$Tree;") (by decide +kernel)
  have k_23 := hts (.fieldLink RX8 23 "MirrorKeep" "mirror" "LMirrorKeep$Tree;") (by decide +kernel)
  have k_26 := hts (.fieldLink RX8 26 "MirrorKeep" "result" "LMirrorKeep$Tree;") (by decide +kernel)
  have k_32 := hts (.fieldLink RX8 32 "MirrorKeep" "history" "LMirrorKeep$History;") (by decide +kernel)
  have k_39 := hts (.fieldLink RX8 39 "MirrorKeep" "work" "LMirrorKeep$Work;") (by decide +kernel)
  have k_46 := hts (.fieldLink RX8 46 "MirrorKeep" "compared" "LMirrorKeep$Changes;") (by decide +kernel)
  have k_50 := hts (.fieldLink RX8 50 "MirrorKeep" "chosen" "I") (by decide +kernel)
  have k_54 := hts (.fieldLink RX8 54 "MirrorKeep" "state" "I") (by decide +kernel)
  have hR : rR G A s.heap s.heap [] ([(mk, .inr (7, [.null, .null, .null, .null, .null, .null, .null, .int 0, .int 0]))] ++ pl) := ⟨hP, hD, va_S.rf⟩
  obtain ⟨Q, hQ⟩ : ∃ Q : State → Prop, Q = MQ below (cQ G A pl (fun o9 X1 nw => o9 = none ∧ ∃ z : Nat → Nat, z 0 = mk ∧ kRep cB cI cE cS z X1 (pl ++ nw) [] (List.replicate 20 0) [] [] [] [] [] [] (nI 0) 0 (-1) 0)) args s 18 1600 A := ⟨_, rfl⟩
  change W p l e ({ frames := 3, cells := 18, slots := 1600, locals := 52 } : Room) s m args below meth c s.heap [] 0 0 (MQ below (cQ G (va_A ([(mk, .inr (7, [.null, .null, .null, .null, .null, .null, .null, .int 0, .int 0]))] ++ pl) s.heap.size) pl (fun o9 X1 nw => o9 = none ∧ ∃ z : Nat → Nat, z 0 = mk ∧ kRep cB cI cE cS z X1 (pl ++ nw) [] (List.replicate 20 0) [] [] [] [] [] [] (nI 0) 0 (-1) 0)) args s 18 1600 (va_A ([(mk, .inr (7, [.null, .null, .null, .null, .null, .null, .null, .int 0, .int 0]))] ++ pl) s.heap.size)) (entryFrame m args 1)
  rw [← hAe]
  rw [← hQ]
  refine nn_entry hargs (Nat.le_of_ble_eq_true rfl) (lv := [(0, .ref mk)]) rfl (fun ls hl => ?_)
  refine lv_aload_n hx hb dX8_init_0 rfl (lv_at hl 0 rfl) ?_
  refine W.objInit hx hb hown (hts (.methodLink RX8 1 objectInit) (by decide +kernel)) (hts (.instanceMethod objectInit) (by decide +kernel)) (hts (.code objectInit ⟨#[0xb1]⟩ 1 none) (by decide +kernel)) rfl (by rw [hml]; exact hl.1) rfl dX8_init_1 (Nat.le_of_ble_eq_true rfl) (Nat.le_of_ble_eq_true rfl) ?_
  refine W.eq (g2 := F0 m 4 ls []) rfl ?_
  refine lv_aload_n hx hb dX8_init_4 rfl (lv_at hl 0 rfl) ?_
  refine va_new (D := G) (ci := 4) (C := RX5) (T := TX5) (N := 3) (fs := [.null, .null, .int 0]) hx hb hts inX5 tyX5 tyX5_ok hown (hts (.classLink RX8 7 RX5) (by decide +kernel)) (hts (.instantiable RX5 3) (by decide +kernel)) (hts (.initialized RX5) (by decide +kernel)) hK hR.1 hR.2.1 hR.2.2 hA rfl (by decide) (Nat.le_of_ble_eq_true rfl) (Nat.le_of_ble_eq_true rfl) dX8_init_5 (fun q_1 H hP hD hS => ?_)
  have hR : rR G A s.heap _ _ ([(mk, .inr (7, [.null, .null, .null, .null, .null, .null, .null, .int 0, .int 0])), (q_1, .inr (4, [.null, .null, .int 0]))] ++ pl) := ⟨hP.swap, hD.swap, hS⟩
  refine lv_dup hx hb dX8_init_8 rfl ?_
  refine xc_callIN (As := []) (rest := [.ref q_1, .ref mk]) (cx := [(q_1, .inr (4, [.null, .null, .int 0]))]) (wr := [(mk, .inr (7, [.null, .null, .null, .null, .null, .null, .null, .int 0, .int 0]))]) (c_tapeInit l hT) ⟨hx, hb, hml, hown, hts⟩ ⟨va_cnB 0 hts gX8_init_X5_init_n9 rfl rfl rfl (hZ.2.2.1 (.methodLinkNest RX8 9 yX5_init "MirrorKeep") (by decide +kernel)) (hts (.initialized RX5) (by decide +kernel)) (by decide +kernel) ⟨Nat.le_of_ble_eq_true rfl, Nat.le_of_ble_eq_true rfl⟩, rfl, hts (.instanceMethod yX5_init) (by decide +kernel)⟩ hK hZ hR hA [1] [0] rfl rfl (by decide) (by decide) (by decide) rfl hl.1 rfl (Nat.le_of_ble_eq_true rfl) dX8_init_9 ⟨Nat.le_of_ble_eq_true rfl, Nat.le_of_ble_eq_true rfl⟩ (fun r_4 X_r_4 nw_r_4 H locs hr_4 hR => ?_)
  obtain ⟨rfl, rfl, w_2, b_3, rfl⟩ := hr_4
  have hR : rR G A s.heap _ _ ([(mk, .inr (7, [.null, .null, .null, .null, .null, .null, .null, .int 0, .int 0])), (q_1, .inr (4, [.ref w_2, .ref b_3, .int (nI 0)])), (w_2, .inl (cI, 5, .inl (fun _ => 0))), (b_3, .inl (cB, 400, .inl (fun _ => 0)))] ++ pl) := (xc_nil hR)
  refine va_putF (D := G) (ci := 7) (v := .ref q_1) (ty := .object "MirrorKeep$Tape") (C := RX8) (T := TX8) (N := 9) hx hb hts inX8 tyX8 tyX8_ok nmX8 hown hK hR.1 hR.2.1 hR.2.2 0 rfl rfl 0 (by decide) k_10 (fun _ h => h) rfl hin rfl (by decide +kernel) rfl rfl (Nat.le_of_ble_eq_true rfl) dX8_init_12 (fun H locs hP hD hS => ?_)
  have hR : rR G A s.heap _ _ ([(mk, .inr (7, [.ref q_1, .null, .null, .null, .null, .null, .null, .int 0, .int 0])), (q_1, .inr (4, [.ref w_2, .ref b_3, .int (nI 0)])), (w_2, .inl (cI, 5, .inl (fun _ => 0))), (b_3, .inl (cB, 400, .inl (fun _ => 0)))] ++ pl) := ⟨hP, hD, hS⟩
  refine lv_aload_n hx hb dX8_init_15 rfl (lv_at hl 0 rfl) ?_
  refine va_new (D := G) (ci := 5) (C := RX6) (T := TX6) (N := 2) (fs := [.null, .int 0]) hx hb hts inX6 tyX6 tyX6_ok hown (hts (.classLink RX8 16 RX6) (by decide +kernel)) (hts (.instantiable RX6 2) (by decide +kernel)) (hts (.initialized RX6) (by decide +kernel)) hK hR.1 hR.2.1 hR.2.2 hA rfl (by decide) (Nat.le_of_ble_eq_true rfl) (Nat.le_of_ble_eq_true rfl) dX8_init_16 (fun q_5 H hP hD hS => ?_)
  have hR : rR G A s.heap _ _ ([(mk, .inr (7, [.ref q_1, .null, .null, .null, .null, .null, .null, .int 0, .int 0])), (q_1, .inr (4, [.ref w_2, .ref b_3, .int (nI 0)])), (w_2, .inl (cI, 5, .inl (fun _ => 0))), (b_3, .inl (cB, 400, .inl (fun _ => 0))), (q_5, .inr (5, [.null, .int 0]))] ++ pl) := ⟨hP.swap, hD.swap, hS⟩
  refine lv_dup hx hb dX8_init_19 rfl ?_
  refine xc_callIN (As := []) (rest := [.ref q_5, .ref mk]) (cx := [(q_5, .inr (5, [.null, .int 0]))]) (wr := [(mk, .inr (7, [.ref q_1, .null, .null, .null, .null, .null, .null, .int 0, .int 0])), (q_1, .inr (4, [.ref w_2, .ref b_3, .int (nI 0)])), (w_2, .inl (cI, 5, .inl (fun _ => 0))), (b_3, .inl (cB, 400, .inl (fun _ => 0)))]) (c_treeInit l hT) ⟨hx, hb, hml, hown, hts⟩ ⟨va_cnB 0 hts gX8_init_X6_init_n18 rfl rfl rfl (hZ.2.2.1 (.methodLinkNest RX8 18 yX6_init "MirrorKeep") (by decide +kernel)) (hts (.initialized RX6) (by decide +kernel)) (by decide +kernel) ⟨Nat.le_of_ble_eq_true rfl, Nat.le_of_ble_eq_true rfl⟩, rfl, hts (.instanceMethod yX6_init) (by decide +kernel)⟩ hK hZ hR hA [4] [0, 1, 2, 3] rfl rfl (by decide) (by decide) (by decide) rfl hl.1 rfl (Nat.le_of_ble_eq_true rfl) dX8_init_20 ⟨Nat.le_of_ble_eq_true rfl, Nat.le_of_ble_eq_true rfl⟩ (fun r_7 X_r_7 nw_r_7 H locs hr_7 hR => ?_)
  obtain ⟨rfl, rfl, r_6, rfl⟩ := hr_7
  have hR : rR G A s.heap _ _ ([(mk, .inr (7, [.ref q_1, .null, .null, .null, .null, .null, .null, .int 0, .int 0])), (q_1, .inr (4, [.ref w_2, .ref b_3, .int (nI 0)])), (w_2, .inl (cI, 5, .inl (fun _ => 0))), (b_3, .inl (cB, 400, .inl (fun _ => 0))), (q_5, .inr (5, [.ref r_6, .int (nI 0)])), (r_6, .inl (cE, 120, rfs (fun _ => none)))] ++ pl) := (xc_nil hR)
  refine va_putF (D := G) (ci := 7) (v := .ref q_5) (ty := .object "MirrorKeep$Tree") (C := RX8) (T := TX8) (N := 9) hx hb hts inX8 tyX8 tyX8_ok nmX8 hown hK hR.1 hR.2.1 hR.2.2 0 rfl rfl 1 (by decide) k_19 (fun _ h => h) rfl hin rfl (by decide +kernel) rfl rfl (Nat.le_of_ble_eq_true rfl) dX8_init_23 (fun H locs hP hD hS => ?_)
  have hR : rR G A s.heap _ _ ([(mk, .inr (7, [.ref q_1, .ref q_5, .null, .null, .null, .null, .null, .int 0, .int 0])), (q_1, .inr (4, [.ref w_2, .ref b_3, .int (nI 0)])), (w_2, .inl (cI, 5, .inl (fun _ => 0))), (b_3, .inl (cB, 400, .inl (fun _ => 0))), (q_5, .inr (5, [.ref r_6, .int (nI 0)])), (r_6, .inl (cE, 120, rfs (fun _ => none)))] ++ pl) := ⟨hP, hD, hS⟩
  refine lv_aload_n hx hb dX8_init_26 rfl (lv_at hl 0 rfl) ?_
  refine va_new (D := G) (ci := 5) (C := RX6) (T := TX6) (N := 2) (fs := [.null, .int 0]) hx hb hts inX6 tyX6 tyX6_ok hown (hts (.classLink RX8 16 RX6) (by decide +kernel)) (hts (.instantiable RX6 2) (by decide +kernel)) (hts (.initialized RX6) (by decide +kernel)) hK hR.1 hR.2.1 hR.2.2 hA rfl (by decide) (Nat.le_of_ble_eq_true rfl) (Nat.le_of_ble_eq_true rfl) dX8_init_27 (fun q_8 H hP hD hS => ?_)
  have hR : rR G A s.heap _ _ ([(mk, .inr (7, [.ref q_1, .ref q_5, .null, .null, .null, .null, .null, .int 0, .int 0])), (q_1, .inr (4, [.ref w_2, .ref b_3, .int (nI 0)])), (w_2, .inl (cI, 5, .inl (fun _ => 0))), (b_3, .inl (cB, 400, .inl (fun _ => 0))), (q_5, .inr (5, [.ref r_6, .int (nI 0)])), (r_6, .inl (cE, 120, rfs (fun _ => none))), (q_8, .inr (5, [.null, .int 0]))] ++ pl) := ⟨hP.swap, hD.swap, hS⟩
  refine lv_dup hx hb dX8_init_30 rfl ?_
  refine xc_callIN (As := []) (rest := [.ref q_8, .ref mk]) (cx := [(q_8, .inr (5, [.null, .int 0]))]) (wr := [(mk, .inr (7, [.ref q_1, .ref q_5, .null, .null, .null, .null, .null, .int 0, .int 0])), (q_1, .inr (4, [.ref w_2, .ref b_3, .int (nI 0)])), (w_2, .inl (cI, 5, .inl (fun _ => 0))), (b_3, .inl (cB, 400, .inl (fun _ => 0))), (q_5, .inr (5, [.ref r_6, .int (nI 0)])), (r_6, .inl (cE, 120, rfs (fun _ => none)))]) (c_treeInit l hT) ⟨hx, hb, hml, hown, hts⟩ ⟨va_cnB 0 hts gX8_init_X6_init_n18 rfl rfl rfl (hZ.2.2.1 (.methodLinkNest RX8 18 yX6_init "MirrorKeep") (by decide +kernel)) (hts (.initialized RX6) (by decide +kernel)) (by decide +kernel) ⟨Nat.le_of_ble_eq_true rfl, Nat.le_of_ble_eq_true rfl⟩, rfl, hts (.instanceMethod yX6_init) (by decide +kernel)⟩ hK hZ hR hA [6] [0, 1, 2, 3, 4, 5] rfl rfl (by decide) (by decide) (by decide) rfl hl.1 rfl (Nat.le_of_ble_eq_true rfl) dX8_init_31 ⟨Nat.le_of_ble_eq_true rfl, Nat.le_of_ble_eq_true rfl⟩ (fun r_10 X_r_10 nw_r_10 H locs hr_10 hR => ?_)
  obtain ⟨rfl, rfl, r_9, rfl⟩ := hr_10
  have hR : rR G A s.heap _ _ ([(mk, .inr (7, [.ref q_1, .ref q_5, .null, .null, .null, .null, .null, .int 0, .int 0])), (q_1, .inr (4, [.ref w_2, .ref b_3, .int (nI 0)])), (w_2, .inl (cI, 5, .inl (fun _ => 0))), (b_3, .inl (cB, 400, .inl (fun _ => 0))), (q_5, .inr (5, [.ref r_6, .int (nI 0)])), (r_6, .inl (cE, 120, rfs (fun _ => none))), (q_8, .inr (5, [.ref r_9, .int (nI 0)])), (r_9, .inl (cE, 120, rfs (fun _ => none)))] ++ pl) := (xc_nil hR)
  refine va_putF (D := G) (ci := 7) (v := .ref q_8) (ty := .object "MirrorKeep$Tree") (C := RX8) (T := TX8) (N := 9) hx hb hts inX8 tyX8 tyX8_ok nmX8 hown hK hR.1 hR.2.1 hR.2.2 0 rfl rfl 2 (by decide) k_23 (fun _ h => h) rfl hin rfl (by decide +kernel) rfl rfl (Nat.le_of_ble_eq_true rfl) dX8_init_34 (fun H locs hP hD hS => ?_)
  have hR : rR G A s.heap _ _ ([(mk, .inr (7, [.ref q_1, .ref q_5, .ref q_8, .null, .null, .null, .null, .int 0, .int 0])), (q_1, .inr (4, [.ref w_2, .ref b_3, .int (nI 0)])), (w_2, .inl (cI, 5, .inl (fun _ => 0))), (b_3, .inl (cB, 400, .inl (fun _ => 0))), (q_5, .inr (5, [.ref r_6, .int (nI 0)])), (r_6, .inl (cE, 120, rfs (fun _ => none))), (q_8, .inr (5, [.ref r_9, .int (nI 0)])), (r_9, .inl (cE, 120, rfs (fun _ => none)))] ++ pl) := ⟨hP, hD, hS⟩
  refine lv_aload_n hx hb dX8_init_37 rfl (lv_at hl 0 rfl) ?_
  refine va_new (D := G) (ci := 5) (C := RX6) (T := TX6) (N := 2) (fs := [.null, .int 0]) hx hb hts inX6 tyX6 tyX6_ok hown (hts (.classLink RX8 16 RX6) (by decide +kernel)) (hts (.instantiable RX6 2) (by decide +kernel)) (hts (.initialized RX6) (by decide +kernel)) hK hR.1 hR.2.1 hR.2.2 hA rfl (by decide) (Nat.le_of_ble_eq_true rfl) (Nat.le_of_ble_eq_true rfl) dX8_init_38 (fun q_11 H hP hD hS => ?_)
  have hR : rR G A s.heap _ _ ([(mk, .inr (7, [.ref q_1, .ref q_5, .ref q_8, .null, .null, .null, .null, .int 0, .int 0])), (q_1, .inr (4, [.ref w_2, .ref b_3, .int (nI 0)])), (w_2, .inl (cI, 5, .inl (fun _ => 0))), (b_3, .inl (cB, 400, .inl (fun _ => 0))), (q_5, .inr (5, [.ref r_6, .int (nI 0)])), (r_6, .inl (cE, 120, rfs (fun _ => none))), (q_8, .inr (5, [.ref r_9, .int (nI 0)])), (r_9, .inl (cE, 120, rfs (fun _ => none))), (q_11, .inr (5, [.null, .int 0]))] ++ pl) := ⟨hP.swap, hD.swap, hS⟩
  refine lv_dup hx hb dX8_init_41 rfl ?_
  refine xc_callIN (As := []) (rest := [.ref q_11, .ref mk]) (cx := [(q_11, .inr (5, [.null, .int 0]))]) (wr := (([0, 1, 2, 3, 4, 5, 6, 7] : List Nat).filterMap (fun i => [(mk, .inr (7, [.ref q_1, .ref q_5, .ref q_8, .null, .null, .null, .null, .int 0, .int 0])), (q_1, .inr (4, [.ref w_2, .ref b_3, .int (nI 0)])), (w_2, .inl (cI, 5, .inl (fun _ => 0))), (b_3, .inl (cB, 400, .inl (fun _ => 0))), (q_5, .inr (5, [.ref r_6, .int (nI 0)])), (r_6, .inl (cE, 120, rfs (fun _ => none))), (q_8, .inr (5, [.ref r_9, .int (nI 0)])), (r_9, .inl (cE, 120, rfs (fun _ => none))), (q_11, .inr (5, [.null, .int 0]))][i]?))) (c_treeInit l hT) ⟨hx, hb, hml, hown, hts⟩ ⟨va_cnB 0 hts gX8_init_X6_init_n18 rfl rfl rfl (hZ.2.2.1 (.methodLinkNest RX8 18 yX6_init "MirrorKeep") (by decide +kernel)) (hts (.initialized RX6) (by decide +kernel)) (by decide +kernel) ⟨Nat.le_of_ble_eq_true rfl, Nat.le_of_ble_eq_true rfl⟩, rfl, hts (.instanceMethod yX6_init) (by decide +kernel)⟩ hK hZ hR hA [8] [0, 1, 2, 3, 4, 5, 6, 7] rfl rfl (by decide) (by decide) (by decide) rfl hl.1 rfl (Nat.le_of_ble_eq_true rfl) dX8_init_42 ⟨Nat.le_of_ble_eq_true rfl, Nat.le_of_ble_eq_true rfl⟩ (fun r_13 X_r_13 nw_r_13 H locs hr_13 hR => ?_)
  obtain ⟨rfl, rfl, r_12, rfl⟩ := hr_13
  have hR : rR G A s.heap _ _ ([(mk, .inr (7, [.ref q_1, .ref q_5, .ref q_8, .null, .null, .null, .null, .int 0, .int 0])), (q_1, .inr (4, [.ref w_2, .ref b_3, .int (nI 0)])), (w_2, .inl (cI, 5, .inl (fun _ => 0))), (b_3, .inl (cB, 400, .inl (fun _ => 0))), (q_5, .inr (5, [.ref r_6, .int (nI 0)])), (r_6, .inl (cE, 120, rfs (fun _ => none))), (q_8, .inr (5, [.ref r_9, .int (nI 0)])), (r_9, .inl (cE, 120, rfs (fun _ => none))), (q_11, .inr (5, [.ref r_12, .int (nI 0)])), (r_12, .inl (cE, 120, rfs (fun _ => none)))] ++ pl) := (xc_nil hR)
  refine va_putF (D := G) (ci := 7) (v := .ref q_11) (ty := .object "MirrorKeep$Tree") (C := RX8) (T := TX8) (N := 9) hx hb hts inX8 tyX8 tyX8_ok nmX8 hown hK hR.1 hR.2.1 hR.2.2 0 rfl rfl 3 (by decide) k_26 (fun _ h => h) rfl hin rfl (by decide +kernel) rfl rfl (Nat.le_of_ble_eq_true rfl) dX8_init_45 (fun H locs hP hD hS => ?_)
  have hR : rR G A s.heap _ _ ([(mk, .inr (7, [.ref q_1, .ref q_5, .ref q_8, .ref q_11, .null, .null, .null, .int 0, .int 0])), (q_1, .inr (4, [.ref w_2, .ref b_3, .int (nI 0)])), (w_2, .inl (cI, 5, .inl (fun _ => 0))), (b_3, .inl (cB, 400, .inl (fun _ => 0))), (q_5, .inr (5, [.ref r_6, .int (nI 0)])), (r_6, .inl (cE, 120, rfs (fun _ => none))), (q_8, .inr (5, [.ref r_9, .int (nI 0)])), (r_9, .inl (cE, 120, rfs (fun _ => none))), (q_11, .inr (5, [.ref r_12, .int (nI 0)])), (r_12, .inl (cE, 120, rfs (fun _ => none)))] ++ pl) := ⟨hP, hD, hS⟩
  refine lv_aload_n hx hb dX8_init_48 rfl (lv_at hl 0 rfl) ?_
  refine va_new (D := G) (ci := 2) (C := RX2) (T := TX2) (N := 2) (fs := [.null, .int 0]) hx hb hts inX2 tyX2 tyX2_ok hown (hts (.classLink RX8 29 RX2) (by decide +kernel)) (hts (.instantiable RX2 2) (by decide +kernel)) (hts (.initialized RX2) (by decide +kernel)) hK hR.1 hR.2.1 hR.2.2 hA rfl (by decide) (Nat.le_of_ble_eq_true rfl) (Nat.le_of_ble_eq_true rfl) dX8_init_49 (fun q_14 H hP hD hS => ?_)
  have hR : rR G A s.heap _ _ ([(mk, .inr (7, [.ref q_1, .ref q_5, .ref q_8, .ref q_11, .null, .null, .null, .int 0, .int 0])), (q_1, .inr (4, [.ref w_2, .ref b_3, .int (nI 0)])), (w_2, .inl (cI, 5, .inl (fun _ => 0))), (b_3, .inl (cB, 400, .inl (fun _ => 0))), (q_5, .inr (5, [.ref r_6, .int (nI 0)])), (r_6, .inl (cE, 120, rfs (fun _ => none))), (q_8, .inr (5, [.ref r_9, .int (nI 0)])), (r_9, .inl (cE, 120, rfs (fun _ => none))), (q_11, .inr (5, [.ref r_12, .int (nI 0)])), (r_12, .inl (cE, 120, rfs (fun _ => none))), (q_14, .inr (2, [.null, .int 0]))] ++ pl) := ⟨hP.swap, hD.swap, hS⟩
  refine lv_dup hx hb dX8_init_52 rfl ?_
  refine xc_callIN (As := []) (rest := [.ref q_14, .ref mk]) (cx := [(q_14, .inr (2, [.null, .int 0]))]) (wr := (([0, 1, 2, 3, 4, 5, 6, 7, 8, 9] : List Nat).filterMap (fun i => [(mk, .inr (7, [.ref q_1, .ref q_5, .ref q_8, .ref q_11, .null, .null, .null, .int 0, .int 0])), (q_1, .inr (4, [.ref w_2, .ref b_3, .int (nI 0)])), (w_2, .inl (cI, 5, .inl (fun _ => 0))), (b_3, .inl (cB, 400, .inl (fun _ => 0))), (q_5, .inr (5, [.ref r_6, .int (nI 0)])), (r_6, .inl (cE, 120, rfs (fun _ => none))), (q_8, .inr (5, [.ref r_9, .int (nI 0)])), (r_9, .inl (cE, 120, rfs (fun _ => none))), (q_11, .inr (5, [.ref r_12, .int (nI 0)])), (r_12, .inl (cE, 120, rfs (fun _ => none))), (q_14, .inr (2, [.null, .int 0]))][i]?))) (c_histInit l hT) ⟨hx, hb, hml, hown, hts⟩ ⟨va_cnB 0 hts gX8_init_X2_init_n31 rfl rfl rfl (hZ.2.2.1 (.methodLinkNest RX8 31 yX2_init "MirrorKeep") (by decide +kernel)) (hts (.initialized RX2) (by decide +kernel)) (by decide +kernel) ⟨Nat.le_of_ble_eq_true rfl, Nat.le_of_ble_eq_true rfl⟩, rfl, hts (.instanceMethod yX2_init) (by decide +kernel)⟩ hK hZ hR hA [10] [0, 1, 2, 3, 4, 5, 6, 7, 8, 9] rfl rfl (by decide) (by decide) (by decide) rfl hl.1 rfl (Nat.le_of_ble_eq_true rfl) dX8_init_53 ⟨Nat.le_of_ble_eq_true rfl, Nat.le_of_ble_eq_true rfl⟩ (fun r_16 X_r_16 nw_r_16 H locs hr_16 hR => ?_)
  obtain ⟨rfl, rfl, r_15, rfl⟩ := hr_16
  have hR : rR G A s.heap _ _ ([(mk, .inr (7, [.ref q_1, .ref q_5, .ref q_8, .ref q_11, .null, .null, .null, .int 0, .int 0])), (q_1, .inr (4, [.ref w_2, .ref b_3, .int (nI 0)])), (w_2, .inl (cI, 5, .inl (fun _ => 0))), (b_3, .inl (cB, 400, .inl (fun _ => 0))), (q_5, .inr (5, [.ref r_6, .int (nI 0)])), (r_6, .inl (cE, 120, rfs (fun _ => none))), (q_8, .inr (5, [.ref r_9, .int (nI 0)])), (r_9, .inl (cE, 120, rfs (fun _ => none))), (q_11, .inr (5, [.ref r_12, .int (nI 0)])), (r_12, .inl (cE, 120, rfs (fun _ => none))), (q_14, .inr (2, [.ref r_15, .int (nI 0)])), (r_15, .inl (cS, 40, rfs (fun _ => none)))] ++ pl) := (xc_nil hR)
  refine va_putF (D := G) (ci := 7) (v := .ref q_14) (ty := .object "MirrorKeep$History") (C := RX8) (T := TX8) (N := 9) hx hb hts inX8 tyX8 tyX8_ok nmX8 hown hK hR.1 hR.2.1 hR.2.2 0 rfl rfl 4 (by decide) k_32 (fun _ h => h) rfl hin rfl (by decide +kernel) rfl rfl (Nat.le_of_ble_eq_true rfl) dX8_init_56 (fun H locs hP hD hS => ?_)
  have hR : rR G A s.heap _ _ ([(mk, .inr (7, [.ref q_1, .ref q_5, .ref q_8, .ref q_11, .ref q_14, .null, .null, .int 0, .int 0])), (q_1, .inr (4, [.ref w_2, .ref b_3, .int (nI 0)])), (w_2, .inl (cI, 5, .inl (fun _ => 0))), (b_3, .inl (cB, 400, .inl (fun _ => 0))), (q_5, .inr (5, [.ref r_6, .int (nI 0)])), (r_6, .inl (cE, 120, rfs (fun _ => none))), (q_8, .inr (5, [.ref r_9, .int (nI 0)])), (r_9, .inl (cE, 120, rfs (fun _ => none))), (q_11, .inr (5, [.ref r_12, .int (nI 0)])), (r_12, .inl (cE, 120, rfs (fun _ => none))), (q_14, .inr (2, [.ref r_15, .int (nI 0)])), (r_15, .inl (cS, 40, rfs (fun _ => none)))] ++ pl) := ⟨hP, hD, hS⟩
  refine lv_aload_n hx hb dX8_init_59 rfl (lv_at hl 0 rfl) ?_
  refine va_new (D := G) (ci := 6) (C := RX7) (T := TX7) (N := 3) (fs := [.null, .int 0, .int 0]) hx hb hts inX7 tyX7 tyX7_ok hown (hts (.classLink RX8 36 RX7) (by decide +kernel)) (hts (.instantiable RX7 3) (by decide +kernel)) (hts (.initialized RX7) (by decide +kernel)) hK hR.1 hR.2.1 hR.2.2 hA rfl (by decide) (Nat.le_of_ble_eq_true rfl) (Nat.le_of_ble_eq_true rfl) dX8_init_60 (fun q_17 H hP hD hS => ?_)
  have hR : rR G A s.heap _ _ ([(mk, .inr (7, [.ref q_1, .ref q_5, .ref q_8, .ref q_11, .ref q_14, .null, .null, .int 0, .int 0])), (q_1, .inr (4, [.ref w_2, .ref b_3, .int (nI 0)])), (w_2, .inl (cI, 5, .inl (fun _ => 0))), (b_3, .inl (cB, 400, .inl (fun _ => 0))), (q_5, .inr (5, [.ref r_6, .int (nI 0)])), (r_6, .inl (cE, 120, rfs (fun _ => none))), (q_8, .inr (5, [.ref r_9, .int (nI 0)])), (r_9, .inl (cE, 120, rfs (fun _ => none))), (q_11, .inr (5, [.ref r_12, .int (nI 0)])), (r_12, .inl (cE, 120, rfs (fun _ => none))), (q_14, .inr (2, [.ref r_15, .int (nI 0)])), (r_15, .inl (cS, 40, rfs (fun _ => none))), (q_17, .inr (6, [.null, .int 0, .int 0]))] ++ pl) := ⟨hP.swap, hD.swap, hS⟩
  refine lv_dup hx hb dX8_init_63 rfl ?_
  refine xc_callIN (As := []) (rest := [.ref q_17, .ref mk]) (cx := [(q_17, .inr (6, [.null, .int 0, .int 0]))]) (wr := (([0, 1, 2, 3, 4, 5, 6, 7, 8, 9, 10, 11] : List Nat).filterMap (fun i => [(mk, .inr (7, [.ref q_1, .ref q_5, .ref q_8, .ref q_11, .ref q_14, .null, .null, .int 0, .int 0])), (q_1, .inr (4, [.ref w_2, .ref b_3, .int (nI 0)])), (w_2, .inl (cI, 5, .inl (fun _ => 0))), (b_3, .inl (cB, 400, .inl (fun _ => 0))), (q_5, .inr (5, [.ref r_6, .int (nI 0)])), (r_6, .inl (cE, 120, rfs (fun _ => none))), (q_8, .inr (5, [.ref r_9, .int (nI 0)])), (r_9, .inl (cE, 120, rfs (fun _ => none))), (q_11, .inr (5, [.ref r_12, .int (nI 0)])), (r_12, .inl (cE, 120, rfs (fun _ => none))), (q_14, .inr (2, [.ref r_15, .int (nI 0)])), (r_15, .inl (cS, 40, rfs (fun _ => none))), (q_17, .inr (6, [.null, .int 0, .int 0]))][i]?))) (c_workInit l hT) ⟨hx, hb, hml, hown, hts⟩ ⟨va_cnB 0 hts gX8_init_X7_init_n38 rfl rfl rfl (hZ.2.2.1 (.methodLinkNest RX8 38 yX7_init "MirrorKeep") (by decide +kernel)) (hts (.initialized RX7) (by decide +kernel)) (by decide +kernel) ⟨Nat.le_of_ble_eq_true rfl, Nat.le_of_ble_eq_true rfl⟩, rfl, hts (.instanceMethod yX7_init) (by decide +kernel)⟩ hK hZ hR hA [12] [0, 1, 2, 3, 4, 5, 6, 7, 8, 9, 10, 11] rfl rfl (by decide) (by decide) (by decide) rfl hl.1 rfl (Nat.le_of_ble_eq_true rfl) dX8_init_64 ⟨Nat.le_of_ble_eq_true rfl, Nat.le_of_ble_eq_true rfl⟩ (fun r_21 X_r_21 nw_r_21 H locs hr_21 hR => ?_)
  obtain ⟨rfl, rfl, ch_18, b_19, b_20, rfl⟩ := hr_21
  have hR : rR G A s.heap _ _ ([(mk, .inr (7, [.ref q_1, .ref q_5, .ref q_8, .ref q_11, .ref q_14, .null, .null, .int 0, .int 0])), (q_1, .inr (4, [.ref w_2, .ref b_3, .int (nI 0)])), (w_2, .inl (cI, 5, .inl (fun _ => 0))), (b_3, .inl (cB, 400, .inl (fun _ => 0))), (q_5, .inr (5, [.ref r_6, .int (nI 0)])), (r_6, .inl (cE, 120, rfs (fun _ => none))), (q_8, .inr (5, [.ref r_9, .int (nI 0)])), (r_9, .inl (cE, 120, rfs (fun _ => none))), (q_11, .inr (5, [.ref r_12, .int (nI 0)])), (r_12, .inl (cE, 120, rfs (fun _ => none))), (q_14, .inr (2, [.ref r_15, .int (nI 0)])), (r_15, .inl (cS, 40, rfs (fun _ => none))), (q_17, .inr (6, [.ref ch_18, .int (nI 0), .int (nI 0)])), (ch_18, .inr (0, [.ref b_19, .ref b_20, .int (nI 0)])), (b_19, .inl (cE, 180, rfs (fun _ => none))), (b_20, .inl (cE, 180, rfs (fun _ => none)))] ++ pl) := (xc_nil hR)
  refine va_putF (D := G) (ci := 7) (v := .ref q_17) (ty := .object "MirrorKeep$Work") (C := RX8) (T := TX8) (N := 9) hx hb hts inX8 tyX8 tyX8_ok nmX8 hown hK hR.1 hR.2.1 hR.2.2 0 rfl rfl 5 (by decide) k_39 (fun _ h => h) rfl hin rfl (by decide +kernel) rfl rfl (Nat.le_of_ble_eq_true rfl) dX8_init_67 (fun H locs hP hD hS => ?_)
  have hR : rR G A s.heap _ _ ([(mk, .inr (7, [.ref q_1, .ref q_5, .ref q_8, .ref q_11, .ref q_14, .ref q_17, .null, .int 0, .int 0])), (q_1, .inr (4, [.ref w_2, .ref b_3, .int (nI 0)])), (w_2, .inl (cI, 5, .inl (fun _ => 0))), (b_3, .inl (cB, 400, .inl (fun _ => 0))), (q_5, .inr (5, [.ref r_6, .int (nI 0)])), (r_6, .inl (cE, 120, rfs (fun _ => none))), (q_8, .inr (5, [.ref r_9, .int (nI 0)])), (r_9, .inl (cE, 120, rfs (fun _ => none))), (q_11, .inr (5, [.ref r_12, .int (nI 0)])), (r_12, .inl (cE, 120, rfs (fun _ => none))), (q_14, .inr (2, [.ref r_15, .int (nI 0)])), (r_15, .inl (cS, 40, rfs (fun _ => none))), (q_17, .inr (6, [.ref ch_18, .int (nI 0), .int (nI 0)])), (ch_18, .inr (0, [.ref b_19, .ref b_20, .int (nI 0)])), (b_19, .inl (cE, 180, rfs (fun _ => none))), (b_20, .inl (cE, 180, rfs (fun _ => none)))] ++ pl) := ⟨hP, hD, hS⟩
  refine lv_aload_n hx hb dX8_init_70 rfl (lv_at hl 0 rfl) ?_
  refine va_new (D := G) (ci := 0) (C := RX0) (T := TX0) (N := 3) (fs := [.null, .null, .int 0]) hx hb hts inX0 tyX0 tyX0_ok hown (hts (.classLink RX8 43 RX0) (by decide +kernel)) (hts (.instantiable RX0 3) (by decide +kernel)) (hts (.initialized RX0) (by decide +kernel)) hK hR.1 hR.2.1 hR.2.2 hA rfl (by decide) (Nat.le_of_ble_eq_true rfl) (Nat.le_of_ble_eq_true rfl) dX8_init_71 (fun q_22 H hP hD hS => ?_)
  have hR : rR G A s.heap _ _ ([(mk, .inr (7, [.ref q_1, .ref q_5, .ref q_8, .ref q_11, .ref q_14, .ref q_17, .null, .int 0, .int 0])), (q_1, .inr (4, [.ref w_2, .ref b_3, .int (nI 0)])), (w_2, .inl (cI, 5, .inl (fun _ => 0))), (b_3, .inl (cB, 400, .inl (fun _ => 0))), (q_5, .inr (5, [.ref r_6, .int (nI 0)])), (r_6, .inl (cE, 120, rfs (fun _ => none))), (q_8, .inr (5, [.ref r_9, .int (nI 0)])), (r_9, .inl (cE, 120, rfs (fun _ => none))), (q_11, .inr (5, [.ref r_12, .int (nI 0)])), (r_12, .inl (cE, 120, rfs (fun _ => none))), (q_14, .inr (2, [.ref r_15, .int (nI 0)])), (r_15, .inl (cS, 40, rfs (fun _ => none))), (q_17, .inr (6, [.ref ch_18, .int (nI 0), .int (nI 0)])), (ch_18, .inr (0, [.ref b_19, .ref b_20, .int (nI 0)])), (b_19, .inl (cE, 180, rfs (fun _ => none))), (b_20, .inl (cE, 180, rfs (fun _ => none))), (q_22, .inr (0, [.null, .null, .int 0]))] ++ pl) := ⟨hP.swap, hD.swap, hS⟩
  refine lv_dup hx hb dX8_init_74 rfl ?_
  refine xc_callIN (As := []) (rest := [.ref q_22, .ref mk]) (cx := [(q_22, .inr (0, [.null, .null, .int 0]))]) (wr := (([0, 1, 2, 3, 4, 5, 6, 7, 8, 9, 10, 11, 12, 13, 14, 15] : List Nat).filterMap (fun i => [(mk, .inr (7, [.ref q_1, .ref q_5, .ref q_8, .ref q_11, .ref q_14, .ref q_17, .null, .int 0, .int 0])), (q_1, .inr (4, [.ref w_2, .ref b_3, .int (nI 0)])), (w_2, .inl (cI, 5, .inl (fun _ => 0))), (b_3, .inl (cB, 400, .inl (fun _ => 0))), (q_5, .inr (5, [.ref r_6, .int (nI 0)])), (r_6, .inl (cE, 120, rfs (fun _ => none))), (q_8, .inr (5, [.ref r_9, .int (nI 0)])), (r_9, .inl (cE, 120, rfs (fun _ => none))), (q_11, .inr (5, [.ref r_12, .int (nI 0)])), (r_12, .inl (cE, 120, rfs (fun _ => none))), (q_14, .inr (2, [.ref r_15, .int (nI 0)])), (r_15, .inl (cS, 40, rfs (fun _ => none))), (q_17, .inr (6, [.ref ch_18, .int (nI 0), .int (nI 0)])), (ch_18, .inr (0, [.ref b_19, .ref b_20, .int (nI 0)])), (b_19, .inl (cE, 180, rfs (fun _ => none))), (b_20, .inl (cE, 180, rfs (fun _ => none))), (q_22, .inr (0, [.null, .null, .int 0]))][i]?))) (c_chInit l hT) ⟨hx, hb, hml, hown, hts⟩ ⟨va_cnB 0 hts gX8_init_X0_init_n45 rfl rfl rfl (hZ.2.2.1 (.methodLinkNest RX8 45 yX0_init "MirrorKeep") (by decide +kernel)) (hts (.initialized RX0) (by decide +kernel)) (by decide +kernel) ⟨Nat.le_of_ble_eq_true rfl, Nat.le_of_ble_eq_true rfl⟩, rfl, hts (.instanceMethod yX0_init) (by decide +kernel)⟩ hK hZ hR hA [16] [0, 1, 2, 3, 4, 5, 6, 7, 8, 9, 10, 11, 12, 13, 14, 15] rfl rfl (by decide) (by decide) (by decide) rfl hl.1 rfl (Nat.le_of_ble_eq_true rfl) dX8_init_75 ⟨Nat.le_of_ble_eq_true rfl, Nat.le_of_ble_eq_true rfl⟩ (fun r_25 X_r_25 nw_r_25 H locs hr_25 hR => ?_)
  obtain ⟨rfl, rfl, b_23, b_24, rfl⟩ := hr_25
  have hR : rR G A s.heap _ _ ([(mk, .inr (7, [.ref q_1, .ref q_5, .ref q_8, .ref q_11, .ref q_14, .ref q_17, .null, .int 0, .int 0])), (q_1, .inr (4, [.ref w_2, .ref b_3, .int (nI 0)])), (w_2, .inl (cI, 5, .inl (fun _ => 0))), (b_3, .inl (cB, 400, .inl (fun _ => 0))), (q_5, .inr (5, [.ref r_6, .int (nI 0)])), (r_6, .inl (cE, 120, rfs (fun _ => none))), (q_8, .inr (5, [.ref r_9, .int (nI 0)])), (r_9, .inl (cE, 120, rfs (fun _ => none))), (q_11, .inr (5, [.ref r_12, .int (nI 0)])), (r_12, .inl (cE, 120, rfs (fun _ => none))), (q_14, .inr (2, [.ref r_15, .int (nI 0)])), (r_15, .inl (cS, 40, rfs (fun _ => none))), (q_17, .inr (6, [.ref ch_18, .int (nI 0), .int (nI 0)])), (ch_18, .inr (0, [.ref b_19, .ref b_20, .int (nI 0)])), (b_19, .inl (cE, 180, rfs (fun _ => none))), (b_20, .inl (cE, 180, rfs (fun _ => none))), (q_22, .inr (0, [.ref b_23, .ref b_24, .int (nI 0)])), (b_23, .inl (cE, 180, rfs (fun _ => none))), (b_24, .inl (cE, 180, rfs (fun _ => none)))] ++ pl) := (xc_nil hR)
  refine va_putF (D := G) (ci := 7) (v := .ref q_22) (ty := .object "MirrorKeep$Changes") (C := RX8) (T := TX8) (N := 9) hx hb hts inX8 tyX8 tyX8_ok nmX8 hown hK hR.1 hR.2.1 hR.2.2 0 rfl rfl 6 (by decide) k_46 (fun _ h => h) rfl hin rfl (by decide +kernel) rfl rfl (Nat.le_of_ble_eq_true rfl) dX8_init_78 (fun H locs hP hD hS => ?_)
  have hR : rR G A s.heap _ _ ([(mk, .inr (7, [.ref q_1, .ref q_5, .ref q_8, .ref q_11, .ref q_14, .ref q_17, .ref q_22, .int 0, .int 0])), (q_1, .inr (4, [.ref w_2, .ref b_3, .int (nI 0)])), (w_2, .inl (cI, 5, .inl (fun _ => 0))), (b_3, .inl (cB, 400, .inl (fun _ => 0))), (q_5, .inr (5, [.ref r_6, .int (nI 0)])), (r_6, .inl (cE, 120, rfs (fun _ => none))), (q_8, .inr (5, [.ref r_9, .int (nI 0)])), (r_9, .inl (cE, 120, rfs (fun _ => none))), (q_11, .inr (5, [.ref r_12, .int (nI 0)])), (r_12, .inl (cE, 120, rfs (fun _ => none))), (q_14, .inr (2, [.ref r_15, .int (nI 0)])), (r_15, .inl (cS, 40, rfs (fun _ => none))), (q_17, .inr (6, [.ref ch_18, .int (nI 0), .int (nI 0)])), (ch_18, .inr (0, [.ref b_19, .ref b_20, .int (nI 0)])), (b_19, .inl (cE, 180, rfs (fun _ => none))), (b_20, .inl (cE, 180, rfs (fun _ => none))), (q_22, .inr (0, [.ref b_23, .ref b_24, .int (nI 0)])), (b_23, .inl (cE, 180, rfs (fun _ => none))), (b_24, .inl (cE, 180, rfs (fun _ => none)))] ++ pl) := ⟨hP, hD, hS⟩
  refine lv_aload_n hx hb dX8_init_81 rfl (lv_at hl 0 rfl) ?_
  refine lv_iconst (v := (-1)) hx hb dX8_init_82 rfl ?_
  refine va_put (D := G) (ci := 7) (v := .int (-1)) (ty := .int) (C := RX8) (T := TX8) (N := 9) hx hb hts inX8 tyX8 tyX8_ok nmX8 hown hK hR.1 hR.2.1 hR.2.2 0 rfl rfl 7 (by decide) k_50 (fun _ h => h) rfl (by decide +kernel) rfl rfl (Nat.le_of_ble_eq_true rfl) dX8_init_83 (fun H locs hP hD hS => ?_)
  have hR : rR G A s.heap _ _ ([(mk, .inr (7, [.ref q_1, .ref q_5, .ref q_8, .ref q_11, .ref q_14, .ref q_17, .ref q_22, .int (-1), .int 0])), (q_1, .inr (4, [.ref w_2, .ref b_3, .int (nI 0)])), (w_2, .inl (cI, 5, .inl (fun _ => 0))), (b_3, .inl (cB, 400, .inl (fun _ => 0))), (q_5, .inr (5, [.ref r_6, .int (nI 0)])), (r_6, .inl (cE, 120, rfs (fun _ => none))), (q_8, .inr (5, [.ref r_9, .int (nI 0)])), (r_9, .inl (cE, 120, rfs (fun _ => none))), (q_11, .inr (5, [.ref r_12, .int (nI 0)])), (r_12, .inl (cE, 120, rfs (fun _ => none))), (q_14, .inr (2, [.ref r_15, .int (nI 0)])), (r_15, .inl (cS, 40, rfs (fun _ => none))), (q_17, .inr (6, [.ref ch_18, .int (nI 0), .int (nI 0)])), (ch_18, .inr (0, [.ref b_19, .ref b_20, .int (nI 0)])), (b_19, .inl (cE, 180, rfs (fun _ => none))), (b_20, .inl (cE, 180, rfs (fun _ => none))), (q_22, .inr (0, [.ref b_23, .ref b_24, .int (nI 0)])), (b_23, .inl (cE, 180, rfs (fun _ => none))), (b_24, .inl (cE, 180, rfs (fun _ => none)))] ++ pl) := ⟨hP, hD, hS⟩
  refine lv_aload_n hx hb dX8_init_86 rfl (lv_at hl 0 rfl) ?_
  refine lv_iconst (v := nI 0) hx hb dX8_init_87 rfl ?_
  refine va_put (D := G) (ci := 7) (v := .int (nI 0)) (ty := .int) (C := RX8) (T := TX8) (N := 9) hx hb hts inX8 tyX8 tyX8_ok nmX8 hown hK hR.1 hR.2.1 hR.2.2 0 rfl rfl 8 (by decide) k_54 (fun _ h => h) rfl (by decide +kernel) rfl rfl (Nat.le_of_ble_eq_true rfl) dX8_init_88 (fun H locs hP hD hS => ?_)
  have hR : rR G A s.heap _ _ ([(mk, .inr (7, [.ref q_1, .ref q_5, .ref q_8, .ref q_11, .ref q_14, .ref q_17, .ref q_22, .int (-1), .int (nI 0)])), (q_1, .inr (4, [.ref w_2, .ref b_3, .int (nI 0)])), (w_2, .inl (cI, 5, .inl (fun _ => 0))), (b_3, .inl (cB, 400, .inl (fun _ => 0))), (q_5, .inr (5, [.ref r_6, .int (nI 0)])), (r_6, .inl (cE, 120, rfs (fun _ => none))), (q_8, .inr (5, [.ref r_9, .int (nI 0)])), (r_9, .inl (cE, 120, rfs (fun _ => none))), (q_11, .inr (5, [.ref r_12, .int (nI 0)])), (r_12, .inl (cE, 120, rfs (fun _ => none))), (q_14, .inr (2, [.ref r_15, .int (nI 0)])), (r_15, .inl (cS, 40, rfs (fun _ => none))), (q_17, .inr (6, [.ref ch_18, .int (nI 0), .int (nI 0)])), (ch_18, .inr (0, [.ref b_19, .ref b_20, .int (nI 0)])), (b_19, .inl (cE, 180, rfs (fun _ => none))), (b_20, .inl (cE, 180, rfs (fun _ => none))), (q_22, .inr (0, [.ref b_23, .ref b_24, .int (nI 0)])), (b_23, .inl (cE, 180, rfs (fun _ => none))), (b_24, .inl (cE, 180, rfs (fun _ => none)))] ++ pl) := ⟨hP, hD, hS⟩
  rw [hQ]
  refine W.widen (k := 18) (n := 1600) (by omega) (by omega) ?_
  refine xc_vret (X1 := [(mk, .inr (7, [.ref q_1, .ref q_5, .ref q_8, .ref q_11, .ref q_14, .ref q_17, .ref q_22, .int (-1), .int (nI 0)])), (q_1, .inr (4, [.ref w_2, .ref b_3, .int (nI 0)])), (w_2, .inl (cI, 5, .inl (fun _ => 0))), (b_3, .inl (cB, 400, .inl (fun _ => 0))), (q_5, .inr (5, [.ref r_6, .int (nI 0)])), (r_6, .inl (cE, 120, rfs (fun _ => none))), (q_8, .inr (5, [.ref r_9, .int (nI 0)])), (r_9, .inl (cE, 120, rfs (fun _ => none))), (q_11, .inr (5, [.ref r_12, .int (nI 0)])), (r_12, .inl (cE, 120, rfs (fun _ => none))), (q_14, .inr (2, [.ref r_15, .int (nI 0)])), (r_15, .inl (cS, 40, rfs (fun _ => none))), (q_17, .inr (6, [.ref ch_18, .int (nI 0), .int (nI 0)])), (ch_18, .inr (0, [.ref b_19, .ref b_20, .int (nI 0)])), (b_19, .inl (cE, 180, rfs (fun _ => none))), (b_20, .inl (cE, 180, rfs (fun _ => none))), (q_22, .inr (0, [.ref b_23, .ref b_24, .int (nI 0)])), (b_23, .inl (cE, 180, rfs (fun _ => none))), (b_24, .inl (cE, 180, rfs (fun _ => none)))]) (nw := []) hx hb hr hlocks ?_ ?_ dX8_init_91
  · rw [List.append_nil]; exact hR
  · try rw [List.append_nil]
    exact ⟨rfl, fun i => ([mk, q_1, w_2, b_3, q_5, r_6, q_8, r_9, q_11, r_12, q_14, r_15, q_17, ch_18, b_19, b_20, q_22, b_23, b_24] : List Nat).getD i 0, rfl, _, _, _, _, _, _, _, _, _, _, rfl, rd_z (fun _ _ => rfl), tpR_0, tRows_nil, tRows_nil, tRows_nil, hRows_nil, cRows_nil, cRows_nil⟩
