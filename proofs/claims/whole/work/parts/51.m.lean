set_option maxHeartbeats 4000000 in
set_option maxRecDepth 100000 in
theorem K_feed (l : Launch) {G : va_G} {tys : List (ClassId × FieldType)} {cB cI cE cS : ClassId} (hT : tys = [(cB, .byte), (cI, .int), (cE, .object RX1), (cS, .object RX4)]) {pl : va_W} {sz : Nat} {z : Nat → Nat} {X : va_W} {T rd : List Nat} {Ls Lm Lr : List En} {Sn : List Se} {Cw C2 : List Cg} {tm0 : Int32} {dn : Nat} {cho : Int32} {st : Nat} (hk : kRep cB cI cE cS z X pl T rd Ls Lm Lr Sn Cw C2 tm0 dn cho st) (wa wb wc wd9 we : Int32) : cMet l yX8_feed wsX8_feed ({ frames := 1, cells := 0, slots := 0, locals := 25 } : Room) G tys [.ref (z 0), .int wa, .int wb, .int wc, .int wd9, .int we] X pl sz 0 0 (fun o9 X1 nw => o9 = none ∧ kRep cB cI cE cS z X1 (pl ++ nw) T (feedL wa wb wc wd9 we) Ls Lm Lr Sn Cw C2 tm0 dn cho st) := by
  obtain ⟨g, fb, f1, f2, f3, fh, c1, c2, c3, c4, rfl, hrd, htp, hr1, hr2, hr3, hhr, hcr, hcr2⟩ := hk
  have hT0 : tys[0]? = some (cB, .byte) := by rw [hT]; rfl
  have hT1 : tys[1]? = some (cI, .int) := by rw [hT]; rfl
  have hT2 : tys[2]? = some (cE, .object RX1) := by rw [hT]; rfl
  have hT3 : tys[3]? = some (cS, .object RX4) := by rw [hT]; rfl
  refine Met.ofW (cc := cX8_feed) (maxL := 6) (ret := none) (by decide) rfl ?_
  intro p e s m args below meth c s₁ B hml hv
  obtain ⟨hargs, hsz, hP, hK, hD0, hZ⟩ := hv
  have hx := B.exec
  have hb := B.bytes
  have hr := B.returns
  have hts := atoms_spec (ws := wsX8_feed) B.pre
  have hown : s.vm.findClass RX8 = some m.cls := findClass_of_methodNamed B.named
  have hlocks := B.notSynchronized
  subst hsz
  have hD := hD0.self (sz := s.heap.size)
  obtain ⟨A, hAe⟩ : ∃ A : Nat → Prop, A = va_A ((kX cB cI cE cS z T.length g fb Ls.length f1 Lm.length f2 Lr.length f3 Sn.length fh tm0 dn Cw.length c1 c2 C2.length c3 c4 cho st) ++ pl) s.heap.size := ⟨_, rfl⟩
  rw [← hAe] at hD
  have hA : ∀ q : Nat, s.heap.size ≤ q → A q := fun q h => by rw [hAe]; exact Or.inr h
  have inX8 : ∀ w ∈ wsX80, w ∈ wsX8_feed := by decide +kernel
  have k_10 := hts (.fieldLink RX8 10 "MirrorKeep" "tape" "LMirrorKeep$Tape;") (by decide +kernel)
  have hR : rR G A s.heap s.heap [] ((kX cB cI cE cS z T.length g fb Ls.length f1 Lm.length f2 Lr.length f3 Sn.length fh tm0 dn Cw.length c1 c2 C2.length c3 c4 cho st) ++ pl) := ⟨hP, hD, va_S.rf⟩
  obtain ⟨Q, hQ⟩ : ∃ Q : State → Prop, Q = MQ below (cQ G A pl (fun o9 X1 nw => o9 = none ∧ kRep cB cI cE cS z X1 (pl ++ nw) T (feedL wa wb wc wd9 we) Ls Lm Lr Sn Cw C2 tm0 dn cho st)) args s 0 0 A := ⟨_, rfl⟩
  change W p l e ({ frames := 1, cells := 0, slots := 0, locals := 25 } : Room) s m args below meth c s.heap [] 0 0 (MQ below (cQ G (va_A ((kX cB cI cE cS z T.length g fb Ls.length f1 Lm.length f2 Lr.length f3 Sn.length fh tm0 dn Cw.length c1 c2 C2.length c3 c4 cho st) ++ pl) s.heap.size) pl (fun o9 X1 nw => o9 = none ∧ kRep cB cI cE cS z X1 (pl ++ nw) T (feedL wa wb wc wd9 we) Ls Lm Lr Sn Cw C2 tm0 dn cho st)) args s 0 0 (va_A ((kX cB cI cE cS z T.length g fb Ls.length f1 Lm.length f2 Lr.length f3 Sn.length fh tm0 dn Cw.length c1 c2 C2.length c3 c4 cho st) ++ pl) s.heap.size)) (entryFrame m args 6)
  rw [← hAe]
  rw [← hQ]
  refine nn_entry hargs (Nat.le_of_ble_eq_true rfl) (lv := [(0, .ref (z 0)), (1, .int wa), (2, .int wb), (3, .int wc), (4, .int wd9), (5, .int we)]) rfl (fun ls hl => ?_)
  refine lv_aload_n hx hb dX8_feed_0 rfl (lv_at hl 0 rfl) ?_
  refine xg (ci := 7) (C := RX8) (T := TX8) (N := 9) (v := .ref (z 1)) hx hb hts inX8 hown hK hR.1 (List.mem_of_getElem? (i := 0) rfl) rfl 0 (by decide) k_10 (fun _ h => h) rfl dX8_feed_1 ?_
  refine lv_iload_n hx hb dX8_feed_4 rfl (lv_at hl 1 rfl) ?_
  refine lv_iload_n hx hb dX8_feed_5 rfl (lv_at hl 2 rfl) ?_
  refine lv_iload_n hx hb dX8_feed_6 rfl (lv_at hl 3 rfl) ?_
  refine lv_iload hx hb dX8_feed_7 (lv_at hl 4 rfl) ?_
  refine lv_iload hx hb dX8_feed_9 (lv_at hl 5 rfl) ?_
  refine xc_callV (C := RX5) (As := [.int wa, .int wb, .int wc, .int wd9, .int we]) (rest := []) (cx := [(z 1, .inr (4, [.ref (z 2), .ref (z 3), .int (nI T.length)])), (z 2, .inl (cI, 5, .inl g)), (z 3, .inl (cB, 400, .inl fb))]) (wr := (([0, 4, 5, 6, 7, 8, 9, 10, 11, 12, 13, 14, 15, 16, 17, 18] : List Nat).filterMap (fun i => (kX cB cI cE cS z T.length g fb Ls.length f1 Lm.length f2 Lr.length f3 Sn.length fh tm0 dn Cw.length c1 c2 C2.length c3 c4 cho st)[i]?))) (c_makeReady l hT htp wa wb wc wd9 we) ⟨hx, hb, hml, hown, hts⟩ (cwV 5 hts gX8_feed_X5_makeReady rfl rfl rfl (by decide +kernel) ⟨Nat.le_of_ble_eq_true rfl, Nat.le_of_ble_eq_true rfl⟩) hK hZ hR hA (xrecv (ci := 4) hK hR.1 rfl (List.mem_of_getElem? (i := 1) rfl)) [1, 2, 3] [0, 4, 5, 6, 7, 8, 9, 10, 11, 12, 13, 14, 15, 16, 17, 18] rfl rfl (by decide) (by decide) (by decide) rfl hl.1 rfl (Nat.le_of_ble_eq_true rfl) dX8_feed_11 ⟨Nat.le_of_ble_eq_true rfl, Nat.le_of_ble_eq_true rfl⟩ (fun r_1 X_r_1 nw_r_1 H locs hr_1 hR => ?_)
  obtain ⟨rfl, rfl, g2, rfl, hg2⟩ := hr_1
  have hR : rR G A s.heap _ _ ((kX cB cI cE cS z T.length g2 fb Ls.length f1 Lm.length f2 Lr.length f3 Sn.length fh tm0 dn Cw.length c1 c2 C2.length c3 c4 cho st) ++ pl) := xc_perm (xc_nil hR) [0, 16, 17, 18, 1, 2, 3, 4, 5, 6, 7, 8, 9, 10, 11, 12, 13, 14, 15] rfl (by decide)
  rw [hQ]
  refine xc_vret (X1 := (kX cB cI cE cS z T.length g2 fb Ls.length f1 Lm.length f2 Lr.length f3 Sn.length fh tm0 dn Cw.length c1 c2 C2.length c3 c4 cho st)) (nw := []) hx hb hr hlocks ?_ ?_ dX8_feed_14
  · rw [List.append_nil]; exact hR
  · try rw [List.append_nil]
    exact ⟨rfl, ⟨_, _, _, _, _, _, _, _, _, _, rfl, hg2, htp, hr1, hr2, hr3, hhr, hcr, hcr2⟩⟩
set_option maxHeartbeats 4000000 in
set_option maxRecDepth 100000 in
theorem K_end (l : Launch) {G : va_G} {tys : List (ClassId × FieldType)} {cB cI cE cS : ClassId} (hT : tys = [(cB, .byte), (cI, .int), (cE, .object RX1), (cS, .object RX4)]) {pl : va_W} {sz : Nat} {z : Nat → Nat} {X : va_W} {T rd : List Nat} {Ls Lm Lr : List En} {Sn : List Se} {Cw C2 : List Cg} {tm0 : Int32} {dn : Nat} {cho : Int32} {st : Nat} (hk : kRep cB cI cE cS z X pl T rd Ls Lm Lr Sn Cw C2 tm0 dn cho st) (n0 : Int32) : cMet l yX8_end wsX8_end ({ frames := 2, cells := 0, slots := 0, locals := 45 } : Room) G tys [.ref (z 0), .int n0] X pl sz 0 0 (fun o9 X1 nw => ((0 ≤ n0.toInt ∧ n0.toInt ≤ 20 ∧ (T.length : Int) + n0.toInt ≤ 400) ∧ o9 = some (.int (nI (T ++ rd.take n0.toInt.toNat).length)) ∧ kRep cB cI cE cS z X1 (pl ++ nw) (T ++ rd.take n0.toInt.toNat) (List.replicate 20 0) Ls Lm Lr Sn Cw C2 tm0 dn cho st) ∨ (¬ (0 ≤ n0.toInt ∧ n0.toInt ≤ 20 ∧ (T.length : Int) + n0.toInt ≤ 400) ∧ o9 = some (.int (-1)) ∧ kRep cB cI cE cS z X1 (pl ++ nw) T rd Ls Lm Lr Sn Cw C2 tm0 dn cho st)) := by
  obtain ⟨g, fb, f1, f2, f3, fh, c1, c2, c3, c4, rfl, hrd, htp, hr1, hr2, hr3, hhr, hcr, hcr2⟩ := hk
  have hT0 : tys[0]? = some (cB, .byte) := by rw [hT]; rfl
  have hT1 : tys[1]? = some (cI, .int) := by rw [hT]; rfl
  have hT2 : tys[2]? = some (cE, .object RX1) := by rw [hT]; rfl
  have hT3 : tys[3]? = some (cS, .object RX4) := by rw [hT]; rfl
  refine Met.ofW (cc := cX8_end) (maxL := 2) (ret := (some .int)) (by decide) rfl ?_
  intro p e s m args below meth c s₁ B hml hv
  obtain ⟨hargs, hsz, hP, hK, hD0, hZ⟩ := hv
  have hx := B.exec
  have hb := B.bytes
  have hr := B.returns
  have hts := atoms_spec (ws := wsX8_end) B.pre
  have hown : s.vm.findClass RX8 = some m.cls := findClass_of_methodNamed B.named
  have hlocks := B.notSynchronized
  subst hsz
  have hD := hD0.self (sz := s.heap.size)
  obtain ⟨A, hAe⟩ : ∃ A : Nat → Prop, A = va_A ((kX cB cI cE cS z T.length g fb Ls.length f1 Lm.length f2 Lr.length f3 Sn.length fh tm0 dn Cw.length c1 c2 C2.length c3 c4 cho st) ++ pl) s.heap.size := ⟨_, rfl⟩
  rw [← hAe] at hD
  have hA : ∀ q : Nat, s.heap.size ≤ q → A q := fun q h => by rw [hAe]; exact Or.inr h
  have inX8 : ∀ w ∈ wsX80, w ∈ wsX8_end := by decide +kernel
  have k_10 := hts (.fieldLink RX8 10 "MirrorKeep" "tape" "LMirrorKeep$Tape;") (by decide +kernel)
  have hR : rR G A s.heap s.heap [] ((kX cB cI cE cS z T.length g fb Ls.length f1 Lm.length f2 Lr.length f3 Sn.length fh tm0 dn Cw.length c1 c2 C2.length c3 c4 cho st) ++ pl) := ⟨hP, hD, va_S.rf⟩
  obtain ⟨Q, hQ⟩ : ∃ Q : State → Prop, Q = MQ below (cQ G A pl (fun o9 X1 nw => ((0 ≤ n0.toInt ∧ n0.toInt ≤ 20 ∧ (T.length : Int) + n0.toInt ≤ 400) ∧ o9 = some (.int (nI (T ++ rd.take n0.toInt.toNat).length)) ∧ kRep cB cI cE cS z X1 (pl ++ nw) (T ++ rd.take n0.toInt.toNat) (List.replicate 20 0) Ls Lm Lr Sn Cw C2 tm0 dn cho st) ∨ (¬ (0 ≤ n0.toInt ∧ n0.toInt ≤ 20 ∧ (T.length : Int) + n0.toInt ≤ 400) ∧ o9 = some (.int (-1)) ∧ kRep cB cI cE cS z X1 (pl ++ nw) T rd Ls Lm Lr Sn Cw C2 tm0 dn cho st))) args s 0 0 A := ⟨_, rfl⟩
  change W p l e ({ frames := 2, cells := 0, slots := 0, locals := 45 } : Room) s m args below meth c s.heap [] 0 0 (MQ below (cQ G (va_A ((kX cB cI cE cS z T.length g fb Ls.length f1 Lm.length f2 Lr.length f3 Sn.length fh tm0 dn Cw.length c1 c2 C2.length c3 c4 cho st) ++ pl) s.heap.size) pl (fun o9 X1 nw => ((0 ≤ n0.toInt ∧ n0.toInt ≤ 20 ∧ (T.length : Int) + n0.toInt ≤ 400) ∧ o9 = some (.int (nI (T ++ rd.take n0.toInt.toNat).length)) ∧ kRep cB cI cE cS z X1 (pl ++ nw) (T ++ rd.take n0.toInt.toNat) (List.replicate 20 0) Ls Lm Lr Sn Cw C2 tm0 dn cho st) ∨ (¬ (0 ≤ n0.toInt ∧ n0.toInt ≤ 20 ∧ (T.length : Int) + n0.toInt ≤ 400) ∧ o9 = some (.int (-1)) ∧ kRep cB cI cE cS z X1 (pl ++ nw) T rd Ls Lm Lr Sn Cw C2 tm0 dn cho st))) args s 0 0 (va_A ((kX cB cI cE cS z T.length g fb Ls.length f1 Lm.length f2 Lr.length f3 Sn.length fh tm0 dn Cw.length c1 c2 C2.length c3 c4 cho st) ++ pl) s.heap.size)) (entryFrame m args 2)
  rw [← hAe]
  rw [← hQ]
  refine nn_entry hargs (Nat.le_of_ble_eq_true rfl) (lv := [(0, .ref (z 0)), (1, .int n0)]) rfl (fun ls hl => ?_)
  refine lv_aload_n hx hb dX8_end_0 rfl (lv_at hl 0 rfl) ?_
  refine xg (ci := 7) (C := RX8) (T := TX8) (N := 9) (v := .ref (z 1)) hx hb hts inX8 hown hK hR.1 (List.mem_of_getElem? (i := 0) rfl) rfl 0 (by decide) k_10 (fun _ h => h) rfl dX8_end_1 ?_
  refine lv_iload_n hx hb dX8_end_4 rfl (lv_at hl 1 rfl) ?_
  refine xc_callV (C := RX5) (As := [.int n0]) (rest := []) (cx := [(z 1, .inr (4, [.ref (z 2), .ref (z 3), .int (nI T.length)])), (z 2, .inl (cI, 5, .inl g)), (z 3, .inl (cB, 400, .inl fb))]) (wr := (([0, 4, 5, 6, 7, 8, 9, 10, 11, 12, 13, 14, 15, 16, 17, 18] : List Nat).filterMap (fun i => (kX cB cI cE cS z T.length g fb Ls.length f1 Lm.length f2 Lr.length f3 Sn.length fh tm0 dn Cw.length c1 c2 C2.length c3 c4 cho st)[i]?))) (c_append l hT htp n0) ⟨hx, hb, hml, hown, hts⟩ (cwV 1 hts gX8_end_X5_append rfl rfl rfl (by decide +kernel) ⟨Nat.le_of_ble_eq_true rfl, Nat.le_of_ble_eq_true rfl⟩) hK hZ hR hA (xrecv (ci := 4) hK hR.1 rfl (List.mem_of_getElem? (i := 1) rfl)) [1, 2, 3] [0, 4, 5, 6, 7, 8, 9, 10, 11, 12, 13, 14, 15, 16, 17, 18] rfl rfl (by decide) (by decide) (by decide) rfl hl.1 rfl (Nat.le_of_ble_eq_true rfl) dX8_end_5 ⟨Nat.le_of_ble_eq_true rfl, Nat.le_of_ble_eq_true rfl⟩ (fun r9 X_9 nw_9 H locs h9 hR => ?_)
  rcases h9 with h9 | h9
  · obtain ⟨hok, rfl, g2, fb2, rfl, rfl, hf2, hg2⟩ := h9
    have hR : rR G A s.heap _ _ ((kX cB cI cE cS z ((T ++ (rdW g).take n0.toInt.toNat).length) g2 fb2 Ls.length f1 Lm.length f2 Lr.length f3 Sn.length fh tm0 dn Cw.length c1 c2 C2.length c3 c4 cho st) ++ pl) := xc_perm (xc_nil hR) [0, 16, 17, 18, 1, 2, 3, 4, 5, 6, 7, 8, 9, 10, 11, 12, 13, 14, 15] rfl (by decide)
    rw [hQ]
    refine xc_iret (X1 := (kX cB cI cE cS z ((T ++ (rdW g).take n0.toInt.toNat).length) g2 fb2 Ls.length f1 Lm.length f2 Lr.length f3 Sn.length fh tm0 dn Cw.length c1 c2 C2.length c3 c4 cho st)) (nw := []) hx hb hr hlocks ?_ ?_ dX8_end_8
    · rw [List.append_nil]; exact hR
    · try rw [List.append_nil]
      exact (Or.inl ⟨hok, by rw [← hrd], ⟨_, _, _, _, _, _, _, _, _, _, by rw [← hrd], hg2, (by show tpR fb2 (T ++ rd.take n0.toInt.toNat); rw [← hrd]; exact hf2), hr1, hr2, hr3, hhr, hcr, hcr2⟩⟩)
  · obtain ⟨hok, rfl, rfl, rfl⟩ := h9
    have hR : rR G A s.heap _ _ ((kX cB cI cE cS z T.length g fb Ls.length f1 Lm.length f2 Lr.length f3 Sn.length fh tm0 dn Cw.length c1 c2 C2.length c3 c4 cho st) ++ pl) := xc_perm (xc_nil hR) [0, 16, 17, 18, 1, 2, 3, 4, 5, 6, 7, 8, 9, 10, 11, 12, 13, 14, 15] rfl (by decide)
    rw [hQ]
    refine xc_iret (X1 := (kX cB cI cE cS z T.length g fb Ls.length f1 Lm.length f2 Lr.length f3 Sn.length fh tm0 dn Cw.length c1 c2 C2.length c3 c4 cho st)) (nw := []) hx hb hr hlocks ?_ ?_ dX8_end_8
    · rw [List.append_nil]; exact hR
    · try rw [List.append_nil]
      exact (Or.inr ⟨hok, rfl, ⟨_, _, _, _, _, _, _, _, _, _, rfl, hrd, htp, hr1, hr2, hr3, hhr, hcr, hcr2⟩⟩)
set_option maxHeartbeats 4000000 in
set_option maxRecDepth 100000 in
theorem K_choose (l : Launch) {G : va_G} {tys : List (ClassId × FieldType)} {cB cI cE cS : ClassId} (hT : tys = [(cB, .byte), (cI, .int), (cE, .object RX1), (cS, .object RX4)]) {pl : va_W} {sz : Nat} {z : Nat → Nat} {X : va_W} {T rd : List Nat} {Ls Lm Lr : List En} {Sn : List Se} {Cw C2 : List Cg} {tm0 : Int32} {dn : Nat} {cho : Int32} {st : Nat} (hk : kRep cB cI cE cS z X pl T rd Ls Lm Lr Sn Cw C2 tm0 dn cho st) (hs : srt Ls) : cMet l yX8_choose wsX8_choose ({ frames := 3, cells := 1, slots := 1500, locals := 103 } : Room) G tys [.ref (z 0)] X pl sz 1 1500 (fun o9 X1 nw => ((¬ (0 ≤ (fnd2 Ls T).toInt ∧ (fnd2 Ls T).toInt < Ls.length) ∧ o9 = some (.int (-1))) ∨ ∃ i, fnd2 Ls T = nI i ∧ i < Ls.length ∧ o9 = some (.int (Ls.getD i e0).2.1)) ∧ kRep cB cI cE cS z X1 (pl ++ nw) ([]) rd Ls Lm Lr Sn Cw C2 tm0 dn (fnd2 Ls T) st) := by
  obtain ⟨g, fb, f1, f2, f3, fh, c1, c2, c3, c4, rfl, hrd, htp, hr1, hr2, hr3, hhr, hcr, hcr2⟩ := hk
  have hT0 : tys[0]? = some (cB, .byte) := by rw [hT]; rfl
  have hT1 : tys[1]? = some (cI, .int) := by rw [hT]; rfl
  have hT2 : tys[2]? = some (cE, .object RX1) := by rw [hT]; rfl
  have hT3 : tys[3]? = some (cS, .object RX4) := by rw [hT]; rfl
  refine Met.ofW (cc := cX8_choose) (maxL := 2) (ret := (some .int)) (by decide) rfl ?_
  intro p e s m args below meth c s₁ B hml hv
  obtain ⟨hargs, hsz, hP, hK, hD0, hZ⟩ := hv
  have hx := B.exec
  have hb := B.bytes
  have hr := B.returns
  have hts := atoms_spec (ws := wsX8_choose) B.pre
  have hown : s.vm.findClass RX8 = some m.cls := findClass_of_methodNamed B.named
  have hlocks := B.notSynchronized
  subst hsz
  have hD := hD0.self (sz := s.heap.size)
  obtain ⟨A, hAe⟩ : ∃ A : Nat → Prop, A = va_A ((kX cB cI cE cS z T.length g fb Ls.length f1 Lm.length f2 Lr.length f3 Sn.length fh tm0 dn Cw.length c1 c2 C2.length c3 c4 cho st) ++ pl) s.heap.size := ⟨_, rfl⟩
  rw [← hAe] at hD
  have hA : ∀ q : Nat, s.heap.size ≤ q → A q := fun q h => by rw [hAe]; exact Or.inr h
  have inX1 : ∀ w ∈ wsX10, w ∈ wsX8_choose := by decide +kernel
  have inX8 : ∀ w ∈ wsX80, w ∈ wsX8_choose := by decide +kernel
  have k_10 := hts (.fieldLink RX8 10 "MirrorKeep" "tape" "LMirrorKeep$Tape;") (by decide +kernel)
  have k_19 := hts (.fieldLink RX8 19 "MirrorKeep" "source" "LMirrorKeep$Tree;") (by decide +kernel)
  have k_50 := hts (.fieldLink RX8 50 "MirrorKeep" "chosen" "I") (by decide +kernel)
  have k_123 := hts (.fieldLink RX8 123 "MirrorKeep$Entry" "kind" "I") (by decide +kernel)
  have hR : rR G A s.heap s.heap [] ((kX cB cI cE cS z T.length g fb Ls.length f1 Lm.length f2 Lr.length f3 Sn.length fh tm0 dn Cw.length c1 c2 C2.length c3 c4 cho st) ++ pl) := ⟨hP, hD, va_S.rf⟩
  obtain ⟨Q, hQ⟩ : ∃ Q : State → Prop, Q = MQ below (cQ G A pl (fun o9 X1 nw => ((¬ (0 ≤ (fnd2 Ls T).toInt ∧ (fnd2 Ls T).toInt < Ls.length) ∧ o9 = some (.int (-1))) ∨ ∃ i, fnd2 Ls T = nI i ∧ i < Ls.length ∧ o9 = some (.int (Ls.getD i e0).2.1)) ∧ kRep cB cI cE cS z X1 (pl ++ nw) ([]) rd Ls Lm Lr Sn Cw C2 tm0 dn (fnd2 Ls T) st)) args s 1 1500 A := ⟨_, rfl⟩
  change W p l e ({ frames := 3, cells := 1, slots := 1500, locals := 103 } : Room) s m args below meth c s.heap [] 0 0 (MQ below (cQ G (va_A ((kX cB cI cE cS z T.length g fb Ls.length f1 Lm.length f2 Lr.length f3 Sn.length fh tm0 dn Cw.length c1 c2 C2.length c3 c4 cho st) ++ pl) s.heap.size) pl (fun o9 X1 nw => ((¬ (0 ≤ (fnd2 Ls T).toInt ∧ (fnd2 Ls T).toInt < Ls.length) ∧ o9 = some (.int (-1))) ∨ ∃ i, fnd2 Ls T = nI i ∧ i < Ls.length ∧ o9 = some (.int (Ls.getD i e0).2.1)) ∧ kRep cB cI cE cS z X1 (pl ++ nw) ([]) rd Ls Lm Lr Sn Cw C2 tm0 dn (fnd2 Ls T) st)) args s 1 1500 (va_A ((kX cB cI cE cS z T.length g fb Ls.length f1 Lm.length f2 Lr.length f3 Sn.length fh tm0 dn Cw.length c1 c2 C2.length c3 c4 cho st) ++ pl) s.heap.size)) (entryFrame m args 2)
  rw [← hAe]
  rw [← hQ]
  refine nn_entry hargs (Nat.le_of_ble_eq_true rfl) (lv := [(0, .ref (z 0))]) rfl (fun ls hl => ?_)
  have htl := tpR_lt htp
  refine lv_aload_n hx hb dX8_choose_0 rfl (lv_at hl 0 rfl) ?_
  refine lv_aload_n hx hb dX8_choose_1 rfl (lv_at hl 0 rfl) ?_
  refine xg (ci := 7) (C := RX8) (T := TX8) (N := 9) (v := .ref (z 4)) hx hb hts inX8 hown hK hR.1 (List.mem_of_getElem? (i := 0) rfl) rfl 1 (by decide) k_19 (fun _ h => h) rfl dX8_choose_2 ?_
  refine lv_aload_n hx hb dX8_choose_5 rfl (lv_at hl 0 rfl) ?_
  refine xg (ci := 7) (C := RX8) (T := TX8) (N := 9) (v := .ref (z 1)) hx hb hts inX8 hown hK hR.1 (List.mem_of_getElem? (i := 0) rfl) rfl 0 (by decide) k_10 (fun _ h => h) rfl dX8_choose_6 ?_
  refine xc_callV (C := RX5) (As := []) (rest := [.ref (z 4), .ref (z 0)]) (cx := [(z 1, .inr (4, [.ref (z 2), .ref (z 3), .int (nI T.length)])), (z 2, .inl (cI, 5, .inl g)), (z 3, .inl (cB, 400, .inl fb))]) (wr := (([0, 4, 5, 6, 7, 8, 9, 10, 11, 12, 13, 14, 15, 16, 17, 18] : List Nat).filterMap (fun i => (kX cB cI cE cS z T.length g fb Ls.length f1 Lm.length f2 Lr.length f3 Sn.length fh tm0 dn Cw.length c1 c2 C2.length c3 c4 cho st)[i]?))) (c_take l hT htp) ⟨hx, hb, hml, hown, hts⟩ (cwV 0 hts gX8_choose_X5_take rfl rfl rfl (by decide +kernel) ⟨Nat.le_of_ble_eq_true rfl, Nat.le_of_ble_eq_true rfl⟩) hK hZ hR hA (xrecv (ci := 4) hK hR.1 rfl (List.mem_of_getElem? (i := 1) rfl)) [1, 2, 3] [0, 4, 5, 6, 7, 8, 9, 10, 11, 12, 13, 14, 15, 16, 17, 18] rfl rfl (by decide) (by decide) (by decide) rfl hl.1 rfl (Nat.le_of_ble_eq_true rfl) dX8_choose_9 ⟨Nat.le_of_ble_eq_true rfl, Nat.le_of_ble_eq_true rfl⟩ (fun r_2 X_r_2 nw_r_2 H locs hr_2 hR => ?_)
  obtain ⟨q_1, rfl, rfl, hq_1⟩ := hr_2
  obtain hR : rR G A s.heap H locs (_ ++ (pl ++ nw_r_2)) := hR
  obtain ⟨pl1, e_pl1, sb_pl_pl1⟩ : ∃ z : va_W, z = pl ++ nw_r_2 ∧ ∀ q, q ∈ pl → q ∈ z := ⟨_, rfl, plm⟩
  rw [← e_pl1] at hR hq_1
  have t_pl1 : pl1 = pl ++ nw_r_2 := e_pl1
  have hR : rR G A s.heap _ _ ((kX cB cI cE cS z 0 g fb Ls.length f1 Lm.length f2 Lr.length f3 Sn.length fh tm0 dn Cw.length c1 c2 C2.length c3 c4 cho st) ++ pl1) := xc_perm hR [0, 16, 17, 18, 1, 2, 3, 4, 5, 6, 7, 8, 9, 10, 11, 12, 13, 14, 15] rfl (by decide)
  refine pf_callV (C := RX6) (As := [.ref q_1]) (rest := [.ref (z 0)]) (p_find l hT (⟨(List.mem_of_getElem? (i := 4) rfl), (List.mem_of_getElem? (i := 5) rfl), ((hr1.mono sb_pl_pl1).mono xpm)⟩ : tRep ((kX cB cI cE cS z 0 g fb Ls.length f1 Lm.length f2 Lr.length f3 Sn.length fh tm0 dn Cw.length c1 c2 C2.length c3 c4 cho st) ++ pl1) cB cE (z 4) (z 5) f1 Ls) hs (hq_1.mono xpm) (by omega)) ⟨hx, hb, hml, hown, hts⟩ (cwV 1 hts gX8_choose_X6_find rfl rfl rfl (by decide +kernel) ⟨Nat.le_of_ble_eq_true rfl, Nat.le_of_ble_eq_true rfl⟩) hK hR.1 (xrecv (ci := 5) hK hR.1 rfl (List.mem_of_getElem? (i := 4) rfl)) rfl hl.1 rfl (Nat.le_of_ble_eq_true rfl) dX8_choose_12 ⟨Nat.le_of_ble_eq_true rfl, Nat.le_of_ble_eq_true rfl⟩ (fun r_3 hr_3 => ?_)
  subst hr_3
  refine va_put (D := G) (ci := 7) (v := .int (fnd2 Ls T)) (ty := .int) (C := RX8) (T := TX8) (N := 9) hx hb hts inX8 tyX8 tyX8_ok nmX8 hown hK hR.1 hR.2.1 hR.2.2 0 rfl rfl 7 (by decide) k_50 (fun _ h => h) rfl (by decide +kernel) rfl rfl (Nat.le_of_ble_eq_true rfl) dX8_choose_15 (fun H locs hP hD hS => ?_)
  have hR : rR G A s.heap _ _ ((kX cB cI cE cS z 0 g fb Ls.length f1 Lm.length f2 Lr.length f3 Sn.length fh tm0 dn Cw.length c1 c2 C2.length c3 c4 (fnd2 Ls T) st) ++ pl1) := ⟨hP, hD, hS⟩
  refine lv_aload_n hx hb dX8_choose_18 rfl (lv_at hl 0 rfl) ?_
  refine xg (ci := 7) (C := RX8) (T := TX8) (N := 9) (v := .ref (z 4)) hx hb hts inX8 hown hK hR.1 (List.mem_of_getElem? (i := 0) rfl) rfl 1 (by decide) k_19 (fun _ h => h) rfl dX8_choose_19 ?_
  refine lv_aload_n hx hb dX8_choose_22 rfl (lv_at hl 0 rfl) ?_
  refine xg (ci := 7) (C := RX8) (T := TX8) (N := 9) (v := .int (fnd2 Ls T)) hx hb hts inX8 hown hK hR.1 (List.mem_of_getElem? (i := 0) rfl) rfl 7 (by decide) k_50 (fun _ h => h) rfl dX8_choose_23 ?_
  refine pf_callV (C := RX6) (As := [.int (fnd2 Ls T)]) (rest := []) (p_tget l hT (⟨(List.mem_of_getElem? (i := 4) rfl), (List.mem_of_getElem? (i := 5) rfl), ((hr1.mono sb_pl_pl1).mono xpm)⟩ : tRep ((kX cB cI cE cS z 0 g fb Ls.length f1 Lm.length f2 Lr.length f3 Sn.length fh tm0 dn Cw.length c1 c2 C2.length c3 c4 (fnd2 Ls T) st) ++ pl1) cB cE (z 4) (z 5) f1 Ls) (fnd2 Ls T)) ⟨hx, hb, hml, hown, hts⟩ (cwV 1 hts gX8_choose_X6_get rfl rfl rfl (by decide +kernel) ⟨Nat.le_of_ble_eq_true rfl, Nat.le_of_ble_eq_true rfl⟩) hK hR.1 (xrecv (ci := 5) hK hR.1 rfl (List.mem_of_getElem? (i := 4) rfl)) rfl hl.1 rfl (Nat.le_of_ble_eq_true rfl) dX8_choose_26 ⟨Nat.le_of_ble_eq_true rfl, Nat.le_of_ble_eq_true rfl⟩ (fun r_4 hr_4 => ?_)
  rcases hr_4 with ⟨hr_4, rfl⟩ | ⟨k_5, a_6, hk_5, jk_5, rfl, ha_6, -⟩
  · refine lv_astore_nN (lv' := [(1, .null), (0, .ref (z 0))]) hx hb dX8_choose_29 rfl hl (by decide) rfl (fun ls hl => ?_)
    refine lv_aload_nN hx hb dX8_choose_30 rfl (lv_at hl 0 rfl) ?_
    refine lv_ifnonnullN hx hb dX8_choose_31 ?_
    refine lv_iconst (v := (-1)) hx hb dX8_choose_34 rfl ?_
    refine lv_goto (tgt := 42) hx hb dX8_choose_35 (by decide) ?_
    rw [hQ]
    refine W.widen (k := 1) (n := 1500) (by omega) (by omega) ?_
    refine xc_iret (X1 := (kX cB cI cE cS z 0 g fb Ls.length f1 Lm.length f2 Lr.length f3 Sn.length fh tm0 dn Cw.length c1 c2 C2.length c3 c4 (fnd2 Ls T) st)) (nw := nw_r_2) hx hb hr hlocks ?_ ?_ dX8_choose_42
    · rw [← t_pl1]; exact hR
    · try rw [← t_pl1]
      exact ⟨Or.inl ⟨hr_4, rfl⟩, ⟨_, _, _, _, _, _, _, _, _, _, rfl, hrd, (tpR_nil htp), (hr1.mono sb_pl_pl1), (hr2.mono sb_pl_pl1), (hr3.mono sb_pl_pl1), (hhr.mono sb_pl_pl1), (hcr.mono sb_pl_pl1), (hcr2.mono sb_pl_pl1)⟩⟩
  · have ga_6 := pe_row (hr1.mono sb_pl_pl1) (h := ha_6) jk_5
    obtain ⟨pae_8, cae_8, hme_8, hpae_8, hcae_8⟩ := id ga_6
    refine lv_astore_n (lv' := [(1, .ref a_6), (0, .ref (z 0))]) hx hb dX8_choose_29 rfl hl (by decide) rfl (fun ls hl => ?_)
    refine lv_aload_n hx hb dX8_choose_30 rfl (lv_at hl 0 rfl) ?_
    refine lv_ifnonnull hx hb dX8_choose_31 (tgt := 38) (by decide) ?_
    refine lv_aload_n hx hb dX8_choose_38 rfl (lv_at hl 0 rfl) ?_
    refine xg (ci := 1) (C := RX1) (T := TX1) (N := 5) (v := .int ((Ls.getD k_5 e0).2.1)) hx hb hts inX1 hown hK hR.1 (List.mem_append_right _ hme_8) rfl 1 (by decide) k_123 (fun _ h => h) rfl dX8_choose_39 ?_
    rw [hQ]
    refine W.widen (k := 1) (n := 1500) (by omega) (by omega) ?_
    refine xc_iret (X1 := (kX cB cI cE cS z 0 g fb Ls.length f1 Lm.length f2 Lr.length f3 Sn.length fh tm0 dn Cw.length c1 c2 C2.length c3 c4 (fnd2 Ls T) st)) (nw := nw_r_2) hx hb hr hlocks ?_ ?_ dX8_choose_42
    · rw [← t_pl1]; exact hR
    · try rw [← t_pl1]
      exact ⟨Or.inr ⟨k_5, hk_5, jk_5, rfl⟩, ⟨_, _, _, _, _, _, _, _, _, _, rfl, hrd, (tpR_nil htp), (hr1.mono sb_pl_pl1), (hr2.mono sb_pl_pl1), (hr3.mono sb_pl_pl1), (hhr.mono sb_pl_pl1), (hcr.mono sb_pl_pl1), (hcr2.mono sb_pl_pl1)⟩⟩
set_option maxHeartbeats 4000000 in
set_option maxRecDepth 100000 in
theorem K_differ (l : Launch) {G : va_G} {tys : List (ClassId × FieldType)} {cB cI cE cS : ClassId} (hT : tys = [(cB, .byte), (cI, .int), (cE, .object RX1), (cS, .object RX4)]) {pl : va_W} {sz : Nat} {z : Nat → Nat} {X : va_W} {T rd : List Nat} {Ls Lm Lr : List En} {Sn : List Se} {Cw C2 : List Cg} {tm0 : Int32} {dn : Nat} {cho : Int32} {st : Nat} (hk : kRep cB cI cE cS z X pl T rd Ls Lm Lr Sn Cw C2 tm0 dn cho st) (hlen : Lm.length + Ls.length ≤ 180) : cMet l yX8_differ wsX8_differ ({ frames := 3, cells := 0, slots := 0, locals := 72 } : Room) G tys [.ref (z 0)] X pl sz 0 0 (fun o9 X1 nw => o9 = some (.int (nI (chg Lm Ls).length)) ∧ kRep cB cI cE cS z X1 (pl ++ nw) T rd Ls Lm Lr Sn Cw (chg Lm Ls) tm0 dn cho st) := by
  obtain ⟨g, fb, f1, f2, f3, fh, c1, c2, c3, c4, rfl, hrd, htp, hr1, hr2, hr3, hhr, hcr, hcr2⟩ := hk
  have hT0 : tys[0]? = some (cB, .byte) := by rw [hT]; rfl
  have hT1 : tys[1]? = some (cI, .int) := by rw [hT]; rfl
  have hT2 : tys[2]? = some (cE, .object RX1) := by rw [hT]; rfl
  have hT3 : tys[3]? = some (cS, .object RX4) := by rw [hT]; rfl
  refine Met.ofW (cc := cX8_differ) (maxL := 1) (ret := (some .int)) (by decide) rfl ?_
  intro p e s m args below meth c s₁ B hml hv
  obtain ⟨hargs, hsz, hP, hK, hD0, hZ⟩ := hv
  have hx := B.exec
  have hb := B.bytes
  have hr := B.returns
  have hts := atoms_spec (ws := wsX8_differ) B.pre
  have hown : s.vm.findClass RX8 = some m.cls := findClass_of_methodNamed B.named
  have hlocks := B.notSynchronized
  subst hsz
  have hD := hD0.self (sz := s.heap.size)
  obtain ⟨A, hAe⟩ : ∃ A : Nat → Prop, A = va_A ((kX cB cI cE cS z T.length g fb Ls.length f1 Lm.length f2 Lr.length f3 Sn.length fh tm0 dn Cw.length c1 c2 C2.length c3 c4 cho st) ++ pl) s.heap.size := ⟨_, rfl⟩
  rw [← hAe] at hD
  have hA : ∀ q : Nat, s.heap.size ≤ q → A q := fun q h => by rw [hAe]; exact Or.inr h
  have inX8 : ∀ w ∈ wsX80, w ∈ wsX8_differ := by decide +kernel
  have k_19 := hts (.fieldLink RX8 19 "MirrorKeep" "source" "LMirrorKeep$Tree;") (by decide +kernel)
  have k_23 := hts (.fieldLink RX8 23 "MirrorKeep" "mirror" "LMirrorKeep$Tree;") (by decide +kernel)
  have k_46 := hts (.fieldLink RX8 46 "MirrorKeep" "compared" "LMirrorKeep$Changes;") (by decide +kernel)
  have hR : rR G A s.heap s.heap [] ((kX cB cI cE cS z T.length g fb Ls.length f1 Lm.length f2 Lr.length f3 Sn.length fh tm0 dn Cw.length c1 c2 C2.length c3 c4 cho st) ++ pl) := ⟨hP, hD, va_S.rf⟩
  obtain ⟨Q, hQ⟩ : ∃ Q : State → Prop, Q = MQ below (cQ G A pl (fun o9 X1 nw => o9 = some (.int (nI (chg Lm Ls).length)) ∧ kRep cB cI cE cS z X1 (pl ++ nw) T rd Ls Lm Lr Sn Cw (chg Lm Ls) tm0 dn cho st)) args s 0 0 A := ⟨_, rfl⟩
  change W p l e ({ frames := 3, cells := 0, slots := 0, locals := 72 } : Room) s m args below meth c s.heap [] 0 0 (MQ below (cQ G (va_A ((kX cB cI cE cS z T.length g fb Ls.length f1 Lm.length f2 Lr.length f3 Sn.length fh tm0 dn Cw.length c1 c2 C2.length c3 c4 cho st) ++ pl) s.heap.size) pl (fun o9 X1 nw => o9 = some (.int (nI (chg Lm Ls).length)) ∧ kRep cB cI cE cS z X1 (pl ++ nw) T rd Ls Lm Lr Sn Cw (chg Lm Ls) tm0 dn cho st)) args s 0 0 (va_A ((kX cB cI cE cS z T.length g fb Ls.length f1 Lm.length f2 Lr.length f3 Sn.length fh tm0 dn Cw.length c1 c2 C2.length c3 c4 cho st) ++ pl) s.heap.size)) (entryFrame m args 1)
  rw [← hAe]
  rw [← hQ]
  refine nn_entry hargs (Nat.le_of_ble_eq_true rfl) (lv := [(0, .ref (z 0))]) rfl (fun ls hl => ?_)
  refine lv_aload_n hx hb dX8_differ_0 rfl (lv_at hl 0 rfl) ?_
  refine xg (ci := 7) (C := RX8) (T := TX8) (N := 9) (v := .ref (z 16)) hx hb hts inX8 hown hK hR.1 (List.mem_of_getElem? (i := 0) rfl) rfl 6 (by decide) k_46 (fun _ h => h) rfl dX8_differ_1 ?_
  refine lv_aload_n hx hb dX8_differ_4 rfl (lv_at hl 0 rfl) ?_
  refine xg (ci := 7) (C := RX8) (T := TX8) (N := 9) (v := .ref (z 6)) hx hb hts inX8 hown hK hR.1 (List.mem_of_getElem? (i := 0) rfl) rfl 2 (by decide) k_23 (fun _ h => h) rfl dX8_differ_5 ?_
  refine lv_aload_n hx hb dX8_differ_8 rfl (lv_at hl 0 rfl) ?_
  refine xg (ci := 7) (C := RX8) (T := TX8) (N := 9) (v := .ref (z 4)) hx hb hts inX8 hown hK hR.1 (List.mem_of_getElem? (i := 0) rfl) rfl 1 (by decide) k_19 (fun _ h => h) rfl dX8_differ_9 ?_
  refine xc_callV (C := RX0) (As := [.ref (z 6), .ref (z 4)]) (rest := []) (cx := [(z 16, .inr (0, [.ref (z 17), .ref (z 18), .int (nI C2.length)])), (z 17, .inl (cE, 180, rfs c3)), (z 18, .inl (cE, 180, rfs c4)), (z 6, .inr (5, [.ref (z 7), .int (nI Lm.length)])), (z 7, .inl (cE, 120, rfs f2)), (z 4, .inr (5, [.ref (z 5), .int (nI Ls.length)])), (z 5, .inl (cE, 120, rfs f1))]) (wr := (([0, 1, 2, 3, 8, 9, 10, 11, 12, 13, 14, 15] : List Nat).filterMap (fun i => (kX cB cI cE cS z T.length g fb Ls.length f1 Lm.length f2 Lr.length f3 Sn.length fh tm0 dn Cw.length c1 c2 C2.length c3 c4 cho st)[i]?))) (c_find l hT hcr2 hr2 hr1 hlen) ⟨hx, hb, hml, hown, hts⟩ (cwV 2 hts gX8_differ_X0_find rfl rfl rfl (by decide +kernel) ⟨Nat.le_of_ble_eq_true rfl, Nat.le_of_ble_eq_true rfl⟩) hK hZ hR hA (xrecv (ci := 0) hK hR.1 rfl (List.mem_of_getElem? (i := 16) rfl)) [16, 17, 18, 6, 7, 4, 5] [0, 1, 2, 3, 8, 9, 10, 11, 12, 13, 14, 15] rfl rfl (by decide) (by decide) (by decide) rfl hl.1 rfl (Nat.le_of_ble_eq_true rfl) dX8_differ_12 ⟨Nat.le_of_ble_eq_true rfl, Nat.le_of_ble_eq_true rfl⟩ (fun r_1 X_r_1 nw_r_1 H locs hr_1 hR => ?_)
  obtain ⟨rfl, rfl, g1, g2, rfl, hg⟩ := hr_1
  have hR : rR G A s.heap _ _ ((kX cB cI cE cS z T.length g fb Ls.length f1 Lm.length f2 Lr.length f3 Sn.length fh tm0 dn Cw.length c1 c2 ((chg Lm Ls).length) g1 g2 cho st) ++ pl) := xc_perm (xc_nil hR) [0, 1, 2, 3, 17, 18, 15, 16, 4, 5, 6, 7, 8, 9, 10, 11, 12, 13, 14] rfl (by decide)
  refine lv_aload_n hx hb dX8_differ_15 rfl (lv_at hl 0 rfl) ?_
  refine xg (ci := 7) (C := RX8) (T := TX8) (N := 9) (v := .ref (z 16)) hx hb hts inX8 hown hK hR.1 (List.mem_of_getElem? (i := 0) rfl) rfl 6 (by decide) k_46 (fun _ h => h) rfl dX8_differ_16 ?_
  refine pf_callV (C := RX0) (As := []) (rest := []) (p_csize l hT (cRows.rep hg (List.mem_of_getElem? (i := 16) rfl) (List.mem_of_getElem? (i := 17) rfl) (List.mem_of_getElem? (i := 18) rfl))) ⟨hx, hb, hml, hown, hts⟩ (cwV 0 hts gX8_differ_X0_size rfl rfl rfl (by decide +kernel) ⟨Nat.le_of_ble_eq_true rfl, Nat.le_of_ble_eq_true rfl⟩) hK hR.1 (xrecv (ci := 0) hK hR.1 rfl (List.mem_of_getElem? (i := 16) rfl)) rfl hl.1 rfl (Nat.le_of_ble_eq_true rfl) dX8_differ_19 ⟨Nat.le_of_ble_eq_true rfl, Nat.le_of_ble_eq_true rfl⟩ (fun r_2 hr_2 => ?_)
  subst hr_2
  rw [hQ]
  refine xc_iret (X1 := (kX cB cI cE cS z T.length g fb Ls.length f1 Lm.length f2 Lr.length f3 Sn.length fh tm0 dn Cw.length c1 c2 ((chg Lm Ls).length) g1 g2 cho st)) (nw := []) hx hb hr hlocks ?_ ?_ dX8_differ_22
  · rw [List.append_nil]; exact hR
  · try rw [List.append_nil]
    exact ⟨rfl, ⟨_, _, _, _, _, _, _, _, _, _, rfl, hrd, htp, hr1, hr2, hr3, hhr, hcr, hg⟩⟩
