set_option maxHeartbeats 4000000 in
set_option maxRecDepth 100000 in
theorem K_write (l : Launch) {G : va_G} {tys : List (ClassId × FieldType)} {cB cI cE cS : ClassId} (hT : tys = [(cB, .byte), (cI, .int), (cE, .object RX1), (cS, .object RX4)]) {pl : va_W} {sz : Nat} (hlt : l.stackTraces = false) {z : Nat → Nat} {X : va_W} {T rd : List Nat} {Ls Lm Lr : List En} {Sn : List Se} {Cw C2 : List Cg} {tm0 : Int32} {dn : Nat} {cho : Int32} {st : Nat} (hk : kRep cB cI cE cS z X pl T rd Ls Lm Lr Sn Cw C2 tm0 dn cho st) (at0 : Int32) (hst9 : st ≤ 2) (hc15 : ∀ i, i < Ls.length → (ct (Ls.getD i e0)).length ≤ 1500) : xMet l yX8_write wsX8_write ({ frames := 6, cells := 3, slots := 3006, locals := 107 } : Room) G tys [.ref (z 0), .int at0] X pl sz 3 3006 (fun o9 X1 nw => st ≠ 1 ∧ ∃ i, cho = nI i ∧ i < Ls.length ∧ ¬ (Ls.getD i e0).2.1.toInt = 2 ∧ ¬ (((if (Ls.getD i e0).2.1.toInt = 3 then 100 else 1500 : Nat) : Int) < nowI at0 T.length (ct (Ls.getD i e0)).length ∨ 4000 < (csum Ls : Int) - (ct (Ls.getD i e0)).length + nowI at0 T.length (ct (Ls.getD i e0)).length) ∧ ¬ (at0.toInt < 0 ∨ ((ct (Ls.getD i e0)).length : Int) < at0.toInt) ∧ o9 = some (.int (nI (ovl (ct (Ls.getD i e0)) at0.toInt.toNat T).length)) ∧ kRep cB cI cE cS z X1 (pl ++ nw) ([]) rd (Ls.set i ((Ls.getD i e0).1, (Ls.getD i e0).2.1, (Ls.getD i e0).2.2.1, (Ls.getD i e0).2.2.2.1, ovl (ct (Ls.getD i e0)) at0.toInt.toNat T)) Lm Lr Sn Cw C2 tm0 dn cho st) (fun E X1 nw => (E = ISE ∧ st = 1 ∧ kRep cB cI cE cS z X1 (pl ++ nw) T rd Ls Lm Lr Sn Cw C2 tm0 dn cho st) ∨ (E = ISE ∧ st ≠ 1 ∧ (¬ (0 ≤ cho.toInt ∧ cho.toInt < Ls.length) ∨ ∃ i, cho = nI i ∧ i < Ls.length ∧ (Ls.getD i e0).2.1.toInt = 2) ∧ kRep cB cI cE cS z X1 (pl ++ nw) ([]) rd Ls Lm Lr Sn Cw C2 tm0 dn cho st) ∨ (st ≠ 1 ∧ ∃ i, cho = nI i ∧ i < Ls.length ∧ ¬ (Ls.getD i e0).2.1.toInt = 2 ∧ ((E = ISE ∧ (((if (Ls.getD i e0).2.1.toInt = 3 then 100 else 1500 : Nat) : Int) < nowI at0 T.length (ct (Ls.getD i e0)).length ∨ 4000 < (csum Ls : Int) - (ct (Ls.getD i e0)).length + nowI at0 T.length (ct (Ls.getD i e0)).length) ∧ kRep cB cI cE cS z X1 (pl ++ nw) ([]) rd Ls Lm Lr Sn Cw C2 tm0 dn cho st) ∨ (E = IAE ∧ ¬ (((if (Ls.getD i e0).2.1.toInt = 3 then 100 else 1500 : Nat) : Int) < nowI at0 T.length (ct (Ls.getD i e0)).length ∨ 4000 < (csum Ls : Int) - (ct (Ls.getD i e0)).length + nowI at0 T.length (ct (Ls.getD i e0)).length) ∧ (at0.toInt < 0 ∨ ((ct (Ls.getD i e0)).length : Int) < at0.toInt) ∧ kRep cB cI cE cS z X1 (pl ++ nw) ([]) rd Ls Lm Lr Sn Cw C2 tm0 dn cho st)))) := by
  obtain ⟨g, fb, f1, f2, f3, fh, c1, c2, c3, c4, rfl, hrd, htp, hr1, hr2, hr3, hhr, hcr, hcr2⟩ := hk
  have hT0 : tys[0]? = some (cB, .byte) := by rw [hT]; rfl
  have hT1 : tys[1]? = some (cI, .int) := by rw [hT]; rfl
  have hT2 : tys[2]? = some (cE, .object RX1) := by rw [hT]; rfl
  have hT3 : tys[3]? = some (cS, .object RX4) := by rw [hT]; rfl
  refine vx_ofW (cc := cX8_write) (maxL := 7) (ret := (some .int)) (by decide) rfl ?_
  intro p e s m args below meth c s₁ B hml htb hv
  obtain ⟨hargs, ⟨hsz, hP, hK, hD0, hZ⟩, hU⟩ := hv
  have hx := B.exec
  have hb := B.bytes
  have hr := B.returns
  have hts := atoms_spec (ws := wsX8_write) B.pre
  have hown : s.vm.findClass RX8 = some m.cls := findClass_of_methodNamed B.named
  have hlocks := B.notSynchronized
  subst hsz
  have hD := hD0.self (sz := s.heap.size)
  obtain ⟨A, hAe⟩ : ∃ A : Nat → Prop, A = va_A ((kX cB cI cE cS z T.length g fb Ls.length f1 Lm.length f2 Lr.length f3 Sn.length fh tm0 dn Cw.length c1 c2 C2.length c3 c4 cho st) ++ pl) s.heap.size := ⟨_, rfl⟩
  rw [← hAe] at hD hU
  have hA : ∀ q : Nat, s.heap.size ≤ q → A q := fun q h => by rw [hAe]; exact Or.inr h
  have inX1 : ∀ w ∈ wsX10, w ∈ wsX8_write := by decide +kernel
  have inX8 : ∀ w ∈ wsX80, w ∈ wsX8_write := by decide +kernel
  have k_10 := hts (.fieldLink RX8 10 "MirrorKeep" "tape" "LMirrorKeep$Tape;") (by decide +kernel)
  have k_19 := hts (.fieldLink RX8 19 "MirrorKeep" "source" "LMirrorKeep$Tree;") (by decide +kernel)
  have k_50 := hts (.fieldLink RX8 50 "MirrorKeep" "chosen" "I") (by decide +kernel)
  have k_54 := hts (.fieldLink RX8 54 "MirrorKeep" "state" "I") (by decide +kernel)
  have k_123 := hts (.fieldLink RX8 123 "MirrorKeep$Entry" "kind" "I") (by decide +kernel)
  have k_128 := hts (.fieldLink RX8 128 "MirrorKeep$Entry" "content" "[B") (by decide +kernel)
  have hR : rR G A s.heap s.heap [] ((kX cB cI cE cS z T.length g fb Ls.length f1 Lm.length f2 Lr.length f3 Sn.length fh tm0 dn Cw.length c1 c2 C2.length c3 c4 cho st) ++ pl) := ⟨hP, hD, va_S.rf⟩
  obtain ⟨Q, hQ⟩ : ∃ Q : State → Prop, Q = vx_MQ below (cQ G A pl (fun o9 X1 nw => st ≠ 1 ∧ ∃ i, cho = nI i ∧ i < Ls.length ∧ ¬ (Ls.getD i e0).2.1.toInt = 2 ∧ ¬ (((if (Ls.getD i e0).2.1.toInt = 3 then 100 else 1500 : Nat) : Int) < nowI at0 T.length (ct (Ls.getD i e0)).length ∨ 4000 < (csum Ls : Int) - (ct (Ls.getD i e0)).length + nowI at0 T.length (ct (Ls.getD i e0)).length) ∧ ¬ (at0.toInt < 0 ∨ ((ct (Ls.getD i e0)).length : Int) < at0.toInt) ∧ o9 = some (.int (nI (ovl (ct (Ls.getD i e0)) at0.toInt.toNat T).length)) ∧ kRep cB cI cE cS z X1 (pl ++ nw) ([]) rd (Ls.set i ((Ls.getD i e0).1, (Ls.getD i e0).2.1, (Ls.getD i e0).2.2.1, (Ls.getD i e0).2.2.2.1, ovl (ct (Ls.getD i e0)) at0.toInt.toNat T)) Lm Lr Sn Cw C2 tm0 dn cho st)) (xX G A pl (fun E X1 nw => (E = ISE ∧ st = 1 ∧ kRep cB cI cE cS z X1 (pl ++ nw) T rd Ls Lm Lr Sn Cw C2 tm0 dn cho st) ∨ (E = ISE ∧ st ≠ 1 ∧ (¬ (0 ≤ cho.toInt ∧ cho.toInt < Ls.length) ∨ ∃ i, cho = nI i ∧ i < Ls.length ∧ (Ls.getD i e0).2.1.toInt = 2) ∧ kRep cB cI cE cS z X1 (pl ++ nw) ([]) rd Ls Lm Lr Sn Cw C2 tm0 dn cho st) ∨ (st ≠ 1 ∧ ∃ i, cho = nI i ∧ i < Ls.length ∧ ¬ (Ls.getD i e0).2.1.toInt = 2 ∧ ((E = ISE ∧ (((if (Ls.getD i e0).2.1.toInt = 3 then 100 else 1500 : Nat) : Int) < nowI at0 T.length (ct (Ls.getD i e0)).length ∨ 4000 < (csum Ls : Int) - (ct (Ls.getD i e0)).length + nowI at0 T.length (ct (Ls.getD i e0)).length) ∧ kRep cB cI cE cS z X1 (pl ++ nw) ([]) rd Ls Lm Lr Sn Cw C2 tm0 dn cho st) ∨ (E = IAE ∧ ¬ (((if (Ls.getD i e0).2.1.toInt = 3 then 100 else 1500 : Nat) : Int) < nowI at0 T.length (ct (Ls.getD i e0)).length ∨ 4000 < (csum Ls : Int) - (ct (Ls.getD i e0)).length + nowI at0 T.length (ct (Ls.getD i e0)).length) ∧ (at0.toInt < 0 ∨ ((ct (Ls.getD i e0)).length : Int) < at0.toInt) ∧ kRep cB cI cE cS z X1 (pl ++ nw) ([]) rd Ls Lm Lr Sn Cw C2 tm0 dn cho st))))) args s 3 3006 A := ⟨_, rfl⟩
  change W p l e ({ frames := 6, cells := 3, slots := 3006, locals := 107 } : Room) s m args below meth c s.heap [] 0 0 (vx_MQ below (cQ G (va_A ((kX cB cI cE cS z T.length g fb Ls.length f1 Lm.length f2 Lr.length f3 Sn.length fh tm0 dn Cw.length c1 c2 C2.length c3 c4 cho st) ++ pl) s.heap.size) pl (fun o9 X1 nw => st ≠ 1 ∧ ∃ i, cho = nI i ∧ i < Ls.length ∧ ¬ (Ls.getD i e0).2.1.toInt = 2 ∧ ¬ (((if (Ls.getD i e0).2.1.toInt = 3 then 100 else 1500 : Nat) : Int) < nowI at0 T.length (ct (Ls.getD i e0)).length ∨ 4000 < (csum Ls : Int) - (ct (Ls.getD i e0)).length + nowI at0 T.length (ct (Ls.getD i e0)).length) ∧ ¬ (at0.toInt < 0 ∨ ((ct (Ls.getD i e0)).length : Int) < at0.toInt) ∧ o9 = some (.int (nI (ovl (ct (Ls.getD i e0)) at0.toInt.toNat T).length)) ∧ kRep cB cI cE cS z X1 (pl ++ nw) ([]) rd (Ls.set i ((Ls.getD i e0).1, (Ls.getD i e0).2.1, (Ls.getD i e0).2.2.1, (Ls.getD i e0).2.2.2.1, ovl (ct (Ls.getD i e0)) at0.toInt.toNat T)) Lm Lr Sn Cw C2 tm0 dn cho st)) (xX G (va_A ((kX cB cI cE cS z T.length g fb Ls.length f1 Lm.length f2 Lr.length f3 Sn.length fh tm0 dn Cw.length c1 c2 C2.length c3 c4 cho st) ++ pl) s.heap.size) pl (fun E X1 nw => (E = ISE ∧ st = 1 ∧ kRep cB cI cE cS z X1 (pl ++ nw) T rd Ls Lm Lr Sn Cw C2 tm0 dn cho st) ∨ (E = ISE ∧ st ≠ 1 ∧ (¬ (0 ≤ cho.toInt ∧ cho.toInt < Ls.length) ∨ ∃ i, cho = nI i ∧ i < Ls.length ∧ (Ls.getD i e0).2.1.toInt = 2) ∧ kRep cB cI cE cS z X1 (pl ++ nw) ([]) rd Ls Lm Lr Sn Cw C2 tm0 dn cho st) ∨ (st ≠ 1 ∧ ∃ i, cho = nI i ∧ i < Ls.length ∧ ¬ (Ls.getD i e0).2.1.toInt = 2 ∧ ((E = ISE ∧ (((if (Ls.getD i e0).2.1.toInt = 3 then 100 else 1500 : Nat) : Int) < nowI at0 T.length (ct (Ls.getD i e0)).length ∨ 4000 < (csum Ls : Int) - (ct (Ls.getD i e0)).length + nowI at0 T.length (ct (Ls.getD i e0)).length) ∧ kRep cB cI cE cS z X1 (pl ++ nw) ([]) rd Ls Lm Lr Sn Cw C2 tm0 dn cho st) ∨ (E = IAE ∧ ¬ (((if (Ls.getD i e0).2.1.toInt = 3 then 100 else 1500 : Nat) : Int) < nowI at0 T.length (ct (Ls.getD i e0)).length ∨ 4000 < (csum Ls : Int) - (ct (Ls.getD i e0)).length + nowI at0 T.length (ct (Ls.getD i e0)).length) ∧ (at0.toInt < 0 ∨ ((ct (Ls.getD i e0)).length : Int) < at0.toInt) ∧ kRep cB cI cE cS z X1 (pl ++ nw) ([]) rd Ls Lm Lr Sn Cw C2 tm0 dn cho st))))) args s 3 3006 (va_A ((kX cB cI cE cS z T.length g fb Ls.length f1 Lm.length f2 Lr.length f3 Sn.length fh tm0 dn Cw.length c1 c2 C2.length c3 c4 cho st) ++ pl) s.heap.size)) (entryFrame m args 7)
  rw [← hAe]
  rw [← hQ]
  refine nn_entry hargs (Nat.le_of_ble_eq_true rfl) (lv := [(0, .ref (z 0)), (1, .int at0)]) rfl (fun ls hl => ?_)
  have hk1 := hr1.1
  have hk2 := hr1.2.2.2
  have htl := tpR_lt htp
  have har := i32_rng at0
  refine lv_aload_n hx hb dX8_write_0 rfl (lv_at hl 0 rfl) ?_
  refine xg (ci := 7) (C := RX8) (T := TX8) (N := 9) (v := .int (nI st)) hx hb hts inX8 hown hK hR.1 (List.mem_of_getElem? (i := 0) rfl) rfl 8 (by decide) k_54 (fun _ h => h) rfl dX8_write_1 ?_
  refine lv_iconst (v := nI 1) hx hb dX8_write_4 rfl ?_
  refine nn_ne hx hb dX8_write_5 (tgt := 18) (by decide) (by omega) (by omega) (fun c_1 => ?_) (fun c_1 => ?_)
  · refine lv_aload_n hx hb dX8_write_18 rfl (lv_at hl 0 rfl) ?_
    refine xg (ci := 7) (C := RX8) (T := TX8) (N := 9) (v := .ref (z 1)) hx hb hts inX8 hown hK hR.1 (List.mem_of_getElem? (i := 0) rfl) rfl 0 (by decide) k_10 (fun _ h => h) rfl dX8_write_19 ?_
    refine xc_callV (C := RX5) (As := []) (rest := []) (cx := [(z 1, .inr (4, [.ref (z 2), .ref (z 3), .int (nI T.length)])), (z 2, .inl (cI, 5, .inl g)), (z 3, .inl (cB, 400, .inl fb))]) (wr := (([0, 4, 5, 6, 7, 8, 9, 10, 11, 12, 13, 14, 15, 16, 17, 18] : List Nat).filterMap (fun i => (kX cB cI cE cS z T.length g fb Ls.length f1 Lm.length f2 Lr.length f3 Sn.length fh tm0 dn Cw.length c1 c2 C2.length c3 c4 cho st)[i]?))) (c_take l hT htp) ⟨hx, hb, hml, hown, hts⟩ (cwV 0 hts gX8_write_X5_take rfl rfl rfl (by decide +kernel) ⟨Nat.le_of_ble_eq_true rfl, Nat.le_of_ble_eq_true rfl⟩) hK hZ hR hA (xrecv (ci := 4) hK hR.1 rfl (List.mem_of_getElem? (i := 1) rfl)) [1, 2, 3] [0, 4, 5, 6, 7, 8, 9, 10, 11, 12, 13, 14, 15, 16, 17, 18] rfl rfl (by decide) (by decide) (by decide) rfl hl.1 rfl (Nat.le_of_ble_eq_true rfl) dX8_write_22 ⟨Nat.le_of_ble_eq_true rfl, Nat.le_of_ble_eq_true rfl⟩ (fun r_3 X_r_3 nw_r_3 H locs hr_3 hR => ?_)
    obtain ⟨q_2, rfl, rfl, hq_2⟩ := hr_3
    obtain hR : rR G A s.heap H locs (_ ++ (pl ++ nw_r_3)) := hR
    obtain ⟨pl1, e_pl1, sb_pl_pl1⟩ : ∃ z : va_W, z = pl ++ nw_r_3 ∧ ∀ q, q ∈ pl → q ∈ z := ⟨_, rfl, plm⟩
    rw [← e_pl1] at hR hq_2
    have t_pl1 : pl1 = pl ++ nw_r_3 := e_pl1
    have hR : rR G A s.heap _ _ ((kX cB cI cE cS z 0 g fb Ls.length f1 Lm.length f2 Lr.length f3 Sn.length fh tm0 dn Cw.length c1 c2 C2.length c3 c4 cho st) ++ pl1) := xc_perm hR [0, 16, 17, 18, 1, 2, 3, 4, 5, 6, 7, 8, 9, 10, 11, 12, 13, 14, 15] rfl (by decide)
    refine lv_astore_n (lv' := [(2, .ref q_2), (0, .ref (z 0)), (1, .int at0)]) hx hb dX8_write_25 rfl hl (by decide) rfl (fun ls hl => ?_)
    refine lv_aload_n hx hb dX8_write_26 rfl (lv_at hl 1 rfl) ?_
    refine xg (ci := 7) (C := RX8) (T := TX8) (N := 9) (v := .ref (z 4)) hx hb hts inX8 hown hK hR.1 (List.mem_of_getElem? (i := 0) rfl) rfl 1 (by decide) k_19 (fun _ h => h) rfl dX8_write_27 ?_
    refine lv_aload_n hx hb dX8_write_30 rfl (lv_at hl 1 rfl) ?_
    refine xg (ci := 7) (C := RX8) (T := TX8) (N := 9) (v := .int cho) hx hb hts inX8 hown hK hR.1 (List.mem_of_getElem? (i := 0) rfl) rfl 7 (by decide) k_50 (fun _ h => h) rfl dX8_write_31 ?_
    refine pf_callV (C := RX6) (As := [.int cho]) (rest := []) (p_tget l hT (⟨(List.mem_of_getElem? (i := 4) rfl), (List.mem_of_getElem? (i := 5) rfl), ((hr1.mono sb_pl_pl1).mono xpm)⟩ : tRep ((kX cB cI cE cS z 0 g fb Ls.length f1 Lm.length f2 Lr.length f3 Sn.length fh tm0 dn Cw.length c1 c2 C2.length c3 c4 cho st) ++ pl1) cB cE (z 4) (z 5) f1 Ls) cho) ⟨hx, hb, hml, hown, hts⟩ (cwV 1 hts gX8_write_X6_get rfl rfl rfl (by decide +kernel) ⟨Nat.le_of_ble_eq_true rfl, Nat.le_of_ble_eq_true rfl⟩) hK hR.1 (xrecv (ci := 5) hK hR.1 rfl (List.mem_of_getElem? (i := 4) rfl)) rfl hl.1 rfl (Nat.le_of_ble_eq_true rfl) dX8_write_34 ⟨Nat.le_of_ble_eq_true rfl, Nat.le_of_ble_eq_true rfl⟩ (fun r_4 hr_4 => ?_)
    rcases hr_4 with ⟨hr_4, rfl⟩ | ⟨k_5, a_6, hk_5, jk_5, rfl, ha_6, -⟩
    · refine lv_astore_nN (lv' := [(3, .null), (2, .ref q_2), (0, .ref (z 0)), (1, .int at0)]) hx hb dX8_write_37 rfl hl (by decide) rfl (fun ls hl => ?_)
      refine lv_aload_nN hx hb dX8_write_38 rfl (lv_at hl 0 rfl) ?_
      refine lv_ifnullN hx hb dX8_write_39 (tgt := 50) (by decide) ?_
      rw [hQ]
      refine xc_throw (X := (kX cB cI cE cS z 0 g fb Ls.length f1 Lm.length f2 Lr.length f3 Sn.length fh tm0 dn Cw.length c1 c2 C2.length c3 c4 cho st)) (nw := nw_r_3) ISE 65 69 126 "nothing with content is chosen" xfit_ise xg_ise xn_ise hx hb hlt hown hts hZ (by decide +kernel) (by decide +kernel) (by decide +kernel) (by decide +kernel) hU ?_ ?_ (hl.1.trans hml.symm) dX8_write_50 dX8_write_53 dX8_write_54 dX8_write_56 dX8_write_59 htb (Nat.le_of_ble_eq_true rfl) (Nat.le_of_ble_eq_true rfl) (Nat.le_of_ble_eq_true rfl) (Nat.le_of_ble_eq_true rfl) hlocks (Nat.le_of_ble_eq_true rfl) (Nat.le_of_ble_eq_true rfl)
      · rw [← t_pl1]; exact hR
      · try rw [← t_pl1]
        exact (Or.inr (Or.inl ⟨rfl, by omega, Or.inl hr_4, ⟨_, _, _, _, _, _, _, _, _, _, rfl, hrd, (tpR_nil htp), (hr1.mono sb_pl_pl1), (hr2.mono sb_pl_pl1), (hr3.mono sb_pl_pl1), (hhr.mono sb_pl_pl1), (hcr.mono sb_pl_pl1), (hcr2.mono sb_pl_pl1)⟩⟩))
    · have ga_6 := pe_row (hr1.mono sb_pl_pl1) (h := ha_6) jk_5
      obtain ⟨pae_8, cae_8, hme_8, hpae_8, hcae_8⟩ := id ga_6
      refine lv_astore_n (lv' := [(3, .ref a_6), (2, .ref q_2), (0, .ref (z 0)), (1, .int at0)]) hx hb dX8_write_37 rfl hl (by decide) rfl (fun ls hl => ?_)
      have hc9 := hc15 k_5 jk_5
      have hc8 := ct_le jk_5
      refine lv_aload_n hx hb dX8_write_38 rfl (lv_at hl 0 rfl) ?_
      refine lv_ifnull hx hb dX8_write_39 ?_
      refine lv_aload_n hx hb dX8_write_42 rfl (lv_at hl 0 rfl) ?_
      refine xg (ci := 1) (C := RX1) (T := TX1) (N := 5) (v := .int ((Ls.getD k_5 e0).2.1)) hx hb hts inX1 hown hK hR.1 (List.mem_append_right _ hme_8) rfl 1 (by decide) k_123 (fun _ h => h) rfl dX8_write_43 ?_
      refine lv_iconst (v := nI 2) hx hb dX8_write_46 rfl ?_
      refine zc_ne hx hb rfl (nI_toInt (by omega)) dX8_write_47 (tgt := 60) (by decide) (fun c_9 => ?_) (fun c_9 => ?_)
      · refine lv_aload_n hx hb dX8_write_60 rfl (lv_at hl 0 rfl) ?_
        refine xg (ci := 1) (C := RX1) (T := TX1) (N := 5) (v := .ref cae_8) hx hb hts inX1 hown hK hR.1 (List.mem_append_right _ hme_8) rfl 4 (by decide) k_128 (fun _ h => h) rfl dX8_write_61 ?_
        refine xb_len hx hb hK hT0 hR.1 (hcae_8.mono xpm) dX8_write_64 ?_
        refine lv_istore (lv' := [(4, .int (nI ((ct (Ls.getD k_5 e0)).length))), (3, .ref a_6), (2, .ref q_2), (0, .ref (z 0)), (1, .int at0)]) hx hb dX8_write_65 hl (by decide) rfl (fun ls hl => ?_)
        refine lv_iload hx hb dX8_write_67 (lv_at hl 0 rfl) ?_
        refine lv_i2l hx hb dX8_write_69 rfl ?_
        refine lv_iload_n hx hb dX8_write_70 rfl (lv_at hl 4 rfl) ?_
        refine lv_i2l hx hb dX8_write_71 rfl ?_
        refine lv_aload_n hx hb dX8_write_72 rfl (lv_at hl 2 rfl) ?_
        refine xb_len hx hb hK hT0 hR.1 (hq_2.mono xpm) dX8_write_73 ?_
        refine lv_i2l hx hb dX8_write_74 rfl ?_
        refine lv_ladd hx hb dX8_write_75 ?_
        refine va_mmax_long hx hb (hml.trans hl.1.symm) hown (hts (.methodLink RX8 132 Lib.MathLoose.max_long.x) (by decide +kernel)) (hts (.static Lib.MathLoose.max_long.x) (by decide +kernel)) (hts (.initialized "java/lang/Math") (by decide +kernel)) (hts (.code Lib.MathLoose.max_long.x Lib.MathLoose.max_long.code 4 (some .long)) (by decide +kernel)) (Nat.le_of_ble_eq_true rfl) (Nat.le_of_ble_eq_true rfl) (Nat.le_of_ble_eq_true rfl) (Nat.le_of_ble_eq_true rfl) dX8_write_76 ?_
        have hmxI : (if (at0.toInt64 + ((nI T.length).toInt64)) < ((nI ((ct (Ls.getD k_5 e0)).length)).toInt64) then ((nI ((ct (Ls.getD k_5 e0)).length)).toInt64) else (at0.toInt64 + ((nI T.length).toInt64)) : Int64).toInt = nowI at0 T.length (ct (Ls.getD k_5 e0)).length := lmax_toInt (i64 (nI_toInt (by omega))) (l_add (i64 rfl) (i64 (nI_toInt (by omega))) (by omega) (by omega))
        generalize hmx : (if (at0.toInt64 + ((nI T.length).toInt64)) < ((nI ((ct (Ls.getD k_5 e0)).length)).toInt64) then ((nI ((ct (Ls.getD k_5 e0)).length)).toInt64) else (at0.toInt64 + ((nI T.length).toInt64)) : Int64) = mx at hmxI ⊢
        have hnw := nowI_ge at0 T.length (ct (Ls.getD k_5 e0)).length
        refine lv_lstore (lv' := [(5, .long mx), (4, .int (nI ((ct (Ls.getD k_5 e0)).length))), (3, .ref a_6), (2, .ref q_2), (0, .ref (z 0)), (1, .int at0)]) hx hb dX8_write_79 hl (by decide) rfl (fun ls hl => ?_)
        refine lv_lload hx hb dX8_write_81 (lv_at hl 0 rfl) ?_
        refine lv_aload_n hx hb dX8_write_83 rfl (lv_at hl 2 rfl) ?_
        refine xg (ci := 1) (C := RX1) (T := TX1) (N := 5) (v := .int ((Ls.getD k_5 e0).2.1)) hx hb hts inX1 hown hK hR.1 (List.mem_append_right _ hme_8) rfl 1 (by decide) k_123 (fun _ h => h) rfl dX8_write_84 ?_
        refine pf_callS (As := [.int ((Ls.getD k_5 e0).2.1)]) (rest := [.long mx]) (p_mostBytes l hT (w := ((kX cB cI cE cS z 0 g fb Ls.length f1 Lm.length f2 Lr.length f3 Sn.length fh tm0 dn Cw.length c1 c2 C2.length c3 c4 cho st) ++ pl1)) ((Ls.getD k_5 e0).2.1)) ⟨hx, hb, hml, hown, hts⟩ (va_cwS 1 hts gX8_write_X8_mostBytes rfl rfl rfl (by decide +kernel) ⟨Nat.le_of_ble_eq_true rfl, Nat.le_of_ble_eq_true rfl⟩) hK hR.1 rfl hl.1 rfl (Nat.le_of_ble_eq_true rfl) dX8_write_87 ⟨Nat.le_of_ble_eq_true rfl, Nat.le_of_ble_eq_true rfl⟩ (fun r_10 hr_10 => ?_)
        subst hr_10
        obtain ⟨mb, hmb⟩ : ∃ mb, mb = (if (Ls.getD k_5 e0).2.1.toInt = 3 then 100 else 1500) := ⟨_, rfl⟩
        have hmb2 : mb ≤ 1500 := by rw [hmb]; split <;> omega
        rw [← hmb]
        refine lv_i2l hx hb dX8_write_90 rfl ?_
        refine zl_gt hx hb hmxI (i64 (nI_toInt (by omega))) dX8_write_91 dX8_write_92 (tgt := 116) (by decide) (fun c_11 => ?_) (fun c_11 => ?_)
        · rw [hQ]
          refine xc_throw (X := (kX cB cI cE cS z 0 g fb Ls.length f1 Lm.length f2 Lr.length f3 Sn.length fh tm0 dn Cw.length c1 c2 C2.length c3 c4 cho st)) (nw := nw_r_3) ISE 65 69 146 "the content would be too long" xfit_ise xg_ise xn_ise hx hb hlt hown hts hZ (by decide +kernel) (by decide +kernel) (by decide +kernel) (by decide +kernel) hU ?_ ?_ (hl.1.trans hml.symm) dX8_write_116 dX8_write_119 dX8_write_120 dX8_write_122 dX8_write_125 htb (Nat.le_of_ble_eq_true rfl) (Nat.le_of_ble_eq_true rfl) (Nat.le_of_ble_eq_true rfl) (Nat.le_of_ble_eq_true rfl) hlocks (Nat.le_of_ble_eq_true rfl) (Nat.le_of_ble_eq_true rfl)
          · rw [← t_pl1]; exact hR
          · try rw [← t_pl1]
            exact (Or.inr (Or.inr ⟨by omega, _, hk_5, jk_5, by omega, Or.inl ⟨rfl, by rw [← hmb]; omega, ⟨_, _, _, _, _, _, _, _, _, _, rfl, hrd, (tpR_nil htp), (hr1.mono sb_pl_pl1), (hr2.mono sb_pl_pl1), (hr3.mono sb_pl_pl1), (hhr.mono sb_pl_pl1), (hcr.mono sb_pl_pl1), (hcr2.mono sb_pl_pl1)⟩⟩⟩))
        · refine lv_aload_n hx hb dX8_write_95 rfl (lv_at hl 4 rfl) ?_
          refine xg (ci := 7) (C := RX8) (T := TX8) (N := 9) (v := .ref (z 4)) hx hb hts inX8 hown hK hR.1 (List.mem_of_getElem? (i := 0) rfl) rfl 1 (by decide) k_19 (fun _ h => h) rfl dX8_write_96 ?_
          refine pf_callV (C := RX6) (As := []) (rest := []) (p_cbytes l hT (⟨(List.mem_of_getElem? (i := 4) rfl), (List.mem_of_getElem? (i := 5) rfl), ((hr1.mono sb_pl_pl1).mono xpm)⟩ : tRep ((kX cB cI cE cS z 0 g fb Ls.length f1 Lm.length f2 Lr.length f3 Sn.length fh tm0 dn Cw.length c1 c2 C2.length c3 c4 cho st) ++ pl1) cB cE (z 4) (z 5) f1 Ls)) ⟨hx, hb, hml, hown, hts⟩ (cwV 0 hts gX8_write_X6_contentBytes rfl rfl rfl (by decide +kernel) ⟨Nat.le_of_ble_eq_true rfl, Nat.le_of_ble_eq_true rfl⟩) hK hR.1 (xrecv (ci := 5) hK hR.1 rfl (List.mem_of_getElem? (i := 4) rfl)) rfl hl.1 rfl (Nat.le_of_ble_eq_true rfl) dX8_write_99 ⟨Nat.le_of_ble_eq_true rfl, Nat.le_of_ble_eq_true rfl⟩ (fun r_12 hr_12 => ?_)
          subst hr_12
          refine lv_iload hx hb dX8_write_102 (lv_at hl 1 rfl) ?_
          refine nn_sub hx hb (by omega) dX8_write_104 ?_
          refine lv_i2l hx hb dX8_write_105 rfl ?_
          refine lv_lload hx hb dX8_write_106 (lv_at hl 0 rfl) ?_
          refine lv_ladd hx hb dX8_write_108 ?_
          refine lv_ldc2 (v := 4000) hx hb hown (hts (.constantLong RX8 144 4000) (by decide +kernel)) dX8_write_109 ?_
          refine zl_le hx hb (l_add (i64 (nI_toInt (by omega))) hmxI (by omega) (by omega)) (show (4000 : Int64).toInt = 4000 from rfl) dX8_write_112 dX8_write_113 (tgt := 126) (by decide) (fun c_13 => ?_) (fun c_13 => ?_)
          · refine lv_iload_n hx hb dX8_write_126 rfl (lv_at hl 5 rfl) ?_
            refine zi_lt hx hb rfl dX8_write_127 (tgt := 136) (by decide) (fun c_14 => ?_) (fun c_14 => ?_)
            · rw [hQ]
              refine xc_throw (X := (kX cB cI cE cS z 0 g fb Ls.length f1 Lm.length f2 Lr.length f3 Sn.length fh tm0 dn Cw.length c1 c2 C2.length c3 c4 cho st)) (nw := nw_r_3) IAE 92 96 148 "no place of the content" xfit_iae xg_iae xn_iae hx hb hlt hown hts hZ (by decide +kernel) (by decide +kernel) (by decide +kernel) (by decide +kernel) hU ?_ ?_ (hl.1.trans hml.symm) dX8_write_136 dX8_write_139 dX8_write_140 dX8_write_142 dX8_write_145 htb (Nat.le_of_ble_eq_true rfl) (Nat.le_of_ble_eq_true rfl) (Nat.le_of_ble_eq_true rfl) (Nat.le_of_ble_eq_true rfl) hlocks (Nat.le_of_ble_eq_true rfl) (Nat.le_of_ble_eq_true rfl)
              · rw [← t_pl1]; exact hR
              · try rw [← t_pl1]
                exact (Or.inr (Or.inr ⟨by omega, _, hk_5, jk_5, by omega, Or.inr ⟨rfl, by rw [← hmb]; omega, by omega, ⟨_, _, _, _, _, _, _, _, _, _, rfl, hrd, (tpR_nil htp), (hr1.mono sb_pl_pl1), (hr2.mono sb_pl_pl1), (hr3.mono sb_pl_pl1), (hhr.mono sb_pl_pl1), (hcr.mono sb_pl_pl1), (hcr2.mono sb_pl_pl1)⟩⟩⟩))
            · refine lv_iload_n hx hb dX8_write_130 rfl (lv_at hl 5 rfl) ?_
              refine lv_iload hx hb dX8_write_131 (lv_at hl 1 rfl) ?_
              refine zc_le hx hb rfl (nI_toInt (by omega)) dX8_write_133 (tgt := 146) (by decide) (fun c_15 => ?_) (fun c_15 => ?_)
              · obtain ⟨na, hna, hna2, hna3⟩ := zn_ex (x := at0) (by omega)
                rw [hna] at hl
                refine lv_aload_n hx hb dX8_write_146 rfl (lv_at hl 4 rfl) ?_
                refine xg (ci := 7) (C := RX8) (T := TX8) (N := 9) (v := .ref (z 4)) hx hb hts inX8 hown hK hR.1 (List.mem_of_getElem? (i := 0) rfl) rfl 1 (by decide) k_19 (fun _ h => h) rfl dX8_write_147 ?_
                refine lv_aload_n hx hb dX8_write_150 rfl (lv_at hl 4 rfl) ?_
                refine xg (ci := 7) (C := RX8) (T := TX8) (N := 9) (v := .int cho) hx hb hts inX8 hown hK hR.1 (List.mem_of_getElem? (i := 0) rfl) rfl 7 (by decide) k_50 (fun _ h => h) rfl dX8_write_151 ?_
                refine nn_eqi (y := nI k_5) hk_5 ?_
                refine lv_aload_n hx hb dX8_write_154 rfl (lv_at hl 2 rfl) ?_
                refine lv_aload_n hx hb dX8_write_155 rfl (lv_at hl 2 rfl) ?_
                refine xg (ci := 1) (C := RX1) (T := TX1) (N := 5) (v := .ref cae_8) hx hb hts inX1 hown hK hR.1 (List.mem_append_right _ hme_8) rfl 4 (by decide) k_128 (fun _ h => h) rfl dX8_write_156 ?_
                refine lv_iload_n hx hb dX8_write_159 rfl (lv_at hl 5 rfl) ?_
                refine lv_aload_n hx hb dX8_write_160 rfl (lv_at hl 3 rfl) ?_
                refine xc_callS (As := [.ref cae_8, .int (nI na), .ref q_2]) (rest := [.ref a_6, .int (nI k_5), .ref (z 4)]) (cx := []) (wr := (kX cB cI cE cS z 0 g fb Ls.length f1 Lm.length f2 Lr.length f3 Sn.length fh tm0 dn Cw.length c1 c2 C2.length c3 c4 cho st)) (c_overlaid l hT hcae_8 hq_2 (by omega) (by omega) (by omega)) ⟨hx, hb, hml, hown, hts⟩ (va_cwS 3 hts gX8_write_X8_overlaid rfl rfl rfl (by decide +kernel) ⟨Nat.le_of_ble_eq_true rfl, Nat.le_of_ble_eq_true rfl⟩) hK hZ hR hA [] [0, 1, 2, 3, 4, 5, 6, 7, 8, 9, 10, 11, 12, 13, 14, 15, 16, 17, 18] rfl rfl (by decide) (by decide) (by decide) rfl hl.1 rfl (Nat.le_of_ble_eq_true rfl) dX8_write_161 ⟨Nat.le_of_ble_eq_true rfl, Nat.le_of_ble_eq_true rfl⟩ (fun r_16 X_r_16 nw_r_16 H locs hr_16 hR => ?_)
                obtain ⟨q8, rfl, rfl, hq8⟩ := hr_16
                have hov := nowI_ovl (T := T) hna2 (show na ≤ (ct (Ls.getD k_5 e0)).length by omega)
                obtain hR : rR G A s.heap H locs (_ ++ (pl1 ++ nw_r_16)) := hR
                obtain ⟨pl2, e_pl2, sb_pl1_pl2⟩ : ∃ z : va_W, z = pl1 ++ nw_r_16 ∧ ∀ q, q ∈ pl1 → q ∈ z := ⟨_, rfl, plm⟩
                rw [← e_pl2] at hR hq8
                have sb_pl_pl2 : ∀ q, q ∈ pl → q ∈ pl2 := fun q h => sb_pl1_pl2 q (sb_pl_pl1 q h)
                have t_pl2 : pl2 = pl ++ (nw_r_3 ++ nw_r_16) := by rw [e_pl2, t_pl1, List.append_assoc]
                have hR : rR G A s.heap _ _ ((kX cB cI cE cS z 0 g fb Ls.length f1 Lm.length f2 Lr.length f3 Sn.length fh tm0 dn Cw.length c1 c2 C2.length c3 c4 cho st) ++ pl2) := hR
                refine xc_callV (C := RX1) (As := [.ref q8]) (rest := [.int (nI k_5), .ref (z 4)]) (cx := []) (wr := (kX cB cI cE cS z 0 g fb Ls.length f1 Lm.length f2 Lr.length f3 Sn.length fh tm0 dn Cw.length c1 c2 C2.length c3 c4 cho st)) (c_withContent l hT (ga_6.mono sb_pl1_pl2) hq8) ⟨hx, hb, hml, hown, hts⟩ (cwV 1 hts gX8_write_X1_withContent rfl rfl rfl (by decide +kernel) ⟨Nat.le_of_ble_eq_true rfl, Nat.le_of_ble_eq_true rfl⟩) hK hZ hR hA (xrecv (ci := 1) hK hR.1 rfl (List.mem_append_right _ (sb_pl1_pl2 _ hme_8))) [] [0, 1, 2, 3, 4, 5, 6, 7, 8, 9, 10, 11, 12, 13, 14, 15, 16, 17, 18] rfl rfl (by decide) (by decide) (by decide) rfl hl.1 rfl (Nat.le_of_ble_eq_true rfl) dX8_write_164 ⟨Nat.le_of_ble_eq_true rfl, Nat.le_of_ble_eq_true rfl⟩ (fun r_18 X_r_18 nw_r_18 H locs hr_18 hR => ?_)
                obtain ⟨rfl, q_17, rfl, hq_17⟩ := hr_18
                obtain hR : rR G A s.heap H locs (_ ++ (pl2 ++ nw_r_18)) := hR
                obtain ⟨pl3, e_pl3, sb_pl2_pl3⟩ : ∃ z : va_W, z = pl2 ++ nw_r_18 ∧ ∀ q, q ∈ pl2 → q ∈ z := ⟨_, rfl, plm⟩
                rw [← e_pl3] at hR hq_17
                have sb_pl_pl3 : ∀ q, q ∈ pl → q ∈ pl3 := fun q h => sb_pl2_pl3 q (sb_pl_pl2 q h)
                have sb_pl1_pl3 : ∀ q, q ∈ pl1 → q ∈ pl3 := fun q h => sb_pl2_pl3 q (sb_pl1_pl2 q h)
                have t_pl3 : pl3 = pl ++ ((nw_r_3 ++ nw_r_16) ++ nw_r_18) := by rw [e_pl3, t_pl2, List.append_assoc]
                have hR : rR G A s.heap _ _ ((kX cB cI cE cS z 0 g fb Ls.length f1 Lm.length f2 Lr.length f3 Sn.length fh tm0 dn Cw.length c1 c2 C2.length c3 c4 cho st) ++ pl3) := hR
                refine xc_callV (C := RX6) (As := [.int (nI k_5), .ref q_17]) (rest := []) (cx := [(z 4, .inr (5, [.ref (z 5), .int (nI Ls.length)])), (z 5, .inl (cE, 120, rfs f1))]) (wr := (([0, 1, 2, 3, 6, 7, 8, 9, 10, 11, 12, 13, 14, 15, 16, 17, 18] : List Nat).filterMap (fun i => (kX cB cI cE cS z 0 g fb Ls.length f1 Lm.length f2 Lr.length f3 Sn.length fh tm0 dn Cw.length c1 c2 C2.length c3 c4 cho st)[i]?))) (c_replace l hT (hr1.mono sb_pl_pl3) hq_17 k_5 jk_5) ⟨hx, hb, hml, hown, hts⟩ (cwV 2 hts gX8_write_X6_replace rfl rfl rfl (by decide +kernel) ⟨Nat.le_of_ble_eq_true rfl, Nat.le_of_ble_eq_true rfl⟩) hK hZ hR hA (xrecv (ci := 5) hK hR.1 rfl (List.mem_of_getElem? (i := 4) rfl)) [4, 5] [0, 1, 2, 3, 6, 7, 8, 9, 10, 11, 12, 13, 14, 15, 16, 17, 18] rfl rfl (by decide) (by decide) (by decide) rfl hl.1 rfl (Nat.le_of_ble_eq_true rfl) dX8_write_167 ⟨Nat.le_of_ble_eq_true rfl, Nat.le_of_ble_eq_true rfl⟩ (fun r_19 X_r_19 nw_r_19 H locs hr_19 hR => ?_)
                obtain ⟨rfl, rfl, rfl⟩ := hr_19
                have hR : rR G A s.heap _ _ ((kX cB cI cE cS z 0 g fb Ls.length (va_up f1 k_5 (some q_17)) Lm.length f2 Lr.length f3 Sn.length fh tm0 dn Cw.length c1 c2 C2.length c3 c4 cho st) ++ pl3) := xc_perm (xc_nil hR) [0, 1, 2, 3, 17, 18, 4, 5, 6, 7, 8, 9, 10, 11, 12, 13, 14, 15, 16] rfl (by decide)
                refine lv_lload hx hb dX8_write_170 (lv_at hl 0 rfl) ?_
                refine lv_l2i hx hb dX8_write_172 (l_i32 (n := (ovl (ct (Ls.getD k_5 e0)) na T).length) (hmxI.trans hov) (by omega)) ?_
                rw [hQ]
                refine vx_ret ?_
                refine W.widen (k := 3) (n := 3006) (by omega) (by omega) ?_
                refine xc_iret (X1 := (kX cB cI cE cS z 0 g fb Ls.length (va_up f1 k_5 (some q_17)) Lm.length f2 Lr.length f3 Sn.length fh tm0 dn Cw.length c1 c2 C2.length c3 c4 cho st)) (nw := ((nw_r_3 ++ nw_r_16) ++ nw_r_18)) hx hb hr hlocks ?_ ?_ dX8_write_173
                · rw [← t_pl3]; exact hR
                · try rw [← t_pl3]
                  exact (by rw [show at0.toInt.toNat = na by omega]; exact ⟨by omega, k_5, hk_5, jk_5, by omega, by rw [← hmb]; omega, by omega, rfl, ⟨_, _, _, _, _, _, _, _, _, _, (by rw [List.length_set] <;> rfl), hrd, (tpR_nil htp), (rp_rows (hr1.mono sb_pl_pl3) jk_5 hq_17 rfl (by show csum Ls + (ovl (ct (Ls.getD k_5 e0)) na T).length ≤ 8000 + (ct (Ls.getD k_5 e0)).length; omega)), (hr2.mono sb_pl_pl3), (hr3.mono sb_pl_pl3), (hhr.mono sb_pl_pl3), (hcr.mono sb_pl_pl3), (hcr2.mono sb_pl_pl3)⟩⟩)
              · rw [hQ]
                refine xc_throw (X := (kX cB cI cE cS z 0 g fb Ls.length f1 Lm.length f2 Lr.length f3 Sn.length fh tm0 dn Cw.length c1 c2 C2.length c3 c4 cho st)) (nw := nw_r_3) IAE 92 96 148 "no place of the content" xfit_iae xg_iae xn_iae hx hb hlt hown hts hZ (by decide +kernel) (by decide +kernel) (by decide +kernel) (by decide +kernel) hU ?_ ?_ (hl.1.trans hml.symm) dX8_write_136 dX8_write_139 dX8_write_140 dX8_write_142 dX8_write_145 htb (Nat.le_of_ble_eq_true rfl) (Nat.le_of_ble_eq_true rfl) (Nat.le_of_ble_eq_true rfl) (Nat.le_of_ble_eq_true rfl) hlocks (Nat.le_of_ble_eq_true rfl) (Nat.le_of_ble_eq_true rfl)
                · rw [← t_pl1]; exact hR
                · try rw [← t_pl1]
                  exact (Or.inr (Or.inr ⟨by omega, _, hk_5, jk_5, by omega, Or.inr ⟨rfl, by rw [← hmb]; omega, by omega, ⟨_, _, _, _, _, _, _, _, _, _, rfl, hrd, (tpR_nil htp), (hr1.mono sb_pl_pl1), (hr2.mono sb_pl_pl1), (hr3.mono sb_pl_pl1), (hhr.mono sb_pl_pl1), (hcr.mono sb_pl_pl1), (hcr2.mono sb_pl_pl1)⟩⟩⟩))
          · rw [hQ]
            refine xc_throw (X := (kX cB cI cE cS z 0 g fb Ls.length f1 Lm.length f2 Lr.length f3 Sn.length fh tm0 dn Cw.length c1 c2 C2.length c3 c4 cho st)) (nw := nw_r_3) ISE 65 69 146 "the content would be too long" xfit_ise xg_ise xn_ise hx hb hlt hown hts hZ (by decide +kernel) (by decide +kernel) (by decide +kernel) (by decide +kernel) hU ?_ ?_ (hl.1.trans hml.symm) dX8_write_116 dX8_write_119 dX8_write_120 dX8_write_122 dX8_write_125 htb (Nat.le_of_ble_eq_true rfl) (Nat.le_of_ble_eq_true rfl) (Nat.le_of_ble_eq_true rfl) (Nat.le_of_ble_eq_true rfl) hlocks (Nat.le_of_ble_eq_true rfl) (Nat.le_of_ble_eq_true rfl)
            · rw [← t_pl1]; exact hR
            · try rw [← t_pl1]
              exact (Or.inr (Or.inr ⟨by omega, _, hk_5, jk_5, by omega, Or.inl ⟨rfl, by rw [← hmb]; omega, ⟨_, _, _, _, _, _, _, _, _, _, rfl, hrd, (tpR_nil htp), (hr1.mono sb_pl_pl1), (hr2.mono sb_pl_pl1), (hr3.mono sb_pl_pl1), (hhr.mono sb_pl_pl1), (hcr.mono sb_pl_pl1), (hcr2.mono sb_pl_pl1)⟩⟩⟩))
      · rw [hQ]
        refine xc_throw (X := (kX cB cI cE cS z 0 g fb Ls.length f1 Lm.length f2 Lr.length f3 Sn.length fh tm0 dn Cw.length c1 c2 C2.length c3 c4 cho st)) (nw := nw_r_3) ISE 65 69 126 "nothing with content is chosen" xfit_ise xg_ise xn_ise hx hb hlt hown hts hZ (by decide +kernel) (by decide +kernel) (by decide +kernel) (by decide +kernel) hU ?_ ?_ (hl.1.trans hml.symm) dX8_write_50 dX8_write_53 dX8_write_54 dX8_write_56 dX8_write_59 htb (Nat.le_of_ble_eq_true rfl) (Nat.le_of_ble_eq_true rfl) (Nat.le_of_ble_eq_true rfl) (Nat.le_of_ble_eq_true rfl) hlocks (Nat.le_of_ble_eq_true rfl) (Nat.le_of_ble_eq_true rfl)
        · rw [← t_pl1]; exact hR
        · try rw [← t_pl1]
          exact (Or.inr (Or.inl ⟨rfl, by omega, Or.inr ⟨_, hk_5, jk_5, by omega⟩, ⟨_, _, _, _, _, _, _, _, _, _, rfl, hrd, (tpR_nil htp), (hr1.mono sb_pl_pl1), (hr2.mono sb_pl_pl1), (hr3.mono sb_pl_pl1), (hhr.mono sb_pl_pl1), (hcr.mono sb_pl_pl1), (hcr2.mono sb_pl_pl1)⟩⟩))
  · rw [hQ]
    refine xc_throw (X := (kX cB cI cE cS z T.length g fb Ls.length f1 Lm.length f2 Lr.length f3 Sn.length fh tm0 dn Cw.length c1 c2 C2.length c3 c4 cho st)) (nw := []) ISE 65 69 67 "a session is under way" xfit_ise xg_ise xn_ise hx hb hlt hown hts hZ (by decide +kernel) (by decide +kernel) (by decide +kernel) (by decide +kernel) hU ?_ ?_ (hl.1.trans hml.symm) dX8_write_8 dX8_write_11 dX8_write_12 dX8_write_14 dX8_write_17 htb (Nat.le_of_ble_eq_true rfl) (Nat.le_of_ble_eq_true rfl) (Nat.le_of_ble_eq_true rfl) (Nat.le_of_ble_eq_true rfl) hlocks (Nat.le_of_ble_eq_true rfl) (Nat.le_of_ble_eq_true rfl)
    · rw [List.append_nil]; exact hR
    · try rw [List.append_nil]
      exact (Or.inl ⟨rfl, by omega, ⟨_, _, _, _, _, _, _, _, _, _, rfl, hrd, htp, hr1, hr2, hr3, hhr, hcr, hcr2⟩⟩)
set_option maxHeartbeats 4000000 in
set_option maxRecDepth 100000 in
theorem c_hasDir (l : Launch) {G : va_G} {tys : List (ClassId × FieldType)} {cB cI cE cS : ClassId} (hT : tys = [(cB, .byte), (cI, .int), (cE, .object RX1), (cS, .object RX4)]) {pl : va_W} {sz : Nat} {mk tp t1 t2 t3 h wk ch2 r1 : Nat} {cho : Int32} {st : Nat} {f1 : Nat → Option Nat} {Ls : List En} (hr1 : tRows pl cB f1 Ls) {pa : Nat} {P0 : List Nat} (hpa : bArr pl cB pa P0) (hP1 : 1 ≤ P0.length) (hP2 : P0.length ≤ 400) (hs : srt Ls) : cMet l yX8_hasDirectory wsX8_hasDirectory ({ frames := 3, cells := 1, slots := 1500, locals := 82 } : Room) G tys [.ref mk, .ref pa] [(mk, .inr (7, [.ref tp, .ref t1, .ref t2, .ref t3, .ref h, .ref wk, .ref ch2, .int cho, .int (nI st)])), (t1, .inr (5, [.ref r1, .int (nI Ls.length)])), (r1, .inl (cE, 120, rfs f1))] pl sz 1 1500 (fun o9 X1 nw => o9 = some (.int (bI (dirC Ls P0))) ∧ X1 = [(mk, .inr (7, [.ref tp, .ref t1, .ref t2, .ref t3, .ref h, .ref wk, .ref ch2, .int cho, .int (nI st)])), (t1, .inr (5, [.ref r1, .int (nI Ls.length)])), (r1, .inl (cE, 120, rfs f1))]) := by
  have hT0 : tys[0]? = some (cB, .byte) := by rw [hT]; rfl
  have hT1 : tys[1]? = some (cI, .int) := by rw [hT]; rfl
  have hT2 : tys[2]? = some (cE, .object RX1) := by rw [hT]; rfl
  have hT3 : tys[3]? = some (cS, .object RX4) := by rw [hT]; rfl
  refine Met.ofW (cc := cX8_hasDirectory) (maxL := 4) (ret := (some .boolean)) (by decide) rfl ?_
  intro p e s m args below meth c s₁ B hml hv
  obtain ⟨hargs, hsz, hP, hK, hD0, hZ⟩ := hv
  have hx := B.exec
  have hb := B.bytes
  have hr := B.returns
  have hts := atoms_spec (ws := wsX8_hasDirectory) B.pre
  have hown : s.vm.findClass RX8 = some m.cls := findClass_of_methodNamed B.named
  have hlocks := B.notSynchronized
  subst hsz
  have hD := hD0.self (sz := s.heap.size)
  obtain ⟨A, hAe⟩ : ∃ A : Nat → Prop, A = va_A ([(mk, .inr (7, [.ref tp, .ref t1, .ref t2, .ref t3, .ref h, .ref wk, .ref ch2, .int cho, .int (nI st)])), (t1, .inr (5, [.ref r1, .int (nI Ls.length)])), (r1, .inl (cE, 120, rfs f1))] ++ pl) s.heap.size := ⟨_, rfl⟩
  rw [← hAe] at hD
  have hA : ∀ q : Nat, s.heap.size ≤ q → A q := fun q h => by rw [hAe]; exact Or.inr h
  have inX1 : ∀ w ∈ wsX10, w ∈ wsX8_hasDirectory := by decide +kernel
  have inX8 : ∀ w ∈ wsX80, w ∈ wsX8_hasDirectory := by decide +kernel
  have k_19 := hts (.fieldLink RX8 19 "MirrorKeep" "source" "LMirrorKeep$Tree;") (by decide +kernel)
  have k_123 := hts (.fieldLink RX8 123 "MirrorKeep$Entry" "kind" "I") (by decide +kernel)
  have hR : rR G A s.heap s.heap [] ([(mk, .inr (7, [.ref tp, .ref t1, .ref t2, .ref t3, .ref h, .ref wk, .ref ch2, .int cho, .int (nI st)])), (t1, .inr (5, [.ref r1, .int (nI Ls.length)])), (r1, .inl (cE, 120, rfs f1))] ++ pl) := ⟨hP, hD, va_S.rf⟩
  obtain ⟨Q, hQ⟩ : ∃ Q : State → Prop, Q = MQ below (cQ G A pl (fun o9 X1 nw => o9 = some (.int (bI (dirC Ls P0))) ∧ X1 = [(mk, .inr (7, [.ref tp, .ref t1, .ref t2, .ref t3, .ref h, .ref wk, .ref ch2, .int cho, .int (nI st)])), (t1, .inr (5, [.ref r1, .int (nI Ls.length)])), (r1, .inl (cE, 120, rfs f1))])) args s 1 1500 A := ⟨_, rfl⟩
  change W p l e ({ frames := 3, cells := 1, slots := 1500, locals := 82 } : Room) s m args below meth c s.heap [] 0 0 (MQ below (cQ G (va_A ([(mk, .inr (7, [.ref tp, .ref t1, .ref t2, .ref t3, .ref h, .ref wk, .ref ch2, .int cho, .int (nI st)])), (t1, .inr (5, [.ref r1, .int (nI Ls.length)])), (r1, .inl (cE, 120, rfs f1))] ++ pl) s.heap.size) pl (fun o9 X1 nw => o9 = some (.int (bI (dirC Ls P0))) ∧ X1 = [(mk, .inr (7, [.ref tp, .ref t1, .ref t2, .ref t3, .ref h, .ref wk, .ref ch2, .int cho, .int (nI st)])), (t1, .inr (5, [.ref r1, .int (nI Ls.length)])), (r1, .inl (cE, 120, rfs f1))])) args s 1 1500 (va_A ([(mk, .inr (7, [.ref tp, .ref t1, .ref t2, .ref t3, .ref h, .ref wk, .ref ch2, .int cho, .int (nI st)])), (t1, .inr (5, [.ref r1, .int (nI Ls.length)])), (r1, .inl (cE, 120, rfs f1))] ++ pl) s.heap.size)) (entryFrame m args 4)
  rw [← hAe]
  rw [← hQ]
  refine nn_entry hargs (Nat.le_of_ble_eq_true rfl) (lv := [(0, .ref mk), (1, .ref pa)]) rfl (fun ls hl => ?_)
  have hk1 := hr1.1
  refine lv_aload_n hx hb dX8_hasDirectory_0 rfl (lv_at hl 1 rfl) ?_
  refine pf_callS (As := [.ref pa]) (rest := []) (p_lastSlash l hT (hpa.mono xpm) hP1) ⟨hx, hb, hml, hown, hts⟩ (va_cwS 1 hts gX8_hasDirectory_X3_lastSlash rfl rfl rfl (by decide +kernel) ⟨Nat.le_of_ble_eq_true rfl, Nat.le_of_ble_eq_true rfl⟩) hK hR.1 rfl hl.1 rfl (Nat.le_of_ble_eq_true rfl) dX8_hasDirectory_1 ⟨Nat.le_of_ble_eq_true rfl, Nat.le_of_ble_eq_true rfl⟩ (fun r_1 hr_1 => ?_)
  rcases hr_1 with hr_1 | hr_1
  · obtain ⟨hls, rfl⟩ := hr_1
    refine lv_istore_n (lv' := [(2, .int (-1)), (0, .ref mk), (1, .ref pa)]) hx hb dX8_hasDirectory_4 rfl hl (by decide) rfl (fun ls hl => ?_)
    refine lv_iload_n hx hb dX8_hasDirectory_5 rfl (lv_at hl 0 rfl) ?_
    refine zi_ge hx hb (show (-1 : Int32).toInt = -1 from rfl) dX8_hasDirectory_6 (tgt := 11) (by decide) (fun c_3 => ?_) (fun c_3 => ?_)
    · exact absurd c_3 (by omega)
    · refine lv_iconst (v := bI true) hx hb dX8_hasDirectory_9 rfl ?_
      rw [hQ]
      refine W.widen (k := 1) (n := 1500) (by omega) (by omega) ?_
      refine xc_zret (X1 := [(mk, .inr (7, [.ref tp, .ref t1, .ref t2, .ref t3, .ref h, .ref wk, .ref ch2, .int cho, .int (nI st)])), (t1, .inr (5, [.ref r1, .int (nI Ls.length)])), (r1, .inl (cE, 120, rfs f1))]) (nw := []) hx hb hr (bI_01 _) hlocks ?_ ?_ dX8_hasDirectory_10
      · rw [List.append_nil]; exact hR
      · try rw [List.append_nil]
        exact ⟨by rw [dirC_none hls], rfl⟩
  · obtain ⟨ks, hls, rfl⟩ := hr_1
    have hks := (lsl_bd hls).1
    refine lv_istore_n (lv' := [(2, .int (nI ks)), (0, .ref mk), (1, .ref pa)]) hx hb dX8_hasDirectory_4 rfl hl (by decide) rfl (fun ls hl => ?_)
    refine lv_iload_n hx hb dX8_hasDirectory_5 rfl (lv_at hl 0 rfl) ?_
    refine nz_ge hx hb dX8_hasDirectory_6 (tgt := 11) (by decide) (by omega) (fun c_4 => ?_) (fun c_4 => ?_)
    · refine lv_aload_n hx hb dX8_hasDirectory_11 rfl (lv_at hl 1 rfl) ?_
      refine xg (ci := 7) (C := RX8) (T := TX8) (N := 9) (v := .ref t1) hx hb hts inX8 hown hK hR.1 (List.mem_of_getElem? (i := 0) rfl) rfl 1 (by decide) k_19 (fun _ h => h) rfl dX8_hasDirectory_12 ?_
      refine lv_aload_n hx hb dX8_hasDirectory_15 rfl (lv_at hl 1 rfl) ?_
      refine xg (ci := 7) (C := RX8) (T := TX8) (N := 9) (v := .ref t1) hx hb hts inX8 hown hK hR.1 (List.mem_of_getElem? (i := 0) rfl) rfl 1 (by decide) k_19 (fun _ h => h) rfl dX8_hasDirectory_16 ?_
      refine lv_aload_n hx hb dX8_hasDirectory_19 rfl (lv_at hl 2 rfl) ?_
      refine lv_iload_n hx hb dX8_hasDirectory_20 rfl (lv_at hl 0 rfl) ?_
      refine xc_callS (As := [.ref pa, .int (nI ks)]) (rest := [.ref t1, .ref t1]) (cx := []) (wr := [(mk, .inr (7, [.ref tp, .ref t1, .ref t2, .ref t3, .ref h, .ref wk, .ref ch2, .int cho, .int (nI st)])), (t1, .inr (5, [.ref r1, .int (nI Ls.length)])), (r1, .inl (cE, 120, rfs f1))]) (c_copyOf l hT (X := []) hpa (by omega) (by omega)) ⟨hx, hb, hml, hown, hts⟩ (va_cwS 2 hts gX8_hasDirectory_J7_copyOf_9075b rfl rfl rfl (by decide +kernel) ⟨Nat.le_of_ble_eq_true rfl, Nat.le_of_ble_eq_true rfl⟩) hK hZ hR hA [] [0, 1, 2] rfl rfl (by decide) (by decide) (by decide) rfl hl.1 rfl (Nat.le_of_ble_eq_true rfl) dX8_hasDirectory_21 ⟨Nat.le_of_ble_eq_true rfl, Nat.le_of_ble_eq_true rfl⟩ (fun r_5 X_r_5 nw_r_5 H locs hr_5 hR => ?_)
      obtain ⟨rfl, q9, gq9, rfl, -, -, hq9⟩ := hr_5
      rw [cpyL_tk9 (by omega)] at hq9
      obtain hR : rR G A s.heap H locs (_ ++ (pl ++ nw_r_5)) := hR
      obtain ⟨pl1, e_pl1, sb_pl_pl1⟩ : ∃ z : va_W, z = pl ++ nw_r_5 ∧ ∀ q, q ∈ pl → q ∈ z := ⟨_, rfl, plm⟩
      rw [← e_pl1] at hR hq9
      have t_pl1 : pl1 = pl ++ nw_r_5 := e_pl1
      have hR : rR G A s.heap _ _ ([(mk, .inr (7, [.ref tp, .ref t1, .ref t2, .ref t3, .ref h, .ref wk, .ref ch2, .int cho, .int (nI st)])), (t1, .inr (5, [.ref r1, .int (nI Ls.length)])), (r1, .inl (cE, 120, rfs f1))] ++ pl1) := hR
      refine pf_callV (C := RX6) (As := [.ref q9]) (rest := [.ref t1]) (p_find l hT (⟨(List.mem_of_getElem? (i := 1) rfl), (List.mem_of_getElem? (i := 2) rfl), ((hr1.mono sb_pl_pl1).mono xpm)⟩ : tRep ([(mk, .inr (7, [.ref tp, .ref t1, .ref t2, .ref t3, .ref h, .ref wk, .ref ch2, .int cho, .int (nI st)])), (t1, .inr (5, [.ref r1, .int (nI Ls.length)])), (r1, .inl (cE, 120, rfs f1))] ++ pl1) cB cE t1 r1 f1 Ls) hs (hq9.mono xpm) (by rw [List.length_take]; omega)) ⟨hx, hb, hml, hown, hts⟩ (cwV 1 hts gX8_hasDirectory_X6_find rfl rfl rfl (by decide +kernel) ⟨Nat.le_of_ble_eq_true rfl, Nat.le_of_ble_eq_true rfl⟩) hK hR.1 (xrecv (ci := 5) hK hR.1 rfl (List.mem_of_getElem? (i := 1) rfl)) rfl hl.1 rfl (Nat.le_of_ble_eq_true rfl) dX8_hasDirectory_24 ⟨Nat.le_of_ble_eq_true rfl, Nat.le_of_ble_eq_true rfl⟩ (fun r_6 hr_6 => ?_)
      subst hr_6
      refine pf_callV (C := RX6) (As := [.int (fnd2 Ls (P0.take ks))]) (rest := []) (p_tget l hT (⟨(List.mem_of_getElem? (i := 1) rfl), (List.mem_of_getElem? (i := 2) rfl), ((hr1.mono sb_pl_pl1).mono xpm)⟩ : tRep ([(mk, .inr (7, [.ref tp, .ref t1, .ref t2, .ref t3, .ref h, .ref wk, .ref ch2, .int cho, .int (nI st)])), (t1, .inr (5, [.ref r1, .int (nI Ls.length)])), (r1, .inl (cE, 120, rfs f1))] ++ pl1) cB cE t1 r1 f1 Ls) (fnd2 Ls (P0.take ks))) ⟨hx, hb, hml, hown, hts⟩ (cwV 1 hts gX8_hasDirectory_X6_get rfl rfl rfl (by decide +kernel) ⟨Nat.le_of_ble_eq_true rfl, Nat.le_of_ble_eq_true rfl⟩) hK hR.1 (xrecv (ci := 5) hK hR.1 rfl (List.mem_of_getElem? (i := 1) rfl)) rfl hl.1 rfl (Nat.le_of_ble_eq_true rfl) dX8_hasDirectory_27 ⟨Nat.le_of_ble_eq_true rfl, Nat.le_of_ble_eq_true rfl⟩ (fun r_7 hr_7 => ?_)
      rcases hr_7 with ⟨hr_7, rfl⟩ | ⟨k_8, a_9, hk_8, jk_8, rfl, ha_9, -⟩
      · refine lv_astore_nN (lv' := [(3, .null), (2, .int (nI ks)), (0, .ref mk), (1, .ref pa)]) hx hb dX8_hasDirectory_30 rfl hl (by decide) rfl (fun ls hl => ?_)
        refine lv_aload_nN hx hb dX8_hasDirectory_31 rfl (lv_at hl 0 rfl) ?_
        refine lv_ifnullN hx hb dX8_hasDirectory_32 (tgt := 47) (by decide) ?_
        refine lv_iconst (v := bI false) hx hb dX8_hasDirectory_47 rfl ?_
        rw [hQ]
        refine W.widen (k := 1) (n := 1500) (by omega) (by omega) ?_
        refine xc_zret (X1 := [(mk, .inr (7, [.ref tp, .ref t1, .ref t2, .ref t3, .ref h, .ref wk, .ref ch2, .int cho, .int (nI st)])), (t1, .inr (5, [.ref r1, .int (nI Ls.length)])), (r1, .inl (cE, 120, rfs f1))]) (nw := nw_r_5) hx hb hr (bI_01 _) hlocks ?_ ?_ dX8_hasDirectory_48
        · rw [← t_pl1]; exact hR
        · try rw [← t_pl1]
          exact ⟨by rw [dirC_f (by omega) hls hr_7], rfl⟩
      · have ga_9 := pe_row (hr1.mono sb_pl_pl1) (h := ha_9) jk_8
        obtain ⟨pae_11, cae_11, hme_11, hpae_11, hcae_11⟩ := id ga_9
        refine lv_astore_n (lv' := [(3, .ref a_9), (2, .int (nI ks)), (0, .ref mk), (1, .ref pa)]) hx hb dX8_hasDirectory_30 rfl hl (by decide) rfl (fun ls hl => ?_)
        refine lv_aload_n hx hb dX8_hasDirectory_31 rfl (lv_at hl 0 rfl) ?_
        refine lv_ifnull hx hb dX8_hasDirectory_32 ?_
        refine lv_aload_n hx hb dX8_hasDirectory_35 rfl (lv_at hl 0 rfl) ?_
        refine xg (ci := 1) (C := RX1) (T := TX1) (N := 5) (v := .int ((Ls.getD k_8 e0).2.1)) hx hb hts inX1 hown hK hR.1 (List.mem_append_right _ hme_11) rfl 1 (by decide) k_123 (fun _ h => h) rfl dX8_hasDirectory_36 ?_
        refine lv_iconst (v := nI 2) hx hb dX8_hasDirectory_39 rfl ?_
        refine zc_ne hx hb rfl (nI_toInt (by omega)) dX8_hasDirectory_40 (tgt := 47) (by decide) (fun c_12 => ?_) (fun c_12 => ?_)
        · refine lv_iconst (v := bI false) hx hb dX8_hasDirectory_47 rfl ?_
          rw [hQ]
          refine W.widen (k := 1) (n := 1500) (by omega) (by omega) ?_
          refine xc_zret (X1 := [(mk, .inr (7, [.ref tp, .ref t1, .ref t2, .ref t3, .ref h, .ref wk, .ref ch2, .int cho, .int (nI st)])), (t1, .inr (5, [.ref r1, .int (nI Ls.length)])), (r1, .inl (cE, 120, rfs f1))]) (nw := nw_r_5) hx hb hr (bI_01 _) hlocks ?_ ?_ dX8_hasDirectory_48
          · rw [← t_pl1]; exact hR
          · try rw [← t_pl1]
            exact ⟨by rw [dirC_k (by omega) hls hk_8 jk_8, decide_eq_false (by omega)], rfl⟩
        · refine lv_iconst (v := bI true) hx hb dX8_hasDirectory_43 rfl ?_
          refine lv_goto (tgt := 48) hx hb dX8_hasDirectory_44 (by decide) ?_
          rw [hQ]
          refine W.widen (k := 1) (n := 1500) (by omega) (by omega) ?_
          refine xc_zret (X1 := [(mk, .inr (7, [.ref tp, .ref t1, .ref t2, .ref t3, .ref h, .ref wk, .ref ch2, .int cho, .int (nI st)])), (t1, .inr (5, [.ref r1, .int (nI Ls.length)])), (r1, .inl (cE, 120, rfs f1))]) (nw := nw_r_5) hx hb hr (bI_01 _) hlocks ?_ ?_ dX8_hasDirectory_48
          · rw [← t_pl1]; exact hR
          · try rw [← t_pl1]
            exact ⟨by rw [dirC_k (by omega) hls hk_8 jk_8, decide_eq_true (by omega)], rfl⟩
    · exact absurd c_4 (by omega)
set_option maxHeartbeats 4000000 in
set_option maxRecDepth 100000 in
theorem K_make (l : Launch) {G : va_G} {tys : List (ClassId × FieldType)} {cB cI cE cS : ClassId} (hT : tys = [(cB, .byte), (cI, .int), (cE, .object RX1), (cS, .object RX4)]) {pl : va_W} {sz : Nat} (hlt : l.stackTraces = false) {z : Nat → Nat} {X : va_W} {T rd : List Nat} {Ls Lm Lr : List En} {Sn : List Se} {Cw C2 : List Cg} {tm0 : Int32} {dn : Nat} {cho : Int32} {st : Nat} (hk : kRep cB cI cE cS z X pl T rd Ls Lm Lr Sn Cw C2 tm0 dn cho st) (kd md tm : Int32) (hst9 : st ≤ 2) (hs : srt Ls) : xMet l yX8_make wsX8_make ({ frames := 6, cells := 4, slots := 3006, locals := 105 } : Room) G tys [.ref (z 0), .int kd, .int md, .int tm] X pl sz 4 3006 (fun o9 X1 nw => st ≠ 1 ∧ (1 ≤ kd.toInt ∧ kd.toInt ≤ 3 ∧ 0 ≤ md.toInt ∧ md.toInt < 4096 ∧ 0 ≤ tm.toInt ∧ pathOK T = true) ∧ ¬ ((fnd2 Ls T).toInt ≠ -1 ∨ dirC Ls T = false ∨ 60 ≤ Ls.length) ∧ o9 = some (.int (nI (putL Ls (T, kd, md, tm, [])).length)) ∧ kRep cB cI cE cS z X1 (pl ++ nw) ([]) rd (putL Ls (T, kd, md, tm, [])) Lm Lr Sn Cw C2 tm0 dn (fnd2 (putL Ls (T, kd, md, tm, [])) T) st) (fun E X1 nw => (E = ISE ∧ st = 1 ∧ kRep cB cI cE cS z X1 (pl ++ nw) T rd Ls Lm Lr Sn Cw C2 tm0 dn cho st) ∨ (E = IAE ∧ st ≠ 1 ∧ ¬ (1 ≤ kd.toInt ∧ kd.toInt ≤ 3 ∧ 0 ≤ md.toInt ∧ md.toInt < 4096 ∧ 0 ≤ tm.toInt ∧ pathOK T = true) ∧ kRep cB cI cE cS z X1 (pl ++ nw) ([]) rd Ls Lm Lr Sn Cw C2 tm0 dn cho st) ∨ (E = ISE ∧ st ≠ 1 ∧ (1 ≤ kd.toInt ∧ kd.toInt ≤ 3 ∧ 0 ≤ md.toInt ∧ md.toInt < 4096 ∧ 0 ≤ tm.toInt ∧ pathOK T = true) ∧ ((fnd2 Ls T).toInt ≠ -1 ∨ dirC Ls T = false ∨ 60 ≤ Ls.length) ∧ kRep cB cI cE cS z X1 (pl ++ nw) ([]) rd Ls Lm Lr Sn Cw C2 tm0 dn cho st)) := by
  obtain ⟨g, fb, f1, f2, f3, fh, c1, c2, c3, c4, rfl, hrd, htp, hr1, hr2, hr3, hhr, hcr, hcr2⟩ := hk
  have hT0 : tys[0]? = some (cB, .byte) := by rw [hT]; rfl
  have hT1 : tys[1]? = some (cI, .int) := by rw [hT]; rfl
  have hT2 : tys[2]? = some (cE, .object RX1) := by rw [hT]; rfl
  have hT3 : tys[3]? = some (cS, .object RX4) := by rw [hT]; rfl
  refine vx_ofW (cc := cX8_make) (maxL := 5) (ret := (some .int)) (by decide) rfl ?_
  intro p e s m args below meth c s₁ B hml htb hv
  obtain ⟨hargs, ⟨hsz, hP, hK, hD0, hZ⟩, hU⟩ := hv
  have hx := B.exec
  have hb := B.bytes
  have hr := B.returns
  have hts := atoms_spec (ws := wsX8_make) B.pre
  have hown : s.vm.findClass RX8 = some m.cls := findClass_of_methodNamed B.named
  have hlocks := B.notSynchronized
  subst hsz
  have hD := hD0.self (sz := s.heap.size)
  obtain ⟨A, hAe⟩ : ∃ A : Nat → Prop, A = va_A ((kX cB cI cE cS z T.length g fb Ls.length f1 Lm.length f2 Lr.length f3 Sn.length fh tm0 dn Cw.length c1 c2 C2.length c3 c4 cho st) ++ pl) s.heap.size := ⟨_, rfl⟩
  rw [← hAe] at hD hU
  have hA : ∀ q : Nat, s.heap.size ≤ q → A q := fun q h => by rw [hAe]; exact Or.inr h
  have inX1 : ∀ w ∈ wsX10, w ∈ wsX8_make := by decide +kernel
  have inX8 : ∀ w ∈ wsX80, w ∈ wsX8_make := by decide +kernel
  have k_10 := hts (.fieldLink RX8 10 "MirrorKeep" "tape" "LMirrorKeep$Tape;") (by decide +kernel)
  have k_19 := hts (.fieldLink RX8 19 "MirrorKeep" "source" "LMirrorKeep$Tree;") (by decide +kernel)
  have k_50 := hts (.fieldLink RX8 50 "MirrorKeep" "chosen" "I") (by decide +kernel)
  have k_54 := hts (.fieldLink RX8 54 "MirrorKeep" "state" "I") (by decide +kernel)
  have hR : rR G A s.heap s.heap [] ((kX cB cI cE cS z T.length g fb Ls.length f1 Lm.length f2 Lr.length f3 Sn.length fh tm0 dn Cw.length c1 c2 C2.length c3 c4 cho st) ++ pl) := ⟨hP, hD, va_S.rf⟩
  obtain ⟨Q, hQ⟩ : ∃ Q : State → Prop, Q = vx_MQ below (cQ G A pl (fun o9 X1 nw => st ≠ 1 ∧ (1 ≤ kd.toInt ∧ kd.toInt ≤ 3 ∧ 0 ≤ md.toInt ∧ md.toInt < 4096 ∧ 0 ≤ tm.toInt ∧ pathOK T = true) ∧ ¬ ((fnd2 Ls T).toInt ≠ -1 ∨ dirC Ls T = false ∨ 60 ≤ Ls.length) ∧ o9 = some (.int (nI (putL Ls (T, kd, md, tm, [])).length)) ∧ kRep cB cI cE cS z X1 (pl ++ nw) ([]) rd (putL Ls (T, kd, md, tm, [])) Lm Lr Sn Cw C2 tm0 dn (fnd2 (putL Ls (T, kd, md, tm, [])) T) st)) (xX G A pl (fun E X1 nw => (E = ISE ∧ st = 1 ∧ kRep cB cI cE cS z X1 (pl ++ nw) T rd Ls Lm Lr Sn Cw C2 tm0 dn cho st) ∨ (E = IAE ∧ st ≠ 1 ∧ ¬ (1 ≤ kd.toInt ∧ kd.toInt ≤ 3 ∧ 0 ≤ md.toInt ∧ md.toInt < 4096 ∧ 0 ≤ tm.toInt ∧ pathOK T = true) ∧ kRep cB cI cE cS z X1 (pl ++ nw) ([]) rd Ls Lm Lr Sn Cw C2 tm0 dn cho st) ∨ (E = ISE ∧ st ≠ 1 ∧ (1 ≤ kd.toInt ∧ kd.toInt ≤ 3 ∧ 0 ≤ md.toInt ∧ md.toInt < 4096 ∧ 0 ≤ tm.toInt ∧ pathOK T = true) ∧ ((fnd2 Ls T).toInt ≠ -1 ∨ dirC Ls T = false ∨ 60 ≤ Ls.length) ∧ kRep cB cI cE cS z X1 (pl ++ nw) ([]) rd Ls Lm Lr Sn Cw C2 tm0 dn cho st))) args s 4 3006 A := ⟨_, rfl⟩
  change W p l e ({ frames := 6, cells := 4, slots := 3006, locals := 105 } : Room) s m args below meth c s.heap [] 0 0 (vx_MQ below (cQ G (va_A ((kX cB cI cE cS z T.length g fb Ls.length f1 Lm.length f2 Lr.length f3 Sn.length fh tm0 dn Cw.length c1 c2 C2.length c3 c4 cho st) ++ pl) s.heap.size) pl (fun o9 X1 nw => st ≠ 1 ∧ (1 ≤ kd.toInt ∧ kd.toInt ≤ 3 ∧ 0 ≤ md.toInt ∧ md.toInt < 4096 ∧ 0 ≤ tm.toInt ∧ pathOK T = true) ∧ ¬ ((fnd2 Ls T).toInt ≠ -1 ∨ dirC Ls T = false ∨ 60 ≤ Ls.length) ∧ o9 = some (.int (nI (putL Ls (T, kd, md, tm, [])).length)) ∧ kRep cB cI cE cS z X1 (pl ++ nw) ([]) rd (putL Ls (T, kd, md, tm, [])) Lm Lr Sn Cw C2 tm0 dn (fnd2 (putL Ls (T, kd, md, tm, [])) T) st)) (xX G (va_A ((kX cB cI cE cS z T.length g fb Ls.length f1 Lm.length f2 Lr.length f3 Sn.length fh tm0 dn Cw.length c1 c2 C2.length c3 c4 cho st) ++ pl) s.heap.size) pl (fun E X1 nw => (E = ISE ∧ st = 1 ∧ kRep cB cI cE cS z X1 (pl ++ nw) T rd Ls Lm Lr Sn Cw C2 tm0 dn cho st) ∨ (E = IAE ∧ st ≠ 1 ∧ ¬ (1 ≤ kd.toInt ∧ kd.toInt ≤ 3 ∧ 0 ≤ md.toInt ∧ md.toInt < 4096 ∧ 0 ≤ tm.toInt ∧ pathOK T = true) ∧ kRep cB cI cE cS z X1 (pl ++ nw) ([]) rd Ls Lm Lr Sn Cw C2 tm0 dn cho st) ∨ (E = ISE ∧ st ≠ 1 ∧ (1 ≤ kd.toInt ∧ kd.toInt ≤ 3 ∧ 0 ≤ md.toInt ∧ md.toInt < 4096 ∧ 0 ≤ tm.toInt ∧ pathOK T = true) ∧ ((fnd2 Ls T).toInt ≠ -1 ∨ dirC Ls T = false ∨ 60 ≤ Ls.length) ∧ kRep cB cI cE cS z X1 (pl ++ nw) ([]) rd Ls Lm Lr Sn Cw C2 tm0 dn cho st))) args s 4 3006 (va_A ((kX cB cI cE cS z T.length g fb Ls.length f1 Lm.length f2 Lr.length f3 Sn.length fh tm0 dn Cw.length c1 c2 C2.length c3 c4 cho st) ++ pl) s.heap.size)) (entryFrame m args 5)
  rw [← hAe]
  rw [← hQ]
  refine nn_entry hargs (Nat.le_of_ble_eq_true rfl) (lv := [(0, .ref (z 0)), (1, .int kd), (2, .int md), (3, .int tm)]) rfl (fun ls hl => ?_)
  have hk1 := hr1.1
  have hk2 := hr1.2.2.2
  have htl := tpR_lt htp
  refine lv_aload_n hx hb dX8_make_0 rfl (lv_at hl 0 rfl) ?_
  refine xg (ci := 7) (C := RX8) (T := TX8) (N := 9) (v := .int (nI st)) hx hb hts inX8 hown hK hR.1 (List.mem_of_getElem? (i := 0) rfl) rfl 8 (by decide) k_54 (fun _ h => h) rfl dX8_make_1 ?_
  refine lv_iconst (v := nI 1) hx hb dX8_make_4 rfl ?_
  refine nn_ne hx hb dX8_make_5 (tgt := 18) (by decide) (by omega) (by omega) (fun c_1 => ?_) (fun c_1 => ?_)
  · refine lv_aload_n hx hb dX8_make_18 rfl (lv_at hl 0 rfl) ?_
    refine xg (ci := 7) (C := RX8) (T := TX8) (N := 9) (v := .ref (z 1)) hx hb hts inX8 hown hK hR.1 (List.mem_of_getElem? (i := 0) rfl) rfl 0 (by decide) k_10 (fun _ h => h) rfl dX8_make_19 ?_
    refine xc_callV (C := RX5) (As := []) (rest := []) (cx := [(z 1, .inr (4, [.ref (z 2), .ref (z 3), .int (nI T.length)])), (z 2, .inl (cI, 5, .inl g)), (z 3, .inl (cB, 400, .inl fb))]) (wr := (([0, 4, 5, 6, 7, 8, 9, 10, 11, 12, 13, 14, 15, 16, 17, 18] : List Nat).filterMap (fun i => (kX cB cI cE cS z T.length g fb Ls.length f1 Lm.length f2 Lr.length f3 Sn.length fh tm0 dn Cw.length c1 c2 C2.length c3 c4 cho st)[i]?))) (c_take l hT htp) ⟨hx, hb, hml, hown, hts⟩ (cwV 0 hts gX8_make_X5_take rfl rfl rfl (by decide +kernel) ⟨Nat.le_of_ble_eq_true rfl, Nat.le_of_ble_eq_true rfl⟩) hK hZ hR hA (xrecv (ci := 4) hK hR.1 rfl (List.mem_of_getElem? (i := 1) rfl)) [1, 2, 3] [0, 4, 5, 6, 7, 8, 9, 10, 11, 12, 13, 14, 15, 16, 17, 18] rfl rfl (by decide) (by decide) (by decide) rfl hl.1 rfl (Nat.le_of_ble_eq_true rfl) dX8_make_22 ⟨Nat.le_of_ble_eq_true rfl, Nat.le_of_ble_eq_true rfl⟩ (fun r_3 X_r_3 nw_r_3 H locs hr_3 hR => ?_)
    obtain ⟨q_2, rfl, rfl, hq_2⟩ := hr_3
    obtain hR : rR G A s.heap H locs (_ ++ (pl ++ nw_r_3)) := hR
    obtain ⟨pl1, e_pl1, sb_pl_pl1⟩ : ∃ z : va_W, z = pl ++ nw_r_3 ∧ ∀ q, q ∈ pl → q ∈ z := ⟨_, rfl, plm⟩
    rw [← e_pl1] at hR hq_2
    have t_pl1 : pl1 = pl ++ nw_r_3 := e_pl1
    have hR : rR G A s.heap _ _ ((kX cB cI cE cS z 0 g fb Ls.length f1 Lm.length f2 Lr.length f3 Sn.length fh tm0 dn Cw.length c1 c2 C2.length c3 c4 cho st) ++ pl1) := xc_perm hR [0, 16, 17, 18, 1, 2, 3, 4, 5, 6, 7, 8, 9, 10, 11, 12, 13, 14, 15] rfl (by decide)
    refine lv_astore (lv' := [(4, .ref q_2), (0, .ref (z 0)), (1, .int kd), (2, .int md), (3, .int tm)]) hx hb dX8_make_25 hl (by decide) rfl (fun ls hl => ?_)
    refine lv_iload_n hx hb dX8_make_27 rfl (lv_at hl 2 rfl) ?_
    refine pf_callS (As := [.int kd]) (rest := []) (p_isKind l hT (w := ((kX cB cI cE cS z 0 g fb Ls.length f1 Lm.length f2 Lr.length f3 Sn.length fh tm0 dn Cw.length c1 c2 C2.length c3 c4 cho st) ++ pl1)) kd) ⟨hx, hb, hml, hown, hts⟩ (va_cwS 1 hts gX8_make_X8_isKind rfl rfl rfl (by decide +kernel) ⟨Nat.le_of_ble_eq_true rfl, Nat.le_of_ble_eq_true rfl⟩) hK hR.1 rfl hl.1 rfl (Nat.le_of_ble_eq_true rfl) dX8_make_28 ⟨Nat.le_of_ble_eq_true rfl, Nat.le_of_ble_eq_true rfl⟩ (fun r_4 hr_4 => ?_)
    subst hr_4
    refine nb_ifeq hx hb dX8_make_31 (tgt := 56) (by decide) (fun c_5 => ?_) (fun c_5 => ?_)
    · have c_5 := of_decide_eq_false c_5
      rw [hQ]
      refine xc_throw (X := (kX cB cI cE cS z 0 g fb Ls.length f1 Lm.length f2 Lr.length f3 Sn.length fh tm0 dn Cw.length c1 c2 C2.length c3 c4 cho st)) (nw := nw_r_3) IAE 92 96 94 "no such kind, mode, time or path" xfit_iae xg_iae xn_iae hx hb hlt hown hts hZ (by decide +kernel) (by decide +kernel) (by decide +kernel) (by decide +kernel) hU ?_ ?_ (hl.1.trans hml.symm) dX8_make_56 dX8_make_59 dX8_make_60 dX8_make_62 dX8_make_65 htb (Nat.le_of_ble_eq_true rfl) (Nat.le_of_ble_eq_true rfl) (Nat.le_of_ble_eq_true rfl) (Nat.le_of_ble_eq_true rfl) hlocks (Nat.le_of_ble_eq_true rfl) (Nat.le_of_ble_eq_true rfl)
      · rw [← t_pl1]; exact hR
      · try rw [← t_pl1]
        exact (Or.inr (Or.inl ⟨rfl, by omega, fun ⟨a1, a2, a3, a4, a5, a6⟩ => by first | omega | exact absurd (a6.symm.trans (by assumption : pathOK T = false)) (by decide), ⟨_, _, _, _, _, _, _, _, _, _, rfl, hrd, (tpR_nil htp), (hr1.mono sb_pl_pl1), (hr2.mono sb_pl_pl1), (hr3.mono sb_pl_pl1), (hhr.mono sb_pl_pl1), (hcr.mono sb_pl_pl1), (hcr2.mono sb_pl_pl1)⟩⟩))
    · have c_5 := of_decide_eq_true c_5
      refine lv_iload_n hx hb dX8_make_34 rfl (lv_at hl 3 rfl) ?_
      refine pf_callS (As := [.int md]) (rest := []) (p_isMode l hT (w := ((kX cB cI cE cS z 0 g fb Ls.length f1 Lm.length f2 Lr.length f3 Sn.length fh tm0 dn Cw.length c1 c2 C2.length c3 c4 cho st) ++ pl1)) md) ⟨hx, hb, hml, hown, hts⟩ (va_cwS 1 hts gX8_make_X8_isMode rfl rfl rfl (by decide +kernel) ⟨Nat.le_of_ble_eq_true rfl, Nat.le_of_ble_eq_true rfl⟩) hK hR.1 rfl hl.1 rfl (Nat.le_of_ble_eq_true rfl) dX8_make_35 ⟨Nat.le_of_ble_eq_true rfl, Nat.le_of_ble_eq_true rfl⟩ (fun r_6 hr_6 => ?_)
      subst hr_6
      refine nb_ifeq hx hb dX8_make_38 (tgt := 56) (by decide) (fun c_7 => ?_) (fun c_7 => ?_)
      · have c_7 := of_decide_eq_false c_7
        rw [hQ]
        refine xc_throw (X := (kX cB cI cE cS z 0 g fb Ls.length f1 Lm.length f2 Lr.length f3 Sn.length fh tm0 dn Cw.length c1 c2 C2.length c3 c4 cho st)) (nw := nw_r_3) IAE 92 96 94 "no such kind, mode, time or path" xfit_iae xg_iae xn_iae hx hb hlt hown hts hZ (by decide +kernel) (by decide +kernel) (by decide +kernel) (by decide +kernel) hU ?_ ?_ (hl.1.trans hml.symm) dX8_make_56 dX8_make_59 dX8_make_60 dX8_make_62 dX8_make_65 htb (Nat.le_of_ble_eq_true rfl) (Nat.le_of_ble_eq_true rfl) (Nat.le_of_ble_eq_true rfl) (Nat.le_of_ble_eq_true rfl) hlocks (Nat.le_of_ble_eq_true rfl) (Nat.le_of_ble_eq_true rfl)
        · rw [← t_pl1]; exact hR
        · try rw [← t_pl1]
          exact (Or.inr (Or.inl ⟨rfl, by omega, fun ⟨a1, a2, a3, a4, a5, a6⟩ => by first | omega | exact absurd (a6.symm.trans (by assumption : pathOK T = false)) (by decide), ⟨_, _, _, _, _, _, _, _, _, _, rfl, hrd, (tpR_nil htp), (hr1.mono sb_pl_pl1), (hr2.mono sb_pl_pl1), (hr3.mono sb_pl_pl1), (hhr.mono sb_pl_pl1), (hcr.mono sb_pl_pl1), (hcr2.mono sb_pl_pl1)⟩⟩))
      · have c_7 := of_decide_eq_true c_7
        refine lv_iload_n hx hb dX8_make_41 rfl (lv_at hl 4 rfl) ?_
        refine pf_callS (As := [.int tm]) (rest := []) (p_isTime l hT (w := ((kX cB cI cE cS z 0 g fb Ls.length f1 Lm.length f2 Lr.length f3 Sn.length fh tm0 dn Cw.length c1 c2 C2.length c3 c4 cho st) ++ pl1)) tm) ⟨hx, hb, hml, hown, hts⟩ (va_cwS 1 hts gX8_make_X8_isTime rfl rfl rfl (by decide +kernel) ⟨Nat.le_of_ble_eq_true rfl, Nat.le_of_ble_eq_true rfl⟩) hK hR.1 rfl hl.1 rfl (Nat.le_of_ble_eq_true rfl) dX8_make_42 ⟨Nat.le_of_ble_eq_true rfl, Nat.le_of_ble_eq_true rfl⟩ (fun r_8 hr_8 => ?_)
        subst hr_8
        refine nb_ifeq hx hb dX8_make_45 (tgt := 56) (by decide) (fun c_9 => ?_) (fun c_9 => ?_)
        · have c_9 := of_decide_eq_false c_9
          rw [hQ]
          refine xc_throw (X := (kX cB cI cE cS z 0 g fb Ls.length f1 Lm.length f2 Lr.length f3 Sn.length fh tm0 dn Cw.length c1 c2 C2.length c3 c4 cho st)) (nw := nw_r_3) IAE 92 96 94 "no such kind, mode, time or path" xfit_iae xg_iae xn_iae hx hb hlt hown hts hZ (by decide +kernel) (by decide +kernel) (by decide +kernel) (by decide +kernel) hU ?_ ?_ (hl.1.trans hml.symm) dX8_make_56 dX8_make_59 dX8_make_60 dX8_make_62 dX8_make_65 htb (Nat.le_of_ble_eq_true rfl) (Nat.le_of_ble_eq_true rfl) (Nat.le_of_ble_eq_true rfl) (Nat.le_of_ble_eq_true rfl) hlocks (Nat.le_of_ble_eq_true rfl) (Nat.le_of_ble_eq_true rfl)
          · rw [← t_pl1]; exact hR
          · try rw [← t_pl1]
            exact (Or.inr (Or.inl ⟨rfl, by omega, fun ⟨a1, a2, a3, a4, a5, a6⟩ => by first | omega | exact absurd (a6.symm.trans (by assumption : pathOK T = false)) (by decide), ⟨_, _, _, _, _, _, _, _, _, _, rfl, hrd, (tpR_nil htp), (hr1.mono sb_pl_pl1), (hr2.mono sb_pl_pl1), (hr3.mono sb_pl_pl1), (hhr.mono sb_pl_pl1), (hcr.mono sb_pl_pl1), (hcr2.mono sb_pl_pl1)⟩⟩))
        · have c_9 := of_decide_eq_true c_9
          refine lv_aload hx hb dX8_make_48 (lv_at hl 0 rfl) ?_
          refine pf_callS (As := [.ref q_2]) (rest := []) (p_isPath l hT (hq_2.mono xpm) (by omega)) ⟨hx, hb, hml, hown, hts⟩ (va_cwS 1 hts gX8_make_X3_isPath rfl rfl rfl (by decide +kernel) ⟨Nat.le_of_ble_eq_true rfl, Nat.le_of_ble_eq_true rfl⟩) hK hR.1 rfl hl.1 rfl (Nat.le_of_ble_eq_true rfl) dX8_make_50 ⟨Nat.le_of_ble_eq_true rfl, Nat.le_of_ble_eq_true rfl⟩ (fun r_10 hr_10 => ?_)
          subst hr_10
          refine nb_ifne hx hb dX8_make_53 (tgt := 66) (by decide) (fun c_11 => ?_) (fun c_11 => ?_)
          · have hpk := pathOK_len (by assumption : pathOK T = true)
            refine lv_aload_n hx hb dX8_make_66 rfl (lv_at hl 1 rfl) ?_
            refine xg (ci := 7) (C := RX8) (T := TX8) (N := 9) (v := .ref (z 4)) hx hb hts inX8 hown hK hR.1 (List.mem_of_getElem? (i := 0) rfl) rfl 1 (by decide) k_19 (fun _ h => h) rfl dX8_make_67 ?_
            refine lv_aload hx hb dX8_make_70 (lv_at hl 0 rfl) ?_
            refine pf_callV (C := RX6) (As := [.ref q_2]) (rest := []) (p_find l hT (⟨(List.mem_of_getElem? (i := 4) rfl), (List.mem_of_getElem? (i := 5) rfl), ((hr1.mono sb_pl_pl1).mono xpm)⟩ : tRep ((kX cB cI cE cS z 0 g fb Ls.length f1 Lm.length f2 Lr.length f3 Sn.length fh tm0 dn Cw.length c1 c2 C2.length c3 c4 cho st) ++ pl1) cB cE (z 4) (z 5) f1 Ls) hs (hq_2.mono xpm) (by omega)) ⟨hx, hb, hml, hown, hts⟩ (cwV 1 hts gX8_make_X6_find rfl rfl rfl (by decide +kernel) ⟨Nat.le_of_ble_eq_true rfl, Nat.le_of_ble_eq_true rfl⟩) hK hR.1 (xrecv (ci := 5) hK hR.1 rfl (List.mem_of_getElem? (i := 4) rfl)) rfl hl.1 rfl (Nat.le_of_ble_eq_true rfl) dX8_make_72 ⟨Nat.le_of_ble_eq_true rfl, Nat.le_of_ble_eq_true rfl⟩ (fun r_12 hr_12 => ?_)
            subst hr_12
            refine lv_iconst (v := (-1)) hx hb dX8_make_75 rfl ?_
            refine zc_ne hx hb rfl (show (-1 : Int32).toInt = -1 from rfl) dX8_make_76 (tgt := 100) (by decide) (fun c_13 => ?_) (fun c_13 => ?_)
            · rw [hQ]
              refine xc_throw (X := (kX cB cI cE cS z 0 g fb Ls.length f1 Lm.length f2 Lr.length f3 Sn.length fh tm0 dn Cw.length c1 c2 C2.length c3 c4 cho st)) (nw := nw_r_3) ISE 65 69 108 "the entry is there, or has no directory, or the source is full" xfit_ise xg_ise xn_ise hx hb hlt hown hts hZ (by decide +kernel) (by decide +kernel) (by decide +kernel) (by decide +kernel) hU ?_ ?_ (hl.1.trans hml.symm) dX8_make_100 dX8_make_103 dX8_make_104 dX8_make_106 dX8_make_109 htb (Nat.le_of_ble_eq_true rfl) (Nat.le_of_ble_eq_true rfl) (Nat.le_of_ble_eq_true rfl) (Nat.le_of_ble_eq_true rfl) hlocks (Nat.le_of_ble_eq_true rfl) (Nat.le_of_ble_eq_true rfl)
              · rw [← t_pl1]; exact hR
              · try rw [← t_pl1]
                exact (Or.inr (Or.inr ⟨rfl, by omega, ⟨by omega, by omega, by omega, by omega, by omega, by assumption⟩, by first | exact Or.inl (by omega) | exact Or.inr (Or.inl (by assumption)) | exact Or.inr (Or.inr (by omega)), ⟨_, _, _, _, _, _, _, _, _, _, rfl, hrd, (tpR_nil htp), (hr1.mono sb_pl_pl1), (hr2.mono sb_pl_pl1), (hr3.mono sb_pl_pl1), (hhr.mono sb_pl_pl1), (hcr.mono sb_pl_pl1), (hcr2.mono sb_pl_pl1)⟩⟩))
            · refine lv_aload_n hx hb dX8_make_79 rfl (lv_at hl 1 rfl) ?_
              refine lv_aload hx hb dX8_make_80 (lv_at hl 0 rfl) ?_
              refine xc_callV (C := RX8) (As := [.ref q_2]) (rest := []) (cx := [(z 0, .inr (7, [.ref (z 1), .ref (z 4), .ref (z 6), .ref (z 8), .ref (z 10), .ref (z 12), .ref (z 16), .int cho, .int (nI st)])), (z 4, .inr (5, [.ref (z 5), .int (nI Ls.length)])), (z 5, .inl (cE, 120, rfs f1))]) (wr := (([1, 2, 3, 6, 7, 8, 9, 10, 11, 12, 13, 14, 15, 16, 17, 18] : List Nat).filterMap (fun i => (kX cB cI cE cS z 0 g fb Ls.length f1 Lm.length f2 Lr.length f3 Sn.length fh tm0 dn Cw.length c1 c2 C2.length c3 c4 cho st)[i]?))) (c_hasDir l hT (hr1.mono sb_pl_pl1) hq_2 (by omega) (by omega) hs) ⟨hx, hb, hml, hown, hts⟩ (cwV 1 hts gX8_make_X8_hasDirectory rfl rfl rfl (by decide +kernel) ⟨Nat.le_of_ble_eq_true rfl, Nat.le_of_ble_eq_true rfl⟩) hK hZ hR hA (xrecv (ci := 7) hK hR.1 rfl (List.mem_of_getElem? (i := 0) rfl)) [0, 4, 5] [1, 2, 3, 6, 7, 8, 9, 10, 11, 12, 13, 14, 15, 16, 17, 18] rfl rfl (by decide) (by decide) (by decide) rfl hl.1 rfl (Nat.le_of_ble_eq_true rfl) dX8_make_82 ⟨Nat.le_of_ble_eq_true rfl, Nat.le_of_ble_eq_true rfl⟩ (fun r_14 X_r_14 nw_r_14 H locs hr_14 hR => ?_)
              obtain ⟨rfl, rfl⟩ := hr_14
              obtain hR : rR G A s.heap H locs (_ ++ (pl1 ++ nw_r_14)) := hR
              obtain ⟨pl2, e_pl2, sb_pl1_pl2⟩ : ∃ z : va_W, z = pl1 ++ nw_r_14 ∧ ∀ q, q ∈ pl1 → q ∈ z := ⟨_, rfl, plm⟩
              rw [← e_pl2] at hR
              have sb_pl_pl2 : ∀ q, q ∈ pl → q ∈ pl2 := fun q h => sb_pl1_pl2 q (sb_pl_pl1 q h)
              have t_pl2 : pl2 = pl ++ (nw_r_3 ++ nw_r_14) := by rw [e_pl2, t_pl1, List.append_assoc]
              have hR : rR G A s.heap _ _ ((kX cB cI cE cS z 0 g fb Ls.length f1 Lm.length f2 Lr.length f3 Sn.length fh tm0 dn Cw.length c1 c2 C2.length c3 c4 cho st) ++ pl2) := xc_perm hR [16, 0, 1, 2, 17, 18, 3, 4, 5, 6, 7, 8, 9, 10, 11, 12, 13, 14, 15] rfl (by decide)
              refine nb_ifeq hx hb dX8_make_85 (tgt := 100) (by decide) (fun c_15 => ?_) (fun c_15 => ?_)
              · rw [hQ]
                refine xc_throw (X := (kX cB cI cE cS z 0 g fb Ls.length f1 Lm.length f2 Lr.length f3 Sn.length fh tm0 dn Cw.length c1 c2 C2.length c3 c4 cho st)) (nw := (nw_r_3 ++ nw_r_14)) ISE 65 69 108 "the entry is there, or has no directory, or the source is full" xfit_ise xg_ise xn_ise hx hb hlt hown hts hZ (by decide +kernel) (by decide +kernel) (by decide +kernel) (by decide +kernel) hU ?_ ?_ (hl.1.trans hml.symm) dX8_make_100 dX8_make_103 dX8_make_104 dX8_make_106 dX8_make_109 htb (Nat.le_of_ble_eq_true rfl) (Nat.le_of_ble_eq_true rfl) (Nat.le_of_ble_eq_true rfl) (Nat.le_of_ble_eq_true rfl) hlocks (Nat.le_of_ble_eq_true rfl) (Nat.le_of_ble_eq_true rfl)
                · rw [← t_pl2]; exact hR
                · try rw [← t_pl2]
                  exact (Or.inr (Or.inr ⟨rfl, by omega, ⟨by omega, by omega, by omega, by omega, by omega, by assumption⟩, by first | exact Or.inl (by omega) | exact Or.inr (Or.inl (by assumption)) | exact Or.inr (Or.inr (by omega)), ⟨_, _, _, _, _, _, _, _, _, _, rfl, hrd, (tpR_nil htp), (hr1.mono sb_pl_pl2), (hr2.mono sb_pl_pl2), (hr3.mono sb_pl_pl2), (hhr.mono sb_pl_pl2), (hcr.mono sb_pl_pl2), (hcr2.mono sb_pl_pl2)⟩⟩))
              · refine lv_aload_n hx hb dX8_make_88 rfl (lv_at hl 1 rfl) ?_
                refine xg (ci := 7) (C := RX8) (T := TX8) (N := 9) (v := .ref (z 4)) hx hb hts inX8 hown hK hR.1 (List.mem_of_getElem? (i := 0) rfl) rfl 1 (by decide) k_19 (fun _ h => h) rfl dX8_make_89 ?_
                refine pf_callV (C := RX6) (As := []) (rest := []) (p_tsize l hT (⟨(List.mem_of_getElem? (i := 4) rfl), (List.mem_of_getElem? (i := 5) rfl), ((hr1.mono sb_pl_pl2).mono xpm)⟩ : tRep ((kX cB cI cE cS z 0 g fb Ls.length f1 Lm.length f2 Lr.length f3 Sn.length fh tm0 dn Cw.length c1 c2 C2.length c3 c4 cho st) ++ pl2) cB cE (z 4) (z 5) f1 Ls)) ⟨hx, hb, hml, hown, hts⟩ (cwV 0 hts gX8_make_X6_size rfl rfl rfl (by decide +kernel) ⟨Nat.le_of_ble_eq_true rfl, Nat.le_of_ble_eq_true rfl⟩) hK hR.1 (xrecv (ci := 5) hK hR.1 rfl (List.mem_of_getElem? (i := 4) rfl)) rfl hl.1 rfl (Nat.le_of_ble_eq_true rfl) dX8_make_92 ⟨Nat.le_of_ble_eq_true rfl, Nat.le_of_ble_eq_true rfl⟩ (fun r_16 hr_16 => ?_)
                subst hr_16
                refine lv_bipush (v := nI 60) hx hb dX8_make_95 (by decide) ?_
                refine nn_lt hx hb dX8_make_97 (tgt := 110) (by decide) (by omega) (by omega) (fun c_17 => ?_) (fun c_17 => ?_)
                · refine lv_aload_n hx hb dX8_make_110 rfl (lv_at hl 1 rfl) ?_
                  refine xg (ci := 7) (C := RX8) (T := TX8) (N := 9) (v := .ref (z 4)) hx hb hts inX8 hown hK hR.1 (List.mem_of_getElem? (i := 0) rfl) rfl 1 (by decide) k_19 (fun _ h => h) rfl dX8_make_111 ?_
                  refine va_new (D := G) (ci := 1) (C := RX1) (T := TX1) (N := 5) (fs := [.null, .int 0, .int 0, .int 0, .null]) hx hb hts inX1 tyX1 tyX1_ok hown (hts (.classLink RX8 110 RX1) (by decide +kernel)) (hts (.instantiable RX1 5) (by decide +kernel)) (hts (.initialized RX1) (by decide +kernel)) hK hR.1 hR.2.1 hR.2.2 hA rfl (by decide) (Nat.le_of_ble_eq_true rfl) (Nat.le_of_ble_eq_true rfl) dX8_make_114 (fun q_18 H hP hD hS => ?_)
                  have hR : rR G A s.heap _ _ ((kX cB cI cE cS z 0 g fb Ls.length f1 Lm.length f2 Lr.length f3 Sn.length fh tm0 dn Cw.length c1 c2 C2.length c3 c4 cho st ++ [(q_18, .inr (1, [.null, .int 0, .int 0, .int 0, .null]))]) ++ pl2) := ⟨hP.swap, hD.swap, hS⟩
                  refine lv_dup hx hb dX8_make_117 rfl ?_
                  refine lv_aload hx hb dX8_make_118 (lv_at hl 0 rfl) ?_
                  refine lv_iload_n hx hb dX8_make_120 rfl (lv_at hl 2 rfl) ?_
                  refine lv_iload_n hx hb dX8_make_121 rfl (lv_at hl 3 rfl) ?_
                  refine lv_iload_n hx hb dX8_make_122 rfl (lv_at hl 4 rfl) ?_
                  refine lv_iconst (v := nI 0) hx hb dX8_make_123 rfl ?_
                  refine xc_newb hx hb (hts (.arrayClass .byte) (by decide +kernel)) hK hT0 hR hA (by omega) (Nat.le_of_ble_eq_true rfl) (Nat.le_of_ble_eq_true rfl) dX8_make_124 (fun q_19 H hR => ?_)
                  have hR : rR G A s.heap _ _ ((kX cB cI cE cS z 0 g fb Ls.length f1 Lm.length f2 Lr.length f3 Sn.length fh tm0 dn Cw.length c1 c2 C2.length c3 c4 cho st ++ [(q_18, .inr (1, [.null, .int 0, .int 0, .int 0, .null])), (q_19, .inl (cB, 0, .inl (fun _ => 0)))]) ++ pl2) := hR
                  refine xc_callI (As := [.ref q_2, .int kd, .int md, .int tm, .ref q_19]) (rest := [.ref q_18, .ref (z 4)]) (cx := [(q_18, .inr (1, [.null, .int 0, .int 0, .int 0, .null]))]) (wr := (([0, 1, 2, 3, 4, 5, 6, 7, 8, 9, 10, 11, 12, 13, 14, 15, 16, 17, 18, 20] : List Nat).filterMap (fun i => (kX cB cI cE cS z 0 g fb Ls.length f1 Lm.length f2 Lr.length f3 Sn.length fh tm0 dn Cw.length c1 c2 C2.length c3 c4 cho st ++ [(q_18, .inr (1, [.null, .int 0, .int 0, .int 0, .null])), (q_19, .inl (cB, 0, .inl (fun _ => 0)))])[i]?))) (c_entInit l hT kd md tm) ⟨hx, hb, hml, hown, hts⟩ (cwI 5 hts gX8_make_X1_init rfl rfl rfl (hts (.initialized RX1) (by decide +kernel)) (hts (.methodLink RX8 112 yX1_init) (by decide +kernel)) (hts (.instanceMethod yX1_init) (by decide +kernel)) rfl (by decide +kernel) ⟨Nat.le_of_ble_eq_true rfl, Nat.le_of_ble_eq_true rfl⟩) hK hZ hR hA [19] [0, 1, 2, 3, 4, 5, 6, 7, 8, 9, 10, 11, 12, 13, 14, 15, 16, 17, 18, 20] rfl rfl (by decide) (by decide) (by decide) rfl hl.1 rfl (Nat.le_of_ble_eq_true rfl) dX8_make_126 ⟨Nat.le_of_ble_eq_true rfl, Nat.le_of_ble_eq_true rfl⟩ (fun r_20 X_r_20 nw_r_20 H locs hr_20 hR => ?_)
                  obtain ⟨rfl, rfl, rfl⟩ := hr_20
                  have hR : rR G A s.heap _ _ ((kX cB cI cE cS z 0 g fb Ls.length f1 Lm.length f2 Lr.length f3 Sn.length fh tm0 dn Cw.length c1 c2 C2.length c3 c4 cho st ++ [(q_18, .inr (1, [.ref q_2, .int kd, .int md, .int tm, .ref q_19])), (q_19, .inl (cB, 0, .inl (fun _ => 0)))]) ++ pl2) := xc_perm (xc_nil hR) [0, 1, 2, 3, 4, 5, 6, 7, 8, 9, 10, 11, 12, 13, 14, 15, 16, 17, 18, 20, 19] rfl (by decide)
                  have hR : rR G A s.heap _ _ ((kX cB cI cE cS z 0 g fb Ls.length f1 Lm.length f2 Lr.length f3 Sn.length fh tm0 dn Cw.length c1 c2 C2.length c3 c4 cho st ++ [(q_18, .inr (1, [.ref q_2, .int kd, .int md, .int tm, .ref q_19]))]) ++ (pl2 ++ [(q_19, .inl (cB, 0, .inl (fun _ => 0)))])) := xc_pool (X := (kX cB cI cE cS z 0 g fb Ls.length f1 Lm.length f2 Lr.length f3 Sn.length fh tm0 dn Cw.length c1 c2 C2.length c3 c4 cho st ++ [(q_18, .inr (1, [.ref q_2, .int kd, .int md, .int tm, .ref q_19]))])) (q := (q_19, .inl (cB, 0, .inl (fun _ => 0)))) hR
                  obtain ⟨pl3, e_pl3, sb_pl2_pl3⟩ : ∃ z : va_W, z = pl2 ++ [(q_19, .inl (cB, 0, .inl (fun _ => 0)))] ∧ ∀ q, q ∈ pl2 → q ∈ z := ⟨_, rfl, plm⟩
                  rw [← e_pl3] at hR
                  have sb_pl_pl3 : ∀ q, q ∈ pl → q ∈ pl3 := fun q h => sb_pl2_pl3 q (sb_pl_pl2 q h)
                  have sb_pl1_pl3 : ∀ q, q ∈ pl1 → q ∈ pl3 := fun q h => sb_pl2_pl3 q (sb_pl1_pl2 q h)
                  have t_pl3 : pl3 = pl ++ ((nw_r_3 ++ nw_r_14) ++ [(q_19, .inl (cB, 0, .inl (fun _ => 0)))]) := by rw [e_pl3, t_pl2, List.append_assoc]
                  have hm_q_19 : (q_19, .inl (cB, 0, .inl (fun _ => 0))) ∈ pl3 := by rw [e_pl3]; exact List.mem_append_right _ List.mem_cons_self
                  have hR : rR G A s.heap _ _ ((kX cB cI cE cS z 0 g fb Ls.length f1 Lm.length f2 Lr.length f3 Sn.length fh tm0 dn Cw.length c1 c2 C2.length c3 c4 cho st) ++ (pl3 ++ [(q_18, .inr (1, [.ref q_2, .int kd, .int md, .int tm, .ref q_19]))])) := xc_pool (X := (kX cB cI cE cS z 0 g fb Ls.length f1 Lm.length f2 Lr.length f3 Sn.length fh tm0 dn Cw.length c1 c2 C2.length c3 c4 cho st)) (q := (q_18, .inr (1, [.ref q_2, .int kd, .int md, .int tm, .ref q_19]))) hR
                  obtain ⟨pl4, e_pl4, sb_pl3_pl4⟩ : ∃ z : va_W, z = pl3 ++ [(q_18, .inr (1, [.ref q_2, .int kd, .int md, .int tm, .ref q_19]))] ∧ ∀ q, q ∈ pl3 → q ∈ z := ⟨_, rfl, plm⟩
                  rw [← e_pl4] at hR
                  have sb_pl_pl4 : ∀ q, q ∈ pl → q ∈ pl4 := fun q h => sb_pl3_pl4 q (sb_pl_pl3 q h)
                  have sb_pl1_pl4 : ∀ q, q ∈ pl1 → q ∈ pl4 := fun q h => sb_pl3_pl4 q (sb_pl1_pl3 q h)
                  have sb_pl2_pl4 : ∀ q, q ∈ pl2 → q ∈ pl4 := fun q h => sb_pl3_pl4 q (sb_pl2_pl3 q h)
                  have t_pl4 : pl4 = pl ++ (((nw_r_3 ++ nw_r_14) ++ [(q_19, .inl (cB, 0, .inl (fun _ => 0)))]) ++ [(q_18, .inr (1, [.ref q_2, .int kd, .int md, .int tm, .ref q_19]))]) := by rw [e_pl4, t_pl3, List.append_assoc]
                  have hm_q_18 : (q_18, .inr (1, [.ref q_2, .int kd, .int md, .int tm, .ref q_19])) ∈ pl4 := by rw [e_pl4]; exact List.mem_append_right _ List.mem_cons_self
                  have he9 : pEnt pl4 cB q_18 (T, kd, md, tm, []) := ⟨_, _, hm_q_18, (hq_2.mono sb_pl1_pl4), bArr_nil (sb_pl3_pl4 _ hm_q_19)⟩
                  have hnf := fnd2_m1 (by omega) (show (fnd2 Ls T).toInt = -1 by omega)
                  have hs5 : srt (putL Ls (T, kd, md, tm, [])) := srt_put hs hnf
                  refine xc_callV (C := RX6) (As := [.ref q_18]) (rest := []) (cx := [(z 4, .inr (5, [.ref (z 5), .int (nI Ls.length)])), (z 5, .inl (cE, 120, rfs f1))]) (wr := (([0, 1, 2, 3, 6, 7, 8, 9, 10, 11, 12, 13, 14, 15, 16, 17, 18] : List Nat).filterMap (fun i => (kX cB cI cE cS z 0 g fb Ls.length f1 Lm.length f2 Lr.length f3 Sn.length fh tm0 dn Cw.length c1 c2 C2.length c3 c4 cho st)[i]?))) (c_put l hT (hr1.mono sb_pl_pl4) he9 hs (by show T.length ≤ 150; omega) (fun _ => by omega) (by show csum Ls + 0 ≤ 8000; omega)) ⟨hx, hb, hml, hown, hts⟩ (cwV 1 hts gX8_make_X6_put rfl rfl rfl (by decide +kernel) ⟨Nat.le_of_ble_eq_true rfl, Nat.le_of_ble_eq_true rfl⟩) hK hZ hR hA (xrecv (ci := 5) hK hR.1 rfl (List.mem_of_getElem? (i := 4) rfl)) [4, 5] [0, 1, 2, 3, 6, 7, 8, 9, 10, 11, 12, 13, 14, 15, 16, 17, 18] rfl rfl (by decide) (by decide) (by decide) rfl hl.1 rfl (Nat.le_of_ble_eq_true rfl) dX8_make_129 ⟨Nat.le_of_ble_eq_true rfl, Nat.le_of_ble_eq_true rfl⟩ (fun r_21 X_r_21 nw_r_21 H locs hr_21 hR => ?_)
                  obtain ⟨rfl, rfl, g5, rfl, hg5⟩ := hr_21
                  have hR : rR G A s.heap _ _ ((kX cB cI cE cS z 0 g fb ((putL Ls (T, kd, md, tm, [])).length) g5 Lm.length f2 Lr.length f3 Sn.length fh tm0 dn Cw.length c1 c2 C2.length c3 c4 cho st) ++ pl4) := xc_perm (xc_nil hR) [0, 1, 2, 3, 17, 18, 4, 5, 6, 7, 8, 9, 10, 11, 12, 13, 14, 15, 16] rfl (by decide)
                  refine lv_aload_n hx hb dX8_make_132 rfl (lv_at hl 1 rfl) ?_
                  refine lv_aload_n hx hb dX8_make_133 rfl (lv_at hl 1 rfl) ?_
                  refine xg (ci := 7) (C := RX8) (T := TX8) (N := 9) (v := .ref (z 4)) hx hb hts inX8 hown hK hR.1 (List.mem_of_getElem? (i := 0) rfl) rfl 1 (by decide) k_19 (fun _ h => h) rfl dX8_make_134 ?_
                  refine lv_aload hx hb dX8_make_137 (lv_at hl 0 rfl) ?_
                  refine pf_callV (C := RX6) (As := [.ref q_2]) (rest := [.ref (z 0)]) (p_find l hT (⟨(List.mem_of_getElem? (i := 4) rfl), (List.mem_of_getElem? (i := 5) rfl), (hg5.mono xpm)⟩ : tRep ((kX cB cI cE cS z 0 g fb ((putL Ls (T, kd, md, tm, [])).length) g5 Lm.length f2 Lr.length f3 Sn.length fh tm0 dn Cw.length c1 c2 C2.length c3 c4 cho st) ++ pl4) cB cE (z 4) (z 5) g5 (putL Ls (T, kd, md, tm, []))) hs5 ((hq_2.mono sb_pl1_pl4).mono xpm) (by omega)) ⟨hx, hb, hml, hown, hts⟩ (cwV 1 hts gX8_make_X6_find rfl rfl rfl (by decide +kernel) ⟨Nat.le_of_ble_eq_true rfl, Nat.le_of_ble_eq_true rfl⟩) hK hR.1 (xrecv (ci := 5) hK hR.1 rfl (List.mem_of_getElem? (i := 4) rfl)) rfl hl.1 rfl (Nat.le_of_ble_eq_true rfl) dX8_make_139 ⟨Nat.le_of_ble_eq_true rfl, Nat.le_of_ble_eq_true rfl⟩ (fun r_22 hr_22 => ?_)
                  subst hr_22
                  refine va_put (D := G) (ci := 7) (v := .int (fnd2 (putL Ls (T, kd, md, tm, [])) T)) (ty := .int) (C := RX8) (T := TX8) (N := 9) hx hb hts inX8 tyX8 tyX8_ok nmX8 hown hK hR.1 hR.2.1 hR.2.2 0 rfl rfl 7 (by decide) k_50 (fun _ h => h) rfl (by decide +kernel) rfl rfl (Nat.le_of_ble_eq_true rfl) dX8_make_142 (fun H locs hP hD hS => ?_)
                  have hR : rR G A s.heap _ _ ((kX cB cI cE cS z 0 g fb ((putL Ls (T, kd, md, tm, [])).length) g5 Lm.length f2 Lr.length f3 Sn.length fh tm0 dn Cw.length c1 c2 C2.length c3 c4 (fnd2 (putL Ls (T, kd, md, tm, [])) T) st) ++ pl4) := ⟨hP, hD, hS⟩
                  refine lv_aload_n hx hb dX8_make_145 rfl (lv_at hl 1 rfl) ?_
                  refine xg (ci := 7) (C := RX8) (T := TX8) (N := 9) (v := .ref (z 4)) hx hb hts inX8 hown hK hR.1 (List.mem_of_getElem? (i := 0) rfl) rfl 1 (by decide) k_19 (fun _ h => h) rfl dX8_make_146 ?_
                  refine pf_callV (C := RX6) (As := []) (rest := []) (p_tsize l hT (⟨(List.mem_of_getElem? (i := 4) rfl), (List.mem_of_getElem? (i := 5) rfl), (hg5.mono xpm)⟩ : tRep ((kX cB cI cE cS z 0 g fb ((putL Ls (T, kd, md, tm, [])).length) g5 Lm.length f2 Lr.length f3 Sn.length fh tm0 dn Cw.length c1 c2 C2.length c3 c4 (fnd2 (putL Ls (T, kd, md, tm, [])) T) st) ++ pl4) cB cE (z 4) (z 5) g5 (putL Ls (T, kd, md, tm, [])))) ⟨hx, hb, hml, hown, hts⟩ (cwV 0 hts gX8_make_X6_size rfl rfl rfl (by decide +kernel) ⟨Nat.le_of_ble_eq_true rfl, Nat.le_of_ble_eq_true rfl⟩) hK hR.1 (xrecv (ci := 5) hK hR.1 rfl (List.mem_of_getElem? (i := 4) rfl)) rfl hl.1 rfl (Nat.le_of_ble_eq_true rfl) dX8_make_149 ⟨Nat.le_of_ble_eq_true rfl, Nat.le_of_ble_eq_true rfl⟩ (fun r_23 hr_23 => ?_)
                  subst hr_23
                  rw [hQ]
                  refine vx_ret ?_
                  refine W.widen (k := 4) (n := 3006) (by omega) (by omega) ?_
                  refine xc_iret (X1 := (kX cB cI cE cS z 0 g fb ((putL Ls (T, kd, md, tm, [])).length) g5 Lm.length f2 Lr.length f3 Sn.length fh tm0 dn Cw.length c1 c2 C2.length c3 c4 (fnd2 (putL Ls (T, kd, md, tm, [])) T) st)) (nw := (((nw_r_3 ++ nw_r_14) ++ [(q_19, .inl (cB, 0, .inl (fun _ => 0)))]) ++ [(q_18, .inr (1, [.ref q_2, .int kd, .int md, .int tm, .ref q_19]))])) hx hb hr hlocks ?_ ?_ dX8_make_152
                  · rw [← t_pl4]; exact hR
                  · try rw [← t_pl4]
                    exact ⟨by omega, ⟨by omega, by omega, by omega, by omega, by omega, by assumption⟩, fun h9 => by rcases h9 with h9 | h9 | h9; (omega); (exact absurd (h9.symm.trans (by assumption : dirC Ls T = true)) (by decide)); (omega), rfl, ⟨_, _, _, _, _, _, _, _, _, _, rfl, hrd, (tpR_nil htp), hg5, (hr2.mono sb_pl_pl4), (hr3.mono sb_pl_pl4), (hhr.mono sb_pl_pl4), (hcr.mono sb_pl_pl4), (hcr2.mono sb_pl_pl4)⟩⟩
                · rw [hQ]
                  refine xc_throw (X := (kX cB cI cE cS z 0 g fb Ls.length f1 Lm.length f2 Lr.length f3 Sn.length fh tm0 dn Cw.length c1 c2 C2.length c3 c4 cho st)) (nw := (nw_r_3 ++ nw_r_14)) ISE 65 69 108 "the entry is there, or has no directory, or the source is full" xfit_ise xg_ise xn_ise hx hb hlt hown hts hZ (by decide +kernel) (by decide +kernel) (by decide +kernel) (by decide +kernel) hU ?_ ?_ (hl.1.trans hml.symm) dX8_make_100 dX8_make_103 dX8_make_104 dX8_make_106 dX8_make_109 htb (Nat.le_of_ble_eq_true rfl) (Nat.le_of_ble_eq_true rfl) (Nat.le_of_ble_eq_true rfl) (Nat.le_of_ble_eq_true rfl) hlocks (Nat.le_of_ble_eq_true rfl) (Nat.le_of_ble_eq_true rfl)
                  · rw [← t_pl2]; exact hR
                  · try rw [← t_pl2]
                    exact (Or.inr (Or.inr ⟨rfl, by omega, ⟨by omega, by omega, by omega, by omega, by omega, by assumption⟩, by first | exact Or.inl (by omega) | exact Or.inr (Or.inl (by assumption)) | exact Or.inr (Or.inr (by omega)), ⟨_, _, _, _, _, _, _, _, _, _, rfl, hrd, (tpR_nil htp), (hr1.mono sb_pl_pl2), (hr2.mono sb_pl_pl2), (hr3.mono sb_pl_pl2), (hhr.mono sb_pl_pl2), (hcr.mono sb_pl_pl2), (hcr2.mono sb_pl_pl2)⟩⟩))
          · rw [hQ]
            refine xc_throw (X := (kX cB cI cE cS z 0 g fb Ls.length f1 Lm.length f2 Lr.length f3 Sn.length fh tm0 dn Cw.length c1 c2 C2.length c3 c4 cho st)) (nw := nw_r_3) IAE 92 96 94 "no such kind, mode, time or path" xfit_iae xg_iae xn_iae hx hb hlt hown hts hZ (by decide +kernel) (by decide +kernel) (by decide +kernel) (by decide +kernel) hU ?_ ?_ (hl.1.trans hml.symm) dX8_make_56 dX8_make_59 dX8_make_60 dX8_make_62 dX8_make_65 htb (Nat.le_of_ble_eq_true rfl) (Nat.le_of_ble_eq_true rfl) (Nat.le_of_ble_eq_true rfl) (Nat.le_of_ble_eq_true rfl) hlocks (Nat.le_of_ble_eq_true rfl) (Nat.le_of_ble_eq_true rfl)
            · rw [← t_pl1]; exact hR
            · try rw [← t_pl1]
              exact (Or.inr (Or.inl ⟨rfl, by omega, fun ⟨a1, a2, a3, a4, a5, a6⟩ => by first | omega | exact absurd (a6.symm.trans (by assumption : pathOK T = false)) (by decide), ⟨_, _, _, _, _, _, _, _, _, _, rfl, hrd, (tpR_nil htp), (hr1.mono sb_pl_pl1), (hr2.mono sb_pl_pl1), (hr3.mono sb_pl_pl1), (hhr.mono sb_pl_pl1), (hcr.mono sb_pl_pl1), (hcr2.mono sb_pl_pl1)⟩⟩))
  · rw [hQ]
    refine xc_throw (X := (kX cB cI cE cS z T.length g fb Ls.length f1 Lm.length f2 Lr.length f3 Sn.length fh tm0 dn Cw.length c1 c2 C2.length c3 c4 cho st)) (nw := []) ISE 65 69 67 "a session is under way" xfit_ise xg_ise xn_ise hx hb hlt hown hts hZ (by decide +kernel) (by decide +kernel) (by decide +kernel) (by decide +kernel) hU ?_ ?_ (hl.1.trans hml.symm) dX8_make_8 dX8_make_11 dX8_make_12 dX8_make_14 dX8_make_17 htb (Nat.le_of_ble_eq_true rfl) (Nat.le_of_ble_eq_true rfl) (Nat.le_of_ble_eq_true rfl) (Nat.le_of_ble_eq_true rfl) hlocks (Nat.le_of_ble_eq_true rfl) (Nat.le_of_ble_eq_true rfl)
    · rw [List.append_nil]; exact hR
    · try rw [List.append_nil]
      exact (Or.inl ⟨rfl, by omega, ⟨_, _, _, _, _, _, _, _, _, _, rfl, hrd, htp, hr1, hr2, hr3, hhr, hcr, hcr2⟩⟩)
