set_option maxHeartbeats 4000000 in
set_option maxRecDepth 100000 in
theorem K_crash (l : Launch) {G : va_G} {tys : List (ClassId × FieldType)} {cB cI cE cS : ClassId} (hT : tys = [(cB, .byte), (cI, .int), (cE, .object RX1), (cS, .object RX4)]) {pl : va_W} {sz : Nat} (hlt : l.stackTraces = false) {z : Nat → Nat} {X : va_W} {T rd : List Nat} {Ls Lm Lr : List En} {Sn : List Se} {Cw C2 : List Cg} {tm0 : Int32} {dn : Nat} {cho : Int32} {st : Nat} (hk : kRep cB cI cE cS z X pl T rd Ls Lm Lr Sn Cw C2 tm0 dn cho st) (hst9 : st ≤ 2) : xMet l yX8_crash wsX8_crash ({ frames := 6, cells := 1, slots := 6, locals := 82 } : Room) G tys [.ref (z 0)] X pl sz 1 6 (fun o9 X1 nw => o9 = none ∧ st = 1 ∧ kRep cB cI cE cS z X1 (pl ++ nw) T rd Ls Lm Lr Sn Cw C2 tm0 dn cho 2) (fun E X1 nw => E = ISE ∧ st ≠ 1 ∧ kRep cB cI cE cS z X1 (pl ++ nw) T rd Ls Lm Lr Sn Cw C2 tm0 dn cho st) := by
  obtain ⟨g, fb, f1, f2, f3, fh, c1, c2, c3, c4, rfl, hrd, htp, hr1, hr2, hr3, hhr, hcr, hcr2⟩ := hk
  have hT0 : tys[0]? = some (cB, .byte) := by rw [hT]; rfl
  have hT1 : tys[1]? = some (cI, .int) := by rw [hT]; rfl
  have hT2 : tys[2]? = some (cE, .object RX1) := by rw [hT]; rfl
  have hT3 : tys[3]? = some (cS, .object RX4) := by rw [hT]; rfl
  refine vx_ofW (cc := cX8_crash) (maxL := 1) (ret := none) (by decide) rfl ?_
  intro p e s m args below meth c s₁ B hml htb hv
  obtain ⟨hargs, ⟨hsz, hP, hK, hD0, hZ⟩, hU⟩ := hv
  have hx := B.exec
  have hb := B.bytes
  have hr := B.returns
  have hts := atoms_spec (ws := wsX8_crash) B.pre
  have hown : s.vm.findClass RX8 = some m.cls := findClass_of_methodNamed B.named
  have hlocks := B.notSynchronized
  subst hsz
  have hD := hD0.self (sz := s.heap.size)
  obtain ⟨A, hAe⟩ : ∃ A : Nat → Prop, A = va_A ((kX cB cI cE cS z T.length g fb Ls.length f1 Lm.length f2 Lr.length f3 Sn.length fh tm0 dn Cw.length c1 c2 C2.length c3 c4 cho st) ++ pl) s.heap.size := ⟨_, rfl⟩
  rw [← hAe] at hD hU
  have hA : ∀ q : Nat, s.heap.size ≤ q → A q := fun q h => by rw [hAe]; exact Or.inr h
  have inX8 : ∀ w ∈ wsX80, w ∈ wsX8_crash := by decide +kernel
  have k_54 := hts (.fieldLink RX8 54 "MirrorKeep" "state" "I") (by decide +kernel)
  have hR : rR G A s.heap s.heap [] ((kX cB cI cE cS z T.length g fb Ls.length f1 Lm.length f2 Lr.length f3 Sn.length fh tm0 dn Cw.length c1 c2 C2.length c3 c4 cho st) ++ pl) := ⟨hP, hD, va_S.rf⟩
  obtain ⟨Q, hQ⟩ : ∃ Q : State → Prop, Q = vx_MQ below (cQ G A pl (fun o9 X1 nw => o9 = none ∧ st = 1 ∧ kRep cB cI cE cS z X1 (pl ++ nw) T rd Ls Lm Lr Sn Cw C2 tm0 dn cho 2)) (xX G A pl (fun E X1 nw => E = ISE ∧ st ≠ 1 ∧ kRep cB cI cE cS z X1 (pl ++ nw) T rd Ls Lm Lr Sn Cw C2 tm0 dn cho st)) args s 1 6 A := ⟨_, rfl⟩
  change W p l e ({ frames := 6, cells := 1, slots := 6, locals := 82 } : Room) s m args below meth c s.heap [] 0 0 (vx_MQ below (cQ G (va_A ((kX cB cI cE cS z T.length g fb Ls.length f1 Lm.length f2 Lr.length f3 Sn.length fh tm0 dn Cw.length c1 c2 C2.length c3 c4 cho st) ++ pl) s.heap.size) pl (fun o9 X1 nw => o9 = none ∧ st = 1 ∧ kRep cB cI cE cS z X1 (pl ++ nw) T rd Ls Lm Lr Sn Cw C2 tm0 dn cho 2)) (xX G (va_A ((kX cB cI cE cS z T.length g fb Ls.length f1 Lm.length f2 Lr.length f3 Sn.length fh tm0 dn Cw.length c1 c2 C2.length c3 c4 cho st) ++ pl) s.heap.size) pl (fun E X1 nw => E = ISE ∧ st ≠ 1 ∧ kRep cB cI cE cS z X1 (pl ++ nw) T rd Ls Lm Lr Sn Cw C2 tm0 dn cho st)) args s 1 6 (va_A ((kX cB cI cE cS z T.length g fb Ls.length f1 Lm.length f2 Lr.length f3 Sn.length fh tm0 dn Cw.length c1 c2 C2.length c3 c4 cho st) ++ pl) s.heap.size)) (entryFrame m args 1)
  rw [← hAe]
  rw [← hQ]
  refine nn_entry hargs (Nat.le_of_ble_eq_true rfl) (lv := [(0, .ref (z 0))]) rfl (fun ls hl => ?_)
  refine lv_aload_n hx hb dX8_crash_0 rfl (lv_at hl 0 rfl) ?_
  refine xg (ci := 7) (C := RX8) (T := TX8) (N := 9) (v := .int (nI st)) hx hb hts inX8 hown hK hR.1 (List.mem_of_getElem? (i := 0) rfl) rfl 8 (by decide) k_54 (fun _ h => h) rfl dX8_crash_1 ?_
  refine lv_iconst (v := nI 1) hx hb dX8_crash_4 rfl ?_
  refine nn_eq hx hb dX8_crash_5 (tgt := 18) (by decide) (by omega) (by omega) (fun c_1 => ?_) (fun c_1 => ?_)
  · refine lv_aload_n hx hb dX8_crash_18 rfl (lv_at hl 0 rfl) ?_
    refine lv_iconst (v := nI 2) hx hb dX8_crash_19 rfl ?_
    refine va_put (D := G) (ci := 7) (v := .int (nI 2)) (ty := .int) (C := RX8) (T := TX8) (N := 9) hx hb hts inX8 tyX8 tyX8_ok nmX8 hown hK hR.1 hR.2.1 hR.2.2 0 rfl rfl 8 (by decide) k_54 (fun _ h => h) rfl (by decide +kernel) rfl rfl (Nat.le_of_ble_eq_true rfl) dX8_crash_20 (fun H locs hP hD hS => ?_)
    have hR : rR G A s.heap _ _ ((kX cB cI cE cS z T.length g fb Ls.length f1 Lm.length f2 Lr.length f3 Sn.length fh tm0 dn Cw.length c1 c2 C2.length c3 c4 cho 2) ++ pl) := ⟨hP, hD, hS⟩
    rw [hQ]
    refine vx_ret ?_
    refine W.widen (k := 1) (n := 6) (by omega) (by omega) ?_
    refine xc_vret (X1 := (kX cB cI cE cS z T.length g fb Ls.length f1 Lm.length f2 Lr.length f3 Sn.length fh tm0 dn Cw.length c1 c2 C2.length c3 c4 cho 2)) (nw := []) hx hb hr hlocks ?_ ?_ dX8_crash_23
    · rw [List.append_nil]; exact hR
    · try rw [List.append_nil]
      exact ⟨rfl, by omega, ⟨_, _, _, _, _, _, _, _, _, _, rfl, hrd, htp, hr1, hr2, hr3, hhr, hcr, hcr2⟩⟩
  · rw [hQ]
    refine xc_throw (X := (kX cB cI cE cS z T.length g fb Ls.length f1 Lm.length f2 Lr.length f3 Sn.length fh tm0 dn Cw.length c1 c2 C2.length c3 c4 cho st)) (nw := []) ISE 65 69 205 "no session is under way" xfit_ise xg_ise xn_ise hx hb hlt hown hts hZ (by decide +kernel) (by decide +kernel) (by decide +kernel) (by decide +kernel) hU ?_ ?_ (hl.1.trans hml.symm) dX8_crash_8 dX8_crash_11 dX8_crash_12 dX8_crash_14 dX8_crash_17 htb (Nat.le_of_ble_eq_true rfl) (Nat.le_of_ble_eq_true rfl) (Nat.le_of_ble_eq_true rfl) (Nat.le_of_ble_eq_true rfl) hlocks (Nat.le_of_ble_eq_true rfl) (Nat.le_of_ble_eq_true rfl)
    · rw [List.append_nil]; exact hR
    · try rw [List.append_nil]
      exact ⟨rfl, by omega, ⟨_, _, _, _, _, _, _, _, _, _, rfl, hrd, htp, hr1, hr2, hr3, hhr, hcr, hcr2⟩⟩
set_option maxHeartbeats 4000000 in
set_option maxRecDepth 100000 in
theorem K_set (l : Launch) {G : va_G} {tys : List (ClassId × FieldType)} {cB cI cE cS : ClassId} (hT : tys = [(cB, .byte), (cI, .int), (cE, .object RX1), (cS, .object RX4)]) {pl : va_W} {sz : Nat} (hlt : l.stackTraces = false) {z : Nat → Nat} {X : va_W} {T rd : List Nat} {Ls Lm Lr : List En} {Sn : List Se} {Cw C2 : List Cg} {tm0 : Int32} {dn : Nat} {cho : Int32} {st : Nat} (hk : kRep cB cI cE cS z X pl T rd Ls Lm Lr Sn Cw C2 tm0 dn cho st) (md tm : Int32) (hst9 : st ≤ 2) : xMet l yX8_set wsX8_set ({ frames := 6, cells := 1, slots := 6, locals := 82 } : Room) G tys [.ref (z 0), .int md, .int tm] X pl sz 1 6 (fun o9 X1 nw => o9 = none ∧ st ≠ 1 ∧ ∃ i, cho = nI i ∧ i < Ls.length ∧ (0 ≤ md.toInt ∧ md.toInt < 4096 ∧ 0 ≤ tm.toInt) ∧ kRep cB cI cE cS z X1 (pl ++ nw) T rd (Ls.set i ((Ls.getD i e0).1, (Ls.getD i e0).2.1, md, tm, ct (Ls.getD i e0))) Lm Lr Sn Cw C2 tm0 dn cho st) (fun E X1 nw => (E = ISE ∧ (st = 1 ∨ ¬ (0 ≤ cho.toInt ∧ cho.toInt < Ls.length)) ∧ kRep cB cI cE cS z X1 (pl ++ nw) T rd Ls Lm Lr Sn Cw C2 tm0 dn cho st) ∨ (E = IAE ∧ st ≠ 1 ∧ (0 ≤ cho.toInt ∧ cho.toInt < Ls.length) ∧ ¬ (0 ≤ md.toInt ∧ md.toInt < 4096 ∧ 0 ≤ tm.toInt) ∧ kRep cB cI cE cS z X1 (pl ++ nw) T rd Ls Lm Lr Sn Cw C2 tm0 dn cho st)) := by
  obtain ⟨g, fb, f1, f2, f3, fh, c1, c2, c3, c4, rfl, hrd, htp, hr1, hr2, hr3, hhr, hcr, hcr2⟩ := hk
  have hT0 : tys[0]? = some (cB, .byte) := by rw [hT]; rfl
  have hT1 : tys[1]? = some (cI, .int) := by rw [hT]; rfl
  have hT2 : tys[2]? = some (cE, .object RX1) := by rw [hT]; rfl
  have hT3 : tys[3]? = some (cS, .object RX4) := by rw [hT]; rfl
  refine vx_ofW (cc := cX8_set) (maxL := 4) (ret := none) (by decide) rfl ?_
  intro p e s m args below meth c s₁ B hml htb hv
  obtain ⟨hargs, ⟨hsz, hP, hK, hD0, hZ⟩, hU⟩ := hv
  have hx := B.exec
  have hb := B.bytes
  have hr := B.returns
  have hts := atoms_spec (ws := wsX8_set) B.pre
  have hown : s.vm.findClass RX8 = some m.cls := findClass_of_methodNamed B.named
  have hlocks := B.notSynchronized
  subst hsz
  have hD := hD0.self (sz := s.heap.size)
  obtain ⟨A, hAe⟩ : ∃ A : Nat → Prop, A = va_A ((kX cB cI cE cS z T.length g fb Ls.length f1 Lm.length f2 Lr.length f3 Sn.length fh tm0 dn Cw.length c1 c2 C2.length c3 c4 cho st) ++ pl) s.heap.size := ⟨_, rfl⟩
  rw [← hAe] at hD hU
  have hA : ∀ q : Nat, s.heap.size ≤ q → A q := fun q h => by rw [hAe]; exact Or.inr h
  have inX8 : ∀ w ∈ wsX80, w ∈ wsX8_set := by decide +kernel
  have k_19 := hts (.fieldLink RX8 19 "MirrorKeep" "source" "LMirrorKeep$Tree;") (by decide +kernel)
  have k_50 := hts (.fieldLink RX8 50 "MirrorKeep" "chosen" "I") (by decide +kernel)
  have k_54 := hts (.fieldLink RX8 54 "MirrorKeep" "state" "I") (by decide +kernel)
  have hR : rR G A s.heap s.heap [] ((kX cB cI cE cS z T.length g fb Ls.length f1 Lm.length f2 Lr.length f3 Sn.length fh tm0 dn Cw.length c1 c2 C2.length c3 c4 cho st) ++ pl) := ⟨hP, hD, va_S.rf⟩
  obtain ⟨Q, hQ⟩ : ∃ Q : State → Prop, Q = vx_MQ below (cQ G A pl (fun o9 X1 nw => o9 = none ∧ st ≠ 1 ∧ ∃ i, cho = nI i ∧ i < Ls.length ∧ (0 ≤ md.toInt ∧ md.toInt < 4096 ∧ 0 ≤ tm.toInt) ∧ kRep cB cI cE cS z X1 (pl ++ nw) T rd (Ls.set i ((Ls.getD i e0).1, (Ls.getD i e0).2.1, md, tm, ct (Ls.getD i e0))) Lm Lr Sn Cw C2 tm0 dn cho st)) (xX G A pl (fun E X1 nw => (E = ISE ∧ (st = 1 ∨ ¬ (0 ≤ cho.toInt ∧ cho.toInt < Ls.length)) ∧ kRep cB cI cE cS z X1 (pl ++ nw) T rd Ls Lm Lr Sn Cw C2 tm0 dn cho st) ∨ (E = IAE ∧ st ≠ 1 ∧ (0 ≤ cho.toInt ∧ cho.toInt < Ls.length) ∧ ¬ (0 ≤ md.toInt ∧ md.toInt < 4096 ∧ 0 ≤ tm.toInt) ∧ kRep cB cI cE cS z X1 (pl ++ nw) T rd Ls Lm Lr Sn Cw C2 tm0 dn cho st))) args s 1 6 A := ⟨_, rfl⟩
  change W p l e ({ frames := 6, cells := 1, slots := 6, locals := 82 } : Room) s m args below meth c s.heap [] 0 0 (vx_MQ below (cQ G (va_A ((kX cB cI cE cS z T.length g fb Ls.length f1 Lm.length f2 Lr.length f3 Sn.length fh tm0 dn Cw.length c1 c2 C2.length c3 c4 cho st) ++ pl) s.heap.size) pl (fun o9 X1 nw => o9 = none ∧ st ≠ 1 ∧ ∃ i, cho = nI i ∧ i < Ls.length ∧ (0 ≤ md.toInt ∧ md.toInt < 4096 ∧ 0 ≤ tm.toInt) ∧ kRep cB cI cE cS z X1 (pl ++ nw) T rd (Ls.set i ((Ls.getD i e0).1, (Ls.getD i e0).2.1, md, tm, ct (Ls.getD i e0))) Lm Lr Sn Cw C2 tm0 dn cho st)) (xX G (va_A ((kX cB cI cE cS z T.length g fb Ls.length f1 Lm.length f2 Lr.length f3 Sn.length fh tm0 dn Cw.length c1 c2 C2.length c3 c4 cho st) ++ pl) s.heap.size) pl (fun E X1 nw => (E = ISE ∧ (st = 1 ∨ ¬ (0 ≤ cho.toInt ∧ cho.toInt < Ls.length)) ∧ kRep cB cI cE cS z X1 (pl ++ nw) T rd Ls Lm Lr Sn Cw C2 tm0 dn cho st) ∨ (E = IAE ∧ st ≠ 1 ∧ (0 ≤ cho.toInt ∧ cho.toInt < Ls.length) ∧ ¬ (0 ≤ md.toInt ∧ md.toInt < 4096 ∧ 0 ≤ tm.toInt) ∧ kRep cB cI cE cS z X1 (pl ++ nw) T rd Ls Lm Lr Sn Cw C2 tm0 dn cho st))) args s 1 6 (va_A ((kX cB cI cE cS z T.length g fb Ls.length f1 Lm.length f2 Lr.length f3 Sn.length fh tm0 dn Cw.length c1 c2 C2.length c3 c4 cho st) ++ pl) s.heap.size)) (entryFrame m args 4)
  rw [← hAe]
  rw [← hQ]
  refine nn_entry hargs (Nat.le_of_ble_eq_true rfl) (lv := [(0, .ref (z 0)), (1, .int md), (2, .int tm)]) rfl (fun ls hl => ?_)
  have hk1 := hr1.1
  have hk2 := hr1.2.2.2
  refine lv_aload_n hx hb dX8_set_0 rfl (lv_at hl 0 rfl) ?_
  refine xg (ci := 7) (C := RX8) (T := TX8) (N := 9) (v := .ref (z 4)) hx hb hts inX8 hown hK hR.1 (List.mem_of_getElem? (i := 0) rfl) rfl 1 (by decide) k_19 (fun _ h => h) rfl dX8_set_1 ?_
  refine lv_aload_n hx hb dX8_set_4 rfl (lv_at hl 0 rfl) ?_
  refine xg (ci := 7) (C := RX8) (T := TX8) (N := 9) (v := .int cho) hx hb hts inX8 hown hK hR.1 (List.mem_of_getElem? (i := 0) rfl) rfl 7 (by decide) k_50 (fun _ h => h) rfl dX8_set_5 ?_
  refine pf_callV (C := RX6) (As := [.int cho]) (rest := []) (p_tget l hT (⟨(List.mem_of_getElem? (i := 4) rfl), (List.mem_of_getElem? (i := 5) rfl), (hr1.mono xpm)⟩ : tRep ((kX cB cI cE cS z T.length g fb Ls.length f1 Lm.length f2 Lr.length f3 Sn.length fh tm0 dn Cw.length c1 c2 C2.length c3 c4 cho st) ++ pl) cB cE (z 4) (z 5) f1 Ls) cho) ⟨hx, hb, hml, hown, hts⟩ (cwV 1 hts gX8_set_X6_get rfl rfl rfl (by decide +kernel) ⟨Nat.le_of_ble_eq_true rfl, Nat.le_of_ble_eq_true rfl⟩) hK hR.1 (xrecv (ci := 5) hK hR.1 rfl (List.mem_of_getElem? (i := 4) rfl)) rfl hl.1 rfl (Nat.le_of_ble_eq_true rfl) dX8_set_8 ⟨Nat.le_of_ble_eq_true rfl, Nat.le_of_ble_eq_true rfl⟩ (fun r_1 hr_1 => ?_)
  rcases hr_1 with ⟨hr_1, rfl⟩ | ⟨k_2, a_3, hk_2, jk_2, rfl, ha_3, -⟩
  · refine lv_astore_nN (lv' := [(3, .null), (0, .ref (z 0)), (1, .int md), (2, .int tm)]) hx hb dX8_set_11 rfl hl (by decide) rfl (fun ls hl => ?_)
    refine lv_aload_n hx hb dX8_set_12 rfl (lv_at hl 1 rfl) ?_
    refine xg (ci := 7) (C := RX8) (T := TX8) (N := 9) (v := .int (nI st)) hx hb hts inX8 hown hK hR.1 (List.mem_of_getElem? (i := 0) rfl) rfl 8 (by decide) k_54 (fun _ h => h) rfl dX8_set_13 ?_
    refine lv_iconst (v := nI 1) hx hb dX8_set_16 rfl ?_
    refine nn_eq hx hb dX8_set_17 (tgt := 24) (by decide) (by omega) (by omega) (fun c_5 => ?_) (fun c_5 => ?_)
    · rw [hQ]
      refine xc_throw (X := (kX cB cI cE cS z T.length g fb Ls.length f1 Lm.length f2 Lr.length f3 Sn.length fh tm0 dn Cw.length c1 c2 C2.length c3 c4 cho st)) (nw := []) ISE 65 69 172 "a session is under way, or nothing is chosen" xfit_ise xg_ise xn_ise hx hb hlt hown hts hZ (by decide +kernel) (by decide +kernel) (by decide +kernel) (by decide +kernel) hU ?_ ?_ (hl.1.trans hml.symm) dX8_set_24 dX8_set_27 dX8_set_28 dX8_set_30 dX8_set_33 htb (Nat.le_of_ble_eq_true rfl) (Nat.le_of_ble_eq_true rfl) (Nat.le_of_ble_eq_true rfl) (Nat.le_of_ble_eq_true rfl) hlocks (Nat.le_of_ble_eq_true rfl) (Nat.le_of_ble_eq_true rfl)
      · rw [List.append_nil]; exact hR
      · try rw [List.append_nil]
        exact (Or.inl ⟨rfl, Or.inr hr_1, ⟨_, _, _, _, _, _, _, _, _, _, rfl, hrd, htp, hr1, hr2, hr3, hhr, hcr, hcr2⟩⟩)
    · refine lv_aload_nN hx hb dX8_set_20 rfl (lv_at hl 0 rfl) ?_
      refine lv_ifnonnullN hx hb dX8_set_21 ?_
      rw [hQ]
      refine xc_throw (X := (kX cB cI cE cS z T.length g fb Ls.length f1 Lm.length f2 Lr.length f3 Sn.length fh tm0 dn Cw.length c1 c2 C2.length c3 c4 cho st)) (nw := []) ISE 65 69 172 "a session is under way, or nothing is chosen" xfit_ise xg_ise xn_ise hx hb hlt hown hts hZ (by decide +kernel) (by decide +kernel) (by decide +kernel) (by decide +kernel) hU ?_ ?_ (hl.1.trans hml.symm) dX8_set_24 dX8_set_27 dX8_set_28 dX8_set_30 dX8_set_33 htb (Nat.le_of_ble_eq_true rfl) (Nat.le_of_ble_eq_true rfl) (Nat.le_of_ble_eq_true rfl) (Nat.le_of_ble_eq_true rfl) hlocks (Nat.le_of_ble_eq_true rfl) (Nat.le_of_ble_eq_true rfl)
      · rw [List.append_nil]; exact hR
      · try rw [List.append_nil]
        exact (Or.inl ⟨rfl, Or.inr hr_1, ⟨_, _, _, _, _, _, _, _, _, _, rfl, hrd, htp, hr1, hr2, hr3, hhr, hcr, hcr2⟩⟩)
  · have ga_3 := pe_row hr1 (h := ha_3) jk_2
    obtain ⟨pae_6, cae_6, hme_6, hpae_6, hcae_6⟩ := id ga_3
    refine lv_astore_n (lv' := [(3, .ref a_3), (0, .ref (z 0)), (1, .int md), (2, .int tm)]) hx hb dX8_set_11 rfl hl (by decide) rfl (fun ls hl => ?_)
    refine lv_aload_n hx hb dX8_set_12 rfl (lv_at hl 1 rfl) ?_
    refine xg (ci := 7) (C := RX8) (T := TX8) (N := 9) (v := .int (nI st)) hx hb hts inX8 hown hK hR.1 (List.mem_of_getElem? (i := 0) rfl) rfl 8 (by decide) k_54 (fun _ h => h) rfl dX8_set_13 ?_
    refine lv_iconst (v := nI 1) hx hb dX8_set_16 rfl ?_
    refine nn_eq hx hb dX8_set_17 (tgt := 24) (by decide) (by omega) (by omega) (fun c_7 => ?_) (fun c_7 => ?_)
    · rw [hQ]
      refine xc_throw (X := (kX cB cI cE cS z T.length g fb Ls.length f1 Lm.length f2 Lr.length f3 Sn.length fh tm0 dn Cw.length c1 c2 C2.length c3 c4 cho st)) (nw := []) ISE 65 69 172 "a session is under way, or nothing is chosen" xfit_ise xg_ise xn_ise hx hb hlt hown hts hZ (by decide +kernel) (by decide +kernel) (by decide +kernel) (by decide +kernel) hU ?_ ?_ (hl.1.trans hml.symm) dX8_set_24 dX8_set_27 dX8_set_28 dX8_set_30 dX8_set_33 htb (Nat.le_of_ble_eq_true rfl) (Nat.le_of_ble_eq_true rfl) (Nat.le_of_ble_eq_true rfl) (Nat.le_of_ble_eq_true rfl) hlocks (Nat.le_of_ble_eq_true rfl) (Nat.le_of_ble_eq_true rfl)
      · rw [List.append_nil]; exact hR
      · try rw [List.append_nil]
        exact (Or.inl ⟨rfl, Or.inl (by omega), ⟨_, _, _, _, _, _, _, _, _, _, rfl, hrd, htp, hr1, hr2, hr3, hhr, hcr, hcr2⟩⟩)
    · refine lv_aload_n hx hb dX8_set_20 rfl (lv_at hl 0 rfl) ?_
      refine lv_ifnonnull hx hb dX8_set_21 (tgt := 34) (by decide) ?_
      refine lv_iload_n hx hb dX8_set_34 rfl (lv_at hl 2 rfl) ?_
      refine pf_callS (As := [.int md]) (rest := []) (p_isMode l hT (w := ((kX cB cI cE cS z T.length g fb Ls.length f1 Lm.length f2 Lr.length f3 Sn.length fh tm0 dn Cw.length c1 c2 C2.length c3 c4 cho st) ++ pl)) md) ⟨hx, hb, hml, hown, hts⟩ (va_cwS 1 hts gX8_set_X8_isMode rfl rfl rfl (by decide +kernel) ⟨Nat.le_of_ble_eq_true rfl, Nat.le_of_ble_eq_true rfl⟩) hK hR.1 rfl hl.1 rfl (Nat.le_of_ble_eq_true rfl) dX8_set_35 ⟨Nat.le_of_ble_eq_true rfl, Nat.le_of_ble_eq_true rfl⟩ (fun r_8 hr_8 => ?_)
      subst hr_8
      refine nb_ifeq hx hb dX8_set_38 (tgt := 48) (by decide) (fun c_9 => ?_) (fun c_9 => ?_)
      · have c_9 := of_decide_eq_false c_9
        rw [hQ]
        refine xc_throw (X := (kX cB cI cE cS z T.length g fb Ls.length f1 Lm.length f2 Lr.length f3 Sn.length fh tm0 dn Cw.length c1 c2 C2.length c3 c4 cho st)) (nw := []) IAE 92 96 174 "no such mode or time" xfit_iae xg_iae xn_iae hx hb hlt hown hts hZ (by decide +kernel) (by decide +kernel) (by decide +kernel) (by decide +kernel) hU ?_ ?_ (hl.1.trans hml.symm) dX8_set_48 dX8_set_51 dX8_set_52 dX8_set_54 dX8_set_57 htb (Nat.le_of_ble_eq_true rfl) (Nat.le_of_ble_eq_true rfl) (Nat.le_of_ble_eq_true rfl) (Nat.le_of_ble_eq_true rfl) hlocks (Nat.le_of_ble_eq_true rfl) (Nat.le_of_ble_eq_true rfl)
        · rw [List.append_nil]; exact hR
        · try rw [List.append_nil]
          exact (Or.inr ⟨rfl, by omega, ix_io hk_2 jk_2 (by omega), by omega, ⟨_, _, _, _, _, _, _, _, _, _, rfl, hrd, htp, hr1, hr2, hr3, hhr, hcr, hcr2⟩⟩)
      · have c_9 := of_decide_eq_true c_9
        refine lv_iload_n hx hb dX8_set_41 rfl (lv_at hl 3 rfl) ?_
        refine pf_callS (As := [.int tm]) (rest := []) (p_isTime l hT (w := ((kX cB cI cE cS z T.length g fb Ls.length f1 Lm.length f2 Lr.length f3 Sn.length fh tm0 dn Cw.length c1 c2 C2.length c3 c4 cho st) ++ pl)) tm) ⟨hx, hb, hml, hown, hts⟩ (va_cwS 1 hts gX8_set_X8_isTime rfl rfl rfl (by decide +kernel) ⟨Nat.le_of_ble_eq_true rfl, Nat.le_of_ble_eq_true rfl⟩) hK hR.1 rfl hl.1 rfl (Nat.le_of_ble_eq_true rfl) dX8_set_42 ⟨Nat.le_of_ble_eq_true rfl, Nat.le_of_ble_eq_true rfl⟩ (fun r_10 hr_10 => ?_)
        subst hr_10
        refine nb_ifne hx hb dX8_set_45 (tgt := 58) (by decide) (fun c_11 => ?_) (fun c_11 => ?_)
        · have c_11 := of_decide_eq_true c_11
          refine lv_aload_n hx hb dX8_set_58 rfl (lv_at hl 1 rfl) ?_
          refine xg (ci := 7) (C := RX8) (T := TX8) (N := 9) (v := .ref (z 4)) hx hb hts inX8 hown hK hR.1 (List.mem_of_getElem? (i := 0) rfl) rfl 1 (by decide) k_19 (fun _ h => h) rfl dX8_set_59 ?_
          refine lv_aload_n hx hb dX8_set_62 rfl (lv_at hl 1 rfl) ?_
          refine xg (ci := 7) (C := RX8) (T := TX8) (N := 9) (v := .int cho) hx hb hts inX8 hown hK hR.1 (List.mem_of_getElem? (i := 0) rfl) rfl 7 (by decide) k_50 (fun _ h => h) rfl dX8_set_63 ?_
          refine nn_eqi (y := nI k_2) hk_2 ?_
          refine lv_aload_n hx hb dX8_set_66 rfl (lv_at hl 0 rfl) ?_
          refine lv_iload_n hx hb dX8_set_67 rfl (lv_at hl 2 rfl) ?_
          refine lv_iload_n hx hb dX8_set_68 rfl (lv_at hl 3 rfl) ?_
          refine xc_callV (C := RX1) (As := [.int md, .int tm]) (rest := [.int (nI k_2), .ref (z 4)]) (cx := []) (wr := (kX cB cI cE cS z T.length g fb Ls.length f1 Lm.length f2 Lr.length f3 Sn.length fh tm0 dn Cw.length c1 c2 C2.length c3 c4 cho st)) (c_withMT l hT ga_3 md tm) ⟨hx, hb, hml, hown, hts⟩ (cwV 2 hts gX8_set_X1_withModeAndTime rfl rfl rfl (by decide +kernel) ⟨Nat.le_of_ble_eq_true rfl, Nat.le_of_ble_eq_true rfl⟩) hK hZ hR hA (xrecv (ci := 1) hK hR.1 rfl (List.mem_append_right _ hme_6)) [] [0, 1, 2, 3, 4, 5, 6, 7, 8, 9, 10, 11, 12, 13, 14, 15, 16, 17, 18] rfl rfl (by decide) (by decide) (by decide) rfl hl.1 rfl (Nat.le_of_ble_eq_true rfl) dX8_set_69 ⟨Nat.le_of_ble_eq_true rfl, Nat.le_of_ble_eq_true rfl⟩ (fun r_13 X_r_13 nw_r_13 H locs hr_13 hR => ?_)
          obtain ⟨rfl, q_12, rfl, hq_12⟩ := hr_13
          obtain hR : rR G A s.heap H locs (_ ++ (pl ++ nw_r_13)) := hR
          obtain ⟨pl1, e_pl1, sb_pl_pl1⟩ : ∃ z : va_W, z = pl ++ nw_r_13 ∧ ∀ q, q ∈ pl → q ∈ z := ⟨_, rfl, plm⟩
          rw [← e_pl1] at hR hq_12
          have t_pl1 : pl1 = pl ++ nw_r_13 := e_pl1
          have hR : rR G A s.heap _ _ ((kX cB cI cE cS z T.length g fb Ls.length f1 Lm.length f2 Lr.length f3 Sn.length fh tm0 dn Cw.length c1 c2 C2.length c3 c4 cho st) ++ pl1) := hR
          refine xc_callV (C := RX6) (As := [.int (nI k_2), .ref q_12]) (rest := []) (cx := [(z 4, .inr (5, [.ref (z 5), .int (nI Ls.length)])), (z 5, .inl (cE, 120, rfs f1))]) (wr := (([0, 1, 2, 3, 6, 7, 8, 9, 10, 11, 12, 13, 14, 15, 16, 17, 18] : List Nat).filterMap (fun i => (kX cB cI cE cS z T.length g fb Ls.length f1 Lm.length f2 Lr.length f3 Sn.length fh tm0 dn Cw.length c1 c2 C2.length c3 c4 cho st)[i]?))) (c_replace l hT (hr1.mono sb_pl_pl1) hq_12 k_2 jk_2) ⟨hx, hb, hml, hown, hts⟩ (cwV 2 hts gX8_set_X6_replace rfl rfl rfl (by decide +kernel) ⟨Nat.le_of_ble_eq_true rfl, Nat.le_of_ble_eq_true rfl⟩) hK hZ hR hA (xrecv (ci := 5) hK hR.1 rfl (List.mem_of_getElem? (i := 4) rfl)) [4, 5] [0, 1, 2, 3, 6, 7, 8, 9, 10, 11, 12, 13, 14, 15, 16, 17, 18] rfl rfl (by decide) (by decide) (by decide) rfl hl.1 rfl (Nat.le_of_ble_eq_true rfl) dX8_set_72 ⟨Nat.le_of_ble_eq_true rfl, Nat.le_of_ble_eq_true rfl⟩ (fun r_14 X_r_14 nw_r_14 H locs hr_14 hR => ?_)
          obtain ⟨rfl, rfl, rfl⟩ := hr_14
          have hR : rR G A s.heap _ _ ((kX cB cI cE cS z T.length g fb Ls.length (va_up f1 k_2 (some q_12)) Lm.length f2 Lr.length f3 Sn.length fh tm0 dn Cw.length c1 c2 C2.length c3 c4 cho st) ++ pl1) := xc_perm (xc_nil hR) [0, 1, 2, 3, 17, 18, 4, 5, 6, 7, 8, 9, 10, 11, 12, 13, 14, 15, 16] rfl (by decide)
          rw [hQ]
          refine vx_ret ?_
          refine W.widen (k := 1) (n := 6) (by omega) (by omega) ?_
          refine xc_vret (X1 := (kX cB cI cE cS z T.length g fb Ls.length (va_up f1 k_2 (some q_12)) Lm.length f2 Lr.length f3 Sn.length fh tm0 dn Cw.length c1 c2 C2.length c3 c4 cho st)) (nw := nw_r_13) hx hb hr hlocks ?_ ?_ dX8_set_75
          · rw [← t_pl1]; exact hR
          · try rw [← t_pl1]
            exact ⟨rfl, by omega, k_2, hk_2, jk_2, by omega, ⟨_, _, _, _, _, _, _, _, _, _, (by rw [List.length_set] <;> rfl), hrd, htp, (rp_rows (hr1.mono sb_pl_pl1) jk_2 hq_12 rfl (by show csum Ls + (ct (Ls.getD k_2 e0)).length ≤ 8000 + (ct (Ls.getD k_2 e0)).length; omega)), (hr2.mono sb_pl_pl1), (hr3.mono sb_pl_pl1), (hhr.mono sb_pl_pl1), (hcr.mono sb_pl_pl1), (hcr2.mono sb_pl_pl1)⟩⟩
        · have c_11 := of_decide_eq_false c_11
          rw [hQ]
          refine xc_throw (X := (kX cB cI cE cS z T.length g fb Ls.length f1 Lm.length f2 Lr.length f3 Sn.length fh tm0 dn Cw.length c1 c2 C2.length c3 c4 cho st)) (nw := []) IAE 92 96 174 "no such mode or time" xfit_iae xg_iae xn_iae hx hb hlt hown hts hZ (by decide +kernel) (by decide +kernel) (by decide +kernel) (by decide +kernel) hU ?_ ?_ (hl.1.trans hml.symm) dX8_set_48 dX8_set_51 dX8_set_52 dX8_set_54 dX8_set_57 htb (Nat.le_of_ble_eq_true rfl) (Nat.le_of_ble_eq_true rfl) (Nat.le_of_ble_eq_true rfl) (Nat.le_of_ble_eq_true rfl) hlocks (Nat.le_of_ble_eq_true rfl) (Nat.le_of_ble_eq_true rfl)
          · rw [List.append_nil]; exact hR
          · try rw [List.append_nil]
            exact (Or.inr ⟨rfl, by omega, ix_io hk_2 jk_2 (by omega), by omega, ⟨_, _, _, _, _, _, _, _, _, _, rfl, hrd, htp, hr1, hr2, hr3, hhr, hcr, hcr2⟩⟩)
set_option maxHeartbeats 4000000 in
set_option maxRecDepth 100000 in
theorem K_cut (l : Launch) {G : va_G} {tys : List (ClassId × FieldType)} {cB cI cE cS : ClassId} (hT : tys = [(cB, .byte), (cI, .int), (cE, .object RX1), (cS, .object RX4)]) {pl : va_W} {sz : Nat} (hlt : l.stackTraces = false) {z : Nat → Nat} {X : va_W} {T rd : List Nat} {Ls Lm Lr : List En} {Sn : List Se} {Cw C2 : List Cg} {tm0 : Int32} {dn : Nat} {cho : Int32} {st : Nat} (hk : kRep cB cI cE cS z X pl T rd Ls Lm Lr Sn Cw C2 tm0 dn cho st) (ln : Int32) (hst9 : st ≤ 2) (hc15 : ∀ i, i < Ls.length → (ct (Ls.getD i e0)).length ≤ 1500) : xMet l yX8_cut wsX8_cut ({ frames := 6, cells := 2, slots := 1505, locals := 82 } : Room) G tys [.ref (z 0), .int ln] X pl sz 2 1505 (fun o9 X1 nw => o9 = none ∧ st ≠ 1 ∧ ∃ i, cho = nI i ∧ i < Ls.length ∧ ¬ (Ls.getD i e0).2.1.toInt = 2 ∧ (0 ≤ ln.toInt ∧ ln.toInt ≤ (ct (Ls.getD i e0)).length) ∧ kRep cB cI cE cS z X1 (pl ++ nw) T rd (Ls.set i ((Ls.getD i e0).1, (Ls.getD i e0).2.1, (Ls.getD i e0).2.2.1, (Ls.getD i e0).2.2.2.1, (ct (Ls.getD i e0)).take ln.toInt.toNat)) Lm Lr Sn Cw C2 tm0 dn cho st) (fun E X1 nw => (E = ISE ∧ (st = 1 ∨ ¬ (0 ≤ cho.toInt ∧ cho.toInt < Ls.length) ∨ ∃ i, cho = nI i ∧ i < Ls.length ∧ (Ls.getD i e0).2.1.toInt = 2) ∧ kRep cB cI cE cS z X1 (pl ++ nw) T rd Ls Lm Lr Sn Cw C2 tm0 dn cho st) ∨ (E = IAE ∧ st ≠ 1 ∧ ∃ i, cho = nI i ∧ i < Ls.length ∧ ¬ (Ls.getD i e0).2.1.toInt = 2 ∧ (ln.toInt < 0 ∨ ((ct (Ls.getD i e0)).length : Int) < ln.toInt) ∧ kRep cB cI cE cS z X1 (pl ++ nw) T rd Ls Lm Lr Sn Cw C2 tm0 dn cho st)) := by
  obtain ⟨g, fb, f1, f2, f3, fh, c1, c2, c3, c4, rfl, hrd, htp, hr1, hr2, hr3, hhr, hcr, hcr2⟩ := hk
  have hT0 : tys[0]? = some (cB, .byte) := by rw [hT]; rfl
  have hT1 : tys[1]? = some (cI, .int) := by rw [hT]; rfl
  have hT2 : tys[2]? = some (cE, .object RX1) := by rw [hT]; rfl
  have hT3 : tys[3]? = some (cS, .object RX4) := by rw [hT]; rfl
  refine vx_ofW (cc := cX8_cut) (maxL := 3) (ret := none) (by decide) rfl ?_
  intro p e s m args below meth c s₁ B hml htb hv
  obtain ⟨hargs, ⟨hsz, hP, hK, hD0, hZ⟩, hU⟩ := hv
  have hx := B.exec
  have hb := B.bytes
  have hr := B.returns
  have hts := atoms_spec (ws := wsX8_cut) B.pre
  have hown : s.vm.findClass RX8 = some m.cls := findClass_of_methodNamed B.named
  have hlocks := B.notSynchronized
  subst hsz
  have hD := hD0.self (sz := s.heap.size)
  obtain ⟨A, hAe⟩ : ∃ A : Nat → Prop, A = va_A ((kX cB cI cE cS z T.length g fb Ls.length f1 Lm.length f2 Lr.length f3 Sn.length fh tm0 dn Cw.length c1 c2 C2.length c3 c4 cho st) ++ pl) s.heap.size := ⟨_, rfl⟩
  rw [← hAe] at hD hU
  have hA : ∀ q : Nat, s.heap.size ≤ q → A q := fun q h => by rw [hAe]; exact Or.inr h
  have inX1 : ∀ w ∈ wsX10, w ∈ wsX8_cut := by decide +kernel
  have inX8 : ∀ w ∈ wsX80, w ∈ wsX8_cut := by decide +kernel
  have k_19 := hts (.fieldLink RX8 19 "MirrorKeep" "source" "LMirrorKeep$Tree;") (by decide +kernel)
  have k_50 := hts (.fieldLink RX8 50 "MirrorKeep" "chosen" "I") (by decide +kernel)
  have k_54 := hts (.fieldLink RX8 54 "MirrorKeep" "state" "I") (by decide +kernel)
  have k_123 := hts (.fieldLink RX8 123 "MirrorKeep$Entry" "kind" "I") (by decide +kernel)
  have k_128 := hts (.fieldLink RX8 128 "MirrorKeep$Entry" "content" "[B") (by decide +kernel)
  have hR : rR G A s.heap s.heap [] ((kX cB cI cE cS z T.length g fb Ls.length f1 Lm.length f2 Lr.length f3 Sn.length fh tm0 dn Cw.length c1 c2 C2.length c3 c4 cho st) ++ pl) := ⟨hP, hD, va_S.rf⟩
  obtain ⟨Q, hQ⟩ : ∃ Q : State → Prop, Q = vx_MQ below (cQ G A pl (fun o9 X1 nw => o9 = none ∧ st ≠ 1 ∧ ∃ i, cho = nI i ∧ i < Ls.length ∧ ¬ (Ls.getD i e0).2.1.toInt = 2 ∧ (0 ≤ ln.toInt ∧ ln.toInt ≤ (ct (Ls.getD i e0)).length) ∧ kRep cB cI cE cS z X1 (pl ++ nw) T rd (Ls.set i ((Ls.getD i e0).1, (Ls.getD i e0).2.1, (Ls.getD i e0).2.2.1, (Ls.getD i e0).2.2.2.1, (ct (Ls.getD i e0)).take ln.toInt.toNat)) Lm Lr Sn Cw C2 tm0 dn cho st)) (xX G A pl (fun E X1 nw => (E = ISE ∧ (st = 1 ∨ ¬ (0 ≤ cho.toInt ∧ cho.toInt < Ls.length) ∨ ∃ i, cho = nI i ∧ i < Ls.length ∧ (Ls.getD i e0).2.1.toInt = 2) ∧ kRep cB cI cE cS z X1 (pl ++ nw) T rd Ls Lm Lr Sn Cw C2 tm0 dn cho st) ∨ (E = IAE ∧ st ≠ 1 ∧ ∃ i, cho = nI i ∧ i < Ls.length ∧ ¬ (Ls.getD i e0).2.1.toInt = 2 ∧ (ln.toInt < 0 ∨ ((ct (Ls.getD i e0)).length : Int) < ln.toInt) ∧ kRep cB cI cE cS z X1 (pl ++ nw) T rd Ls Lm Lr Sn Cw C2 tm0 dn cho st))) args s 2 1505 A := ⟨_, rfl⟩
  change W p l e ({ frames := 6, cells := 2, slots := 1505, locals := 82 } : Room) s m args below meth c s.heap [] 0 0 (vx_MQ below (cQ G (va_A ((kX cB cI cE cS z T.length g fb Ls.length f1 Lm.length f2 Lr.length f3 Sn.length fh tm0 dn Cw.length c1 c2 C2.length c3 c4 cho st) ++ pl) s.heap.size) pl (fun o9 X1 nw => o9 = none ∧ st ≠ 1 ∧ ∃ i, cho = nI i ∧ i < Ls.length ∧ ¬ (Ls.getD i e0).2.1.toInt = 2 ∧ (0 ≤ ln.toInt ∧ ln.toInt ≤ (ct (Ls.getD i e0)).length) ∧ kRep cB cI cE cS z X1 (pl ++ nw) T rd (Ls.set i ((Ls.getD i e0).1, (Ls.getD i e0).2.1, (Ls.getD i e0).2.2.1, (Ls.getD i e0).2.2.2.1, (ct (Ls.getD i e0)).take ln.toInt.toNat)) Lm Lr Sn Cw C2 tm0 dn cho st)) (xX G (va_A ((kX cB cI cE cS z T.length g fb Ls.length f1 Lm.length f2 Lr.length f3 Sn.length fh tm0 dn Cw.length c1 c2 C2.length c3 c4 cho st) ++ pl) s.heap.size) pl (fun E X1 nw => (E = ISE ∧ (st = 1 ∨ ¬ (0 ≤ cho.toInt ∧ cho.toInt < Ls.length) ∨ ∃ i, cho = nI i ∧ i < Ls.length ∧ (Ls.getD i e0).2.1.toInt = 2) ∧ kRep cB cI cE cS z X1 (pl ++ nw) T rd Ls Lm Lr Sn Cw C2 tm0 dn cho st) ∨ (E = IAE ∧ st ≠ 1 ∧ ∃ i, cho = nI i ∧ i < Ls.length ∧ ¬ (Ls.getD i e0).2.1.toInt = 2 ∧ (ln.toInt < 0 ∨ ((ct (Ls.getD i e0)).length : Int) < ln.toInt) ∧ kRep cB cI cE cS z X1 (pl ++ nw) T rd Ls Lm Lr Sn Cw C2 tm0 dn cho st))) args s 2 1505 (va_A ((kX cB cI cE cS z T.length g fb Ls.length f1 Lm.length f2 Lr.length f3 Sn.length fh tm0 dn Cw.length c1 c2 C2.length c3 c4 cho st) ++ pl) s.heap.size)) (entryFrame m args 3)
  rw [← hAe]
  rw [← hQ]
  refine nn_entry hargs (Nat.le_of_ble_eq_true rfl) (lv := [(0, .ref (z 0)), (1, .int ln)]) rfl (fun ls hl => ?_)
  have hk1 := hr1.1
  have hk2 := hr1.2.2.2
  refine lv_aload_n hx hb dX8_cut_0 rfl (lv_at hl 0 rfl) ?_
  refine xg (ci := 7) (C := RX8) (T := TX8) (N := 9) (v := .ref (z 4)) hx hb hts inX8 hown hK hR.1 (List.mem_of_getElem? (i := 0) rfl) rfl 1 (by decide) k_19 (fun _ h => h) rfl dX8_cut_1 ?_
  refine lv_aload_n hx hb dX8_cut_4 rfl (lv_at hl 0 rfl) ?_
  refine xg (ci := 7) (C := RX8) (T := TX8) (N := 9) (v := .int cho) hx hb hts inX8 hown hK hR.1 (List.mem_of_getElem? (i := 0) rfl) rfl 7 (by decide) k_50 (fun _ h => h) rfl dX8_cut_5 ?_
  refine pf_callV (C := RX6) (As := [.int cho]) (rest := []) (p_tget l hT (⟨(List.mem_of_getElem? (i := 4) rfl), (List.mem_of_getElem? (i := 5) rfl), (hr1.mono xpm)⟩ : tRep ((kX cB cI cE cS z T.length g fb Ls.length f1 Lm.length f2 Lr.length f3 Sn.length fh tm0 dn Cw.length c1 c2 C2.length c3 c4 cho st) ++ pl) cB cE (z 4) (z 5) f1 Ls) cho) ⟨hx, hb, hml, hown, hts⟩ (cwV 1 hts gX8_cut_X6_get rfl rfl rfl (by decide +kernel) ⟨Nat.le_of_ble_eq_true rfl, Nat.le_of_ble_eq_true rfl⟩) hK hR.1 (xrecv (ci := 5) hK hR.1 rfl (List.mem_of_getElem? (i := 4) rfl)) rfl hl.1 rfl (Nat.le_of_ble_eq_true rfl) dX8_cut_8 ⟨Nat.le_of_ble_eq_true rfl, Nat.le_of_ble_eq_true rfl⟩ (fun r_1 hr_1 => ?_)
  rcases hr_1 with ⟨hr_1, rfl⟩ | ⟨k_2, a_3, hk_2, jk_2, rfl, ha_3, -⟩
  · refine lv_astore_nN (lv' := [(2, .null), (0, .ref (z 0)), (1, .int ln)]) hx hb dX8_cut_11 rfl hl (by decide) rfl (fun ls hl => ?_)
    refine lv_aload_n hx hb dX8_cut_12 rfl (lv_at hl 1 rfl) ?_
    refine xg (ci := 7) (C := RX8) (T := TX8) (N := 9) (v := .int (nI st)) hx hb hts inX8 hown hK hR.1 (List.mem_of_getElem? (i := 0) rfl) rfl 8 (by decide) k_54 (fun _ h => h) rfl dX8_cut_13 ?_
    refine lv_iconst (v := nI 1) hx hb dX8_cut_16 rfl ?_
    refine nn_eq hx hb dX8_cut_17 (tgt := 32) (by decide) (by omega) (by omega) (fun c_5 => ?_) (fun c_5 => ?_)
    · rw [hQ]
      refine xc_throw (X := (kX cB cI cE cS z T.length g fb Ls.length f1 Lm.length f2 Lr.length f3 Sn.length fh tm0 dn Cw.length c1 c2 C2.length c3 c4 cho st)) (nw := []) ISE 65 69 162 "a session is under way, or nothing with content is chosen" xfit_ise xg_ise xn_ise hx hb hlt hown hts hZ (by decide +kernel) (by decide +kernel) (by decide +kernel) (by decide +kernel) hU ?_ ?_ (hl.1.trans hml.symm) dX8_cut_32 dX8_cut_35 dX8_cut_36 dX8_cut_38 dX8_cut_41 htb (Nat.le_of_ble_eq_true rfl) (Nat.le_of_ble_eq_true rfl) (Nat.le_of_ble_eq_true rfl) (Nat.le_of_ble_eq_true rfl) hlocks (Nat.le_of_ble_eq_true rfl) (Nat.le_of_ble_eq_true rfl)
      · rw [List.append_nil]; exact hR
      · try rw [List.append_nil]
        exact (Or.inl ⟨rfl, Or.inr (Or.inl hr_1), ⟨_, _, _, _, _, _, _, _, _, _, rfl, hrd, htp, hr1, hr2, hr3, hhr, hcr, hcr2⟩⟩)
    · refine lv_aload_nN hx hb dX8_cut_20 rfl (lv_at hl 0 rfl) ?_
      refine lv_ifnullN hx hb dX8_cut_21 (tgt := 32) (by decide) ?_
      rw [hQ]
      refine xc_throw (X := (kX cB cI cE cS z T.length g fb Ls.length f1 Lm.length f2 Lr.length f3 Sn.length fh tm0 dn Cw.length c1 c2 C2.length c3 c4 cho st)) (nw := []) ISE 65 69 162 "a session is under way, or nothing with content is chosen" xfit_ise xg_ise xn_ise hx hb hlt hown hts hZ (by decide +kernel) (by decide +kernel) (by decide +kernel) (by decide +kernel) hU ?_ ?_ (hl.1.trans hml.symm) dX8_cut_32 dX8_cut_35 dX8_cut_36 dX8_cut_38 dX8_cut_41 htb (Nat.le_of_ble_eq_true rfl) (Nat.le_of_ble_eq_true rfl) (Nat.le_of_ble_eq_true rfl) (Nat.le_of_ble_eq_true rfl) hlocks (Nat.le_of_ble_eq_true rfl) (Nat.le_of_ble_eq_true rfl)
      · rw [List.append_nil]; exact hR
      · try rw [List.append_nil]
        exact (Or.inl ⟨rfl, Or.inr (Or.inl hr_1), ⟨_, _, _, _, _, _, _, _, _, _, rfl, hrd, htp, hr1, hr2, hr3, hhr, hcr, hcr2⟩⟩)
  · have ga_3 := pe_row hr1 (h := ha_3) jk_2
    obtain ⟨pae_6, cae_6, hme_6, hpae_6, hcae_6⟩ := id ga_3
    refine lv_astore_n (lv' := [(2, .ref a_3), (0, .ref (z 0)), (1, .int ln)]) hx hb dX8_cut_11 rfl hl (by decide) rfl (fun ls hl => ?_)
    have hc9 := hc15 k_2 jk_2
    have hc8 := ct_le jk_2
    refine lv_aload_n hx hb dX8_cut_12 rfl (lv_at hl 1 rfl) ?_
    refine xg (ci := 7) (C := RX8) (T := TX8) (N := 9) (v := .int (nI st)) hx hb hts inX8 hown hK hR.1 (List.mem_of_getElem? (i := 0) rfl) rfl 8 (by decide) k_54 (fun _ h => h) rfl dX8_cut_13 ?_
    refine lv_iconst (v := nI 1) hx hb dX8_cut_16 rfl ?_
    refine nn_eq hx hb dX8_cut_17 (tgt := 32) (by decide) (by omega) (by omega) (fun c_7 => ?_) (fun c_7 => ?_)
    · rw [hQ]
      refine xc_throw (X := (kX cB cI cE cS z T.length g fb Ls.length f1 Lm.length f2 Lr.length f3 Sn.length fh tm0 dn Cw.length c1 c2 C2.length c3 c4 cho st)) (nw := []) ISE 65 69 162 "a session is under way, or nothing with content is chosen" xfit_ise xg_ise xn_ise hx hb hlt hown hts hZ (by decide +kernel) (by decide +kernel) (by decide +kernel) (by decide +kernel) hU ?_ ?_ (hl.1.trans hml.symm) dX8_cut_32 dX8_cut_35 dX8_cut_36 dX8_cut_38 dX8_cut_41 htb (Nat.le_of_ble_eq_true rfl) (Nat.le_of_ble_eq_true rfl) (Nat.le_of_ble_eq_true rfl) (Nat.le_of_ble_eq_true rfl) hlocks (Nat.le_of_ble_eq_true rfl) (Nat.le_of_ble_eq_true rfl)
      · rw [List.append_nil]; exact hR
      · try rw [List.append_nil]
        exact (Or.inl ⟨rfl, Or.inl (by omega), ⟨_, _, _, _, _, _, _, _, _, _, rfl, hrd, htp, hr1, hr2, hr3, hhr, hcr, hcr2⟩⟩)
    · refine lv_aload_n hx hb dX8_cut_20 rfl (lv_at hl 0 rfl) ?_
      refine lv_ifnull hx hb dX8_cut_21 ?_
      refine lv_aload_n hx hb dX8_cut_24 rfl (lv_at hl 0 rfl) ?_
      refine xg (ci := 1) (C := RX1) (T := TX1) (N := 5) (v := .int ((Ls.getD k_2 e0).2.1)) hx hb hts inX1 hown hK hR.1 (List.mem_append_right _ hme_6) rfl 1 (by decide) k_123 (fun _ h => h) rfl dX8_cut_25 ?_
      refine lv_iconst (v := nI 2) hx hb dX8_cut_28 rfl ?_
      refine zc_ne hx hb rfl (nI_toInt (by omega)) dX8_cut_29 (tgt := 42) (by decide) (fun c_8 => ?_) (fun c_8 => ?_)
      · refine lv_iload_n hx hb dX8_cut_42 rfl (lv_at hl 2 rfl) ?_
        refine zi_lt hx hb rfl dX8_cut_43 (tgt := 55) (by decide) (fun c_9 => ?_) (fun c_9 => ?_)
        · rw [hQ]
          refine xc_throw (X := (kX cB cI cE cS z T.length g fb Ls.length f1 Lm.length f2 Lr.length f3 Sn.length fh tm0 dn Cw.length c1 c2 C2.length c3 c4 cho st)) (nw := []) IAE 92 96 164 "no length within the content" xfit_iae xg_iae xn_iae hx hb hlt hown hts hZ (by decide +kernel) (by decide +kernel) (by decide +kernel) (by decide +kernel) hU ?_ ?_ (hl.1.trans hml.symm) dX8_cut_55 dX8_cut_58 dX8_cut_59 dX8_cut_61 dX8_cut_64 htb (Nat.le_of_ble_eq_true rfl) (Nat.le_of_ble_eq_true rfl) (Nat.le_of_ble_eq_true rfl) (Nat.le_of_ble_eq_true rfl) hlocks (Nat.le_of_ble_eq_true rfl) (Nat.le_of_ble_eq_true rfl)
          · rw [List.append_nil]; exact hR
          · try rw [List.append_nil]
            exact (Or.inr ⟨rfl, by omega, _, hk_2, jk_2, by omega, by omega, ⟨_, _, _, _, _, _, _, _, _, _, rfl, hrd, htp, hr1, hr2, hr3, hhr, hcr, hcr2⟩⟩)
        · refine lv_iload_n hx hb dX8_cut_46 rfl (lv_at hl 2 rfl) ?_
          refine lv_aload_n hx hb dX8_cut_47 rfl (lv_at hl 0 rfl) ?_
          refine xg (ci := 1) (C := RX1) (T := TX1) (N := 5) (v := .ref cae_6) hx hb hts inX1 hown hK hR.1 (List.mem_append_right _ hme_6) rfl 4 (by decide) k_128 (fun _ h => h) rfl dX8_cut_48 ?_
          refine xb_len hx hb hK hT0 hR.1 (hcae_6.mono xpm) dX8_cut_51 ?_
          refine zc_le hx hb rfl (nI_toInt (by omega)) dX8_cut_52 (tgt := 65) (by decide) (fun c_10 => ?_) (fun c_10 => ?_)
          · obtain ⟨n, hn, hn2, hn3⟩ := zn_ex (x := ln) (by omega)
            rw [hn] at hl
            refine lv_aload_n hx hb dX8_cut_65 rfl (lv_at hl 1 rfl) ?_
            refine xg (ci := 7) (C := RX8) (T := TX8) (N := 9) (v := .ref (z 4)) hx hb hts inX8 hown hK hR.1 (List.mem_of_getElem? (i := 0) rfl) rfl 1 (by decide) k_19 (fun _ h => h) rfl dX8_cut_66 ?_
            refine lv_aload_n hx hb dX8_cut_69 rfl (lv_at hl 1 rfl) ?_
            refine xg (ci := 7) (C := RX8) (T := TX8) (N := 9) (v := .int cho) hx hb hts inX8 hown hK hR.1 (List.mem_of_getElem? (i := 0) rfl) rfl 7 (by decide) k_50 (fun _ h => h) rfl dX8_cut_70 ?_
            refine nn_eqi (y := nI k_2) hk_2 ?_
            refine lv_aload_n hx hb dX8_cut_73 rfl (lv_at hl 0 rfl) ?_
            refine lv_aload_n hx hb dX8_cut_74 rfl (lv_at hl 0 rfl) ?_
            refine xg (ci := 1) (C := RX1) (T := TX1) (N := 5) (v := .ref cae_6) hx hb hts inX1 hown hK hR.1 (List.mem_append_right _ hme_6) rfl 4 (by decide) k_128 (fun _ h => h) rfl dX8_cut_75 ?_
            refine lv_iload_n hx hb dX8_cut_78 rfl (lv_at hl 2 rfl) ?_
            refine xc_callS (As := [.ref cae_6, .int (nI n)]) (rest := [.ref a_3, .int (nI k_2), .ref (z 4)]) (cx := []) (wr := (kX cB cI cE cS z T.length g fb Ls.length f1 Lm.length f2 Lr.length f3 Sn.length fh tm0 dn Cw.length c1 c2 C2.length c3 c4 cho st)) (c_copyOf l hT (X := []) hcae_6 (by omega) (by omega)) ⟨hx, hb, hml, hown, hts⟩ (va_cwS 2 hts gX8_cut_J7_copyOf_9075b rfl rfl rfl (by decide +kernel) ⟨Nat.le_of_ble_eq_true rfl, Nat.le_of_ble_eq_true rfl⟩) hK hZ hR hA [] [0, 1, 2, 3, 4, 5, 6, 7, 8, 9, 10, 11, 12, 13, 14, 15, 16, 17, 18] rfl rfl (by decide) (by decide) (by decide) rfl hl.1 rfl (Nat.le_of_ble_eq_true rfl) dX8_cut_79 ⟨Nat.le_of_ble_eq_true rfl, Nat.le_of_ble_eq_true rfl⟩ (fun r_11 X_r_11 nw_r_11 H locs hr_11 hR => ?_)
            obtain ⟨rfl, q9, gq9, rfl, -, -, hq9⟩ := hr_11
            rw [cpyL_tk9 (by omega)] at hq9
            obtain hR : rR G A s.heap H locs (_ ++ (pl ++ nw_r_11)) := hR
            obtain ⟨pl1, e_pl1, sb_pl_pl1⟩ : ∃ z : va_W, z = pl ++ nw_r_11 ∧ ∀ q, q ∈ pl → q ∈ z := ⟨_, rfl, plm⟩
            rw [← e_pl1] at hR hq9
            have t_pl1 : pl1 = pl ++ nw_r_11 := e_pl1
            have hR : rR G A s.heap _ _ ((kX cB cI cE cS z T.length g fb Ls.length f1 Lm.length f2 Lr.length f3 Sn.length fh tm0 dn Cw.length c1 c2 C2.length c3 c4 cho st) ++ pl1) := hR
            refine xc_callV (C := RX1) (As := [.ref q9]) (rest := [.int (nI k_2), .ref (z 4)]) (cx := []) (wr := (kX cB cI cE cS z T.length g fb Ls.length f1 Lm.length f2 Lr.length f3 Sn.length fh tm0 dn Cw.length c1 c2 C2.length c3 c4 cho st)) (c_withContent l hT (ga_3.mono sb_pl_pl1) hq9) ⟨hx, hb, hml, hown, hts⟩ (cwV 1 hts gX8_cut_X1_withContent rfl rfl rfl (by decide +kernel) ⟨Nat.le_of_ble_eq_true rfl, Nat.le_of_ble_eq_true rfl⟩) hK hZ hR hA (xrecv (ci := 1) hK hR.1 rfl (List.mem_append_right _ (sb_pl_pl1 _ hme_6))) [] [0, 1, 2, 3, 4, 5, 6, 7, 8, 9, 10, 11, 12, 13, 14, 15, 16, 17, 18] rfl rfl (by decide) (by decide) (by decide) rfl hl.1 rfl (Nat.le_of_ble_eq_true rfl) dX8_cut_82 ⟨Nat.le_of_ble_eq_true rfl, Nat.le_of_ble_eq_true rfl⟩ (fun r_13 X_r_13 nw_r_13 H locs hr_13 hR => ?_)
            obtain ⟨rfl, q_12, rfl, hq_12⟩ := hr_13
            obtain hR : rR G A s.heap H locs (_ ++ (pl1 ++ nw_r_13)) := hR
            obtain ⟨pl2, e_pl2, sb_pl1_pl2⟩ : ∃ z : va_W, z = pl1 ++ nw_r_13 ∧ ∀ q, q ∈ pl1 → q ∈ z := ⟨_, rfl, plm⟩
            rw [← e_pl2] at hR hq_12
            have sb_pl_pl2 : ∀ q, q ∈ pl → q ∈ pl2 := fun q h => sb_pl1_pl2 q (sb_pl_pl1 q h)
            have t_pl2 : pl2 = pl ++ (nw_r_11 ++ nw_r_13) := by rw [e_pl2, t_pl1, List.append_assoc]
            have hR : rR G A s.heap _ _ ((kX cB cI cE cS z T.length g fb Ls.length f1 Lm.length f2 Lr.length f3 Sn.length fh tm0 dn Cw.length c1 c2 C2.length c3 c4 cho st) ++ pl2) := hR
            refine xc_callV (C := RX6) (As := [.int (nI k_2), .ref q_12]) (rest := []) (cx := [(z 4, .inr (5, [.ref (z 5), .int (nI Ls.length)])), (z 5, .inl (cE, 120, rfs f1))]) (wr := (([0, 1, 2, 3, 6, 7, 8, 9, 10, 11, 12, 13, 14, 15, 16, 17, 18] : List Nat).filterMap (fun i => (kX cB cI cE cS z T.length g fb Ls.length f1 Lm.length f2 Lr.length f3 Sn.length fh tm0 dn Cw.length c1 c2 C2.length c3 c4 cho st)[i]?))) (c_replace l hT (hr1.mono sb_pl_pl2) hq_12 k_2 jk_2) ⟨hx, hb, hml, hown, hts⟩ (cwV 2 hts gX8_cut_X6_replace rfl rfl rfl (by decide +kernel) ⟨Nat.le_of_ble_eq_true rfl, Nat.le_of_ble_eq_true rfl⟩) hK hZ hR hA (xrecv (ci := 5) hK hR.1 rfl (List.mem_of_getElem? (i := 4) rfl)) [4, 5] [0, 1, 2, 3, 6, 7, 8, 9, 10, 11, 12, 13, 14, 15, 16, 17, 18] rfl rfl (by decide) (by decide) (by decide) rfl hl.1 rfl (Nat.le_of_ble_eq_true rfl) dX8_cut_85 ⟨Nat.le_of_ble_eq_true rfl, Nat.le_of_ble_eq_true rfl⟩ (fun r_14 X_r_14 nw_r_14 H locs hr_14 hR => ?_)
            obtain ⟨rfl, rfl, rfl⟩ := hr_14
            have hR : rR G A s.heap _ _ ((kX cB cI cE cS z T.length g fb Ls.length (va_up f1 k_2 (some q_12)) Lm.length f2 Lr.length f3 Sn.length fh tm0 dn Cw.length c1 c2 C2.length c3 c4 cho st) ++ pl2) := xc_perm (xc_nil hR) [0, 1, 2, 3, 17, 18, 4, 5, 6, 7, 8, 9, 10, 11, 12, 13, 14, 15, 16] rfl (by decide)
            rw [hQ]
            refine vx_ret ?_
            refine W.widen (k := 2) (n := 1505) (by omega) (by omega) ?_
            refine xc_vret (X1 := (kX cB cI cE cS z T.length g fb Ls.length (va_up f1 k_2 (some q_12)) Lm.length f2 Lr.length f3 Sn.length fh tm0 dn Cw.length c1 c2 C2.length c3 c4 cho st)) (nw := (nw_r_11 ++ nw_r_13)) hx hb hr hlocks ?_ ?_ dX8_cut_88
            · rw [← t_pl2]; exact hR
            · try rw [← t_pl2]
              exact (by rw [show ln.toInt.toNat = n by omega]; exact ⟨rfl, by omega, k_2, hk_2, jk_2, by omega, by omega, ⟨_, _, _, _, _, _, _, _, _, _, (by rw [List.length_set] <;> rfl), hrd, htp, (rp_rows (hr1.mono sb_pl_pl2) jk_2 hq_12 rfl (by show csum Ls + ((ct (Ls.getD k_2 e0)).take n).length ≤ 8000 + (ct (Ls.getD k_2 e0)).length; rw [List.length_take]; omega)), (hr2.mono sb_pl_pl2), (hr3.mono sb_pl_pl2), (hhr.mono sb_pl_pl2), (hcr.mono sb_pl_pl2), (hcr2.mono sb_pl_pl2)⟩⟩)
          · rw [hQ]
            refine xc_throw (X := (kX cB cI cE cS z T.length g fb Ls.length f1 Lm.length f2 Lr.length f3 Sn.length fh tm0 dn Cw.length c1 c2 C2.length c3 c4 cho st)) (nw := []) IAE 92 96 164 "no length within the content" xfit_iae xg_iae xn_iae hx hb hlt hown hts hZ (by decide +kernel) (by decide +kernel) (by decide +kernel) (by decide +kernel) hU ?_ ?_ (hl.1.trans hml.symm) dX8_cut_55 dX8_cut_58 dX8_cut_59 dX8_cut_61 dX8_cut_64 htb (Nat.le_of_ble_eq_true rfl) (Nat.le_of_ble_eq_true rfl) (Nat.le_of_ble_eq_true rfl) (Nat.le_of_ble_eq_true rfl) hlocks (Nat.le_of_ble_eq_true rfl) (Nat.le_of_ble_eq_true rfl)
            · rw [List.append_nil]; exact hR
            · try rw [List.append_nil]
              exact (Or.inr ⟨rfl, by omega, _, hk_2, jk_2, by omega, by omega, ⟨_, _, _, _, _, _, _, _, _, _, rfl, hrd, htp, hr1, hr2, hr3, hhr, hcr, hcr2⟩⟩)
      · rw [hQ]
        refine xc_throw (X := (kX cB cI cE cS z T.length g fb Ls.length f1 Lm.length f2 Lr.length f3 Sn.length fh tm0 dn Cw.length c1 c2 C2.length c3 c4 cho st)) (nw := []) ISE 65 69 162 "a session is under way, or nothing with content is chosen" xfit_ise xg_ise xn_ise hx hb hlt hown hts hZ (by decide +kernel) (by decide +kernel) (by decide +kernel) (by decide +kernel) hU ?_ ?_ (hl.1.trans hml.symm) dX8_cut_32 dX8_cut_35 dX8_cut_36 dX8_cut_38 dX8_cut_41 htb (Nat.le_of_ble_eq_true rfl) (Nat.le_of_ble_eq_true rfl) (Nat.le_of_ble_eq_true rfl) (Nat.le_of_ble_eq_true rfl) hlocks (Nat.le_of_ble_eq_true rfl) (Nat.le_of_ble_eq_true rfl)
        · rw [List.append_nil]; exact hR
        · try rw [List.append_nil]
          exact (Or.inl ⟨rfl, Or.inr (Or.inr ⟨_, hk_2, jk_2, by omega⟩), ⟨_, _, _, _, _, _, _, _, _, _, rfl, hrd, htp, hr1, hr2, hr3, hhr, hcr, hcr2⟩⟩)
set_option maxHeartbeats 4000000 in
set_option maxRecDepth 100000 in
theorem K_remove (l : Launch) {G : va_G} {tys : List (ClassId × FieldType)} {cB cI cE cS : ClassId} (hT : tys = [(cB, .byte), (cI, .int), (cE, .object RX1), (cS, .object RX4)]) {pl : va_W} {sz : Nat} (hlt : l.stackTraces = false) {z : Nat → Nat} {X : va_W} {T rd : List Nat} {Ls Lm Lr : List En} {Sn : List Se} {Cw C2 : List Cg} {tm0 : Int32} {dn : Nat} {cho : Int32} {st : Nat} (hk : kRep cB cI cE cS z X pl T rd Ls Lm Lr Sn Cw C2 tm0 dn cho st) (hst9 : st ≤ 2) : xMet l yX8_remove wsX8_remove ({ frames := 6, cells := 1, slots := 6, locals := 82 } : Room) G tys [.ref (z 0)] X pl sz 1 6 (fun o9 X1 nw => st ≠ 1 ∧ ∃ i, cho = nI i ∧ i < Ls.length ∧ o9 = some (.int (nI (1 + cntB (Ls.getD i e0).1 (Ls.drop (i + 1))))) ∧ kRep cB cI cE cS z X1 (pl ++ nw) T rd (drpL Ls i (1 + cntB (Ls.getD i e0).1 (Ls.drop (i + 1)))) Lm Lr Sn Cw C2 tm0 dn (-1) st) (fun E X1 nw => E = ISE ∧ (st = 1 ∨ ¬ (0 ≤ cho.toInt ∧ cho.toInt < Ls.length)) ∧ kRep cB cI cE cS z X1 (pl ++ nw) T rd Ls Lm Lr Sn Cw C2 tm0 dn cho st) := by
  obtain ⟨g, fb, f1, f2, f3, fh, c1, c2, c3, c4, rfl, hrd, htp, hr1, hr2, hr3, hhr, hcr, hcr2⟩ := hk
  have hT0 : tys[0]? = some (cB, .byte) := by rw [hT]; rfl
  have hT1 : tys[1]? = some (cI, .int) := by rw [hT]; rfl
  have hT2 : tys[2]? = some (cE, .object RX1) := by rw [hT]; rfl
  have hT3 : tys[3]? = some (cS, .object RX4) := by rw [hT]; rfl
  refine vx_ofW (cc := cX8_remove) (maxL := 3) (ret := (some .int)) (by decide) rfl ?_
  intro p e s m args below meth c s₁ B hml htb hv
  obtain ⟨hargs, ⟨hsz, hP, hK, hD0, hZ⟩, hU⟩ := hv
  have hx := B.exec
  have hb := B.bytes
  have hr := B.returns
  have hts := atoms_spec (ws := wsX8_remove) B.pre
  have hown : s.vm.findClass RX8 = some m.cls := findClass_of_methodNamed B.named
  have hlocks := B.notSynchronized
  subst hsz
  have hD := hD0.self (sz := s.heap.size)
  obtain ⟨A, hAe⟩ : ∃ A : Nat → Prop, A = va_A ((kX cB cI cE cS z T.length g fb Ls.length f1 Lm.length f2 Lr.length f3 Sn.length fh tm0 dn Cw.length c1 c2 C2.length c3 c4 cho st) ++ pl) s.heap.size := ⟨_, rfl⟩
  rw [← hAe] at hD hU
  have hA : ∀ q : Nat, s.heap.size ≤ q → A q := fun q h => by rw [hAe]; exact Or.inr h
  have inX8 : ∀ w ∈ wsX80, w ∈ wsX8_remove := by decide +kernel
  have k_19 := hts (.fieldLink RX8 19 "MirrorKeep" "source" "LMirrorKeep$Tree;") (by decide +kernel)
  have k_50 := hts (.fieldLink RX8 50 "MirrorKeep" "chosen" "I") (by decide +kernel)
  have k_54 := hts (.fieldLink RX8 54 "MirrorKeep" "state" "I") (by decide +kernel)
  have hR : rR G A s.heap s.heap [] ((kX cB cI cE cS z T.length g fb Ls.length f1 Lm.length f2 Lr.length f3 Sn.length fh tm0 dn Cw.length c1 c2 C2.length c3 c4 cho st) ++ pl) := ⟨hP, hD, va_S.rf⟩
  obtain ⟨Q, hQ⟩ : ∃ Q : State → Prop, Q = vx_MQ below (cQ G A pl (fun o9 X1 nw => st ≠ 1 ∧ ∃ i, cho = nI i ∧ i < Ls.length ∧ o9 = some (.int (nI (1 + cntB (Ls.getD i e0).1 (Ls.drop (i + 1))))) ∧ kRep cB cI cE cS z X1 (pl ++ nw) T rd (drpL Ls i (1 + cntB (Ls.getD i e0).1 (Ls.drop (i + 1)))) Lm Lr Sn Cw C2 tm0 dn (-1) st)) (xX G A pl (fun E X1 nw => E = ISE ∧ (st = 1 ∨ ¬ (0 ≤ cho.toInt ∧ cho.toInt < Ls.length)) ∧ kRep cB cI cE cS z X1 (pl ++ nw) T rd Ls Lm Lr Sn Cw C2 tm0 dn cho st)) args s 1 6 A := ⟨_, rfl⟩
  change W p l e ({ frames := 6, cells := 1, slots := 6, locals := 82 } : Room) s m args below meth c s.heap [] 0 0 (vx_MQ below (cQ G (va_A ((kX cB cI cE cS z T.length g fb Ls.length f1 Lm.length f2 Lr.length f3 Sn.length fh tm0 dn Cw.length c1 c2 C2.length c3 c4 cho st) ++ pl) s.heap.size) pl (fun o9 X1 nw => st ≠ 1 ∧ ∃ i, cho = nI i ∧ i < Ls.length ∧ o9 = some (.int (nI (1 + cntB (Ls.getD i e0).1 (Ls.drop (i + 1))))) ∧ kRep cB cI cE cS z X1 (pl ++ nw) T rd (drpL Ls i (1 + cntB (Ls.getD i e0).1 (Ls.drop (i + 1)))) Lm Lr Sn Cw C2 tm0 dn (-1) st)) (xX G (va_A ((kX cB cI cE cS z T.length g fb Ls.length f1 Lm.length f2 Lr.length f3 Sn.length fh tm0 dn Cw.length c1 c2 C2.length c3 c4 cho st) ++ pl) s.heap.size) pl (fun E X1 nw => E = ISE ∧ (st = 1 ∨ ¬ (0 ≤ cho.toInt ∧ cho.toInt < Ls.length)) ∧ kRep cB cI cE cS z X1 (pl ++ nw) T rd Ls Lm Lr Sn Cw C2 tm0 dn cho st)) args s 1 6 (va_A ((kX cB cI cE cS z T.length g fb Ls.length f1 Lm.length f2 Lr.length f3 Sn.length fh tm0 dn Cw.length c1 c2 C2.length c3 c4 cho st) ++ pl) s.heap.size)) (entryFrame m args 3)
  rw [← hAe]
  rw [← hQ]
  refine nn_entry hargs (Nat.le_of_ble_eq_true rfl) (lv := [(0, .ref (z 0))]) rfl (fun ls hl => ?_)
  have hk1 := hr1.1
  have hk2 := hr1.2.2.2
  refine lv_aload_n hx hb dX8_remove_0 rfl (lv_at hl 0 rfl) ?_
  refine xg (ci := 7) (C := RX8) (T := TX8) (N := 9) (v := .ref (z 4)) hx hb hts inX8 hown hK hR.1 (List.mem_of_getElem? (i := 0) rfl) rfl 1 (by decide) k_19 (fun _ h => h) rfl dX8_remove_1 ?_
  refine lv_aload_n hx hb dX8_remove_4 rfl (lv_at hl 0 rfl) ?_
  refine xg (ci := 7) (C := RX8) (T := TX8) (N := 9) (v := .int cho) hx hb hts inX8 hown hK hR.1 (List.mem_of_getElem? (i := 0) rfl) rfl 7 (by decide) k_50 (fun _ h => h) rfl dX8_remove_5 ?_
  refine pf_callV (C := RX6) (As := [.int cho]) (rest := []) (p_tget l hT (⟨(List.mem_of_getElem? (i := 4) rfl), (List.mem_of_getElem? (i := 5) rfl), (hr1.mono xpm)⟩ : tRep ((kX cB cI cE cS z T.length g fb Ls.length f1 Lm.length f2 Lr.length f3 Sn.length fh tm0 dn Cw.length c1 c2 C2.length c3 c4 cho st) ++ pl) cB cE (z 4) (z 5) f1 Ls) cho) ⟨hx, hb, hml, hown, hts⟩ (cwV 1 hts gX8_remove_X6_get rfl rfl rfl (by decide +kernel) ⟨Nat.le_of_ble_eq_true rfl, Nat.le_of_ble_eq_true rfl⟩) hK hR.1 (xrecv (ci := 5) hK hR.1 rfl (List.mem_of_getElem? (i := 4) rfl)) rfl hl.1 rfl (Nat.le_of_ble_eq_true rfl) dX8_remove_8 ⟨Nat.le_of_ble_eq_true rfl, Nat.le_of_ble_eq_true rfl⟩ (fun r_1 hr_1 => ?_)
  rcases hr_1 with ⟨hr_1, rfl⟩ | ⟨k_2, a_3, hk_2, jk_2, rfl, ha_3, -⟩
  · refine lv_astore_nN (lv' := [(1, .null), (0, .ref (z 0))]) hx hb dX8_remove_11 rfl hl (by decide) rfl (fun ls hl => ?_)
    refine lv_aload_n hx hb dX8_remove_12 rfl (lv_at hl 1 rfl) ?_
    refine xg (ci := 7) (C := RX8) (T := TX8) (N := 9) (v := .int (nI st)) hx hb hts inX8 hown hK hR.1 (List.mem_of_getElem? (i := 0) rfl) rfl 8 (by decide) k_54 (fun _ h => h) rfl dX8_remove_13 ?_
    refine lv_iconst (v := nI 1) hx hb dX8_remove_16 rfl ?_
    refine nn_eq hx hb dX8_remove_17 (tgt := 24) (by decide) (by omega) (by omega) (fun c_5 => ?_) (fun c_5 => ?_)
    · rw [hQ]
      refine xc_throw (X := (kX cB cI cE cS z T.length g fb Ls.length f1 Lm.length f2 Lr.length f3 Sn.length fh tm0 dn Cw.length c1 c2 C2.length c3 c4 cho st)) (nw := []) ISE 65 69 172 "a session is under way, or nothing is chosen" xfit_ise xg_ise xn_ise hx hb hlt hown hts hZ (by decide +kernel) (by decide +kernel) (by decide +kernel) (by decide +kernel) hU ?_ ?_ (hl.1.trans hml.symm) dX8_remove_24 dX8_remove_27 dX8_remove_28 dX8_remove_30 dX8_remove_33 htb (Nat.le_of_ble_eq_true rfl) (Nat.le_of_ble_eq_true rfl) (Nat.le_of_ble_eq_true rfl) (Nat.le_of_ble_eq_true rfl) hlocks (Nat.le_of_ble_eq_true rfl) (Nat.le_of_ble_eq_true rfl)
      · rw [List.append_nil]; exact hR
      · try rw [List.append_nil]
        exact ⟨rfl, Or.inr hr_1, ⟨_, _, _, _, _, _, _, _, _, _, rfl, hrd, htp, hr1, hr2, hr3, hhr, hcr, hcr2⟩⟩
    · refine lv_aload_nN hx hb dX8_remove_20 rfl (lv_at hl 0 rfl) ?_
      refine lv_ifnonnullN hx hb dX8_remove_21 ?_
      rw [hQ]
      refine xc_throw (X := (kX cB cI cE cS z T.length g fb Ls.length f1 Lm.length f2 Lr.length f3 Sn.length fh tm0 dn Cw.length c1 c2 C2.length c3 c4 cho st)) (nw := []) ISE 65 69 172 "a session is under way, or nothing is chosen" xfit_ise xg_ise xn_ise hx hb hlt hown hts hZ (by decide +kernel) (by decide +kernel) (by decide +kernel) (by decide +kernel) hU ?_ ?_ (hl.1.trans hml.symm) dX8_remove_24 dX8_remove_27 dX8_remove_28 dX8_remove_30 dX8_remove_33 htb (Nat.le_of_ble_eq_true rfl) (Nat.le_of_ble_eq_true rfl) (Nat.le_of_ble_eq_true rfl) (Nat.le_of_ble_eq_true rfl) hlocks (Nat.le_of_ble_eq_true rfl) (Nat.le_of_ble_eq_true rfl)
      · rw [List.append_nil]; exact hR
      · try rw [List.append_nil]
        exact ⟨rfl, Or.inr hr_1, ⟨_, _, _, _, _, _, _, _, _, _, rfl, hrd, htp, hr1, hr2, hr3, hhr, hcr, hcr2⟩⟩
  · have ga_3 := pe_row hr1 (h := ha_3) jk_2
    obtain ⟨pae_6, cae_6, hme_6, hpae_6, hcae_6⟩ := id ga_3
    refine lv_astore_n (lv' := [(1, .ref a_3), (0, .ref (z 0))]) hx hb dX8_remove_11 rfl hl (by decide) rfl (fun ls hl => ?_)
    refine lv_aload_n hx hb dX8_remove_12 rfl (lv_at hl 1 rfl) ?_
    refine xg (ci := 7) (C := RX8) (T := TX8) (N := 9) (v := .int (nI st)) hx hb hts inX8 hown hK hR.1 (List.mem_of_getElem? (i := 0) rfl) rfl 8 (by decide) k_54 (fun _ h => h) rfl dX8_remove_13 ?_
    refine lv_iconst (v := nI 1) hx hb dX8_remove_16 rfl ?_
    refine nn_eq hx hb dX8_remove_17 (tgt := 24) (by decide) (by omega) (by omega) (fun c_7 => ?_) (fun c_7 => ?_)
    · rw [hQ]
      refine xc_throw (X := (kX cB cI cE cS z T.length g fb Ls.length f1 Lm.length f2 Lr.length f3 Sn.length fh tm0 dn Cw.length c1 c2 C2.length c3 c4 cho st)) (nw := []) ISE 65 69 172 "a session is under way, or nothing is chosen" xfit_ise xg_ise xn_ise hx hb hlt hown hts hZ (by decide +kernel) (by decide +kernel) (by decide +kernel) (by decide +kernel) hU ?_ ?_ (hl.1.trans hml.symm) dX8_remove_24 dX8_remove_27 dX8_remove_28 dX8_remove_30 dX8_remove_33 htb (Nat.le_of_ble_eq_true rfl) (Nat.le_of_ble_eq_true rfl) (Nat.le_of_ble_eq_true rfl) (Nat.le_of_ble_eq_true rfl) hlocks (Nat.le_of_ble_eq_true rfl) (Nat.le_of_ble_eq_true rfl)
      · rw [List.append_nil]; exact hR
      · try rw [List.append_nil]
        exact ⟨rfl, Or.inl (by omega), ⟨_, _, _, _, _, _, _, _, _, _, rfl, hrd, htp, hr1, hr2, hr3, hhr, hcr, hcr2⟩⟩
    · refine lv_aload_n hx hb dX8_remove_20 rfl (lv_at hl 0 rfl) ?_
      refine lv_ifnonnull hx hb dX8_remove_21 (tgt := 34) (by decide) ?_
      refine lv_iconst (v := nI 1) hx hb dX8_remove_34 rfl ?_
      refine lv_aload_n hx hb dX8_remove_35 rfl (lv_at hl 1 rfl) ?_
      refine xg (ci := 7) (C := RX8) (T := TX8) (N := 9) (v := .ref (z 4)) hx hb hts inX8 hown hK hR.1 (List.mem_of_getElem? (i := 0) rfl) rfl 1 (by decide) k_19 (fun _ h => h) rfl dX8_remove_36 ?_
      refine lv_aload_n hx hb dX8_remove_39 rfl (lv_at hl 1 rfl) ?_
      refine xg (ci := 7) (C := RX8) (T := TX8) (N := 9) (v := .int cho) hx hb hts inX8 hown hK hR.1 (List.mem_of_getElem? (i := 0) rfl) rfl 7 (by decide) k_50 (fun _ h => h) rfl dX8_remove_40 ?_
      refine nn_eqi (y := nI k_2) hk_2 ?_
      refine pf_callV (C := RX6) (As := [.int (nI k_2)]) (rest := [.int (nI 1)]) (p_countBelow l hT (⟨(List.mem_of_getElem? (i := 4) rfl), (List.mem_of_getElem? (i := 5) rfl), (hr1.mono xpm)⟩ : tRep ((kX cB cI cE cS z T.length g fb Ls.length f1 Lm.length f2 Lr.length f3 Sn.length fh tm0 dn Cw.length c1 c2 C2.length c3 c4 cho st) ++ pl) cB cE (z 4) (z 5) f1 Ls) k_2 jk_2) ⟨hx, hb, hml, hown, hts⟩ (cwV 1 hts gX8_remove_X6_countBelow rfl rfl rfl (by decide +kernel) ⟨Nat.le_of_ble_eq_true rfl, Nat.le_of_ble_eq_true rfl⟩) hK hR.1 (xrecv (ci := 5) hK hR.1 rfl (List.mem_of_getElem? (i := 4) rfl)) rfl hl.1 rfl (Nat.le_of_ble_eq_true rfl) dX8_remove_43 ⟨Nat.le_of_ble_eq_true rfl, Nat.le_of_ble_eq_true rfl⟩ (fun r_8 hr_8 => ?_)
      subst hr_8
      have hc7 := cnt_ok jk_2 (Ls.getD k_2 e0).1
      refine nn_add hx hb dX8_remove_46 ?_
      refine lv_istore_n (lv' := [(2, .int (nI (1 + (cntB (Ls.getD k_2 e0).1 (Ls.drop (k_2 + 1)))))), (1, .ref a_3), (0, .ref (z 0))]) hx hb dX8_remove_47 rfl hl (by decide) rfl (fun ls hl => ?_)
      refine lv_aload_n hx hb dX8_remove_48 rfl (lv_at hl 2 rfl) ?_
      refine xg (ci := 7) (C := RX8) (T := TX8) (N := 9) (v := .ref (z 4)) hx hb hts inX8 hown hK hR.1 (List.mem_of_getElem? (i := 0) rfl) rfl 1 (by decide) k_19 (fun _ h => h) rfl dX8_remove_49 ?_
      refine lv_aload_n hx hb dX8_remove_52 rfl (lv_at hl 2 rfl) ?_
      refine xg (ci := 7) (C := RX8) (T := TX8) (N := 9) (v := .int cho) hx hb hts inX8 hown hK hR.1 (List.mem_of_getElem? (i := 0) rfl) rfl 7 (by decide) k_50 (fun _ h => h) rfl dX8_remove_53 ?_
      refine nn_eqi (y := nI k_2) hk_2 ?_
      refine lv_iload_n hx hb dX8_remove_56 rfl (lv_at hl 0 rfl) ?_
      refine xc_callV (C := RX6) (As := [.int (nI k_2), .int (nI (1 + (cntB (Ls.getD k_2 e0).1 (Ls.drop (k_2 + 1)))))]) (rest := []) (cx := [(z 4, .inr (5, [.ref (z 5), .int (nI Ls.length)])), (z 5, .inl (cE, 120, rfs f1))]) (wr := (([0, 1, 2, 3, 6, 7, 8, 9, 10, 11, 12, 13, 14, 15, 16, 17, 18] : List Nat).filterMap (fun i => (kX cB cI cE cS z T.length g fb Ls.length f1 Lm.length f2 Lr.length f3 Sn.length fh tm0 dn Cw.length c1 c2 C2.length c3 c4 cho st)[i]?))) (c_drop l hT hr1 k_2 (1 + (cntB (Ls.getD k_2 e0).1 (Ls.drop (k_2 + 1)))) (by omega) (by omega)) ⟨hx, hb, hml, hown, hts⟩ (cwV 2 hts gX8_remove_X6_drop rfl rfl rfl (by decide +kernel) ⟨Nat.le_of_ble_eq_true rfl, Nat.le_of_ble_eq_true rfl⟩) hK hZ hR hA (xrecv (ci := 5) hK hR.1 rfl (List.mem_of_getElem? (i := 4) rfl)) [4, 5] [0, 1, 2, 3, 6, 7, 8, 9, 10, 11, 12, 13, 14, 15, 16, 17, 18] rfl rfl (by decide) (by decide) (by decide) rfl hl.1 rfl (Nat.le_of_ble_eq_true rfl) dX8_remove_57 ⟨Nat.le_of_ble_eq_true rfl, Nat.le_of_ble_eq_true rfl⟩ (fun r_9 X_r_9 nw_r_9 H locs hr_9 hR => ?_)
      obtain ⟨rfl, rfl, g1, rfl, hg1, hg2⟩ := hr_9
      have hR : rR G A s.heap _ _ ((kX cB cI cE cS z T.length g fb (Ls.length - (1 + (cntB (Ls.getD k_2 e0).1 (Ls.drop (k_2 + 1))))) g1 Lm.length f2 Lr.length f3 Sn.length fh tm0 dn Cw.length c1 c2 C2.length c3 c4 cho st) ++ pl) := xc_perm (xc_nil hR) [0, 1, 2, 3, 17, 18, 4, 5, 6, 7, 8, 9, 10, 11, 12, 13, 14, 15, 16] rfl (by decide)
      refine lv_aload_n hx hb dX8_remove_60 rfl (lv_at hl 2 rfl) ?_
      refine lv_iconst (v := (-1)) hx hb dX8_remove_61 rfl ?_
      refine va_put (D := G) (ci := 7) (v := .int (-1)) (ty := .int) (C := RX8) (T := TX8) (N := 9) hx hb hts inX8 tyX8 tyX8_ok nmX8 hown hK hR.1 hR.2.1 hR.2.2 0 rfl rfl 7 (by decide) k_50 (fun _ h => h) rfl (by decide +kernel) rfl rfl (Nat.le_of_ble_eq_true rfl) dX8_remove_62 (fun H locs hP hD hS => ?_)
      have hR : rR G A s.heap _ _ ((kX cB cI cE cS z T.length g fb (Ls.length - (1 + (cntB (Ls.getD k_2 e0).1 (Ls.drop (k_2 + 1))))) g1 Lm.length f2 Lr.length f3 Sn.length fh tm0 dn Cw.length c1 c2 C2.length c3 c4 (-1) st) ++ pl) := ⟨hP, hD, hS⟩
      refine lv_iload_n hx hb dX8_remove_65 rfl (lv_at hl 0 rfl) ?_
      rw [hQ]
      refine vx_ret ?_
      refine W.widen (k := 1) (n := 6) (by omega) (by omega) ?_
      refine xc_iret (X1 := (kX cB cI cE cS z T.length g fb (Ls.length - (1 + (cntB (Ls.getD k_2 e0).1 (Ls.drop (k_2 + 1))))) g1 Lm.length f2 Lr.length f3 Sn.length fh tm0 dn Cw.length c1 c2 C2.length c3 c4 (-1) st)) (nw := []) hx hb hr hlocks ?_ ?_ dX8_remove_66
      · rw [List.append_nil]; exact hR
      · try rw [List.append_nil]
        exact ⟨by omega, k_2, hk_2, jk_2, rfl, ⟨_, _, _, _, _, _, _, _, _, _, (by rw [drpL_len (by omega)]), hrd, htp, (drpF_rows hr1 (by omega) hg1 hg2), hr2, hr3, hhr, hcr, hcr2⟩⟩
set_option maxHeartbeats 4000000 in
set_option maxRecDepth 100000 in
theorem K_begin (l : Launch) {G : va_G} {tys : List (ClassId × FieldType)} {cB cI cE cS : ClassId} (hT : tys = [(cB, .byte), (cI, .int), (cE, .object RX1), (cS, .object RX4)]) {pl : va_W} {sz : Nat} (hlt : l.stackTraces = false) {z : Nat → Nat} {X : va_W} {T rd : List Nat} {Ls Lm Lr : List En} {Sn : List Se} {Cw C2 : List Cg} {tm0 : Int32} {dn : Nat} {cho : Int32} {st : Nat} (hk : kRep cB cI cE cS z X pl T rd Ls Lm Lr Sn Cw C2 tm0 dn cho st) (tm : Int32) (hst9 : st ≤ 2) (hlen : Lm.length + Ls.length ≤ 180) : xMet l yX8_begin wsX8_begin ({ frames := 6, cells := 1, slots := 6, locals := 95 } : Room) G tys [.ref (z 0), .int tm] X pl sz 1 6 (fun o9 X1 nw => o9 = some (.int (nI (3 + 2 * (chg Lm Ls).length))) ∧ st = 0 ∧ Sn.length ≠ 40 ∧ 0 ≤ tm.toInt ∧ (lstT Sn).toInt < tm.toInt ∧ kRep cB cI cE cS z X1 (pl ++ nw) T rd Ls Lm Lr Sn (chg Lm Ls) C2 tm 0 cho 1) (fun E X1 nw => (E = ISE ∧ (st ≠ 0 ∨ Sn.length = 40) ∧ kRep cB cI cE cS z X1 (pl ++ nw) T rd Ls Lm Lr Sn Cw C2 tm0 dn cho st) ∨ (E = IAE ∧ st = 0 ∧ Sn.length ≠ 40 ∧ (tm.toInt < 0 ∨ tm.toInt ≤ (lstT Sn).toInt) ∧ kRep cB cI cE cS z X1 (pl ++ nw) T rd Ls Lm Lr Sn Cw C2 tm0 dn cho st)) := by
  obtain ⟨g, fb, f1, f2, f3, fh, c1, c2, c3, c4, rfl, hrd, htp, hr1, hr2, hr3, hhr, hcr, hcr2⟩ := hk
  have hT0 : tys[0]? = some (cB, .byte) := by rw [hT]; rfl
  have hT1 : tys[1]? = some (cI, .int) := by rw [hT]; rfl
  have hT2 : tys[2]? = some (cE, .object RX1) := by rw [hT]; rfl
  have hT3 : tys[3]? = some (cS, .object RX4) := by rw [hT]; rfl
  refine vx_ofW (cc := cX8_begin) (maxL := 2) (ret := (some .int)) (by decide) rfl ?_
  intro p e s m args below meth c s₁ B hml htb hv
  obtain ⟨hargs, ⟨hsz, hP, hK, hD0, hZ⟩, hU⟩ := hv
  have hx := B.exec
  have hb := B.bytes
  have hr := B.returns
  have hts := atoms_spec (ws := wsX8_begin) B.pre
  have hown : s.vm.findClass RX8 = some m.cls := findClass_of_methodNamed B.named
  have hlocks := B.notSynchronized
  subst hsz
  have hD := hD0.self (sz := s.heap.size)
  obtain ⟨A, hAe⟩ : ∃ A : Nat → Prop, A = va_A ((kX cB cI cE cS z T.length g fb Ls.length f1 Lm.length f2 Lr.length f3 Sn.length fh tm0 dn Cw.length c1 c2 C2.length c3 c4 cho st) ++ pl) s.heap.size := ⟨_, rfl⟩
  rw [← hAe] at hD hU
  have hA : ∀ q : Nat, s.heap.size ≤ q → A q := fun q h => by rw [hAe]; exact Or.inr h
  have inX8 : ∀ w ∈ wsX80, w ∈ wsX8_begin := by decide +kernel
  have k_19 := hts (.fieldLink RX8 19 "MirrorKeep" "source" "LMirrorKeep$Tree;") (by decide +kernel)
  have k_23 := hts (.fieldLink RX8 23 "MirrorKeep" "mirror" "LMirrorKeep$Tree;") (by decide +kernel)
  have k_32 := hts (.fieldLink RX8 32 "MirrorKeep" "history" "LMirrorKeep$History;") (by decide +kernel)
  have k_39 := hts (.fieldLink RX8 39 "MirrorKeep" "work" "LMirrorKeep$Work;") (by decide +kernel)
  have k_54 := hts (.fieldLink RX8 54 "MirrorKeep" "state" "I") (by decide +kernel)
  have hR : rR G A s.heap s.heap [] ((kX cB cI cE cS z T.length g fb Ls.length f1 Lm.length f2 Lr.length f3 Sn.length fh tm0 dn Cw.length c1 c2 C2.length c3 c4 cho st) ++ pl) := ⟨hP, hD, va_S.rf⟩
  obtain ⟨Q, hQ⟩ : ∃ Q : State → Prop, Q = vx_MQ below (cQ G A pl (fun o9 X1 nw => o9 = some (.int (nI (3 + 2 * (chg Lm Ls).length))) ∧ st = 0 ∧ Sn.length ≠ 40 ∧ 0 ≤ tm.toInt ∧ (lstT Sn).toInt < tm.toInt ∧ kRep cB cI cE cS z X1 (pl ++ nw) T rd Ls Lm Lr Sn (chg Lm Ls) C2 tm 0 cho 1)) (xX G A pl (fun E X1 nw => (E = ISE ∧ (st ≠ 0 ∨ Sn.length = 40) ∧ kRep cB cI cE cS z X1 (pl ++ nw) T rd Ls Lm Lr Sn Cw C2 tm0 dn cho st) ∨ (E = IAE ∧ st = 0 ∧ Sn.length ≠ 40 ∧ (tm.toInt < 0 ∨ tm.toInt ≤ (lstT Sn).toInt) ∧ kRep cB cI cE cS z X1 (pl ++ nw) T rd Ls Lm Lr Sn Cw C2 tm0 dn cho st))) args s 1 6 A := ⟨_, rfl⟩
  change W p l e ({ frames := 6, cells := 1, slots := 6, locals := 95 } : Room) s m args below meth c s.heap [] 0 0 (vx_MQ below (cQ G (va_A ((kX cB cI cE cS z T.length g fb Ls.length f1 Lm.length f2 Lr.length f3 Sn.length fh tm0 dn Cw.length c1 c2 C2.length c3 c4 cho st) ++ pl) s.heap.size) pl (fun o9 X1 nw => o9 = some (.int (nI (3 + 2 * (chg Lm Ls).length))) ∧ st = 0 ∧ Sn.length ≠ 40 ∧ 0 ≤ tm.toInt ∧ (lstT Sn).toInt < tm.toInt ∧ kRep cB cI cE cS z X1 (pl ++ nw) T rd Ls Lm Lr Sn (chg Lm Ls) C2 tm 0 cho 1)) (xX G (va_A ((kX cB cI cE cS z T.length g fb Ls.length f1 Lm.length f2 Lr.length f3 Sn.length fh tm0 dn Cw.length c1 c2 C2.length c3 c4 cho st) ++ pl) s.heap.size) pl (fun E X1 nw => (E = ISE ∧ (st ≠ 0 ∨ Sn.length = 40) ∧ kRep cB cI cE cS z X1 (pl ++ nw) T rd Ls Lm Lr Sn Cw C2 tm0 dn cho st) ∨ (E = IAE ∧ st = 0 ∧ Sn.length ≠ 40 ∧ (tm.toInt < 0 ∨ tm.toInt ≤ (lstT Sn).toInt) ∧ kRep cB cI cE cS z X1 (pl ++ nw) T rd Ls Lm Lr Sn Cw C2 tm0 dn cho st))) args s 1 6 (va_A ((kX cB cI cE cS z T.length g fb Ls.length f1 Lm.length f2 Lr.length f3 Sn.length fh tm0 dn Cw.length c1 c2 C2.length c3 c4 cho st) ++ pl) s.heap.size)) (entryFrame m args 2)
  rw [← hAe]
  rw [← hQ]
  refine nn_entry hargs (Nat.le_of_ble_eq_true rfl) (lv := [(0, .ref (z 0)), (1, .int tm)]) rfl (fun ls hl => ?_)
  refine lv_aload_n hx hb dX8_begin_0 rfl (lv_at hl 0 rfl) ?_
  refine xg (ci := 7) (C := RX8) (T := TX8) (N := 9) (v := .int (nI st)) hx hb hts inX8 hown hK hR.1 (List.mem_of_getElem? (i := 0) rfl) rfl 8 (by decide) k_54 (fun _ h => h) rfl dX8_begin_1 ?_
  refine nz_ne hx hb dX8_begin_4 (tgt := 17) (by decide) (by omega) (fun c_1 => ?_) (fun c_1 => ?_)
  · rw [hQ]
    refine xc_throw (X := (kX cB cI cE cS z T.length g fb Ls.length f1 Lm.length f2 Lr.length f3 Sn.length fh tm0 dn Cw.length c1 c2 C2.length c3 c4 cho st)) (nw := []) ISE 65 69 191 "not at rest, or too many sessions" xfit_ise xg_ise xn_ise hx hb hlt hown hts hZ (by decide +kernel) (by decide +kernel) (by decide +kernel) (by decide +kernel) hU ?_ ?_ (hl.1.trans hml.symm) dX8_begin_17 dX8_begin_20 dX8_begin_21 dX8_begin_23 dX8_begin_26 htb (Nat.le_of_ble_eq_true rfl) (Nat.le_of_ble_eq_true rfl) (Nat.le_of_ble_eq_true rfl) (Nat.le_of_ble_eq_true rfl) hlocks (Nat.le_of_ble_eq_true rfl) (Nat.le_of_ble_eq_true rfl)
    · rw [List.append_nil]; exact hR
    · try rw [List.append_nil]
      exact (Or.inl ⟨rfl, by omega, ⟨_, _, _, _, _, _, _, _, _, _, rfl, hrd, htp, hr1, hr2, hr3, hhr, hcr, hcr2⟩⟩)
  · refine lv_aload_n hx hb dX8_begin_7 rfl (lv_at hl 0 rfl) ?_
    refine xg (ci := 7) (C := RX8) (T := TX8) (N := 9) (v := .ref (z 10)) hx hb hts inX8 hown hK hR.1 (List.mem_of_getElem? (i := 0) rfl) rfl 4 (by decide) k_32 (fun _ h => h) rfl dX8_begin_8 ?_
    refine pf_callV (C := RX2) (As := []) (rest := []) (p_hfull l hT (hRows.rep hhr (List.mem_of_getElem? (i := 10) rfl) (List.mem_of_getElem? (i := 11) rfl))) ⟨hx, hb, hml, hown, hts⟩ (cwV 0 hts gX8_begin_X2_isFull rfl rfl rfl (by decide +kernel) ⟨Nat.le_of_ble_eq_true rfl, Nat.le_of_ble_eq_true rfl⟩) hK hR.1 (xrecv (ci := 2) hK hR.1 rfl (List.mem_of_getElem? (i := 10) rfl)) rfl hl.1 rfl (Nat.le_of_ble_eq_true rfl) dX8_begin_11 ⟨Nat.le_of_ble_eq_true rfl, Nat.le_of_ble_eq_true rfl⟩ (fun r_2 hr_2 => ?_)
    subst hr_2
    refine nb_ifeq hx hb dX8_begin_14 (tgt := 27) (by decide) (fun c_3 => ?_) (fun c_3 => ?_)
    · have c_3 := of_decide_eq_false c_3
      refine lv_iload_n hx hb dX8_begin_27 rfl (lv_at hl 1 rfl) ?_
      refine pf_callS (As := [.int tm]) (rest := []) (p_isTime l hT (w := ((kX cB cI cE cS z T.length g fb Ls.length f1 Lm.length f2 Lr.length f3 Sn.length fh tm0 dn Cw.length c1 c2 C2.length c3 c4 cho st) ++ pl)) tm) ⟨hx, hb, hml, hown, hts⟩ (va_cwS 1 hts gX8_begin_X8_isTime rfl rfl rfl (by decide +kernel) ⟨Nat.le_of_ble_eq_true rfl, Nat.le_of_ble_eq_true rfl⟩) hK hR.1 rfl hl.1 rfl (Nat.le_of_ble_eq_true rfl) dX8_begin_28 ⟨Nat.le_of_ble_eq_true rfl, Nat.le_of_ble_eq_true rfl⟩ (fun r_4 hr_4 => ?_)
      subst hr_4
      refine nb_ifeq hx hb dX8_begin_31 (tgt := 45) (by decide) (fun c_5 => ?_) (fun c_5 => ?_)
      · have c_5 := of_decide_eq_false c_5
        rw [hQ]
        refine xc_throw (X := (kX cB cI cE cS z T.length g fb Ls.length f1 Lm.length f2 Lr.length f3 Sn.length fh tm0 dn Cw.length c1 c2 C2.length c3 c4 cho st)) (nw := []) IAE 92 96 196 "the time is not above the latest one" xfit_iae xg_iae xn_iae hx hb hlt hown hts hZ (by decide +kernel) (by decide +kernel) (by decide +kernel) (by decide +kernel) hU ?_ ?_ (hl.1.trans hml.symm) dX8_begin_45 dX8_begin_48 dX8_begin_49 dX8_begin_51 dX8_begin_54 htb (Nat.le_of_ble_eq_true rfl) (Nat.le_of_ble_eq_true rfl) (Nat.le_of_ble_eq_true rfl) (Nat.le_of_ble_eq_true rfl) hlocks (Nat.le_of_ble_eq_true rfl) (Nat.le_of_ble_eq_true rfl)
        · rw [List.append_nil]; exact hR
        · try rw [List.append_nil]
          exact (Or.inr ⟨rfl, by omega, by omega, by omega, ⟨_, _, _, _, _, _, _, _, _, _, rfl, hrd, htp, hr1, hr2, hr3, hhr, hcr, hcr2⟩⟩)
      · have c_5 := of_decide_eq_true c_5
        refine lv_iload_n hx hb dX8_begin_34 rfl (lv_at hl 1 rfl) ?_
        refine lv_aload_n hx hb dX8_begin_35 rfl (lv_at hl 0 rfl) ?_
        refine xg (ci := 7) (C := RX8) (T := TX8) (N := 9) (v := .ref (z 10)) hx hb hts inX8 hown hK hR.1 (List.mem_of_getElem? (i := 0) rfl) rfl 4 (by decide) k_32 (fun _ h => h) rfl dX8_begin_36 ?_
        refine pf_callV (C := RX2) (As := []) (rest := [.int tm]) (p_hlast l hT (hRows.rep hhr (List.mem_of_getElem? (i := 10) rfl) (List.mem_of_getElem? (i := 11) rfl))) ⟨hx, hb, hml, hown, hts⟩ (cwV 0 hts gX8_begin_X2_latestTime rfl rfl rfl (by decide +kernel) ⟨Nat.le_of_ble_eq_true rfl, Nat.le_of_ble_eq_true rfl⟩) hK hR.1 (xrecv (ci := 2) hK hR.1 rfl (List.mem_of_getElem? (i := 10) rfl)) rfl hl.1 rfl (Nat.le_of_ble_eq_true rfl) dX8_begin_39 ⟨Nat.le_of_ble_eq_true rfl, Nat.le_of_ble_eq_true rfl⟩ (fun r_6 hr_6 => ?_)
        subst hr_6
        refine zc_gt hx hb rfl rfl dX8_begin_42 (tgt := 55) (by decide) (fun c_7 => ?_) (fun c_7 => ?_)
        · refine lv_aload_n hx hb dX8_begin_55 rfl (lv_at hl 0 rfl) ?_
          refine xg (ci := 7) (C := RX8) (T := TX8) (N := 9) (v := .ref (z 12)) hx hb hts inX8 hown hK hR.1 (List.mem_of_getElem? (i := 0) rfl) rfl 5 (by decide) k_39 (fun _ h => h) rfl dX8_begin_56 ?_
          refine lv_iload_n hx hb dX8_begin_59 rfl (lv_at hl 1 rfl) ?_
          refine lv_aload_n hx hb dX8_begin_60 rfl (lv_at hl 0 rfl) ?_
          refine xg (ci := 7) (C := RX8) (T := TX8) (N := 9) (v := .ref (z 6)) hx hb hts inX8 hown hK hR.1 (List.mem_of_getElem? (i := 0) rfl) rfl 2 (by decide) k_23 (fun _ h => h) rfl dX8_begin_61 ?_
          refine lv_aload_n hx hb dX8_begin_64 rfl (lv_at hl 0 rfl) ?_
          refine xg (ci := 7) (C := RX8) (T := TX8) (N := 9) (v := .ref (z 4)) hx hb hts inX8 hown hK hR.1 (List.mem_of_getElem? (i := 0) rfl) rfl 1 (by decide) k_19 (fun _ h => h) rfl dX8_begin_65 ?_
          refine xc_callV (C := RX7) (As := [.int tm, .ref (z 6), .ref (z 4)]) (rest := []) (cx := [(z 12, .inr (6, [.ref (z 13), .int tm0, .int (nI dn)])), (z 13, .inr (0, [.ref (z 14), .ref (z 15), .int (nI Cw.length)])), (z 14, .inl (cE, 180, rfs c1)), (z 15, .inl (cE, 180, rfs c2)), (z 6, .inr (5, [.ref (z 7), .int (nI Lm.length)])), (z 7, .inl (cE, 120, rfs f2)), (z 4, .inr (5, [.ref (z 5), .int (nI Ls.length)])), (z 5, .inl (cE, 120, rfs f1))]) (wr := (([0, 1, 2, 3, 8, 9, 10, 11, 16, 17, 18] : List Nat).filterMap (fun i => (kX cB cI cE cS z T.length g fb Ls.length f1 Lm.length f2 Lr.length f3 Sn.length fh tm0 dn Cw.length c1 c2 C2.length c3 c4 cho st)[i]?))) (c_start l hT hcr hr2 hr1 hlen tm) ⟨hx, hb, hml, hown, hts⟩ (cwV 3 hts gX8_begin_X7_start rfl rfl rfl (by decide +kernel) ⟨Nat.le_of_ble_eq_true rfl, Nat.le_of_ble_eq_true rfl⟩) hK hZ hR hA (xrecv (ci := 6) hK hR.1 rfl (List.mem_of_getElem? (i := 12) rfl)) [12, 13, 14, 15, 6, 7, 4, 5] [0, 1, 2, 3, 8, 9, 10, 11, 16, 17, 18] rfl rfl (by decide) (by decide) (by decide) rfl hl.1 rfl (Nat.le_of_ble_eq_true rfl) dX8_begin_68 ⟨Nat.le_of_ble_eq_true rfl, Nat.le_of_ble_eq_true rfl⟩ (fun r_8 X_r_8 nw_r_8 H locs hr_8 hR => ?_)
          obtain ⟨rfl, rfl, g1, g2, rfl, hg⟩ := hr_8
          have hR : rR G A s.heap _ _ ((kX cB cI cE cS z T.length g fb Ls.length f1 Lm.length f2 Lr.length f3 Sn.length fh tm 0 ((chg Lm Ls).length) g1 g2 C2.length c3 c4 cho st) ++ pl) := xc_perm (xc_nil hR) [0, 1, 2, 3, 17, 18, 15, 16, 4, 5, 6, 7, 11, 12, 13, 14, 8, 9, 10] rfl (by decide)
          refine lv_aload_n hx hb dX8_begin_71 rfl (lv_at hl 0 rfl) ?_
          refine lv_iconst (v := nI 1) hx hb dX8_begin_72 rfl ?_
          refine va_put (D := G) (ci := 7) (v := .int (nI 1)) (ty := .int) (C := RX8) (T := TX8) (N := 9) hx hb hts inX8 tyX8 tyX8_ok nmX8 hown hK hR.1 hR.2.1 hR.2.2 0 rfl rfl 8 (by decide) k_54 (fun _ h => h) rfl (by decide +kernel) rfl rfl (Nat.le_of_ble_eq_true rfl) dX8_begin_73 (fun H locs hP hD hS => ?_)
          have hR : rR G A s.heap _ _ ((kX cB cI cE cS z T.length g fb Ls.length f1 Lm.length f2 Lr.length f3 Sn.length fh tm 0 ((chg Lm Ls).length) g1 g2 C2.length c3 c4 cho 1) ++ pl) := ⟨hP, hD, hS⟩
          refine lv_aload_n hx hb dX8_begin_76 rfl (lv_at hl 0 rfl) ?_
          refine xg (ci := 7) (C := RX8) (T := TX8) (N := 9) (v := .ref (z 12)) hx hb hts inX8 hown hK hR.1 (List.mem_of_getElem? (i := 0) rfl) rfl 5 (by decide) k_39 (fun _ h => h) rfl dX8_begin_77 ?_
          refine pf_callV (C := RX7) (As := []) (rest := []) (p_wops l hT (cRows.rep hg (List.mem_of_getElem? (i := 13) rfl) (List.mem_of_getElem? (i := 14) rfl) (List.mem_of_getElem? (i := 15) rfl)) (List.mem_of_getElem? (i := 12) rfl) (by omega)) ⟨hx, hb, hml, hown, hts⟩ (cwV 0 hts gX8_begin_X7_operations rfl rfl rfl (by decide +kernel) ⟨Nat.le_of_ble_eq_true rfl, Nat.le_of_ble_eq_true rfl⟩) hK hR.1 (xrecv (ci := 6) hK hR.1 rfl (List.mem_of_getElem? (i := 12) rfl)) rfl hl.1 rfl (Nat.le_of_ble_eq_true rfl) dX8_begin_80 ⟨Nat.le_of_ble_eq_true rfl, Nat.le_of_ble_eq_true rfl⟩ (fun r_9 hr_9 => ?_)
          subst hr_9
          rw [hQ]
          refine vx_ret ?_
          refine W.widen (k := 1) (n := 6) (by omega) (by omega) ?_
          refine xc_iret (X1 := (kX cB cI cE cS z T.length g fb Ls.length f1 Lm.length f2 Lr.length f3 Sn.length fh tm 0 ((chg Lm Ls).length) g1 g2 C2.length c3 c4 cho 1)) (nw := []) hx hb hr hlocks ?_ ?_ dX8_begin_83
          · rw [List.append_nil]; exact hR
          · try rw [List.append_nil]
            exact ⟨rfl, by omega, by omega, by omega, by omega, ⟨_, _, _, _, _, _, _, _, _, _, rfl, hrd, htp, hr1, hr2, hr3, hhr, hg, hcr2⟩⟩
        · rw [hQ]
          refine xc_throw (X := (kX cB cI cE cS z T.length g fb Ls.length f1 Lm.length f2 Lr.length f3 Sn.length fh tm0 dn Cw.length c1 c2 C2.length c3 c4 cho st)) (nw := []) IAE 92 96 196 "the time is not above the latest one" xfit_iae xg_iae xn_iae hx hb hlt hown hts hZ (by decide +kernel) (by decide +kernel) (by decide +kernel) (by decide +kernel) hU ?_ ?_ (hl.1.trans hml.symm) dX8_begin_45 dX8_begin_48 dX8_begin_49 dX8_begin_51 dX8_begin_54 htb (Nat.le_of_ble_eq_true rfl) (Nat.le_of_ble_eq_true rfl) (Nat.le_of_ble_eq_true rfl) (Nat.le_of_ble_eq_true rfl) hlocks (Nat.le_of_ble_eq_true rfl) (Nat.le_of_ble_eq_true rfl)
          · rw [List.append_nil]; exact hR
          · try rw [List.append_nil]
            exact (Or.inr ⟨rfl, by omega, by omega, by omega, ⟨_, _, _, _, _, _, _, _, _, _, rfl, hrd, htp, hr1, hr2, hr3, hhr, hcr, hcr2⟩⟩)
    · have c_3 := of_decide_eq_true c_3
      rw [hQ]
      refine xc_throw (X := (kX cB cI cE cS z T.length g fb Ls.length f1 Lm.length f2 Lr.length f3 Sn.length fh tm0 dn Cw.length c1 c2 C2.length c3 c4 cho st)) (nw := []) ISE 65 69 191 "not at rest, or too many sessions" xfit_ise xg_ise xn_ise hx hb hlt hown hts hZ (by decide +kernel) (by decide +kernel) (by decide +kernel) (by decide +kernel) hU ?_ ?_ (hl.1.trans hml.symm) dX8_begin_17 dX8_begin_20 dX8_begin_21 dX8_begin_23 dX8_begin_26 htb (Nat.le_of_ble_eq_true rfl) (Nat.le_of_ble_eq_true rfl) (Nat.le_of_ble_eq_true rfl) (Nat.le_of_ble_eq_true rfl) hlocks (Nat.le_of_ble_eq_true rfl) (Nat.le_of_ble_eq_true rfl)
      · rw [List.append_nil]; exact hR
      · try rw [List.append_nil]
        exact (Or.inl ⟨rfl, by omega, ⟨_, _, _, _, _, _, _, _, _, _, rfl, hrd, htp, hr1, hr2, hr3, hhr, hcr, hcr2⟩⟩)
set_option maxHeartbeats 4000000 in
set_option maxRecDepth 100000 in
theorem K_restore (l : Launch) {G : va_G} {tys : List (ClassId × FieldType)} {cB cI cE cS : ClassId} (hT : tys = [(cB, .byte), (cI, .int), (cE, .object RX1), (cS, .object RX4)]) {pl : va_W} {sz : Nat} (hlt : l.stackTraces = false) {z : Nat → Nat} {X : va_W} {T rd : List Nat} {Ls Lm Lr : List En} {Sn : List Se} {Cw C2 : List Cg} {tm0 : Int32} {dn : Nat} {cho : Int32} {st : Nat} (hk : kRep cB cI cE cS z X pl T rd Ls Lm Lr Sn Cw C2 tm0 dn cho st) (tm : Int32) (hst9 : st ≤ 2) : xMet l yX8_restore wsX8_restore ({ frames := 6, cells := 1, slots := 6, locals := 82 } : Room) G tys [.ref (z 0), .int tm] X pl sz 1 6 (fun o9 X1 nw => st = 0 ∧ ∃ k, (ltst (fun k => (Sn.getD k s0).1) tm Sn.length) = nI k ∧ k < Sn.length ∧ o9 = some (.int (nI (Sn.getD k s0).2.2.length)) ∧ kRep cB cI cE cS z X1 (pl ++ nw) T rd Ls Lm ((Sn.getD k s0).2.2) Sn Cw C2 tm0 dn cho st) (fun E X1 nw => E = ISE ∧ (st ≠ 0 ∨ ¬ (0 ≤ (ltst (fun k => (Sn.getD k s0).1) tm Sn.length).toInt ∧ (ltst (fun k => (Sn.getD k s0).1) tm Sn.length).toInt < Sn.length)) ∧ kRep cB cI cE cS z X1 (pl ++ nw) T rd Ls Lm Lr Sn Cw C2 tm0 dn cho st) := by
  obtain ⟨g, fb, f1, f2, f3, fh, c1, c2, c3, c4, rfl, hrd, htp, hr1, hr2, hr3, hhr, hcr, hcr2⟩ := hk
  have hT0 : tys[0]? = some (cB, .byte) := by rw [hT]; rfl
  have hT1 : tys[1]? = some (cI, .int) := by rw [hT]; rfl
  have hT2 : tys[2]? = some (cE, .object RX1) := by rw [hT]; rfl
  have hT3 : tys[3]? = some (cS, .object RX4) := by rw [hT]; rfl
  refine vx_ofW (cc := cX8_restore) (maxL := 3) (ret := (some .int)) (by decide) rfl ?_
  intro p e s m args below meth c s₁ B hml htb hv
  obtain ⟨hargs, ⟨hsz, hP, hK, hD0, hZ⟩, hU⟩ := hv
  have hx := B.exec
  have hb := B.bytes
  have hr := B.returns
  have hts := atoms_spec (ws := wsX8_restore) B.pre
  have hown : s.vm.findClass RX8 = some m.cls := findClass_of_methodNamed B.named
  have hlocks := B.notSynchronized
  subst hsz
  have hD := hD0.self (sz := s.heap.size)
  obtain ⟨A, hAe⟩ : ∃ A : Nat → Prop, A = va_A ((kX cB cI cE cS z T.length g fb Ls.length f1 Lm.length f2 Lr.length f3 Sn.length fh tm0 dn Cw.length c1 c2 C2.length c3 c4 cho st) ++ pl) s.heap.size := ⟨_, rfl⟩
  rw [← hAe] at hD hU
  have hA : ∀ q : Nat, s.heap.size ≤ q → A q := fun q h => by rw [hAe]; exact Or.inr h
  have inX4 : ∀ w ∈ wsX40, w ∈ wsX8_restore := by decide +kernel
  have inX8 : ∀ w ∈ wsX80, w ∈ wsX8_restore := by decide +kernel
  have k_26 := hts (.fieldLink RX8 26 "MirrorKeep" "result" "LMirrorKeep$Tree;") (by decide +kernel)
  have k_32 := hts (.fieldLink RX8 32 "MirrorKeep" "history" "LMirrorKeep$History;") (by decide +kernel)
  have k_54 := hts (.fieldLink RX8 54 "MirrorKeep" "state" "I") (by decide +kernel)
  have k_239 := hts (.fieldLink RX8 239 "MirrorKeep$Session" "tree" "LMirrorKeep$Tree;") (by decide +kernel)
  have hR : rR G A s.heap s.heap [] ((kX cB cI cE cS z T.length g fb Ls.length f1 Lm.length f2 Lr.length f3 Sn.length fh tm0 dn Cw.length c1 c2 C2.length c3 c4 cho st) ++ pl) := ⟨hP, hD, va_S.rf⟩
  obtain ⟨Q, hQ⟩ : ∃ Q : State → Prop, Q = vx_MQ below (cQ G A pl (fun o9 X1 nw => st = 0 ∧ ∃ k, (ltst (fun k => (Sn.getD k s0).1) tm Sn.length) = nI k ∧ k < Sn.length ∧ o9 = some (.int (nI (Sn.getD k s0).2.2.length)) ∧ kRep cB cI cE cS z X1 (pl ++ nw) T rd Ls Lm ((Sn.getD k s0).2.2) Sn Cw C2 tm0 dn cho st)) (xX G A pl (fun E X1 nw => E = ISE ∧ (st ≠ 0 ∨ ¬ (0 ≤ (ltst (fun k => (Sn.getD k s0).1) tm Sn.length).toInt ∧ (ltst (fun k => (Sn.getD k s0).1) tm Sn.length).toInt < Sn.length)) ∧ kRep cB cI cE cS z X1 (pl ++ nw) T rd Ls Lm Lr Sn Cw C2 tm0 dn cho st)) args s 1 6 A := ⟨_, rfl⟩
  change W p l e ({ frames := 6, cells := 1, slots := 6, locals := 82 } : Room) s m args below meth c s.heap [] 0 0 (vx_MQ below (cQ G (va_A ((kX cB cI cE cS z T.length g fb Ls.length f1 Lm.length f2 Lr.length f3 Sn.length fh tm0 dn Cw.length c1 c2 C2.length c3 c4 cho st) ++ pl) s.heap.size) pl (fun o9 X1 nw => st = 0 ∧ ∃ k, (ltst (fun k => (Sn.getD k s0).1) tm Sn.length) = nI k ∧ k < Sn.length ∧ o9 = some (.int (nI (Sn.getD k s0).2.2.length)) ∧ kRep cB cI cE cS z X1 (pl ++ nw) T rd Ls Lm ((Sn.getD k s0).2.2) Sn Cw C2 tm0 dn cho st)) (xX G (va_A ((kX cB cI cE cS z T.length g fb Ls.length f1 Lm.length f2 Lr.length f3 Sn.length fh tm0 dn Cw.length c1 c2 C2.length c3 c4 cho st) ++ pl) s.heap.size) pl (fun E X1 nw => E = ISE ∧ (st ≠ 0 ∨ ¬ (0 ≤ (ltst (fun k => (Sn.getD k s0).1) tm Sn.length).toInt ∧ (ltst (fun k => (Sn.getD k s0).1) tm Sn.length).toInt < Sn.length)) ∧ kRep cB cI cE cS z X1 (pl ++ nw) T rd Ls Lm Lr Sn Cw C2 tm0 dn cho st)) args s 1 6 (va_A ((kX cB cI cE cS z T.length g fb Ls.length f1 Lm.length f2 Lr.length f3 Sn.length fh tm0 dn Cw.length c1 c2 C2.length c3 c4 cho st) ++ pl) s.heap.size)) (entryFrame m args 3)
  rw [← hAe]
  rw [← hQ]
  refine nn_entry hargs (Nat.le_of_ble_eq_true rfl) (lv := [(0, .ref (z 0)), (1, .int tm)]) rfl (fun ls hl => ?_)
  refine lv_aload_n hx hb dX8_restore_0 rfl (lv_at hl 0 rfl) ?_
  refine xg (ci := 7) (C := RX8) (T := TX8) (N := 9) (v := .ref (z 10)) hx hb hts inX8 hown hK hR.1 (List.mem_of_getElem? (i := 0) rfl) rfl 4 (by decide) k_32 (fun _ h => h) rfl dX8_restore_1 ?_
  refine lv_aload_n hx hb dX8_restore_4 rfl (lv_at hl 0 rfl) ?_
  refine xg (ci := 7) (C := RX8) (T := TX8) (N := 9) (v := .ref (z 10)) hx hb hts inX8 hown hK hR.1 (List.mem_of_getElem? (i := 0) rfl) rfl 4 (by decide) k_32 (fun _ h => h) rfl dX8_restore_5 ?_
  refine lv_iload_n hx hb dX8_restore_8 rfl (lv_at hl 1 rfl) ?_
  refine pf_callV (C := RX2) (As := [.int tm]) (rest := [.ref (z 10)]) (p_hfind l hT (hRows.rep hhr (List.mem_of_getElem? (i := 10) rfl) (List.mem_of_getElem? (i := 11) rfl)) tm) ⟨hx, hb, hml, hown, hts⟩ (cwV 1 hts gX8_restore_X2_findAsOf rfl rfl rfl (by decide +kernel) ⟨Nat.le_of_ble_eq_true rfl, Nat.le_of_ble_eq_true rfl⟩) hK hR.1 (xrecv (ci := 2) hK hR.1 rfl (List.mem_of_getElem? (i := 10) rfl)) rfl hl.1 rfl (Nat.le_of_ble_eq_true rfl) dX8_restore_9 ⟨Nat.le_of_ble_eq_true rfl, Nat.le_of_ble_eq_true rfl⟩ (fun r_1 hr_1 => ?_)
  subst hr_1
  refine pf_callV (C := RX2) (As := [.int (ltst (fun k => (Sn.getD k s0).1) tm Sn.length)]) (rest := []) (p_hget l hT (hRows.rep hhr (List.mem_of_getElem? (i := 10) rfl) (List.mem_of_getElem? (i := 11) rfl)) (ltst (fun k => (Sn.getD k s0).1) tm Sn.length)) ⟨hx, hb, hml, hown, hts⟩ (cwV 1 hts gX8_restore_X2_get rfl rfl rfl (by decide +kernel) ⟨Nat.le_of_ble_eq_true rfl, Nat.le_of_ble_eq_true rfl⟩) hK hR.1 (xrecv (ci := 2) hK hR.1 rfl (List.mem_of_getElem? (i := 10) rfl)) rfl hl.1 rfl (Nat.le_of_ble_eq_true rfl) dX8_restore_12 ⟨Nat.le_of_ble_eq_true rfl, Nat.le_of_ble_eq_true rfl⟩ (fun r_2 hr_2 => ?_)
  rcases hr_2 with ⟨hr_2, rfl⟩ | ⟨k9, a9, hk9, jk9, rfl, ha9, -⟩
  · refine lv_astore_nN (lv' := [(2, .null), (0, .ref (z 0)), (1, .int tm)]) hx hb dX8_restore_15 rfl hl (by decide) rfl (fun ls hl => ?_)
    refine lv_aload_n hx hb dX8_restore_16 rfl (lv_at hl 1 rfl) ?_
    refine xg (ci := 7) (C := RX8) (T := TX8) (N := 9) (v := .int (nI st)) hx hb hts inX8 hown hK hR.1 (List.mem_of_getElem? (i := 0) rfl) rfl 8 (by decide) k_54 (fun _ h => h) rfl dX8_restore_17 ?_
    refine nz_ne hx hb dX8_restore_20 (tgt := 27) (by decide) (by omega) (fun c_4 => ?_) (fun c_4 => ?_)
    · rw [hQ]
      refine xc_throw (X := (kX cB cI cE cS z T.length g fb Ls.length f1 Lm.length f2 Lr.length f3 Sn.length fh tm0 dn Cw.length c1 c2 C2.length c3 c4 cho st)) (nw := []) ISE 65 69 237 "not at rest, or no session of that time or ahead of it" xfit_ise xg_ise xn_ise hx hb hlt hown hts hZ (by decide +kernel) (by decide +kernel) (by decide +kernel) (by decide +kernel) hU ?_ ?_ (hl.1.trans hml.symm) dX8_restore_27 dX8_restore_30 dX8_restore_31 dX8_restore_33 dX8_restore_36 htb (Nat.le_of_ble_eq_true rfl) (Nat.le_of_ble_eq_true rfl) (Nat.le_of_ble_eq_true rfl) (Nat.le_of_ble_eq_true rfl) hlocks (Nat.le_of_ble_eq_true rfl) (Nat.le_of_ble_eq_true rfl)
      · rw [List.append_nil]; exact hR
      · try rw [List.append_nil]
        exact ⟨rfl, Or.inr hr_2, ⟨_, _, _, _, _, _, _, _, _, _, rfl, hrd, htp, hr1, hr2, hr3, hhr, hcr, hcr2⟩⟩
    · refine lv_aload_nN hx hb dX8_restore_23 rfl (lv_at hl 0 rfl) ?_
      refine lv_ifnonnullN hx hb dX8_restore_24 ?_
      rw [hQ]
      refine xc_throw (X := (kX cB cI cE cS z T.length g fb Ls.length f1 Lm.length f2 Lr.length f3 Sn.length fh tm0 dn Cw.length c1 c2 C2.length c3 c4 cho st)) (nw := []) ISE 65 69 237 "not at rest, or no session of that time or ahead of it" xfit_ise xg_ise xn_ise hx hb hlt hown hts hZ (by decide +kernel) (by decide +kernel) (by decide +kernel) (by decide +kernel) hU ?_ ?_ (hl.1.trans hml.symm) dX8_restore_27 dX8_restore_30 dX8_restore_31 dX8_restore_33 dX8_restore_36 htb (Nat.le_of_ble_eq_true rfl) (Nat.le_of_ble_eq_true rfl) (Nat.le_of_ble_eq_true rfl) (Nat.le_of_ble_eq_true rfl) hlocks (Nat.le_of_ble_eq_true rfl) (Nat.le_of_ble_eq_true rfl)
      · rw [List.append_nil]; exact hR
      · try rw [List.append_nil]
        exact ⟨rfl, Or.inr hr_2, ⟨_, _, _, _, _, _, _, _, _, _, rfl, hrd, htp, hr1, hr2, hr3, hhr, hcr, hcr2⟩⟩
  · have gs9 := se_row hhr (h := ha9) jk9
    obtain ⟨ts9, rs9, fs9, hms9, hts9⟩ := id gs9
    refine lv_astore_n (lv' := [(2, .ref a9), (0, .ref (z 0)), (1, .int tm)]) hx hb dX8_restore_15 rfl hl (by decide) rfl (fun ls hl => ?_)
    refine lv_aload_n hx hb dX8_restore_16 rfl (lv_at hl 1 rfl) ?_
    refine xg (ci := 7) (C := RX8) (T := TX8) (N := 9) (v := .int (nI st)) hx hb hts inX8 hown hK hR.1 (List.mem_of_getElem? (i := 0) rfl) rfl 8 (by decide) k_54 (fun _ h => h) rfl dX8_restore_17 ?_
    refine nz_ne hx hb dX8_restore_20 (tgt := 27) (by decide) (by omega) (fun c_5 => ?_) (fun c_5 => ?_)
    · rw [hQ]
      refine xc_throw (X := (kX cB cI cE cS z T.length g fb Ls.length f1 Lm.length f2 Lr.length f3 Sn.length fh tm0 dn Cw.length c1 c2 C2.length c3 c4 cho st)) (nw := []) ISE 65 69 237 "not at rest, or no session of that time or ahead of it" xfit_ise xg_ise xn_ise hx hb hlt hown hts hZ (by decide +kernel) (by decide +kernel) (by decide +kernel) (by decide +kernel) hU ?_ ?_ (hl.1.trans hml.symm) dX8_restore_27 dX8_restore_30 dX8_restore_31 dX8_restore_33 dX8_restore_36 htb (Nat.le_of_ble_eq_true rfl) (Nat.le_of_ble_eq_true rfl) (Nat.le_of_ble_eq_true rfl) (Nat.le_of_ble_eq_true rfl) hlocks (Nat.le_of_ble_eq_true rfl) (Nat.le_of_ble_eq_true rfl)
      · rw [List.append_nil]; exact hR
      · try rw [List.append_nil]
        exact ⟨rfl, Or.inl (by omega), ⟨_, _, _, _, _, _, _, _, _, _, rfl, hrd, htp, hr1, hr2, hr3, hhr, hcr, hcr2⟩⟩
    · refine lv_aload_n hx hb dX8_restore_23 rfl (lv_at hl 0 rfl) ?_
      refine lv_ifnonnull hx hb dX8_restore_24 (tgt := 37) (by decide) ?_
      refine lv_aload_n hx hb dX8_restore_37 rfl (lv_at hl 1 rfl) ?_
      refine xg (ci := 7) (C := RX8) (T := TX8) (N := 9) (v := .ref (z 8)) hx hb hts inX8 hown hK hR.1 (List.mem_of_getElem? (i := 0) rfl) rfl 3 (by decide) k_26 (fun _ h => h) rfl dX8_restore_38 ?_
      refine lv_aload_n hx hb dX8_restore_41 rfl (lv_at hl 0 rfl) ?_
      refine xg (ci := 3) (C := RX4) (T := TX4) (N := 3) (v := .ref ts9) hx hb hts inX4 hown hK hR.1 (List.mem_append_right _ hms9) rfl 2 (by decide) k_239 (fun _ h => h) rfl dX8_restore_42 ?_
      refine xc_callV (C := RX6) (As := [.ref ts9]) (rest := []) (cx := [(z 8, .inr (5, [.ref (z 9), .int (nI Lr.length)])), (z 9, .inl (cE, 120, rfs f3))]) (wr := (([0, 1, 2, 3, 4, 5, 6, 7, 10, 11, 12, 13, 14, 15, 16, 17, 18] : List Nat).filterMap (fun i => (kX cB cI cE cS z T.length g fb Ls.length f1 Lm.length f2 Lr.length f3 Sn.length fh tm0 dn Cw.length c1 c2 C2.length c3 c4 cho st)[i]?))) (c_copyFromP l hT hts9.2.2 hts9.1 hts9.2.1) ⟨hx, hb, hml, hown, hts⟩ (cwV 1 hts gX8_restore_X6_copyFrom rfl rfl rfl (by decide +kernel) ⟨Nat.le_of_ble_eq_true rfl, Nat.le_of_ble_eq_true rfl⟩) hK hZ hR hA (xrecv (ci := 5) hK hR.1 rfl (List.mem_of_getElem? (i := 8) rfl)) [8, 9] [0, 1, 2, 3, 4, 5, 6, 7, 10, 11, 12, 13, 14, 15, 16, 17, 18] rfl rfl (by decide) (by decide) (by decide) rfl hl.1 rfl (Nat.le_of_ble_eq_true rfl) dX8_restore_45 ⟨Nat.le_of_ble_eq_true rfl, Nat.le_of_ble_eq_true rfl⟩ (fun r_6 X_r_6 nw_r_6 H locs hr_6 hR => ?_)
      obtain ⟨rfl, rfl, g3, rfl, hg3⟩ := hr_6
      have hR : rR G A s.heap _ _ ((kX cB cI cE cS z T.length g fb Ls.length f1 Lm.length f2 ((Sn.getD k9 s0).2.2.length) g3 Sn.length fh tm0 dn Cw.length c1 c2 C2.length c3 c4 cho st) ++ pl) := xc_perm (xc_nil hR) [0, 1, 2, 3, 4, 5, 6, 7, 17, 18, 8, 9, 10, 11, 12, 13, 14, 15, 16] rfl (by decide)
      refine lv_aload_n hx hb dX8_restore_48 rfl (lv_at hl 1 rfl) ?_
      refine xg (ci := 7) (C := RX8) (T := TX8) (N := 9) (v := .ref (z 8)) hx hb hts inX8 hown hK hR.1 (List.mem_of_getElem? (i := 0) rfl) rfl 3 (by decide) k_26 (fun _ h => h) rfl dX8_restore_49 ?_
      refine pf_callV (C := RX6) (As := []) (rest := []) (p_tsize l hT (⟨(List.mem_of_getElem? (i := 8) rfl), (List.mem_of_getElem? (i := 9) rfl), (hg3.mono xpm)⟩ : tRep ((kX cB cI cE cS z T.length g fb Ls.length f1 Lm.length f2 ((Sn.getD k9 s0).2.2.length) g3 Sn.length fh tm0 dn Cw.length c1 c2 C2.length c3 c4 cho st) ++ pl) cB cE (z 8) (z 9) g3 ((Sn.getD k9 s0).2.2))) ⟨hx, hb, hml, hown, hts⟩ (cwV 0 hts gX8_restore_X6_size rfl rfl rfl (by decide +kernel) ⟨Nat.le_of_ble_eq_true rfl, Nat.le_of_ble_eq_true rfl⟩) hK hR.1 (xrecv (ci := 5) hK hR.1 rfl (List.mem_of_getElem? (i := 8) rfl)) rfl hl.1 rfl (Nat.le_of_ble_eq_true rfl) dX8_restore_52 ⟨Nat.le_of_ble_eq_true rfl, Nat.le_of_ble_eq_true rfl⟩ (fun r_7 hr_7 => ?_)
      subst hr_7
      rw [hQ]
      refine vx_ret ?_
      refine W.widen (k := 1) (n := 6) (by omega) (by omega) ?_
      refine xc_iret (X1 := (kX cB cI cE cS z T.length g fb Ls.length f1 Lm.length f2 ((Sn.getD k9 s0).2.2.length) g3 Sn.length fh tm0 dn Cw.length c1 c2 C2.length c3 c4 cho st)) (nw := []) hx hb hr hlocks ?_ ?_ dX8_restore_55
      · rw [List.append_nil]; exact hR
      · try rw [List.append_nil]
        exact ⟨by omega, k9, hk9, jk9, rfl, ⟨_, _, _, _, _, _, _, _, _, _, rfl, hrd, htp, hr1, hr2, hg3, hhr, hcr, hcr2⟩⟩
set_option maxHeartbeats 4000000 in
set_option maxRecDepth 100000 in
theorem K_prune (l : Launch) {G : va_G} {tys : List (ClassId × FieldType)} {cB cI cE cS : ClassId} (hT : tys = [(cB, .byte), (cI, .int), (cE, .object RX1), (cS, .object RX4)]) {pl : va_W} {sz : Nat} (hlt : l.stackTraces = false) {z : Nat → Nat} {X : va_W} {T rd : List Nat} {Ls Lm Lr : List En} {Sn : List Se} {Cw C2 : List Cg} {tm0 : Int32} {dn : Nat} {cho : Int32} {st : Nat} (hk : kRep cB cI cE cS z X pl T rd Ls Lm Lr Sn Cw C2 tm0 dn cho st) (tm : Int32) (hst9 : st ≤ 2) : xMet l yX8_prune wsX8_prune ({ frames := 6, cells := 1, slots := 6, locals := 82 } : Room) G tys [.ref (z 0), .int tm] X pl sz 1 6 (fun o9 X1 nw => st = 0 ∧ ((¬ (0 < (ltst (fun k => (Sn.getD k s0).1) tm Sn.length).toInt ∧ (ltst (fun k => (Sn.getD k s0).1) tm Sn.length).toInt < Sn.length) ∧ o9 = some (.int (nI 0)) ∧ kRep cB cI cE cS z X1 (pl ++ nw) T rd Ls Lm Lr Sn Cw C2 tm0 dn cho st) ∨ ∃ k, (ltst (fun k => (Sn.getD k s0).1) tm Sn.length) = nI k ∧ 0 < k ∧ k < Sn.length ∧ o9 = some (.int (nI k)) ∧ kRep cB cI cE cS z X1 (pl ++ nw) T rd Ls Lm Lr (Sn.drop k) Cw C2 tm0 dn cho st)) (fun E X1 nw => E = ISE ∧ st ≠ 0 ∧ kRep cB cI cE cS z X1 (pl ++ nw) T rd Ls Lm Lr Sn Cw C2 tm0 dn cho st) := by
  obtain ⟨g, fb, f1, f2, f3, fh, c1, c2, c3, c4, rfl, hrd, htp, hr1, hr2, hr3, hhr, hcr, hcr2⟩ := hk
  have hT0 : tys[0]? = some (cB, .byte) := by rw [hT]; rfl
  have hT1 : tys[1]? = some (cI, .int) := by rw [hT]; rfl
  have hT2 : tys[2]? = some (cE, .object RX1) := by rw [hT]; rfl
  have hT3 : tys[3]? = some (cS, .object RX4) := by rw [hT]; rfl
  refine vx_ofW (cc := cX8_prune) (maxL := 2) (ret := (some .int)) (by decide) rfl ?_
  intro p e s m args below meth c s₁ B hml htb hv
  obtain ⟨hargs, ⟨hsz, hP, hK, hD0, hZ⟩, hU⟩ := hv
  have hx := B.exec
  have hb := B.bytes
  have hr := B.returns
  have hts := atoms_spec (ws := wsX8_prune) B.pre
  have hown : s.vm.findClass RX8 = some m.cls := findClass_of_methodNamed B.named
  have hlocks := B.notSynchronized
  subst hsz
  have hD := hD0.self (sz := s.heap.size)
  obtain ⟨A, hAe⟩ : ∃ A : Nat → Prop, A = va_A ((kX cB cI cE cS z T.length g fb Ls.length f1 Lm.length f2 Lr.length f3 Sn.length fh tm0 dn Cw.length c1 c2 C2.length c3 c4 cho st) ++ pl) s.heap.size := ⟨_, rfl⟩
  rw [← hAe] at hD hU
  have hA : ∀ q : Nat, s.heap.size ≤ q → A q := fun q h => by rw [hAe]; exact Or.inr h
  have inX8 : ∀ w ∈ wsX80, w ∈ wsX8_prune := by decide +kernel
  have k_32 := hts (.fieldLink RX8 32 "MirrorKeep" "history" "LMirrorKeep$History;") (by decide +kernel)
  have k_54 := hts (.fieldLink RX8 54 "MirrorKeep" "state" "I") (by decide +kernel)
  have hR : rR G A s.heap s.heap [] ((kX cB cI cE cS z T.length g fb Ls.length f1 Lm.length f2 Lr.length f3 Sn.length fh tm0 dn Cw.length c1 c2 C2.length c3 c4 cho st) ++ pl) := ⟨hP, hD, va_S.rf⟩
  obtain ⟨Q, hQ⟩ : ∃ Q : State → Prop, Q = vx_MQ below (cQ G A pl (fun o9 X1 nw => st = 0 ∧ ((¬ (0 < (ltst (fun k => (Sn.getD k s0).1) tm Sn.length).toInt ∧ (ltst (fun k => (Sn.getD k s0).1) tm Sn.length).toInt < Sn.length) ∧ o9 = some (.int (nI 0)) ∧ kRep cB cI cE cS z X1 (pl ++ nw) T rd Ls Lm Lr Sn Cw C2 tm0 dn cho st) ∨ ∃ k, (ltst (fun k => (Sn.getD k s0).1) tm Sn.length) = nI k ∧ 0 < k ∧ k < Sn.length ∧ o9 = some (.int (nI k)) ∧ kRep cB cI cE cS z X1 (pl ++ nw) T rd Ls Lm Lr (Sn.drop k) Cw C2 tm0 dn cho st))) (xX G A pl (fun E X1 nw => E = ISE ∧ st ≠ 0 ∧ kRep cB cI cE cS z X1 (pl ++ nw) T rd Ls Lm Lr Sn Cw C2 tm0 dn cho st)) args s 1 6 A := ⟨_, rfl⟩
  change W p l e ({ frames := 6, cells := 1, slots := 6, locals := 82 } : Room) s m args below meth c s.heap [] 0 0 (vx_MQ below (cQ G (va_A ((kX cB cI cE cS z T.length g fb Ls.length f1 Lm.length f2 Lr.length f3 Sn.length fh tm0 dn Cw.length c1 c2 C2.length c3 c4 cho st) ++ pl) s.heap.size) pl (fun o9 X1 nw => st = 0 ∧ ((¬ (0 < (ltst (fun k => (Sn.getD k s0).1) tm Sn.length).toInt ∧ (ltst (fun k => (Sn.getD k s0).1) tm Sn.length).toInt < Sn.length) ∧ o9 = some (.int (nI 0)) ∧ kRep cB cI cE cS z X1 (pl ++ nw) T rd Ls Lm Lr Sn Cw C2 tm0 dn cho st) ∨ ∃ k, (ltst (fun k => (Sn.getD k s0).1) tm Sn.length) = nI k ∧ 0 < k ∧ k < Sn.length ∧ o9 = some (.int (nI k)) ∧ kRep cB cI cE cS z X1 (pl ++ nw) T rd Ls Lm Lr (Sn.drop k) Cw C2 tm0 dn cho st))) (xX G (va_A ((kX cB cI cE cS z T.length g fb Ls.length f1 Lm.length f2 Lr.length f3 Sn.length fh tm0 dn Cw.length c1 c2 C2.length c3 c4 cho st) ++ pl) s.heap.size) pl (fun E X1 nw => E = ISE ∧ st ≠ 0 ∧ kRep cB cI cE cS z X1 (pl ++ nw) T rd Ls Lm Lr Sn Cw C2 tm0 dn cho st)) args s 1 6 (va_A ((kX cB cI cE cS z T.length g fb Ls.length f1 Lm.length f2 Lr.length f3 Sn.length fh tm0 dn Cw.length c1 c2 C2.length c3 c4 cho st) ++ pl) s.heap.size)) (entryFrame m args 2)
  rw [← hAe]
  rw [← hQ]
  refine nn_entry hargs (Nat.le_of_ble_eq_true rfl) (lv := [(0, .ref (z 0)), (1, .int tm)]) rfl (fun ls hl => ?_)
  refine lv_aload_n hx hb dX8_prune_0 rfl (lv_at hl 0 rfl) ?_
  refine xg (ci := 7) (C := RX8) (T := TX8) (N := 9) (v := .int (nI st)) hx hb hts inX8 hown hK hR.1 (List.mem_of_getElem? (i := 0) rfl) rfl 8 (by decide) k_54 (fun _ h => h) rfl dX8_prune_1 ?_
  refine nz_eq hx hb dX8_prune_4 (tgt := 17) (by decide) (by omega) (fun c_1 => ?_) (fun c_1 => ?_)
  · refine lv_aload_n hx hb dX8_prune_17 rfl (lv_at hl 0 rfl) ?_
    refine xg (ci := 7) (C := RX8) (T := TX8) (N := 9) (v := .ref (z 10)) hx hb hts inX8 hown hK hR.1 (List.mem_of_getElem? (i := 0) rfl) rfl 4 (by decide) k_32 (fun _ h => h) rfl dX8_prune_18 ?_
    refine lv_aload_n hx hb dX8_prune_21 rfl (lv_at hl 0 rfl) ?_
    refine xg (ci := 7) (C := RX8) (T := TX8) (N := 9) (v := .ref (z 10)) hx hb hts inX8 hown hK hR.1 (List.mem_of_getElem? (i := 0) rfl) rfl 4 (by decide) k_32 (fun _ h => h) rfl dX8_prune_22 ?_
    refine lv_iload_n hx hb dX8_prune_25 rfl (lv_at hl 1 rfl) ?_
    refine pf_callV (C := RX2) (As := [.int tm]) (rest := [.ref (z 10)]) (p_hfind l hT (hRows.rep hhr (List.mem_of_getElem? (i := 10) rfl) (List.mem_of_getElem? (i := 11) rfl)) tm) ⟨hx, hb, hml, hown, hts⟩ (cwV 1 hts gX8_prune_X2_findAsOf rfl rfl rfl (by decide +kernel) ⟨Nat.le_of_ble_eq_true rfl, Nat.le_of_ble_eq_true rfl⟩) hK hR.1 (xrecv (ci := 2) hK hR.1 rfl (List.mem_of_getElem? (i := 10) rfl)) rfl hl.1 rfl (Nat.le_of_ble_eq_true rfl) dX8_prune_26 ⟨Nat.le_of_ble_eq_true rfl, Nat.le_of_ble_eq_true rfl⟩ (fun r_2 hr_2 => ?_)
    subst hr_2
    refine xc_callV (C := RX2) (As := [.int (ltst (fun k => (Sn.getD k s0).1) tm Sn.length)]) (rest := []) (cx := [(z 10, .inr (2, [.ref (z 11), .int (nI Sn.length)])), (z 11, .inl (cS, 40, rfs fh))]) (wr := (([0, 1, 2, 3, 4, 5, 6, 7, 8, 9, 12, 13, 14, 15, 16, 17, 18] : List Nat).filterMap (fun i => (kX cB cI cE cS z T.length g fb Ls.length f1 Lm.length f2 Lr.length f3 Sn.length fh tm0 dn Cw.length c1 c2 C2.length c3 c4 cho st)[i]?))) (c_forget l hT hhr (ltst (fun k => (Sn.getD k s0).1) tm Sn.length)) ⟨hx, hb, hml, hown, hts⟩ (cwV 1 hts gX8_prune_X2_forgetAheadOf rfl rfl rfl (by decide +kernel) ⟨Nat.le_of_ble_eq_true rfl, Nat.le_of_ble_eq_true rfl⟩) hK hZ hR hA (xrecv (ci := 2) hK hR.1 rfl (List.mem_of_getElem? (i := 10) rfl)) [10, 11] [0, 1, 2, 3, 4, 5, 6, 7, 8, 9, 12, 13, 14, 15, 16, 17, 18] rfl rfl (by decide) (by decide) (by decide) rfl hl.1 rfl (Nat.le_of_ble_eq_true rfl) dX8_prune_29 ⟨Nat.le_of_ble_eq_true rfl, Nat.le_of_ble_eq_true rfl⟩ (fun r9 X_9 nw_9 H locs h9 hR => ?_)
    rcases h9 with h9 | h9
    · obtain ⟨ho, rfl, rfl, rfl⟩ := h9
      have hR : rR G A s.heap _ _ ((kX cB cI cE cS z T.length g fb Ls.length f1 Lm.length f2 Lr.length f3 Sn.length fh tm0 dn Cw.length c1 c2 C2.length c3 c4 cho st) ++ pl) := xc_perm (xc_nil hR) [0, 1, 2, 3, 4, 5, 6, 7, 8, 9, 17, 18, 10, 11, 12, 13, 14, 15, 16] rfl (by decide)
      rw [hQ]
      refine vx_ret ?_
      refine W.widen (k := 1) (n := 6) (by omega) (by omega) ?_
      refine xc_iret (X1 := (kX cB cI cE cS z T.length g fb Ls.length f1 Lm.length f2 Lr.length f3 Sn.length fh tm0 dn Cw.length c1 c2 C2.length c3 c4 cho st)) (nw := []) hx hb hr hlocks ?_ ?_ dX8_prune_32
      · rw [List.append_nil]; exact hR
      · try rw [List.append_nil]
        exact ⟨by omega, Or.inl ⟨ho, rfl, ⟨_, _, _, _, _, _, _, _, _, _, rfl, hrd, htp, hr1, hr2, hr3, hhr, hcr, hcr2⟩⟩⟩
    · obtain ⟨k, g4, hk, hk1, hk2, rfl, rfl, rfl, hg4⟩ := h9
      have hR : rR G A s.heap _ _ ((kX cB cI cE cS z T.length g fb Ls.length f1 Lm.length f2 Lr.length f3 ((Sn.drop k).length) g4 tm0 dn Cw.length c1 c2 C2.length c3 c4 cho st) ++ pl) := xc_perm (xc_nil hR) [0, 1, 2, 3, 4, 5, 6, 7, 8, 9, 17, 18, 10, 11, 12, 13, 14, 15, 16] rfl (by decide)
      rw [hQ]
      refine vx_ret ?_
      refine W.widen (k := 1) (n := 6) (by omega) (by omega) ?_
      refine xc_iret (X1 := (kX cB cI cE cS z T.length g fb Ls.length f1 Lm.length f2 Lr.length f3 ((Sn.drop k).length) g4 tm0 dn Cw.length c1 c2 C2.length c3 c4 cho st)) (nw := []) hx hb hr hlocks ?_ ?_ dX8_prune_32
      · rw [List.append_nil]; exact hR
      · try rw [List.append_nil]
        exact ⟨by omega, Or.inr ⟨k, hk, hk1, hk2, rfl, ⟨_, _, _, _, _, _, _, _, _, _, rfl, hrd, htp, hr1, hr2, hr3, hg4, hcr, hcr2⟩⟩⟩
  · rw [hQ]
    refine xc_throw (X := (kX cB cI cE cS z T.length g fb Ls.length f1 Lm.length f2 Lr.length f3 Sn.length fh tm0 dn Cw.length c1 c2 C2.length c3 c4 cho st)) (nw := []) ISE 65 69 247 "not at rest" xfit_ise xg_ise xn_ise hx hb hlt hown hts hZ (by decide +kernel) (by decide +kernel) (by decide +kernel) (by decide +kernel) hU ?_ ?_ (hl.1.trans hml.symm) dX8_prune_7 dX8_prune_10 dX8_prune_11 dX8_prune_13 dX8_prune_16 htb (Nat.le_of_ble_eq_true rfl) (Nat.le_of_ble_eq_true rfl) (Nat.le_of_ble_eq_true rfl) (Nat.le_of_ble_eq_true rfl) hlocks (Nat.le_of_ble_eq_true rfl) (Nat.le_of_ble_eq_true rfl)
    · rw [List.append_nil]; exact hR
    · try rw [List.append_nil]
      exact ⟨rfl, by omega, ⟨_, _, _, _, _, _, _, _, _, _, rfl, hrd, htp, hr1, hr2, hr3, hhr, hcr, hcr2⟩⟩
