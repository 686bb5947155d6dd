set_option maxHeartbeats 4000000 in
set_option maxRecDepth 100000 in
theorem p_csize (l : Launch) {G : va_G} {tys : List (ClassId × FieldType)} {cB cI cE cS : ClassId} (hT : tys = [(cB, .byte), (cI, .int), (cE, .object RX1), (cS, .object RX4)]) {w : va_W} {ch b1 b2 : Nat} {f1 f2 : Nat → Option Nat} {C : List (Option En × Option En)} (hc : cRep w cB cE ch b1 b2 f1 f2 C) : pMet l yX0_size wsX0_size ({ frames := 0, cells := 0, slots := 0, locals := 0 } : Room) G tys [.ref ch] w (fun r => r = .int (nI C.length)) := by
  have hT0 : tys[0]? = some (cB, .byte) := by rw [hT]; rfl
  refine Met.ofW (cc := cX0_size) (maxL := 1) (ret := (some .int)) (by decide) rfl ?_
  intro p e s m args below meth c s₁ B hml hv
  obtain ⟨hargs, hP, hK⟩ := hv
  have hx := B.exec
  have hb := B.bytes
  have hr := B.returns
  have hts := atoms_spec (ws := wsX0_size) B.pre
  have hown : s.vm.findClass RX0 = some m.cls := findClass_of_methodNamed B.named
  have hlocks := B.notSynchronized
  have inX0 : ∀ w ∈ wsX00, w ∈ wsX0_size := by decide +kernel
  have k_20 := hts (.fieldLink RX0 20 "MirrorKeep$Changes" "count" "I") (by decide +kernel)
  obtain ⟨Q, hQ⟩ : ∃ Q : State → Prop, Q = MQ below (pQ (fun r => r = .int (nI C.length))) args s 0 0 (fun _ => False) := ⟨_, rfl⟩
  change W p l e ({ frames := 0, cells := 0, slots := 0, locals := 0 } : Room) s m args below meth c s.heap [] 0 0 (MQ below (pQ (fun r => r = .int (nI C.length))) args s 0 0 (fun _ => False)) (entryFrame m args 1)
  rw [← hQ]
  refine nn_entry hargs (Nat.le_of_ble_eq_true rfl) (lv := [(0, .ref ch)]) rfl (fun ls hl => ?_)
  obtain ⟨hq1, hq2, hq3, hq4, hq5⟩ := id hc
  refine lv_aload_n hx hb dX0_size_0 rfl (lv_at hl 0 rfl) ?_
  refine xg (ci := 0) (C := RX0) (T := TX0) (N := 3) (v := .int (nI C.length)) hx hb hts inX0 hown hK hP hq1 rfl 2 (by decide) k_20 (fun _ h => h) rfl dX0_size_1 ?_
  rw [hQ]
  exact pf_iret hx hb hr hlocks rfl dX0_size_4
set_option maxHeartbeats 4000000 in
set_option maxRecDepth 100000 in
theorem p_order_n (l : Launch) {G : va_G} {tys : List (ClassId × FieldType)} {cB cI cE cS : ClassId} (hT : tys = [(cB, .byte), (cI, .int), (cE, .object RX1), (cS, .object RX4)]) {w : va_W} (b : Nat) : pMet l yX0_order wsX0_order ({ frames := 1, cells := 0, slots := 0, locals := 22 } : Room) G tys [.null, .ref b] w (fun r => r = .int (nI 1)) := by
  have hT0 : tys[0]? = some (cB, .byte) := by rw [hT]; rfl
  refine Met.ofW (cc := cX0_order) (maxL := 2) (ret := (some .int)) (by decide) rfl ?_
  intro p e s m args below meth c s₁ B hml hv
  obtain ⟨hargs, hP, hK⟩ := hv
  have hx := B.exec
  have hb := B.bytes
  have hr := B.returns
  have hts := atoms_spec (ws := wsX0_order) B.pre
  have hown : s.vm.findClass RX0 = some m.cls := findClass_of_methodNamed B.named
  have hlocks := B.notSynchronized
  obtain ⟨Q, hQ⟩ : ∃ Q : State → Prop, Q = MQ below (pQ (fun r => r = .int (nI 1))) args s 0 0 (fun _ => False) := ⟨_, rfl⟩
  change W p l e ({ frames := 1, cells := 0, slots := 0, locals := 22 } : Room) s m args below meth c s.heap [] 0 0 (MQ below (pQ (fun r => r = .int (nI 1))) args s 0 0 (fun _ => False)) (entryFrame m args 2)
  rw [← hQ]
  refine nn_entry hargs (Nat.le_of_ble_eq_true rfl) (lv := [(0, .null), (1, .ref b)]) rfl (fun ls hl => ?_)
  refine lv_aload_nN hx hb dX0_order_0 rfl (lv_at hl 0 rfl) ?_
  refine lv_ifnonnullN hx hb dX0_order_1 ?_
  refine lv_iconst (v := nI 1) hx hb dX0_order_4 rfl ?_
  rw [hQ]
  exact pf_iret hx hb hr hlocks rfl dX0_order_5
set_option maxHeartbeats 4000000 in
set_option maxRecDepth 100000 in
theorem p_order_f (l : Launch) {G : va_G} {tys : List (ClassId × FieldType)} {cB cI cE cS : ClassId} (hT : tys = [(cB, .byte), (cI, .int), (cE, .object RX1), (cS, .object RX4)]) {w : va_W} {a : Nat} {u : En} (he : pEnt w cB a u) : pMet l yX0_order wsX0_order ({ frames := 1, cells := 0, slots := 0, locals := 22 } : Room) G tys [.ref a, .null] w (fun r => r = .int (-1)) := by
  have hT0 : tys[0]? = some (cB, .byte) := by rw [hT]; rfl
  refine Met.ofW (cc := cX0_order) (maxL := 2) (ret := (some .int)) (by decide) rfl ?_
  intro p e s m args below meth c s₁ B hml hv
  obtain ⟨hargs, hP, hK⟩ := hv
  have hx := B.exec
  have hb := B.bytes
  have hr := B.returns
  have hts := atoms_spec (ws := wsX0_order) B.pre
  have hown : s.vm.findClass RX0 = some m.cls := findClass_of_methodNamed B.named
  have hlocks := B.notSynchronized
  obtain ⟨Q, hQ⟩ : ∃ Q : State → Prop, Q = MQ below (pQ (fun r => r = .int (-1))) args s 0 0 (fun _ => False) := ⟨_, rfl⟩
  change W p l e ({ frames := 1, cells := 0, slots := 0, locals := 22 } : Room) s m args below meth c s.heap [] 0 0 (MQ below (pQ (fun r => r = .int (-1))) args s 0 0 (fun _ => False)) (entryFrame m args 2)
  rw [← hQ]
  refine nn_entry hargs (Nat.le_of_ble_eq_true rfl) (lv := [(0, .ref a), (1, .null)]) rfl (fun ls hl => ?_)
  refine lv_aload_n hx hb dX0_order_0 rfl (lv_at hl 0 rfl) ?_
  refine lv_ifnonnull hx hb dX0_order_1 (tgt := 6) (by decide) ?_
  refine lv_aload_nN hx hb dX0_order_6 rfl (lv_at hl 1 rfl) ?_
  refine lv_ifnonnullN hx hb dX0_order_7 ?_
  refine lv_iconst (v := (-1)) hx hb dX0_order_10 rfl ?_
  refine lv_goto (tgt := 25) hx hb dX0_order_11 (by decide) ?_
  rw [hQ]
  exact pf_iret hx hb hr hlocks rfl dX0_order_25
set_option maxHeartbeats 4000000 in
set_option maxRecDepth 100000 in
theorem p_order_b (l : Launch) {G : va_G} {tys : List (ClassId × FieldType)} {cB cI cE cS : ClassId} (hT : tys = [(cB, .byte), (cI, .int), (cE, .object RX1), (cS, .object RX4)]) {w : va_W} {a : Nat} {u : En} (he : pEnt w cB a u) {b : Nat} {v : En} (he2 : pEnt w cB b v) (hl1 : u.1.length ≤ 1000) (hl2 : v.1.length ≤ 1000) : pMet l yX0_order wsX0_order ({ frames := 1, cells := 0, slots := 0, locals := 22 } : Room) G tys [.ref a, .ref b] w (fun r => ∃ z : Int32, r = .int z ∧ sgn2 z (pcm u.1 v.1)) := by
  have hT0 : tys[0]? = some (cB, .byte) := by rw [hT]; rfl
  refine Met.ofW (cc := cX0_order) (maxL := 2) (ret := (some .int)) (by decide) rfl ?_
  intro p e s m args below meth c s₁ B hml hv
  obtain ⟨hargs, hP, hK⟩ := hv
  have hx := B.exec
  have hb := B.bytes
  have hr := B.returns
  have hts := atoms_spec (ws := wsX0_order) B.pre
  have hown : s.vm.findClass RX0 = some m.cls := findClass_of_methodNamed B.named
  have hlocks := B.notSynchronized
  have inX1 : ∀ w ∈ wsX10, w ∈ wsX0_order := by decide +kernel
  have k_46 := hts (.fieldLink RX0 46 "MirrorKeep$Entry" "path" "[B") (by decide +kernel)
  obtain ⟨Q, hQ⟩ : ∃ Q : State → Prop, Q = MQ below (pQ (fun r => ∃ z : Int32, r = .int z ∧ sgn2 z (pcm u.1 v.1))) args s 0 0 (fun _ => False) := ⟨_, rfl⟩
  change W p l e ({ frames := 1, cells := 0, slots := 0, locals := 22 } : Room) s m args below meth c s.heap [] 0 0 (MQ below (pQ (fun r => ∃ z : Int32, r = .int z ∧ sgn2 z (pcm u.1 v.1))) args s 0 0 (fun _ => False)) (entryFrame m args 2)
  rw [← hQ]
  refine nn_entry hargs (Nat.le_of_ble_eq_true rfl) (lv := [(0, .ref a), (1, .ref b)]) rfl (fun ls hl => ?_)
  obtain ⟨pae_1, cae_1, hme_1, hpae_1, hcae_1⟩ := id he
  obtain ⟨pae_2, cae_2, hme_2, hpae_2, hcae_2⟩ := id he2
  refine lv_aload_n hx hb dX0_order_0 rfl (lv_at hl 0 rfl) ?_
  refine lv_ifnonnull hx hb dX0_order_1 (tgt := 6) (by decide) ?_
  refine lv_aload_n hx hb dX0_order_6 rfl (lv_at hl 1 rfl) ?_
  refine lv_ifnonnull hx hb dX0_order_7 (tgt := 14) (by decide) ?_
  refine lv_aload_n hx hb dX0_order_14 rfl (lv_at hl 0 rfl) ?_
  refine xg (ci := 1) (C := RX1) (T := TX1) (N := 5) (v := .ref pae_1) hx hb hts inX1 hown hK hP hme_1 rfl 0 (by decide) k_46 (fun _ h => h) rfl dX0_order_15 ?_
  refine lv_aload_n hx hb dX0_order_18 rfl (lv_at hl 1 rfl) ?_
  refine xg (ci := 1) (C := RX1) (T := TX1) (N := 5) (v := .ref pae_2) hx hb hts inX1 hown hK hP hme_2 rfl 0 (by decide) k_46 (fun _ h => h) rfl dX0_order_19 ?_
  refine pf_callS (As := [.ref pae_1, .ref pae_2]) (rest := []) (p_compare l hT hpae_1 hpae_2 hl1 hl2) ⟨hx, hb, hml, hown, hts⟩ (va_cwS 2 hts gX0_order_X3_compare rfl rfl rfl (by decide +kernel) ⟨Nat.le_of_ble_eq_true rfl, Nat.le_of_ble_eq_true rfl⟩) hK hP rfl hl.1 rfl (Nat.le_of_ble_eq_true rfl) dX0_order_22 ⟨Nat.le_of_ble_eq_true rfl, Nat.le_of_ble_eq_true rfl⟩ (fun r_3 hr_3 => ?_)
  obtain ⟨v_4, rfl, hv_4⟩ := hr_3
  obtain ⟨s1v_4, s2v_4⟩ := id hv_4
  rw [hQ]
  exact pf_iret hx hb hr hlocks ⟨_, rfl, hv_4⟩ dX0_order_25
set_option maxHeartbeats 4000000 in
set_option maxRecDepth 100000 in
theorem p_wops (l : Launch) {G : va_G} {tys : List (ClassId × FieldType)} {cB cI cE cS : ClassId} (hT : tys = [(cB, .byte), (cI, .int), (cE, .object RX1), (cS, .object RX4)]) {w : va_W} {ch b1 b2 : Nat} {f1 f2 : Nat → Option Nat} {C : List (Option En × Option En)} (hc : cRep w cB cE ch b1 b2 f1 f2 C) {wk : Nat} {tm : Int32} {dn : Nat} (hw : (wk, .inr (6, [.ref ch, .int tm, .int (nI dn)])) ∈ w) (hdn : dn ≤ 1000) : pMet l yX7_operations wsX7_operations ({ frames := 1, cells := 0, slots := 0, locals := 20 } : Room) G tys [.ref wk] w (fun r => r = .int (nI (3 + 2 * C.length))) := by
  have hT0 : tys[0]? = some (cB, .byte) := by rw [hT]; rfl
  refine Met.ofW (cc := cX7_operations) (maxL := 1) (ret := (some .int)) (by decide) rfl ?_
  intro p e s m args below meth c s₁ B hml hv
  obtain ⟨hargs, hP, hK⟩ := hv
  have hx := B.exec
  have hb := B.bytes
  have hr := B.returns
  have hts := atoms_spec (ws := wsX7_operations) B.pre
  have hown : s.vm.findClass RX7 = some m.cls := findClass_of_methodNamed B.named
  have hlocks := B.notSynchronized
  have inX7 : ∀ w ∈ wsX70, w ∈ wsX7_operations := by decide +kernel
  have k_10 := hts (.fieldLink RX7 10 "MirrorKeep$Work" "changes" "LMirrorKeep$Changes;") (by decide +kernel)
  obtain ⟨Q, hQ⟩ : ∃ Q : State → Prop, Q = MQ below (pQ (fun r => r = .int (nI (3 + 2 * C.length)))) args s 0 0 (fun _ => False) := ⟨_, rfl⟩
  change W p l e ({ frames := 1, cells := 0, slots := 0, locals := 20 } : Room) s m args below meth c s.heap [] 0 0 (MQ below (pQ (fun r => r = .int (nI (3 + 2 * C.length)))) args s 0 0 (fun _ => False)) (entryFrame m args 1)
  rw [← hQ]
  refine nn_entry hargs (Nat.le_of_ble_eq_true rfl) (lv := [(0, .ref wk)]) rfl (fun ls hl => ?_)
  obtain ⟨hq1, hq2, hq3, hq4, hq5⟩ := id hc
  refine lv_iconst (v := nI 3) hx hb dX7_operations_0 rfl ?_
  refine lv_iconst (v := nI 2) hx hb dX7_operations_1 rfl ?_
  refine lv_aload_n hx hb dX7_operations_2 rfl (lv_at hl 0 rfl) ?_
  refine xg (ci := 6) (C := RX7) (T := TX7) (N := 3) (v := .ref ch) hx hb hts inX7 hown hK hP hw rfl 0 (by decide) k_10 (fun _ h => h) rfl dX7_operations_3 ?_
  refine pf_callV (C := RX0) (As := []) (rest := [.int (nI 2), .int (nI 3)]) (p_csize l hT hc) ⟨hx, hb, hml, hown, hts⟩ (cwV 0 hts gX7_operations_X0_size rfl rfl rfl (by decide +kernel) ⟨Nat.le_of_ble_eq_true rfl, Nat.le_of_ble_eq_true rfl⟩) hK hP (xrecv (ci := 0) hK hP rfl hq1) rfl hl.1 rfl (Nat.le_of_ble_eq_true rfl) dX7_operations_6 ⟨Nat.le_of_ble_eq_true rfl, Nat.le_of_ble_eq_true rfl⟩ (fun r_1 hr_1 => ?_)
  subst hr_1
  refine nn_mul hx hb dX7_operations_9 ?_
  refine nn_add hx hb dX7_operations_10 ?_
  rw [hQ]
  exact pf_iret hx hb hr hlocks rfl dX7_operations_11
set_option maxHeartbeats 4000000 in
set_option maxRecDepth 100000 in
theorem p_winc (l : Launch) {G : va_G} {tys : List (ClassId × FieldType)} {cB cI cE cS : ClassId} (hT : tys = [(cB, .byte), (cI, .int), (cE, .object RX1), (cS, .object RX4)]) {w : va_W} {ch b1 b2 : Nat} {f1 f2 : Nat → Option Nat} {C : List (Option En × Option En)} (hc : cRep w cB cE ch b1 b2 f1 f2 C) {wk : Nat} {tm : Int32} {dn : Nat} (hw : (wk, .inr (6, [.ref ch, .int tm, .int (nI dn)])) ∈ w) (hdn : dn ≤ 1000) : pMet l yX7_increments wsX7_increments ({ frames := 1, cells := 0, slots := 0, locals := 32 } : Room) G tys [.ref wk] w (fun r => r = .int (nI (incs dn C.length))) := by
  have hT0 : tys[0]? = some (cB, .byte) := by rw [hT]; rfl
  refine Met.ofW (cc := cX7_increments) (maxL := 1) (ret := (some .int)) (by decide) rfl ?_
  intro p e s m args below meth c s₁ B hml hv
  obtain ⟨hargs, hP, hK⟩ := hv
  have hx := B.exec
  have hb := B.bytes
  have hr := B.returns
  have hts := atoms_spec (ws := wsX7_increments) B.pre
  have hown : s.vm.findClass RX7 = some m.cls := findClass_of_methodNamed B.named
  have hlocks := B.notSynchronized
  have inX7 : ∀ w ∈ wsX70, w ∈ wsX7_increments := by decide +kernel
  have k_10 := hts (.fieldLink RX7 10 "MirrorKeep$Work" "changes" "LMirrorKeep$Changes;") (by decide +kernel)
  have k_20 := hts (.fieldLink RX7 20 "MirrorKeep$Work" "done" "I") (by decide +kernel)
  obtain ⟨Q, hQ⟩ : ∃ Q : State → Prop, Q = MQ below (pQ (fun r => r = .int (nI (incs dn C.length)))) args s 0 0 (fun _ => False) := ⟨_, rfl⟩
  change W p l e ({ frames := 1, cells := 0, slots := 0, locals := 32 } : Room) s m args below meth c s.heap [] 0 0 (MQ below (pQ (fun r => r = .int (nI (incs dn C.length)))) args s 0 0 (fun _ => False)) (entryFrame m args 1)
  rw [← hQ]
  refine nn_entry hargs (Nat.le_of_ble_eq_true rfl) (lv := [(0, .ref wk)]) rfl (fun ls hl => ?_)
  obtain ⟨hq1, hq2, hq3, hq4, hq5⟩ := id hc
  refine lv_aload_n hx hb dX7_increments_0 rfl (lv_at hl 0 rfl) ?_
  refine xg (ci := 6) (C := RX7) (T := TX7) (N := 3) (v := .ref ch) hx hb hts inX7 hown hK hP hw rfl 0 (by decide) k_10 (fun _ h => h) rfl dX7_increments_1 ?_
  refine pf_callV (C := RX0) (As := []) (rest := []) (p_csize l hT hc) ⟨hx, hb, hml, hown, hts⟩ (cwV 0 hts gX7_increments_X0_size rfl rfl rfl (by decide +kernel) ⟨Nat.le_of_ble_eq_true rfl, Nat.le_of_ble_eq_true rfl⟩) hK hP (xrecv (ci := 0) hK hP rfl hq1) rfl hl.1 rfl (Nat.le_of_ble_eq_true rfl) dX7_increments_4 ⟨Nat.le_of_ble_eq_true rfl, Nat.le_of_ble_eq_true rfl⟩ (fun r_1 hr_1 => ?_)
  subst hr_1
  refine lv_aload_n hx hb dX7_increments_7 rfl (lv_at hl 0 rfl) ?_
  refine xg (ci := 6) (C := RX7) (T := TX7) (N := 3) (v := .int (nI dn)) hx hb hts inX7 hown hK hP hw rfl 2 (by decide) k_20 (fun _ h => h) rfl dX7_increments_8 ?_
  refine lv_iconst (v := nI 2) hx hb dX7_increments_11 rfl ?_
  refine nn_div hx hb (by omega) (by omega) (by decide) dX7_increments_12 ?_
  refine va_mmin hx hb (hml.trans hl.1.symm) hown (hts (.methodLink RX7 31 Lib.Math.min.name) (by decide +kernel)) (hts (.static Lib.Math.min.name) (by decide +kernel)) (hts (.initialized "java/lang/Math") (by decide +kernel)) (hts (.code Lib.Math.min.name Lib.Math.min.code 2 (some .int)) (by decide +kernel)) (Nat.le_of_ble_eq_true rfl) (Nat.le_of_ble_eq_true rfl) (Nat.le_of_ble_eq_true rfl) (Nat.le_of_ble_eq_true rfl) dX7_increments_13 ?_
  refine nn_eqi (y := nI (if dn / 2 < C.length then dn / 2 else C.length)) (min_nI (by omega) (by omega)) ?_
  rw [hQ]
  exact pf_iret hx hb hr hlocks (by unfold incs; rfl) dX7_increments_16
set_option maxHeartbeats 4000000 in
set_option maxRecDepth 100000 in
theorem p_wupd (l : Launch) {G : va_G} {tys : List (ClassId × FieldType)} {cB cI cE cS : ClassId} (hT : tys = [(cB, .byte), (cI, .int), (cE, .object RX1), (cS, .object RX4)]) {w : va_W} {ch b1 b2 : Nat} {f1 f2 : Nat → Option Nat} {C : List (Option En × Option En)} (hc : cRep w cB cE ch b1 b2 f1 f2 C) {wk : Nat} {tm : Int32} {dn : Nat} (hw : (wk, .inr (6, [.ref ch, .int tm, .int (nI dn)])) ∈ w) (hdn : dn ≤ 1000) (dn2 : Nat) (hd2 : dn2 ≤ 1000) : pMet l yX7_isUpdate wsX7_isUpdate ({ frames := 1, cells := 0, slots := 0, locals := 20 } : Room) G tys [.ref wk, .int (nI dn2)] w (fun r => r = .int (bI (decide (2 ≤ dn2 ∧ dn2 ≤ 2 * C.length ∧ dn2 % 2 = 0)))) := by
  have hT0 : tys[0]? = some (cB, .byte) := by rw [hT]; rfl
  refine Met.ofW (cc := cX7_isUpdate) (maxL := 2) (ret := (some .boolean)) (by decide) rfl ?_
  intro p e s m args below meth c s₁ B hml hv
  obtain ⟨hargs, hP, hK⟩ := hv
  have hx := B.exec
  have hb := B.bytes
  have hr := B.returns
  have hts := atoms_spec (ws := wsX7_isUpdate) B.pre
  have hown : s.vm.findClass RX7 = some m.cls := findClass_of_methodNamed B.named
  have hlocks := B.notSynchronized
  have inX7 : ∀ w ∈ wsX70, w ∈ wsX7_isUpdate := by decide +kernel
  have k_10 := hts (.fieldLink RX7 10 "MirrorKeep$Work" "changes" "LMirrorKeep$Changes;") (by decide +kernel)
  obtain ⟨Q, hQ⟩ : ∃ Q : State → Prop, Q = MQ below (pQ (fun r => r = .int (bI (decide (2 ≤ dn2 ∧ dn2 ≤ 2 * C.length ∧ dn2 % 2 = 0))))) args s 0 0 (fun _ => False) := ⟨_, rfl⟩
  change W p l e ({ frames := 1, cells := 0, slots := 0, locals := 20 } : Room) s m args below meth c s.heap [] 0 0 (MQ below (pQ (fun r => r = .int (bI (decide (2 ≤ dn2 ∧ dn2 ≤ 2 * C.length ∧ dn2 % 2 = 0))))) args s 0 0 (fun _ => False)) (entryFrame m args 2)
  rw [← hQ]
  refine nn_entry hargs (Nat.le_of_ble_eq_true rfl) (lv := [(0, .ref wk), (1, .int (nI dn2))]) rfl (fun ls hl => ?_)
  obtain ⟨hq1, hq2, hq3, hq4, hq5⟩ := id hc
  refine lv_iload_n hx hb dX7_isUpdate_0 rfl (lv_at hl 1 rfl) ?_
  refine lv_iconst (v := nI 2) hx hb dX7_isUpdate_1 rfl ?_
  refine nn_lt hx hb dX7_isUpdate_2 (tgt := 28) (by decide) (by omega) (by omega) (fun c_1 => ?_) (fun c_1 => ?_)
  · refine lv_iconst (v := bI false) hx hb dX7_isUpdate_28 rfl ?_
    rw [hQ]
    exact pf_zret hx hb hr hlocks (bI_01 _) (congrArg (fun b => Value.int (bI b)) (decide_eq_false (by omega)).symm) dX7_isUpdate_29
  · refine lv_iload_n hx hb dX7_isUpdate_5 rfl (lv_at hl 1 rfl) ?_
    refine lv_iconst (v := nI 2) hx hb dX7_isUpdate_6 rfl ?_
    refine lv_aload_n hx hb dX7_isUpdate_7 rfl (lv_at hl 0 rfl) ?_
    refine xg (ci := 6) (C := RX7) (T := TX7) (N := 3) (v := .ref ch) hx hb hts inX7 hown hK hP hw rfl 0 (by decide) k_10 (fun _ h => h) rfl dX7_isUpdate_8 ?_
    refine pf_callV (C := RX0) (As := []) (rest := [.int (nI 2), .int (nI dn2)]) (p_csize l hT hc) ⟨hx, hb, hml, hown, hts⟩ (cwV 0 hts gX7_isUpdate_X0_size rfl rfl rfl (by decide +kernel) ⟨Nat.le_of_ble_eq_true rfl, Nat.le_of_ble_eq_true rfl⟩) hK hP (xrecv (ci := 0) hK hP rfl hq1) rfl hl.1 rfl (Nat.le_of_ble_eq_true rfl) dX7_isUpdate_11 ⟨Nat.le_of_ble_eq_true rfl, Nat.le_of_ble_eq_true rfl⟩ (fun r_2 hr_2 => ?_)
    subst hr_2
    refine nn_mul hx hb dX7_isUpdate_14 ?_
    refine nn_gt hx hb dX7_isUpdate_15 (tgt := 28) (by decide) (by omega) (by omega) (fun c_3 => ?_) (fun c_3 => ?_)
    · refine lv_iconst (v := bI false) hx hb dX7_isUpdate_28 rfl ?_
      rw [hQ]
      exact pf_zret hx hb hr hlocks (bI_01 _) (congrArg (fun b => Value.int (bI b)) (decide_eq_false (by omega)).symm) dX7_isUpdate_29
    · refine lv_iload_n hx hb dX7_isUpdate_18 rfl (lv_at hl 1 rfl) ?_
      refine lv_iconst (v := nI 1) hx hb dX7_isUpdate_19 rfl ?_
      refine lv_iand hx hb dX7_isUpdate_20 ?_
      refine nn_eqi (y := nI (dn2 % 2)) (by rw [show (nI 1 : Int32) = 1 from rfl]; exact pk_andN (k := 1) (by omega) (by decide)) ?_
      refine nz_ne hx hb dX7_isUpdate_21 (tgt := 28) (by decide) (by omega) (fun c_4 => ?_) (fun c_4 => ?_)
      · refine lv_iconst (v := bI false) hx hb dX7_isUpdate_28 rfl ?_
        rw [hQ]
        exact pf_zret hx hb hr hlocks (bI_01 _) (congrArg (fun b => Value.int (bI b)) (decide_eq_false (by omega)).symm) dX7_isUpdate_29
      · refine lv_iconst (v := bI true) hx hb dX7_isUpdate_24 rfl ?_
        refine lv_goto (tgt := 29) hx hb dX7_isUpdate_25 (by decide) ?_
        rw [hQ]
        exact pf_zret hx hb hr hlocks (bI_01 _) (congrArg (fun b => Value.int (bI b)) (decide_eq_true (by omega)).symm) dX7_isUpdate_29
set_option maxHeartbeats 4000000 in
set_option maxRecDepth 100000 in
theorem p_chgOf (l : Launch) {G : va_G} {tys : List (ClassId × FieldType)} {cB cI cE cS : ClassId} (hT : tys = [(cB, .byte), (cI, .int), (cE, .object RX1), (cS, .object RX4)]) {w : va_W} (dn2 : Nat) (hd2 : dn2 ≤ 1000) (hd3 : 2 ≤ dn2) : pMet l yX7_changeOf wsX7_changeOf ({ frames := 0, cells := 0, slots := 0, locals := 0 } : Room) G tys [.int (nI dn2)] w (fun r => r = .int (nI (dn2 / 2 - 1))) := by
  have hT0 : tys[0]? = some (cB, .byte) := by rw [hT]; rfl
  refine Met.ofW (cc := cX7_changeOf) (maxL := 1) (ret := (some .int)) (by decide) rfl ?_
  intro p e s m args below meth c s₁ B hml hv
  obtain ⟨hargs, hP, hK⟩ := hv
  have hx := B.exec
  have hb := B.bytes
  have hr := B.returns
  have hts := atoms_spec (ws := wsX7_changeOf) B.pre
  have hown : s.vm.findClass RX7 = some m.cls := findClass_of_methodNamed B.named
  have hlocks := B.notSynchronized
  obtain ⟨Q, hQ⟩ : ∃ Q : State → Prop, Q = MQ below (pQ (fun r => r = .int (nI (dn2 / 2 - 1)))) args s 0 0 (fun _ => False) := ⟨_, rfl⟩
  change W p l e ({ frames := 0, cells := 0, slots := 0, locals := 0 } : Room) s m args below meth c s.heap [] 0 0 (MQ below (pQ (fun r => r = .int (nI (dn2 / 2 - 1)))) args s 0 0 (fun _ => False)) (entryFrame m args 1)
  rw [← hQ]
  refine nn_entry hargs (Nat.le_of_ble_eq_true rfl) (lv := [(0, .int (nI dn2))]) rfl (fun ls hl => ?_)
  refine lv_iload_n hx hb dX7_changeOf_0 rfl (lv_at hl 0 rfl) ?_
  refine lv_iconst (v := nI 2) hx hb dX7_changeOf_1 rfl ?_
  refine nn_div hx hb (by omega) (by omega) (by decide) dX7_changeOf_2 ?_
  refine lv_iconst (v := nI 1) hx hb dX7_changeOf_3 rfl ?_
  refine nn_sub hx hb (by omega) dX7_changeOf_4 ?_
  rw [hQ]
  exact pf_iret hx hb hr hlocks rfl dX7_changeOf_5
set_option maxHeartbeats 4000000 in
set_option maxRecDepth 100000 in
theorem p_hsize (l : Launch) {G : va_G} {tys : List (ClassId × FieldType)} {cB cI cE cS : ClassId} (hT : tys = [(cB, .byte), (cI, .int), (cE, .object RX1), (cS, .object RX4)]) {w : va_W} {h r : Nat} {f : Nat → Option Nat} {S : List (Int32 × Nat × List En)} (hh : hRep w cB cE cS h r f S) : pMet l yX2_size wsX2_size ({ frames := 0, cells := 0, slots := 0, locals := 0 } : Room) G tys [.ref h] w (fun r => r = .int (nI S.length)) := by
  have hT0 : tys[0]? = some (cB, .byte) := by rw [hT]; rfl
  refine Met.ofW (cc := cX2_size) (maxL := 1) (ret := (some .int)) (by decide) rfl ?_
  intro p e s m args below meth c s₁ B hml hv
  obtain ⟨hargs, hP, hK⟩ := hv
  have hx := B.exec
  have hb := B.bytes
  have hr := B.returns
  have hts := atoms_spec (ws := wsX2_size) B.pre
  have hown : s.vm.findClass RX2 = some m.cls := findClass_of_methodNamed B.named
  have hlocks := B.notSynchronized
  have inX2 : ∀ w ∈ wsX20, w ∈ wsX2_size := by decide +kernel
  have k_17 := hts (.fieldLink RX2 17 "MirrorKeep$History" "count" "I") (by decide +kernel)
  obtain ⟨Q, hQ⟩ : ∃ Q : State → Prop, Q = MQ below (pQ (fun r => r = .int (nI S.length))) args s 0 0 (fun _ => False) := ⟨_, rfl⟩
  change W p l e ({ frames := 0, cells := 0, slots := 0, locals := 0 } : Room) s m args below meth c s.heap [] 0 0 (MQ below (pQ (fun r => r = .int (nI S.length))) args s 0 0 (fun _ => False)) (entryFrame m args 1)
  rw [← hQ]
  refine nn_entry hargs (Nat.le_of_ble_eq_true rfl) (lv := [(0, .ref h)]) rfl (fun ls hl => ?_)
  obtain ⟨hy1, hy2, hy3, hy4⟩ := id hh
  refine lv_aload_n hx hb dX2_size_0 rfl (lv_at hl 0 rfl) ?_
  refine xg (ci := 2) (C := RX2) (T := TX2) (N := 2) (v := .int (nI S.length)) hx hb hts inX2 hown hK hP hy1 rfl 1 (by decide) k_17 (fun _ h => h) rfl dX2_size_1 ?_
  rw [hQ]
  exact pf_iret hx hb hr hlocks rfl dX2_size_4
set_option maxHeartbeats 4000000 in
set_option maxRecDepth 100000 in
theorem p_hfull (l : Launch) {G : va_G} {tys : List (ClassId × FieldType)} {cB cI cE cS : ClassId} (hT : tys = [(cB, .byte), (cI, .int), (cE, .object RX1), (cS, .object RX4)]) {w : va_W} {h r : Nat} {f : Nat → Option Nat} {S : List (Int32 × Nat × List En)} (hh : hRep w cB cE cS h r f S) : pMet l yX2_isFull wsX2_isFull ({ frames := 0, cells := 0, slots := 0, locals := 0 } : Room) G tys [.ref h] w (fun r => r = .int (bI (decide (S.length = 40)))) := by
  have hT0 : tys[0]? = some (cB, .byte) := by rw [hT]; rfl
  refine Met.ofW (cc := cX2_isFull) (maxL := 1) (ret := (some .boolean)) (by decide) rfl ?_
  intro p e s m args below meth c s₁ B hml hv
  obtain ⟨hargs, hP, hK⟩ := hv
  have hx := B.exec
  have hb := B.bytes
  have hr := B.returns
  have hts := atoms_spec (ws := wsX2_isFull) B.pre
  have hown : s.vm.findClass RX2 = some m.cls := findClass_of_methodNamed B.named
  have hlocks := B.notSynchronized
  have inX2 : ∀ w ∈ wsX20, w ∈ wsX2_isFull := by decide +kernel
  have k_17 := hts (.fieldLink RX2 17 "MirrorKeep$History" "count" "I") (by decide +kernel)
  obtain ⟨Q, hQ⟩ : ∃ Q : State → Prop, Q = MQ below (pQ (fun r => r = .int (bI (decide (S.length = 40))))) args s 0 0 (fun _ => False) := ⟨_, rfl⟩
  change W p l e ({ frames := 0, cells := 0, slots := 0, locals := 0 } : Room) s m args below meth c s.heap [] 0 0 (MQ below (pQ (fun r => r = .int (bI (decide (S.length = 40))))) args s 0 0 (fun _ => False)) (entryFrame m args 1)
  rw [← hQ]
  refine nn_entry hargs (Nat.le_of_ble_eq_true rfl) (lv := [(0, .ref h)]) rfl (fun ls hl => ?_)
  obtain ⟨hy1, hy2, hy3, hy4⟩ := id hh
  refine lv_aload_n hx hb dX2_isFull_0 rfl (lv_at hl 0 rfl) ?_
  refine xg (ci := 2) (C := RX2) (T := TX2) (N := 2) (v := .int (nI S.length)) hx hb hts inX2 hown hK hP hy1 rfl 1 (by decide) k_17 (fun _ h => h) rfl dX2_isFull_1 ?_
  refine lv_bipush (v := nI 40) hx hb dX2_isFull_4 (by decide) ?_
  refine nn_lt hx hb dX2_isFull_6 (tgt := 13) (by decide) (by omega) (by omega) (fun c_1 => ?_) (fun c_1 => ?_)
  · refine lv_iconst (v := bI false) hx hb dX2_isFull_13 rfl ?_
    rw [hQ]
    exact pf_zret hx hb hr hlocks (bI_01 _) (congrArg (fun b => Value.int (bI b)) (decide_eq_false (by omega)).symm) dX2_isFull_14
  · refine lv_iconst (v := bI true) hx hb dX2_isFull_9 rfl ?_
    refine lv_goto (tgt := 14) hx hb dX2_isFull_10 (by decide) ?_
    rw [hQ]
    exact pf_zret hx hb hr hlocks (bI_01 _) (congrArg (fun b => Value.int (bI b)) (decide_eq_true (by omega)).symm) dX2_isFull_14
set_option maxHeartbeats 4000000 in
set_option maxRecDepth 100000 in
theorem p_hget (l : Launch) {G : va_G} {tys : List (ClassId × FieldType)} {cB cI cE cS : ClassId} (hT : tys = [(cB, .byte), (cI, .int), (cE, .object RX1), (cS, .object RX4)]) {w : va_W} {h r : Nat} {f : Nat → Option Nat} {S : List (Int32 × Nat × List En)} (hh : hRep w cB cE cS h r f S) (ix : Int32) : pMet l yX2_get wsX2_get ({ frames := 0, cells := 0, slots := 0, locals := 0 } : Room) G tys [.ref h, .int ix] w (fun r => (¬ (0 ≤ ix.toInt ∧ ix.toInt < S.length) ∧ r = .null) ∨ ∃ k a, ix = nI k ∧ k < S.length ∧ r = .ref a ∧ f k = some a ∧ sEnt w cB cE a (S.getD k s0)) := by
  have hT0 : tys[0]? = some (cB, .byte) := by rw [hT]; rfl
  have hT3 : tys[3]? = some (cS, .object RX4) := by rw [hT]; rfl
  refine Met.ofW (cc := cX2_get) (maxL := 2) (ret := (some (.object "MirrorKeep$Session"))) (by decide) rfl ?_
  intro p e s m args below meth c s₁ B hml hv
  obtain ⟨hargs, hP, hK⟩ := hv
  have hx := B.exec
  have hb := B.bytes
  have hr := B.returns
  have hts := atoms_spec (ws := wsX2_get) B.pre
  have hown : s.vm.findClass RX2 = some m.cls := findClass_of_methodNamed B.named
  have hlocks := B.notSynchronized
  have inX2 : ∀ w ∈ wsX20, w ∈ wsX2_get := by decide +kernel
  have k_13 := hts (.fieldLink RX2 13 "MirrorKeep$History" "rows" "[LMirrorKeep$Session;") (by decide +kernel)
  have k_17 := hts (.fieldLink RX2 17 "MirrorKeep$History" "count" "I") (by decide +kernel)
  obtain ⟨Q, hQ⟩ : ∃ Q : State → Prop, Q = MQ below (pQ (fun r => (¬ (0 ≤ ix.toInt ∧ ix.toInt < S.length) ∧ r = .null) ∨ ∃ k a, ix = nI k ∧ k < S.length ∧ r = .ref a ∧ f k = some a ∧ sEnt w cB cE a (S.getD k s0))) args s 0 0 (fun _ => False) := ⟨_, rfl⟩
  change W p l e ({ frames := 0, cells := 0, slots := 0, locals := 0 } : Room) s m args below meth c s.heap [] 0 0 (MQ below (pQ (fun r => (¬ (0 ≤ ix.toInt ∧ ix.toInt < S.length) ∧ r = .null) ∨ ∃ k a, ix = nI k ∧ k < S.length ∧ r = .ref a ∧ f k = some a ∧ sEnt w cB cE a (S.getD k s0))) args s 0 0 (fun _ => False)) (entryFrame m args 2)
  rw [← hQ]
  refine nn_entry hargs (Nat.le_of_ble_eq_true rfl) (lv := [(0, .ref h), (1, .int ix)]) rfl (fun ls hl => ?_)
  obtain ⟨hy1, hy2, hy3, hy4⟩ := id hh
  refine lv_iload_n hx hb dX2_get_0 rfl (lv_at hl 1 rfl) ?_
  refine zi_lt hx hb rfl dX2_get_1 (tgt := 12) (by decide) (fun c_1 => ?_) (fun c_1 => ?_)
  · refine lv_null hx hb dX2_get_12 ?_
    refine lv_goto (tgt := 22) hx hb dX2_get_13 (by decide) ?_
    rw [hQ]
    exact pf_aret hx hb hr (Or.inl ⟨_, rfl⟩) (Or.inl rfl) hlocks (Or.inl ⟨by omega, rfl⟩) dX2_get_22
  · refine lv_iload_n hx hb dX2_get_4 rfl (lv_at hl 1 rfl) ?_
    refine lv_aload_n hx hb dX2_get_5 rfl (lv_at hl 0 rfl) ?_
    refine xg (ci := 2) (C := RX2) (T := TX2) (N := 2) (v := .int (nI S.length)) hx hb hts inX2 hown hK hP hy1 rfl 1 (by decide) k_17 (fun _ h => h) rfl dX2_get_6 ?_
    refine zc_lt hx hb rfl (nI_toInt (by omega)) dX2_get_9 (tgt := 16) (by decide) (fun c_2 => ?_) (fun c_2 => ?_)
    · obtain ⟨i1, hi1, hi12, hi13⟩ := zn_ex (x := ix) (by omega)
      rw [hi1] at hl
      refine lv_aload_n hx hb dX2_get_16 rfl (lv_at hl 0 rfl) ?_
      refine xg (ci := 2) (C := RX2) (T := TX2) (N := 2) (v := .ref r) hx hb hts inX2 hown hK hP hy1 rfl 0 (by decide) k_13 (fun _ h => h) rfl dX2_get_17 ?_
      refine lv_iload_n hx hb dX2_get_20 rfl (lv_at hl 1 rfl) ?_
      refine xq_ld (t0 := 3) hx hb hK hT3 hP hy2 (by omega) (by decide) dX2_get_21 ?_
      obtain ⟨a_3, ha_3, ga_3⟩ := hy4 i1 (by omega)
      refine nn_eqv (y := .ref a_3) (by rw [ha_3]; rfl) ?_
      obtain ⟨ts_4, rs_4, fs_4, hms_4, hts_4⟩ := id ga_3
      rw [hQ]
      exact pf_aret hx hb hr (Or.inl ⟨_, rfl⟩) (Or.inr ⟨_, rfl⟩) hlocks (Or.inr ⟨i1, a_3, hi1, by omega, rfl, ha_3, ga_3⟩) dX2_get_22
    · refine lv_null hx hb dX2_get_12 ?_
      refine lv_goto (tgt := 22) hx hb dX2_get_13 (by decide) ?_
      rw [hQ]
      exact pf_aret hx hb hr (Or.inl ⟨_, rfl⟩) (Or.inl rfl) hlocks (Or.inl ⟨by omega, rfl⟩) dX2_get_22
set_option maxHeartbeats 4000000 in
set_option maxRecDepth 100000 in
theorem p_hlast (l : Launch) {G : va_G} {tys : List (ClassId × FieldType)} {cB cI cE cS : ClassId} (hT : tys = [(cB, .byte), (cI, .int), (cE, .object RX1), (cS, .object RX4)]) {w : va_W} {h r : Nat} {f : Nat → Option Nat} {S : List (Int32 × Nat × List En)} (hh : hRep w cB cE cS h r f S) : pMet l yX2_latestTime wsX2_latestTime ({ frames := 1, cells := 0, slots := 0, locals := 21 } : Room) G tys [.ref h] w (fun r => r = .int (lstT S)) := by
  have hT0 : tys[0]? = some (cB, .byte) := by rw [hT]; rfl
  refine Met.ofW (cc := cX2_latestTime) (maxL := 2) (ret := (some .int)) (by decide) rfl ?_
  intro p e s m args below meth c s₁ B hml hv
  obtain ⟨hargs, hP, hK⟩ := hv
  have hx := B.exec
  have hb := B.bytes
  have hr := B.returns
  have hts := atoms_spec (ws := wsX2_latestTime) B.pre
  have hown : s.vm.findClass RX2 = some m.cls := findClass_of_methodNamed B.named
  have hlocks := B.notSynchronized
  have inX2 : ∀ w ∈ wsX20, w ∈ wsX2_latestTime := by decide +kernel
  have inX4 : ∀ w ∈ wsX40, w ∈ wsX2_latestTime := by decide +kernel
  have k_17 := hts (.fieldLink RX2 17 "MirrorKeep$History" "count" "I") (by decide +kernel)
  have k_25 := hts (.fieldLink RX2 25 "MirrorKeep$Session" "time" "I") (by decide +kernel)
  obtain ⟨Q, hQ⟩ : ∃ Q : State → Prop, Q = MQ below (pQ (fun r => r = .int (lstT S))) args s 0 0 (fun _ => False) := ⟨_, rfl⟩
  change W p l e ({ frames := 1, cells := 0, slots := 0, locals := 21 } : Room) s m args below meth c s.heap [] 0 0 (MQ below (pQ (fun r => r = .int (lstT S))) args s 0 0 (fun _ => False)) (entryFrame m args 2)
  rw [← hQ]
  refine nn_entry hargs (Nat.le_of_ble_eq_true rfl) (lv := [(0, .ref h)]) rfl (fun ls hl => ?_)
  obtain ⟨hy1, hy2, hy3, hy4⟩ := id hh
  refine lv_aload_n hx hb dX2_latestTime_0 rfl (lv_at hl 0 rfl) ?_
  refine lv_aload_n hx hb dX2_latestTime_1 rfl (lv_at hl 0 rfl) ?_
  refine xg (ci := 2) (C := RX2) (T := TX2) (N := 2) (v := .int (nI S.length)) hx hb hts inX2 hown hK hP hy1 rfl 1 (by decide) k_17 (fun _ h => h) rfl dX2_latestTime_2 ?_
  refine lv_iconst (v := nI 1) hx hb dX2_latestTime_5 rfl ?_
  refine lv_isub hx hb dX2_latestTime_6 ?_
  refine pf_callV (C := RX2) (As := [.int ((nI S.length) - (nI 1))]) (rest := []) (p_hget l hT hh ((nI S.length) - (nI 1))) ⟨hx, hb, hml, hown, hts⟩ (cwV 1 hts gX2_latestTime_X2_get rfl rfl rfl (by decide +kernel) ⟨Nat.le_of_ble_eq_true rfl, Nat.le_of_ble_eq_true rfl⟩) hK hP (xrecv (ci := 2) hK hP rfl hy1) rfl hl.1 rfl (Nat.le_of_ble_eq_true rfl) dX2_latestTime_7 ⟨Nat.le_of_ble_eq_true rfl, Nat.le_of_ble_eq_true rfl⟩ (fun r_1 hr_1 => ?_)
  rcases hr_1 with ⟨hr_1, rfl⟩ | ⟨k_2, a_3, hk_2, jk_2, rfl, ha_3, ga_3⟩
  · refine lv_astore_nN (lv' := [(1, .null), (0, .ref h)]) hx hb dX2_latestTime_10 rfl hl (by decide) rfl (fun ls hl => ?_)
    refine lv_aload_nN hx hb dX2_latestTime_11 rfl (lv_at hl 0 rfl) ?_
    refine lv_ifnonnullN hx hb dX2_latestTime_12 ?_
    refine lv_iconst (v := (-1)) hx hb dX2_latestTime_15 rfl ?_
    refine lv_goto (tgt := 23) hx hb dX2_latestTime_16 (by decide) ?_
    rw [hQ]
    exact pf_iret hx hb hr hlocks (by rw [lstT, if_neg (by intro h9; apply hr_1; rw [pk_sub_toInt (by omega) (by omega)]; omega)]) dX2_latestTime_23
  · obtain ⟨ts_5, rs_5, fs_5, hms_5, hts_5⟩ := id ga_3
    refine lv_astore_n (lv' := [(1, .ref a_3), (0, .ref h)]) hx hb dX2_latestTime_10 rfl hl (by decide) rfl (fun ls hl => ?_)
    refine lv_aload_n hx hb dX2_latestTime_11 rfl (lv_at hl 0 rfl) ?_
    refine lv_ifnonnull hx hb dX2_latestTime_12 (tgt := 19) (by decide) ?_
    refine lv_aload_n hx hb dX2_latestTime_19 rfl (lv_at hl 0 rfl) ?_
    refine xg (ci := 3) (C := RX4) (T := TX4) (N := 3) (v := .int ((S.getD k_2 s0).1)) hx hb hts inX4 hown hK hP hms_5 rfl 0 (by decide) k_25 (fun _ h => h) rfl dX2_latestTime_20 ?_
    rw [hQ]
    exact pf_iret hx hb hr hlocks (by rw [lstT, if_pos (by omega), lt_idx hk_2 (by omega) ⟨by omega, by omega⟩]) dX2_latestTime_23
set_option maxHeartbeats 4000000 in
set_option maxRecDepth 100000 in
theorem p_hfind (l : Launch) {G : va_G} {tys : List (ClassId × FieldType)} {cB cI cE cS : ClassId} (hT : tys = [(cB, .byte), (cI, .int), (cE, .object RX1), (cS, .object RX4)]) {w : va_W} {h r : Nat} {f : Nat → Option Nat} {S : List (Int32 × Nat × List En)} (hh : hRep w cB cE cS h r f S) (tm : Int32) : pMet l yX2_findAsOf wsX2_findAsOf ({ frames := 0, cells := 0, slots := 0, locals := 0 } : Room) G tys [.ref h, .int tm] w (fun r => r = .int (ltst (fun k => (S.getD k s0).1) tm S.length)) := by
  have hT0 : tys[0]? = some (cB, .byte) := by rw [hT]; rfl
  have hT3 : tys[3]? = some (cS, .object RX4) := by rw [hT]; rfl
  refine Met.ofW (cc := cX2_findAsOf) (maxL := 4) (ret := (some .int)) (by decide) rfl ?_
  intro p e s m args below meth c s₁ B hml hv
  obtain ⟨hargs, hP, hK⟩ := hv
  have hx := B.exec
  have hb := B.bytes
  have hr := B.returns
  have hts := atoms_spec (ws := wsX2_findAsOf) B.pre
  have hown : s.vm.findClass RX2 = some m.cls := findClass_of_methodNamed B.named
  have hlocks := B.notSynchronized
  have inX2 : ∀ w ∈ wsX20, w ∈ wsX2_findAsOf := by decide +kernel
  have inX4 : ∀ w ∈ wsX40, w ∈ wsX2_findAsOf := by decide +kernel
  have k_13 := hts (.fieldLink RX2 13 "MirrorKeep$History" "rows" "[LMirrorKeep$Session;") (by decide +kernel)
  have k_17 := hts (.fieldLink RX2 17 "MirrorKeep$History" "count" "I") (by decide +kernel)
  have k_25 := hts (.fieldLink RX2 25 "MirrorKeep$Session" "time" "I") (by decide +kernel)
  obtain ⟨Q, hQ⟩ : ∃ Q : State → Prop, Q = MQ below (pQ (fun r => r = .int (ltst (fun k => (S.getD k s0).1) tm S.length))) args s 0 0 (fun _ => False) := ⟨_, rfl⟩
  change W p l e ({ frames := 0, cells := 0, slots := 0, locals := 0 } : Room) s m args below meth c s.heap [] 0 0 (MQ below (pQ (fun r => r = .int (ltst (fun k => (S.getD k s0).1) tm S.length))) args s 0 0 (fun _ => False)) (entryFrame m args 4)
  rw [← hQ]
  refine nn_entry hargs (Nat.le_of_ble_eq_true rfl) (lv := [(0, .ref h), (1, .int tm)]) rfl (fun ls hl => ?_)
  obtain ⟨hy1, hy2, hy3, hy4⟩ := id hh
  refine lv_aload_n hx hb dX2_findAsOf_0 rfl (lv_at hl 0 rfl) ?_
  refine xg (ci := 2) (C := RX2) (T := TX2) (N := 2) (v := .int (nI S.length)) hx hb hts inX2 hown hK hP hy1 rfl 1 (by decide) k_17 (fun _ h => h) rfl dX2_findAsOf_1 ?_
  refine lv_iconst (v := nI 1) hx hb dX2_findAsOf_4 rfl ?_
  refine lv_isub hx hb dX2_findAsOf_5 ?_
  refine lv_istore_n (lv' := [(2, .int ((nI S.length) - (nI 1))), (0, .ref h), (1, .int tm)]) hx hb dX2_findAsOf_6 rfl hl (by decide) rfl (fun ls hl => ?_)
  have lp_7 : ∀ (n_7 : Nat) (kk : Int32) (k1 : Nat) (ls : Array Slot), k1 < n_7 → (kk.toInt = (k1 : Int) - 1) → (k1 ≤ S.length) → (ltst (fun k => (S.getD k s0).1) tm S.length = ltst (fun k => (S.getD k s0).1) tm k1) → lv_has ls 4 [(0, .ref h), (1, .int tm), (2, .int kk)] → W p l e ({ frames := 0, cells := 0, slots := 0, locals := 0 } : Room) s m args below meth c s.heap [] 0 0 Q (F0 m 7 ls []) := by
    intro n_7
    induction n_7 with
    | zero => intro kk k1 ls h0; exact absurd h0 (Nat.not_lt_zero _)
    | succ n_7 ih_7 =>
      intro kk k1 ls hm_7 hkk hk hls hl
      refine lv_iload_n hx hb dX2_findAsOf_7 rfl (lv_at hl 2 rfl) ?_
      refine zi_lt hx hb hkk dX2_findAsOf_8 (tgt := 38) (by decide) (fun c_1 => ?_) (fun c_1 => ?_)
      · refine lv_iconst (v := (-1)) hx hb dX2_findAsOf_38 rfl ?_
        rw [hQ]
        exact pf_iret hx hb hr hlocks (by rw [hls, show k1 = 0 by omega]; rfl) dX2_findAsOf_39
      · obtain ⟨k0, hk0, hk02, hk03⟩ := zn_ex (x := kk) (by rw [hkk]; omega)
        rw [hk0] at hl
        have hk1 : k1 = k0 + 1 := by omega
        refine lv_aload_n hx hb dX2_findAsOf_11 rfl (lv_at hl 0 rfl) ?_
        refine xg (ci := 2) (C := RX2) (T := TX2) (N := 2) (v := .ref r) hx hb hts inX2 hown hK hP hy1 rfl 0 (by decide) k_13 (fun _ h => h) rfl dX2_findAsOf_12 ?_
        refine lv_iload_n hx hb dX2_findAsOf_15 rfl (lv_at hl 2 rfl) ?_
        refine xq_ld (t0 := 3) hx hb hK hT3 hP hy2 (by omega) (by decide) dX2_findAsOf_16 ?_
        obtain ⟨a_2, ha_2, ga_2⟩ := hy4 k0 (by omega)
        refine nn_eqv (y := .ref a_2) (by rw [ha_2]; rfl) ?_
        obtain ⟨ts_3, rs_3, fs_3, hms_3, hts_3⟩ := id ga_2
        refine lv_astore_n (lv' := [(3, .ref a_2), (0, .ref h), (1, .int tm), (2, .int (nI k0))]) hx hb dX2_findAsOf_17 rfl hl (by decide) rfl (fun ls hl => ?_)
        refine lv_aload_n hx hb dX2_findAsOf_18 rfl (lv_at hl 0 rfl) ?_
        refine lv_ifnull hx hb dX2_findAsOf_19 ?_
        refine lv_aload_n hx hb dX2_findAsOf_22 rfl (lv_at hl 0 rfl) ?_
        refine xg (ci := 3) (C := RX4) (T := TX4) (N := 3) (v := .int ((S.getD k0 s0).1)) hx hb hts inX4 hown hK hP hms_3 rfl 0 (by decide) k_25 (fun _ h => h) rfl dX2_findAsOf_23 ?_
        refine lv_iload_n hx hb dX2_findAsOf_26 rfl (lv_at hl 2 rfl) ?_
        refine lv_icmp_gt (tgt := 32) hx hb dX2_findAsOf_27 (by decide) (fun c_4 => ?_) (fun c_4 => ?_)
        · rw [← hk0] at hl
          refine lv_iinc (v := kk + -1) (lv' := [(2, .int (kk + -1)), (3, .ref a_2), (0, .ref h), (1, .int tm)]) hx hb dX2_findAsOf_32 hl (k := 3) rfl rfl (by decide) rfl (fun ls hl => ?_)
          refine lv_goto (tgt := 7) hx hb dX2_findAsOf_35 (by decide) ?_
          exact ih_7 (kk + -1) k0 _ (by omega) (by rw [dec_toInt hkk (by omega)]; omega) (by omega) (by rw [hls, hk1, ltst, if_pos (by assumption)]) (lv_sub hl [2, 3, 0] rfl)
        · refine lv_iload_n hx hb dX2_findAsOf_30 rfl (lv_at hl 3 rfl) ?_
          rw [hQ]
          exact pf_iret hx hb hr hlocks (by rw [hls, hk1, ltst, if_neg (by assumption)]) dX2_findAsOf_31
  exact lp_7 ((S.length) + 1) ((nI S.length) - (nI 1)) S.length _ (Nat.lt_succ_self _) (by rw [pk_sub_toInt (by omega) (by omega)]; omega) (Nat.le_refl _) rfl (lv_sub hl [1, 2, 0] rfl)
set_option maxHeartbeats 4000000 in
set_option maxRecDepth 100000 in
theorem p_hinc (l : Launch) {G : va_G} {tys : List (ClassId × FieldType)} {cB cI cE cS : ClassId} (hT : tys = [(cB, .byte), (cI, .int), (cE, .object RX1), (cS, .object RX4)]) {w : va_W} {h r : Nat} {f : Nat → Option Nat} {S : List (Int32 × Nat × List En)} (hh : hRep w cB cE cS h r f S) : pMet l yX2_increments wsX2_increments ({ frames := 0, cells := 0, slots := 0, locals := 0 } : Room) G tys [.ref h] w (fun r => r = .int (ssm (fun k => nI (S.getD k s0).2.1) 0 S.length)) := by
  have hT0 : tys[0]? = some (cB, .byte) := by rw [hT]; rfl
  have hT3 : tys[3]? = some (cS, .object RX4) := by rw [hT]; rfl
  refine Met.ofW (cc := cX2_increments) (maxL := 4) (ret := (some .int)) (by decide) rfl ?_
  intro p e s m args below meth c s₁ B hml hv
  obtain ⟨hargs, hP, hK⟩ := hv
  have hx := B.exec
  have hb := B.bytes
  have hr := B.returns
  have hts := atoms_spec (ws := wsX2_increments) B.pre
  have hown : s.vm.findClass RX2 = some m.cls := findClass_of_methodNamed B.named
  have hlocks := B.notSynchronized
  have inX2 : ∀ w ∈ wsX20, w ∈ wsX2_increments := by decide +kernel
  have inX4 : ∀ w ∈ wsX40, w ∈ wsX2_increments := by decide +kernel
  have k_13 := hts (.fieldLink RX2 13 "MirrorKeep$History" "rows" "[LMirrorKeep$Session;") (by decide +kernel)
  have k_17 := hts (.fieldLink RX2 17 "MirrorKeep$History" "count" "I") (by decide +kernel)
  have k_28 := hts (.fieldLink RX2 28 "MirrorKeep$Session" "changes" "I") (by decide +kernel)
  obtain ⟨Q, hQ⟩ : ∃ Q : State → Prop, Q = MQ below (pQ (fun r => r = .int (ssm (fun k => nI (S.getD k s0).2.1) 0 S.length))) args s 0 0 (fun _ => False) := ⟨_, rfl⟩
  change W p l e ({ frames := 0, cells := 0, slots := 0, locals := 0 } : Room) s m args below meth c s.heap [] 0 0 (MQ below (pQ (fun r => r = .int (ssm (fun k => nI (S.getD k s0).2.1) 0 S.length))) args s 0 0 (fun _ => False)) (entryFrame m args 4)
  rw [← hQ]
  refine nn_entry hargs (Nat.le_of_ble_eq_true rfl) (lv := [(0, .ref h)]) rfl (fun ls hl => ?_)
  obtain ⟨hy1, hy2, hy3, hy4⟩ := id hh
  refine lv_iconst (v := nI 0) hx hb dX2_increments_0 rfl ?_
  refine lv_istore_n (lv' := [(1, .int (nI 0)), (0, .ref h)]) hx hb dX2_increments_1 rfl hl (by decide) rfl (fun ls hl => ?_)
  refine lv_iconst (v := nI 1) hx hb dX2_increments_2 rfl ?_
  refine lv_istore_n (lv' := [(2, .int (nI 1)), (1, .int (nI 0)), (0, .ref h)]) hx hb dX2_increments_3 rfl hl (by decide) rfl (fun ls hl => ?_)
  have lp_4 : ∀ (n_4 : Nat) (k : Nat) (sm : Int32) (ls : Array Slot), (S.length - k) < n_4 → (1 ≤ k) → (k ≤ S.length ∨ k = 1) → (sm = ssm (fun k => nI (S.getD k s0).2.1) 0 k) → lv_has ls 4 [(0, .ref h), (1, .int sm), (2, .int (nI k))] → W p l e ({ frames := 0, cells := 0, slots := 0, locals := 0 } : Room) s m args below meth c s.heap [] 0 0 Q (F0 m 4 ls []) := by
    intro n_4
    induction n_4 with
    | zero => intro k sm ls h0; exact absurd h0 (Nat.not_lt_zero _)
    | succ n_4 ih_4 =>
      intro k sm ls hm_4 hk1 hk2 hsm hl
      refine lv_iload_n hx hb dX2_increments_4 rfl (lv_at hl 2 rfl) ?_
      refine lv_aload_n hx hb dX2_increments_5 rfl (lv_at hl 0 rfl) ?_
      refine xg (ci := 2) (C := RX2) (T := TX2) (N := 2) (v := .int (nI S.length)) hx hb hts inX2 hown hK hP hy1 rfl 1 (by decide) k_17 (fun _ h => h) rfl dX2_increments_6 ?_
      refine nn_ge hx hb dX2_increments_9 (tgt := 36) (by decide) (by omega) (by omega) (fun c_1 => ?_) (fun c_1 => ?_)
      · refine lv_iload_n hx hb dX2_increments_36 rfl (lv_at hl 1 rfl) ?_
        rw [hQ]
        exact pf_iret hx hb hr hlocks (congrArg Value.int (ab7 hk1 hk2 (by omega) hsm rfl)) dX2_increments_37
      · refine lv_aload_n hx hb dX2_increments_12 rfl (lv_at hl 0 rfl) ?_
        refine xg (ci := 2) (C := RX2) (T := TX2) (N := 2) (v := .ref r) hx hb hts inX2 hown hK hP hy1 rfl 0 (by decide) k_13 (fun _ h => h) rfl dX2_increments_13 ?_
        refine lv_iload_n hx hb dX2_increments_16 rfl (lv_at hl 2 rfl) ?_
        refine xq_ld (t0 := 3) hx hb hK hT3 hP hy2 (by omega) (by decide) dX2_increments_17 ?_
        obtain ⟨a_2, ha_2, ga_2⟩ := hy4 k (by omega)
        refine nn_eqv (y := .ref a_2) (by rw [ha_2]; rfl) ?_
        obtain ⟨ts_3, rs_3, fs_3, hms_3, hts_3⟩ := id ga_2
        refine lv_astore_n (lv' := [(3, .ref a_2), (0, .ref h), (1, .int sm), (2, .int (nI k))]) hx hb dX2_increments_18 rfl hl (by decide) rfl (fun ls hl => ?_)
        refine lv_aload_n hx hb dX2_increments_19 rfl (lv_at hl 0 rfl) ?_
        refine lv_ifnull hx hb dX2_increments_20 ?_
        refine lv_iload_n hx hb dX2_increments_23 rfl (lv_at hl 2 rfl) ?_
        refine lv_aload_n hx hb dX2_increments_24 rfl (lv_at hl 0 rfl) ?_
        refine xg (ci := 3) (C := RX4) (T := TX4) (N := 3) (v := .int (nI ((S.getD k s0).2.1))) hx hb hts inX4 hown hK hP hms_3 rfl 1 (by decide) k_28 (fun _ h => h) rfl dX2_increments_25 ?_
        refine lv_iadd hx hb dX2_increments_28 ?_
        refine lv_istore_n (lv' := [(1, .int (sm + (nI ((S.getD k s0).2.1)))), (3, .ref a_2), (0, .ref h), (2, .int (nI k))]) hx hb dX2_increments_29 rfl hl (by decide) rfl (fun ls hl => ?_)
        refine lv_iinc (v := nI (k + 1)) (lv' := [(2, .int (nI (k + 1))), (1, .int (sm + (nI ((S.getD k s0).2.1)))), (3, .ref a_2), (0, .ref h)]) hx hb dX2_increments_30 hl (k := 3) rfl (nI_add k 1) (by decide) rfl (fun ls hl => ?_)
        refine lv_goto (tgt := 4) hx hb dX2_increments_33 (by decide) ?_
        exact ih_4 (k + 1) (sm + (nI ((S.getD k s0).2.1))) _ (by omega) (by omega) (by omega) (by rw [ssm, if_neg (by omega), hsm]) (lv_sub hl [3, 1, 0] rfl)
  exact lp_4 (((S.length - 1)) + 1) 1 (nI 0) _ (Nat.lt_succ_self _) (Nat.le_refl _) (Or.inr rfl) rfl (lv_sub hl [2, 1, 0] rfl)
set_option maxHeartbeats 4000000 in
set_option maxRecDepth 100000 in
theorem p_tpsize (l : Launch) {G : va_G} {tys : List (ClassId × FieldType)} {cB cI cE cS : ClassId} (hT : tys = [(cB, .byte), (cI, .int), (cE, .object RX1), (cS, .object RX4)]) {w : va_W} {tp wd by1 : Nat} {g : Nat → Int32} {T : List Nat} (hm1 : (tp, .inr (4, [.ref wd, .ref by1, .int (nI T.length)])) ∈ w) (hm2 : (wd, .inl (cI, 5, .inl g)) ∈ w) : pMet l yX5_size wsX5_size ({ frames := 0, cells := 0, slots := 0, locals := 0 } : Room) G tys [.ref tp] w (fun r => r = .int (nI T.length)) := by
  have hT0 : tys[0]? = some (cB, .byte) := by rw [hT]; rfl
  refine Met.ofW (cc := cX5_size) (maxL := 1) (ret := (some .int)) (by decide) rfl ?_
  intro p e s m args below meth c s₁ B hml hv
  obtain ⟨hargs, hP, hK⟩ := hv
  have hx := B.exec
  have hb := B.bytes
  have hr := B.returns
  have hts := atoms_spec (ws := wsX5_size) B.pre
  have hown : s.vm.findClass RX5 = some m.cls := findClass_of_methodNamed B.named
  have hlocks := B.notSynchronized
  have inX5 : ∀ w ∈ wsX50, w ∈ wsX5_size := by decide +kernel
  have k_19 := hts (.fieldLink RX5 19 "MirrorKeep$Tape" "count" "I") (by decide +kernel)
  obtain ⟨Q, hQ⟩ : ∃ Q : State → Prop, Q = MQ below (pQ (fun r => r = .int (nI T.length))) args s 0 0 (fun _ => False) := ⟨_, rfl⟩
  change W p l e ({ frames := 0, cells := 0, slots := 0, locals := 0 } : Room) s m args below meth c s.heap [] 0 0 (MQ below (pQ (fun r => r = .int (nI T.length))) args s 0 0 (fun _ => False)) (entryFrame m args 1)
  rw [← hQ]
  refine nn_entry hargs (Nat.le_of_ble_eq_true rfl) (lv := [(0, .ref tp)]) rfl (fun ls hl => ?_)
  refine lv_aload_n hx hb dX5_size_0 rfl (lv_at hl 0 rfl) ?_
  refine xg (ci := 4) (C := RX5) (T := TX5) (N := 3) (v := .int (nI T.length)) hx hb hts inX5 hown hK hP hm1 rfl 2 (by decide) k_19 (fun _ h => h) rfl dX5_size_1 ?_
  rw [hQ]
  exact pf_iret hx hb hr hlocks rfl dX5_size_4
set_option maxHeartbeats 4000000 in
set_option maxRecDepth 100000 in
theorem p_ready (l : Launch) {G : va_G} {tys : List (ClassId × FieldType)} {cB cI cE cS : ClassId} (hT : tys = [(cB, .byte), (cI, .int), (cE, .object RX1), (cS, .object RX4)]) {w : va_W} {tp wd by1 : Nat} {g : Nat → Int32} {T : List Nat} (hm1 : (tp, .inr (4, [.ref wd, .ref by1, .int (nI T.length)])) ∈ w) (hm2 : (wd, .inl (cI, 5, .inl g)) ∈ w) (i : Nat) (hi : i < 20) : pMet l yX5_readyByte wsX5_readyByte ({ frames := 0, cells := 0, slots := 0, locals := 0 } : Room) G tys [.ref tp, .int (nI i)] w (fun r => r = .int (sb_b (bt (g (i / 4)) (i % 4)))) := by
  have hT0 : tys[0]? = some (cB, .byte) := by rw [hT]; rfl
  have hT1 : tys[1]? = some (cI, .int) := by rw [hT]; rfl
  refine Met.ofW (cc := cX5_readyByte) (maxL := 3) (ret := (some .byte)) (by decide) rfl ?_
  intro p e s m args below meth c s₁ B hml hv
  obtain ⟨hargs, hP, hK⟩ := hv
  have hx := B.exec
  have hb := B.bytes
  have hr := B.returns
  have hts := atoms_spec (ws := wsX5_readyByte) B.pre
  have hown : s.vm.findClass RX5 = some m.cls := findClass_of_methodNamed B.named
  have hlocks := B.notSynchronized
  have inX5 : ∀ w ∈ wsX50, w ∈ wsX5_readyByte := by decide +kernel
  have k_11 := hts (.fieldLink RX5 11 "MirrorKeep$Tape" "words" "[I") (by decide +kernel)
  obtain ⟨Q, hQ⟩ : ∃ Q : State → Prop, Q = MQ below (pQ (fun r => r = .int (sb_b (bt (g (i / 4)) (i % 4))))) args s 0 0 (fun _ => False) := ⟨_, rfl⟩
  change W p l e ({ frames := 0, cells := 0, slots := 0, locals := 0 } : Room) s m args below meth c s.heap [] 0 0 (MQ below (pQ (fun r => r = .int (sb_b (bt (g (i / 4)) (i % 4))))) args s 0 0 (fun _ => False)) (entryFrame m args 3)
  rw [← hQ]
  refine nn_entry hargs (Nat.le_of_ble_eq_true rfl) (lv := [(0, .ref tp), (1, .int (nI i))]) rfl (fun ls hl => ?_)
  refine lv_iload_n hx hb dX5_readyByte_0 rfl (lv_at hl 1 rfl) ?_
  refine lv_iconst (v := nI 2) hx hb dX5_readyByte_1 rfl ?_
  refine lv_ishr hx hb dX5_readyByte_2 ?_
  refine nn_eqi (y := nI (i / 4)) (pk_shrN (k := 2) (by omega) _ (by decide)) ?_
  refine lv_istore_n (lv' := [(2, .int (nI (i / 4))), (0, .ref tp), (1, .int (nI i))]) hx hb dX5_readyByte_3 rfl hl (by decide) rfl (fun ls hl => ?_)
  refine lv_iload_n hx hb dX5_readyByte_4 rfl (lv_at hl 0 rfl) ?_
  refine nz_lt hx hb dX5_readyByte_5 (tgt := 13) (by decide) (by omega) (fun c_1 => ?_) (fun c_1 => ?_)
  · exact absurd c_1 (Nat.not_lt_zero _)
  · refine lv_iload_n hx hb dX5_readyByte_8 rfl (lv_at hl 0 rfl) ?_
    refine lv_iconst (v := nI 5) hx hb dX5_readyByte_9 rfl ?_
    refine nn_lt hx hb dX5_readyByte_10 (tgt := 15) (by decide) (by omega) (by omega) (fun c_2 => ?_) (fun c_2 => ?_)
    · refine lv_aload_n hx hb dX5_readyByte_15 rfl (lv_at hl 1 rfl) ?_
      refine xg (ci := 4) (C := RX5) (T := TX5) (N := 3) (v := .ref wd) hx hb hts inX5 hown hK hP hm1 rfl 0 (by decide) k_11 (fun _ h => h) rfl dX5_readyByte_16 ?_
      refine lv_iload_n hx hb dX5_readyByte_19 rfl (lv_at hl 0 rfl) ?_
      obtain ⟨q0, he9⟩ := List.getElem?_of_mem hm2
      refine nn_iald hx hb hK hT1 hP he9 (by omega) (by decide) dX5_readyByte_20 ?_
      refine lv_bipush (v := nI 24) hx hb dX5_readyByte_21 (by decide) ?_
      refine lv_bipush (v := nI 8) hx hb dX5_readyByte_23 (by decide) ?_
      refine lv_iload_n hx hb dX5_readyByte_25 rfl (lv_at hl 2 rfl) ?_
      refine lv_iconst (v := nI 3) hx hb dX5_readyByte_26 rfl ?_
      refine lv_iand hx hb dX5_readyByte_27 ?_
      refine nn_eqi (y := nI (i % 4)) (pk_andN (k := 2) (by omega) (by decide)) ?_
      refine nn_mul hx hb dX5_readyByte_28 ?_
      refine nn_sub hx hb (by omega) dX5_readyByte_29 ?_
      refine lv_iushr (v := ((g (i / 4)).toUInt32 >>> ((nI (24 - (8 * (i % 4)))).toUInt32 &&& Int32.toUInt32 31)).toInt32) hx hb dX5_readyByte_30 rfl ?_
      refine lv_i2b hx hb dX5_readyByte_31 rfl ?_
      rw [hQ]
      exact pf_bret hx hb hr (by rw [rb_eq (by omega)]; exact sb_nar (bt_lt _ _)) hlocks (by rw [rb_eq (by omega)]) dX5_readyByte_32
    · exact absurd c_2 (by omega)
set_option maxHeartbeats 4000000 in
set_option maxRecDepth 100000 in
theorem p_isKind (l : Launch) {G : va_G} {tys : List (ClassId × FieldType)} {cB cI cE cS : ClassId} (hT : tys = [(cB, .byte), (cI, .int), (cE, .object RX1), (cS, .object RX4)]) {w : va_W} (k : Int32) : pMet l yX8_isKind wsX8_isKind ({ frames := 0, cells := 0, slots := 0, locals := 0 } : Room) G tys [.int k] w (fun r => r = .int (bI (decide (1 ≤ k.toInt ∧ k.toInt ≤ 3)))) := by
  have hT0 : tys[0]? = some (cB, .byte) := by rw [hT]; rfl
  refine Met.ofW (cc := cX8_isKind) (maxL := 1) (ret := (some .boolean)) (by decide) rfl ?_
  intro p e s m args below meth c s₁ B hml hv
  obtain ⟨hargs, hP, hK⟩ := hv
  have hx := B.exec
  have hb := B.bytes
  have hr := B.returns
  have hts := atoms_spec (ws := wsX8_isKind) B.pre
  have hown : s.vm.findClass RX8 = some m.cls := findClass_of_methodNamed B.named
  have hlocks := B.notSynchronized
  obtain ⟨Q, hQ⟩ : ∃ Q : State → Prop, Q = MQ below (pQ (fun r => r = .int (bI (decide (1 ≤ k.toInt ∧ k.toInt ≤ 3))))) args s 0 0 (fun _ => False) := ⟨_, rfl⟩
  change W p l e ({ frames := 0, cells := 0, slots := 0, locals := 0 } : Room) s m args below meth c s.heap [] 0 0 (MQ below (pQ (fun r => r = .int (bI (decide (1 ≤ k.toInt ∧ k.toInt ≤ 3))))) args s 0 0 (fun _ => False)) (entryFrame m args 1)
  rw [← hQ]
  refine nn_entry hargs (Nat.le_of_ble_eq_true rfl) (lv := [(0, .int k)]) rfl (fun ls hl => ?_)
  refine lv_iload_n hx hb dX8_isKind_0 rfl (lv_at hl 0 rfl) ?_
  refine lv_iconst (v := nI 1) hx hb dX8_isKind_1 rfl ?_
  refine zc_eq hx hb rfl (nI_toInt (by omega)) dX8_isKind_2 (tgt := 15) (by decide) (fun c_1 => ?_) (fun c_1 => ?_)
  · refine lv_iconst (v := bI true) hx hb dX8_isKind_15 rfl ?_
    refine lv_goto (tgt := 20) hx hb dX8_isKind_16 (by decide) ?_
    rw [hQ]
    exact pf_zret hx hb hr hlocks (bI_01 _) (congrArg (fun b => Value.int (bI b)) (decide_eq_true (by omega)).symm) dX8_isKind_20
  · refine lv_iload_n hx hb dX8_isKind_5 rfl (lv_at hl 0 rfl) ?_
    refine lv_iconst (v := nI 2) hx hb dX8_isKind_6 rfl ?_
    refine zc_eq hx hb rfl (nI_toInt (by omega)) dX8_isKind_7 (tgt := 15) (by decide) (fun c_2 => ?_) (fun c_2 => ?_)
    · refine lv_iconst (v := bI true) hx hb dX8_isKind_15 rfl ?_
      refine lv_goto (tgt := 20) hx hb dX8_isKind_16 (by decide) ?_
      rw [hQ]
      exact pf_zret hx hb hr hlocks (bI_01 _) (congrArg (fun b => Value.int (bI b)) (decide_eq_true (by omega)).symm) dX8_isKind_20
    · refine lv_iload_n hx hb dX8_isKind_10 rfl (lv_at hl 0 rfl) ?_
      refine lv_iconst (v := nI 3) hx hb dX8_isKind_11 rfl ?_
      refine zc_ne hx hb rfl (nI_toInt (by omega)) dX8_isKind_12 (tgt := 19) (by decide) (fun c_3 => ?_) (fun c_3 => ?_)
      · refine lv_iconst (v := bI false) hx hb dX8_isKind_19 rfl ?_
        rw [hQ]
        exact pf_zret hx hb hr hlocks (bI_01 _) (congrArg (fun b => Value.int (bI b)) (decide_eq_false (by omega)).symm) dX8_isKind_20
      · refine lv_iconst (v := bI true) hx hb dX8_isKind_15 rfl ?_
        refine lv_goto (tgt := 20) hx hb dX8_isKind_16 (by decide) ?_
        rw [hQ]
        exact pf_zret hx hb hr hlocks (bI_01 _) (congrArg (fun b => Value.int (bI b)) (decide_eq_true (by omega)).symm) dX8_isKind_20
set_option maxHeartbeats 4000000 in
set_option maxRecDepth 100000 in
theorem p_isMode (l : Launch) {G : va_G} {tys : List (ClassId × FieldType)} {cB cI cE cS : ClassId} (hT : tys = [(cB, .byte), (cI, .int), (cE, .object RX1), (cS, .object RX4)]) {w : va_W} (k : Int32) : pMet l yX8_isMode wsX8_isMode ({ frames := 0, cells := 0, slots := 0, locals := 0 } : Room) G tys [.int k] w (fun r => r = .int (bI (decide (0 ≤ k.toInt ∧ k.toInt < 4096)))) := by
  have hT0 : tys[0]? = some (cB, .byte) := by rw [hT]; rfl
  refine Met.ofW (cc := cX8_isMode) (maxL := 1) (ret := (some .boolean)) (by decide) rfl ?_
  intro p e s m args below meth c s₁ B hml hv
  obtain ⟨hargs, hP, hK⟩ := hv
  have hx := B.exec
  have hb := B.bytes
  have hr := B.returns
  have hts := atoms_spec (ws := wsX8_isMode) B.pre
  have hown : s.vm.findClass RX8 = some m.cls := findClass_of_methodNamed B.named
  have hlocks := B.notSynchronized
  obtain ⟨Q, hQ⟩ : ∃ Q : State → Prop, Q = MQ below (pQ (fun r => r = .int (bI (decide (0 ≤ k.toInt ∧ k.toInt < 4096))))) args s 0 0 (fun _ => False) := ⟨_, rfl⟩
  change W p l e ({ frames := 0, cells := 0, slots := 0, locals := 0 } : Room) s m args below meth c s.heap [] 0 0 (MQ below (pQ (fun r => r = .int (bI (decide (0 ≤ k.toInt ∧ k.toInt < 4096))))) args s 0 0 (fun _ => False)) (entryFrame m args 1)
  rw [← hQ]
  refine nn_entry hargs (Nat.le_of_ble_eq_true rfl) (lv := [(0, .int k)]) rfl (fun ls hl => ?_)
  refine lv_iload_n hx hb dX8_isMode_0 rfl (lv_at hl 0 rfl) ?_
  refine zi_lt hx hb rfl dX8_isMode_1 (tgt := 15) (by decide) (fun c_1 => ?_) (fun c_1 => ?_)
  · refine lv_iconst (v := bI false) hx hb dX8_isMode_15 rfl ?_
    rw [hQ]
    exact pf_zret hx hb hr hlocks (bI_01 _) (congrArg (fun b => Value.int (bI b)) (decide_eq_false (by omega)).symm) dX8_isMode_16
  · refine lv_iload_n hx hb dX8_isMode_4 rfl (lv_at hl 0 rfl) ?_
    refine lv_sipush (v := nI 4095) hx hb dX8_isMode_5 (by decide) ?_
    refine zc_gt hx hb rfl (nI_toInt (by omega)) dX8_isMode_8 (tgt := 15) (by decide) (fun c_2 => ?_) (fun c_2 => ?_)
    · refine lv_iconst (v := bI false) hx hb dX8_isMode_15 rfl ?_
      rw [hQ]
      exact pf_zret hx hb hr hlocks (bI_01 _) (congrArg (fun b => Value.int (bI b)) (decide_eq_false (by omega)).symm) dX8_isMode_16
    · refine lv_iconst (v := bI true) hx hb dX8_isMode_11 rfl ?_
      refine lv_goto (tgt := 16) hx hb dX8_isMode_12 (by decide) ?_
      rw [hQ]
      exact pf_zret hx hb hr hlocks (bI_01 _) (congrArg (fun b => Value.int (bI b)) (decide_eq_true (by omega)).symm) dX8_isMode_16
set_option maxHeartbeats 4000000 in
set_option maxRecDepth 100000 in
theorem p_isTime (l : Launch) {G : va_G} {tys : List (ClassId × FieldType)} {cB cI cE cS : ClassId} (hT : tys = [(cB, .byte), (cI, .int), (cE, .object RX1), (cS, .object RX4)]) {w : va_W} (k : Int32) : pMet l yX8_isTime wsX8_isTime ({ frames := 0, cells := 0, slots := 0, locals := 0 } : Room) G tys [.int k] w (fun r => r = .int (bI (decide (0 ≤ k.toInt)))) := by
  have hT0 : tys[0]? = some (cB, .byte) := by rw [hT]; rfl
  refine Met.ofW (cc := cX8_isTime) (maxL := 1) (ret := (some .boolean)) (by decide) rfl ?_
  intro p e s m args below meth c s₁ B hml hv
  obtain ⟨hargs, hP, hK⟩ := hv
  have hx := B.exec
  have hb := B.bytes
  have hr := B.returns
  have hts := atoms_spec (ws := wsX8_isTime) B.pre
  have hown : s.vm.findClass RX8 = some m.cls := findClass_of_methodNamed B.named
  have hlocks := B.notSynchronized
  obtain ⟨Q, hQ⟩ : ∃ Q : State → Prop, Q = MQ below (pQ (fun r => r = .int (bI (decide (0 ≤ k.toInt))))) args s 0 0 (fun _ => False) := ⟨_, rfl⟩
  change W p l e ({ frames := 0, cells := 0, slots := 0, locals := 0 } : Room) s m args below meth c s.heap [] 0 0 (MQ below (pQ (fun r => r = .int (bI (decide (0 ≤ k.toInt))))) args s 0 0 (fun _ => False)) (entryFrame m args 1)
  rw [← hQ]
  refine nn_entry hargs (Nat.le_of_ble_eq_true rfl) (lv := [(0, .int k)]) rfl (fun ls hl => ?_)
  refine lv_iload_n hx hb dX8_isTime_0 rfl (lv_at hl 0 rfl) ?_
  refine zi_lt hx hb rfl dX8_isTime_1 (tgt := 8) (by decide) (fun c_1 => ?_) (fun c_1 => ?_)
  · refine lv_iconst (v := bI false) hx hb dX8_isTime_8 rfl ?_
    rw [hQ]
    exact pf_zret hx hb hr hlocks (bI_01 _) (congrArg (fun b => Value.int (bI b)) (decide_eq_false (by omega)).symm) dX8_isTime_9
  · refine lv_iconst (v := bI true) hx hb dX8_isTime_4 rfl ?_
    refine lv_goto (tgt := 9) hx hb dX8_isTime_5 (by decide) ?_
    rw [hQ]
    exact pf_zret hx hb hr hlocks (bI_01 _) (congrArg (fun b => Value.int (bI b)) (decide_eq_true (by omega)).symm) dX8_isTime_9
set_option maxHeartbeats 4000000 in
set_option maxRecDepth 100000 in
theorem p_isOperationCount (l : Launch) {G : va_G} {tys : List (ClassId × FieldType)} {cB cI cE cS : ClassId} (hT : tys = [(cB, .byte), (cI, .int), (cE, .object RX1), (cS, .object RX4)]) {w : va_W} (k : Int32) : pMet l yX8_isOperationCount wsX8_isOperationCount ({ frames := 0, cells := 0, slots := 0, locals := 0 } : Room) G tys [.int k] w (fun r => r = .int (bI (decide (0 ≤ k.toInt ∧ k.toInt ≤ 200)))) := by
  have hT0 : tys[0]? = some (cB, .byte) := by rw [hT]; rfl
  refine Met.ofW (cc := cX8_isOperationCount) (maxL := 1) (ret := (some .boolean)) (by decide) rfl ?_
  intro p e s m args below meth c s₁ B hml hv
  obtain ⟨hargs, hP, hK⟩ := hv
  have hx := B.exec
  have hb := B.bytes
  have hr := B.returns
  have hts := atoms_spec (ws := wsX8_isOperationCount) B.pre
  have hown : s.vm.findClass RX8 = some m.cls := findClass_of_methodNamed B.named
  have hlocks := B.notSynchronized
  obtain ⟨Q, hQ⟩ : ∃ Q : State → Prop, Q = MQ below (pQ (fun r => r = .int (bI (decide (0 ≤ k.toInt ∧ k.toInt ≤ 200))))) args s 0 0 (fun _ => False) := ⟨_, rfl⟩
  change W p l e ({ frames := 0, cells := 0, slots := 0, locals := 0 } : Room) s m args below meth c s.heap [] 0 0 (MQ below (pQ (fun r => r = .int (bI (decide (0 ≤ k.toInt ∧ k.toInt ≤ 200))))) args s 0 0 (fun _ => False)) (entryFrame m args 1)
  rw [← hQ]
  refine nn_entry hargs (Nat.le_of_ble_eq_true rfl) (lv := [(0, .int k)]) rfl (fun ls hl => ?_)
  refine lv_iload_n hx hb dX8_isOperationCount_0 rfl (lv_at hl 0 rfl) ?_
  refine zi_lt hx hb rfl dX8_isOperationCount_1 (tgt := 15) (by decide) (fun c_1 => ?_) (fun c_1 => ?_)
  · refine lv_iconst (v := bI false) hx hb dX8_isOperationCount_15 rfl ?_
    rw [hQ]
    exact pf_zret hx hb hr hlocks (bI_01 _) (congrArg (fun b => Value.int (bI b)) (decide_eq_false (by omega)).symm) dX8_isOperationCount_16
  · refine lv_iload_n hx hb dX8_isOperationCount_4 rfl (lv_at hl 0 rfl) ?_
    refine lv_sipush (v := nI 200) hx hb dX8_isOperationCount_5 (by decide) ?_
    refine zc_gt hx hb rfl (nI_toInt (by omega)) dX8_isOperationCount_8 (tgt := 15) (by decide) (fun c_2 => ?_) (fun c_2 => ?_)
    · refine lv_iconst (v := bI false) hx hb dX8_isOperationCount_15 rfl ?_
      rw [hQ]
      exact pf_zret hx hb hr hlocks (bI_01 _) (congrArg (fun b => Value.int (bI b)) (decide_eq_false (by omega)).symm) dX8_isOperationCount_16
    · refine lv_iconst (v := bI true) hx hb dX8_isOperationCount_11 rfl ?_
      refine lv_goto (tgt := 16) hx hb dX8_isOperationCount_12 (by decide) ?_
      rw [hQ]
      exact pf_zret hx hb hr hlocks (bI_01 _) (congrArg (fun b => Value.int (bI b)) (decide_eq_true (by omega)).symm) dX8_isOperationCount_16
set_option maxHeartbeats 4000000 in
set_option maxRecDepth 100000 in
theorem p_mostBytes (l : Launch) {G : va_G} {tys : List (ClassId × FieldType)} {cB cI cE cS : ClassId} (hT : tys = [(cB, .byte), (cI, .int), (cE, .object RX1), (cS, .object RX4)]) {w : va_W} (k : Int32) : pMet l yX8_mostBytes wsX8_mostBytes ({ frames := 0, cells := 0, slots := 0, locals := 0 } : Room) G tys [.int k] w (fun r => r = .int (nI (if k.toInt = 3 then 100 else 1500))) := by
  have hT0 : tys[0]? = some (cB, .byte) := by rw [hT]; rfl
  refine Met.ofW (cc := cX8_mostBytes) (maxL := 1) (ret := (some .int)) (by decide) rfl ?_
  intro p e s m args below meth c s₁ B hml hv
  obtain ⟨hargs, hP, hK⟩ := hv
  have hx := B.exec
  have hb := B.bytes
  have hr := B.returns
  have hts := atoms_spec (ws := wsX8_mostBytes) B.pre
  have hown : s.vm.findClass RX8 = some m.cls := findClass_of_methodNamed B.named
  have hlocks := B.notSynchronized
  obtain ⟨Q, hQ⟩ : ∃ Q : State → Prop, Q = MQ below (pQ (fun r => r = .int (nI (if k.toInt = 3 then 100 else 1500)))) args s 0 0 (fun _ => False) := ⟨_, rfl⟩
  change W p l e ({ frames := 0, cells := 0, slots := 0, locals := 0 } : Room) s m args below meth c s.heap [] 0 0 (MQ below (pQ (fun r => r = .int (nI (if k.toInt = 3 then 100 else 1500)))) args s 0 0 (fun _ => False)) (entryFrame m args 1)
  rw [← hQ]
  refine nn_entry hargs (Nat.le_of_ble_eq_true rfl) (lv := [(0, .int k)]) rfl (fun ls hl => ?_)
  refine lv_iload_n hx hb dX8_mostBytes_0 rfl (lv_at hl 0 rfl) ?_
  refine lv_iconst (v := nI 3) hx hb dX8_mostBytes_1 rfl ?_
  refine zc_ne hx hb rfl (nI_toInt (by omega)) dX8_mostBytes_2 (tgt := 10) (by decide) (fun c_1 => ?_) (fun c_1 => ?_)
  · refine lv_sipush (v := nI 1500) hx hb dX8_mostBytes_10 (by decide) ?_
    rw [hQ]
    exact pf_iret hx hb hr hlocks (by rw [if_neg (by omega)]) dX8_mostBytes_13
  · refine lv_bipush (v := nI 100) hx hb dX8_mostBytes_5 (by decide) ?_
    refine lv_goto (tgt := 13) hx hb dX8_mostBytes_7 (by decide) ?_
    rw [hQ]
    exact pf_iret hx hb hr hlocks (by rw [if_pos (by omega)]) dX8_mostBytes_13
