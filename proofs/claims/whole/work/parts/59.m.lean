set_option maxHeartbeats 4000000 in
set_option maxRecDepth 100000 in
theorem H_make (l : Launch) {G : va_G} {tys : List (ClassId × FieldType)} {cJ : ClassId} {pl : va_W} {sz : Nat} {X : va_W} {mk : Nat} {fs : List Value} (hm : (mk, .inr (7, fs)) ∈ X) {post : Option Value → va_W → va_W → Prop} {xp : String → va_W → va_W → Prop} (p0 p1 p2 : Int32) (hM : ∀ sz, xMet l yX8_make wsX8_make ({ frames := 6, cells := 4, slots := 3006, locals := 105 } : Room) G tys [.ref mk, .int p0, .int p1, .int p2] X pl sz 4 3006 post xp) (hpo : ∀ o X1 nw, post o X1 nw → ∃ v, o = some (.int v)) (hxp : ∀ E X1 nw, xp E X1 nw → E = IAE ∨ E = ISE) {out : Nat} {fo : Nat → Int64} : hMet l yL_make wsL_make ({ frames := 7, cells := 4, slots := 3006, locals := 129 } : Room) G tys cJ [.ref mk, .int p0, .int p1, .int p2, .ref out] (X ++ [(out, .inl (cJ, 1, .inr (.inl fo)))]) pl sz 4 3006 (hPo cJ out fo post xp [(IAE, 1), (ISE, 2)]) := by
  refine va_MetW (cc := cL_make) (maxL := 6) (ret := (some .int)) (hh := [(0, 12, 15, 13), (0, 12, 19, 15)]) (by decide) rfl ?_
  intro p e s m args below meth c s₁ B hml hv
  obtain ⟨hargs, ⟨⟨hsz, hP, hK, hD0, hZ⟩, hU⟩, hJ, hn1, hn2⟩ := hv
  have hx := B.exec
  have hb := B.bytes
  have hr := B.returns
  have hts := atoms_spec (ws := wsL_make) B.pre
  have hown : s.vm.findClass RL = some m.cls := findClass_of_methodNamed B.named
  have hlocks := B.notSynchronized
  have htb := vx_table (x := yL_make) (bytes := cL_make) (maxL' := 6) (ret' := some .int) (hh := [(0, 12, 15, 13), (0, 12, 19, 15)]) B (hts _ List.mem_cons_self)
  subst hsz
  have hD := hD0.self (sz := s.heap.size)
  obtain ⟨A, hAe⟩ : ∃ A : Nat → Prop, A = va_A ((X ++ [(out, .inl (cJ, 1, .inr (.inl fo)))]) ++ pl) s.heap.size := ⟨_, rfl⟩
  rw [← hAe] at hD hU
  have hA : ∀ q : Nat, s.heap.size ≤ q → A q := fun q h => by rw [hAe]; exact Or.inr h
  have hR : rR G A s.heap s.heap [] ((X ++ [(out, .inl (cJ, 1, .inr (.inl fo)))]) ++ pl) := ⟨hP, hD, va_S.rf⟩
  obtain ⟨Q, hQ⟩ : ∃ Q : State → Prop, Q = MQ below (cQ G A pl (hPo cJ out fo post xp [(IAE, 1), (ISE, 2)])) args s 4 3006 A := ⟨_, rfl⟩
  change W p l e ({ frames := 7, cells := 4, slots := 3006, locals := 129 } : Room) s m args below meth c s.heap [] 0 0 (MQ below (cQ G (va_A ((X ++ [(out, .inl (cJ, 1, .inr (.inl fo)))]) ++ pl) s.heap.size) pl (hPo cJ out fo post xp [(IAE, 1), (ISE, 2)])) args s 4 3006 (va_A ((X ++ [(out, .inl (cJ, 1, .inr (.inl fo)))]) ++ pl) s.heap.size)) (entryFrame m args 6)
  rw [← hAe, ← hQ]
  refine nn_entry hargs (Nat.le_of_ble_eq_true rfl) (lv := [(0, .ref mk), (1, .int p0), (2, .int p1), (3, .int p2), (4, .ref out)]) rfl (fun ls hl => ?_)
  refine lv_aload hx hb dL_make_0 (lv_at hl 4 rfl) ?_
  refine lv_iconst (v := nI 0) hx hb dL_make_2 rfl ?_
  refine lv_aload_n hx hb dL_make_3 rfl (lv_at hl 0 rfl) ?_
  refine lv_iload_n hx hb dL_make_4 rfl (lv_at hl 1 rfl) ?_
  refine lv_iload_n hx hb dL_make_5 rfl (lv_at hl 2 rfl) ?_
  refine lv_iload_n hx hb dL_make_6 rfl (lv_at hl 3 rfl) ?_
  refine xl_callX (C := RX8) (As := [.int p0, .int p1, .int p2]) (rest := [.int (nI 0), .ref out]) (cx := X) (wr := [(out, .inl (cJ, 1, .inr (.inl fo)))]) (hM _) ⟨hx, hb, hml, hown, hts⟩ (cwV 3 hts gL_make_X8_make rfl rfl rfl (by decide +kernel) ⟨Nat.le_of_ble_eq_true rfl, Nat.le_of_ble_eq_true rfl⟩) hK hZ hU hR hA (xrecv (ci := 7) hK hR.1 rfl (List.mem_append_left _ (List.mem_append_left _ hm))) rfl hl.1 rfl (Nat.le_of_ble_eq_true rfl) dL_make_7 ⟨Nat.le_of_ble_eq_true rfl, Nat.le_of_ble_eq_true rfl⟩ (fun r X1 nw H locs hpost hR => ?_) (fun E q ce X1 nw H locs hxe hR hce hcv hcl => ?_)
  · obtain ⟨v, rfl⟩ := hpo _ _ _ hpost
    have hset : ∀ (x : Nat × va_E), (((X1 ++ [(out, .inl (cJ, 1, .inr (.inl fo)))]) ++ (pl ++ nw) : va_W)).set X1.length x = (X1 ++ [x]) ++ (pl ++ nw) := fun x => by rw [List.append_assoc, List.set_append_right _ _ (Nat.le_refl _), Nat.sub_self, List.append_assoc]; rfl
    refine lv_i2l hx hb dL_make_10 rfl ?_
    refine va_last hx hb hJ hR.1 hR.2.1 hR.2.2 X1.length 0 (by rw [List.append_assoc, List.getElem?_append_right (Nat.le_refl _), Nat.sub_self]; rfl) rfl (vp_in_nI (by decide) (by decide)) dL_make_11 (fun H locs hP hD hS => ?_)
    rw [hset] at hP hD
    have hR : rR G A s.heap H locs ((X1 ++ [(out, .inl (cJ, 1, .inr (.inl (vp_updL fo 0 v.toInt64))))]) ++ (pl ++ nw)) := ⟨hP, hD, hS⟩
    refine lv_goto (tgt := 23) hx hb dL_make_12 (by decide) ?_
    refine lv_iconst (v := nI 0) hx hb dL_make_23 rfl ?_
    rw [hQ]
    refine W.widen (k := 4) (n := 3006) (by omega) (by omega) ?_
    exact xc_iret hx hb hr hlocks hR (Or.inl ⟨v, X1, _, hpost, rfl, rfl, rfl⟩) dL_make_24
  · rcases hxp _ _ _ hxe with rfl | rfl
    · refine xl_catch1 (x := (⟨0, 12, 15, 13⟩ : ExceptionTableEntry)) (suf := [(⟨0, 12, 19, 15⟩ : ExceptionTableEntry)]) (E := IAE) (name := IAE) hown htb rfl (by decide) (hts (.classLink RL 13 IAE) (by decide +kernel)) (va_Nw.use (cNw_on _ (by decide +kernel)) (hZ.2.2.1 (.castable IAE IAE) (by decide +kernel))) hce hcv hcl ?_
      refine lv_astore (lv' := [(5, .ref q), (0, .ref mk), (1, .int p0), (2, .int p1), (3, .int p2), (4, .ref out)]) hx hb dL_make_15 hl (by decide) rfl (fun ls hl => ?_)
      refine lv_iconst (v := nI 1) hx hb dL_make_17 rfl ?_
      rw [hQ]
      refine W.widen (k := 4) (n := 3006) (by omega) (by omega) ?_
      exact xc_iret hx hb hr hlocks hR (Or.inr ⟨IAE, 1, X1, by decide, hxe, rfl, rfl⟩) dL_make_18
    · refine xl_catch2 (x1 := (⟨0, 12, 15, 13⟩ : ExceptionTableEntry)) (x2 := (⟨0, 12, 19, 15⟩ : ExceptionTableEntry)) (suf := []) (E := ISE) (name1 := IAE) (name2 := ISE) hown htb rfl (by decide) (hts (.classLink RL 13 IAE) (by decide +kernel)) hn1 rfl (by decide) (hts (.classLink RL 15 ISE) (by decide +kernel)) (va_Nw.use (cNw_on _ (by decide +kernel)) (hZ.2.2.1 (.castable ISE ISE) (by decide +kernel))) hce hcv hcl ?_
      refine lv_astore (lv' := [(5, .ref q), (0, .ref mk), (1, .int p0), (2, .int p1), (3, .int p2), (4, .ref out)]) hx hb dL_make_19 hl (by decide) rfl (fun ls hl => ?_)
      refine lv_iconst (v := nI 2) hx hb dL_make_21 rfl ?_
      rw [hQ]
      refine W.widen (k := 4) (n := 3006) (by omega) (by omega) ?_
      exact xc_iret hx hb hr hlocks hR (Or.inr ⟨ISE, 2, X1, by decide, hxe, rfl, rfl⟩) dL_make_22
set_option maxHeartbeats 4000000 in
set_option maxRecDepth 100000 in
theorem H_write (l : Launch) {G : va_G} {tys : List (ClassId × FieldType)} {cJ : ClassId} {pl : va_W} {sz : Nat} {X : va_W} {mk : Nat} {fs : List Value} (hm : (mk, .inr (7, fs)) ∈ X) {post : Option Value → va_W → va_W → Prop} {xp : String → va_W → va_W → Prop} (p0 : Int32) (hM : ∀ sz, xMet l yX8_write wsX8_write ({ frames := 6, cells := 3, slots := 3006, locals := 107 } : Room) G tys [.ref mk, .int p0] X pl sz 3 3006 post xp) (hpo : ∀ o X1 nw, post o X1 nw → ∃ v, o = some (.int v)) (hxp : ∀ E X1 nw, xp E X1 nw → E = IAE ∨ E = ISE) {out : Nat} {fo : Nat → Int64} : hMet l yL_write wsL_write ({ frames := 7, cells := 3, slots := 3006, locals := 133 } : Room) G tys cJ [.ref mk, .int p0, .ref out] (X ++ [(out, .inl (cJ, 1, .inr (.inl fo)))]) pl sz 3 3006 (hPo cJ out fo post xp [(IAE, 1), (ISE, 2)]) := by
  refine va_MetW (cc := cL_write) (maxL := 4) (ret := (some .int)) (hh := [(0, 9, 12, 13), (0, 9, 15, 15)]) (by decide) rfl ?_
  intro p e s m args below meth c s₁ B hml hv
  obtain ⟨hargs, ⟨⟨hsz, hP, hK, hD0, hZ⟩, hU⟩, hJ, hn1, hn2⟩ := hv
  have hx := B.exec
  have hb := B.bytes
  have hr := B.returns
  have hts := atoms_spec (ws := wsL_write) B.pre
  have hown : s.vm.findClass RL = some m.cls := findClass_of_methodNamed B.named
  have hlocks := B.notSynchronized
  have htb := vx_table (x := yL_make) (bytes := cL_write) (maxL' := 4) (ret' := some .int) (hh := [(0, 9, 12, 13), (0, 9, 15, 15)]) B (hts _ List.mem_cons_self)
  subst hsz
  have hD := hD0.self (sz := s.heap.size)
  obtain ⟨A, hAe⟩ : ∃ A : Nat → Prop, A = va_A ((X ++ [(out, .inl (cJ, 1, .inr (.inl fo)))]) ++ pl) s.heap.size := ⟨_, rfl⟩
  rw [← hAe] at hD hU
  have hA : ∀ q : Nat, s.heap.size ≤ q → A q := fun q h => by rw [hAe]; exact Or.inr h
  have hR : rR G A s.heap s.heap [] ((X ++ [(out, .inl (cJ, 1, .inr (.inl fo)))]) ++ pl) := ⟨hP, hD, va_S.rf⟩
  obtain ⟨Q, hQ⟩ : ∃ Q : State → Prop, Q = MQ below (cQ G A pl (hPo cJ out fo post xp [(IAE, 1), (ISE, 2)])) args s 3 3006 A := ⟨_, rfl⟩
  change W p l e ({ frames := 7, cells := 3, slots := 3006, locals := 133 } : Room) s m args below meth c s.heap [] 0 0 (MQ below (cQ G (va_A ((X ++ [(out, .inl (cJ, 1, .inr (.inl fo)))]) ++ pl) s.heap.size) pl (hPo cJ out fo post xp [(IAE, 1), (ISE, 2)])) args s 3 3006 (va_A ((X ++ [(out, .inl (cJ, 1, .inr (.inl fo)))]) ++ pl) s.heap.size)) (entryFrame m args 4)
  rw [← hAe, ← hQ]
  refine nn_entry hargs (Nat.le_of_ble_eq_true rfl) (lv := [(0, .ref mk), (1, .int p0), (2, .ref out)]) rfl (fun ls hl => ?_)
  refine lv_aload_n hx hb dL_write_0 rfl (lv_at hl 2 rfl) ?_
  refine lv_iconst (v := nI 0) hx hb dL_write_1 rfl ?_
  refine lv_aload_n hx hb dL_write_2 rfl (lv_at hl 0 rfl) ?_
  refine lv_iload_n hx hb dL_write_3 rfl (lv_at hl 1 rfl) ?_
  refine xl_callX (C := RX8) (As := [.int p0]) (rest := [.int (nI 0), .ref out]) (cx := X) (wr := [(out, .inl (cJ, 1, .inr (.inl fo)))]) (hM _) ⟨hx, hb, hml, hown, hts⟩ (cwV 1 hts gL_write_X8_write rfl rfl rfl (by decide +kernel) ⟨Nat.le_of_ble_eq_true rfl, Nat.le_of_ble_eq_true rfl⟩) hK hZ hU hR hA (xrecv (ci := 7) hK hR.1 rfl (List.mem_append_left _ (List.mem_append_left _ hm))) rfl hl.1 rfl (Nat.le_of_ble_eq_true rfl) dL_write_4 ⟨Nat.le_of_ble_eq_true rfl, Nat.le_of_ble_eq_true rfl⟩ (fun r X1 nw H locs hpost hR => ?_) (fun E q ce X1 nw H locs hxe hR hce hcv hcl => ?_)
  · obtain ⟨v, rfl⟩ := hpo _ _ _ hpost
    have hset : ∀ (x : Nat × va_E), (((X1 ++ [(out, .inl (cJ, 1, .inr (.inl fo)))]) ++ (pl ++ nw) : va_W)).set X1.length x = (X1 ++ [x]) ++ (pl ++ nw) := fun x => by rw [List.append_assoc, List.set_append_right _ _ (Nat.le_refl _), Nat.sub_self, List.append_assoc]; rfl
    refine lv_i2l hx hb dL_write_7 rfl ?_
    refine va_last hx hb hJ hR.1 hR.2.1 hR.2.2 X1.length 0 (by rw [List.append_assoc, List.getElem?_append_right (Nat.le_refl _), Nat.sub_self]; rfl) rfl (vp_in_nI (by decide) (by decide)) dL_write_8 (fun H locs hP hD hS => ?_)
    rw [hset] at hP hD
    have hR : rR G A s.heap H locs ((X1 ++ [(out, .inl (cJ, 1, .inr (.inl (vp_updL fo 0 v.toInt64))))]) ++ (pl ++ nw)) := ⟨hP, hD, hS⟩
    refine lv_goto (tgt := 18) hx hb dL_write_9 (by decide) ?_
    refine lv_iconst (v := nI 0) hx hb dL_write_18 rfl ?_
    rw [hQ]
    refine W.widen (k := 3) (n := 3006) (by omega) (by omega) ?_
    exact xc_iret hx hb hr hlocks hR (Or.inl ⟨v, X1, _, hpost, rfl, rfl, rfl⟩) dL_write_19
  · rcases hxp _ _ _ hxe with rfl | rfl
    · refine xl_catch1 (x := (⟨0, 9, 12, 13⟩ : ExceptionTableEntry)) (suf := [(⟨0, 9, 15, 15⟩ : ExceptionTableEntry)]) (E := IAE) (name := IAE) hown htb rfl (by decide) (hts (.classLink RL 13 IAE) (by decide +kernel)) (va_Nw.use (cNw_on _ (by decide +kernel)) (hZ.2.2.1 (.castable IAE IAE) (by decide +kernel))) hce hcv hcl ?_
      refine lv_astore_n (lv' := [(3, .ref q), (0, .ref mk), (1, .int p0), (2, .ref out)]) hx hb dL_write_12 rfl hl (by decide) rfl (fun ls hl => ?_)
      refine lv_iconst (v := nI 1) hx hb dL_write_13 rfl ?_
      rw [hQ]
      refine W.widen (k := 3) (n := 3006) (by omega) (by omega) ?_
      exact xc_iret hx hb hr hlocks hR (Or.inr ⟨IAE, 1, X1, by decide, hxe, rfl, rfl⟩) dL_write_14
    · refine xl_catch2 (x1 := (⟨0, 9, 12, 13⟩ : ExceptionTableEntry)) (x2 := (⟨0, 9, 15, 15⟩ : ExceptionTableEntry)) (suf := []) (E := ISE) (name1 := IAE) (name2 := ISE) hown htb rfl (by decide) (hts (.classLink RL 13 IAE) (by decide +kernel)) hn1 rfl (by decide) (hts (.classLink RL 15 ISE) (by decide +kernel)) (va_Nw.use (cNw_on _ (by decide +kernel)) (hZ.2.2.1 (.castable ISE ISE) (by decide +kernel))) hce hcv hcl ?_
      refine lv_astore_n (lv' := [(3, .ref q), (0, .ref mk), (1, .int p0), (2, .ref out)]) hx hb dL_write_15 rfl hl (by decide) rfl (fun ls hl => ?_)
      refine lv_iconst (v := nI 2) hx hb dL_write_16 rfl ?_
      rw [hQ]
      refine W.widen (k := 3) (n := 3006) (by omega) (by omega) ?_
      exact xc_iret hx hb hr hlocks hR (Or.inr ⟨ISE, 2, X1, by decide, hxe, rfl, rfl⟩) dL_write_17
set_option maxHeartbeats 4000000 in
set_option maxRecDepth 100000 in
theorem H_cut (l : Launch) {G : va_G} {tys : List (ClassId × FieldType)} {cJ : ClassId} {pl : va_W} {sz : Nat} {X : va_W} {mk : Nat} {fs : List Value} (hm : (mk, .inr (7, fs)) ∈ X) {post : Option Value → va_W → va_W → Prop} {xp : String → va_W → va_W → Prop} (p0 : Int32) (hM : ∀ sz, xMet l yX8_cut wsX8_cut ({ frames := 6, cells := 2, slots := 1505, locals := 82 } : Room) G tys [.ref mk, .int p0] X pl sz 2 1505 post xp) (hpo : ∀ o X1 nw, post o X1 nw → o = none) (hxp : ∀ E X1 nw, xp E X1 nw → E = IAE ∨ E = ISE) : hMet l yL_cut wsL_cut ({ frames := 7, cells := 2, slots := 1505, locals := 104 } : Room) G tys cJ [.ref mk, .int p0] X pl sz 2 1505 (hPv post xp [(IAE, 1), (ISE, 2)]) := by
  refine va_MetW (cc := cL_cut) (maxL := 3) (ret := (some .int)) (hh := [(0, 5, 8, 13), (0, 5, 11, 15)]) (by decide) rfl ?_
  intro p e s m args below meth c s₁ B hml hv
  obtain ⟨hargs, ⟨⟨hsz, hP, hK, hD0, hZ⟩, hU⟩, hJ, hn1, hn2⟩ := hv
  have hx := B.exec
  have hb := B.bytes
  have hr := B.returns
  have hts := atoms_spec (ws := wsL_cut) B.pre
  have hown : s.vm.findClass RL = some m.cls := findClass_of_methodNamed B.named
  have hlocks := B.notSynchronized
  have htb := vx_table (x := yL_make) (bytes := cL_cut) (maxL' := 3) (ret' := some .int) (hh := [(0, 5, 8, 13), (0, 5, 11, 15)]) B (hts _ List.mem_cons_self)
  subst hsz
  have hD := hD0.self (sz := s.heap.size)
  obtain ⟨A, hAe⟩ : ∃ A : Nat → Prop, A = va_A (X ++ pl) s.heap.size := ⟨_, rfl⟩
  rw [← hAe] at hD hU
  have hA : ∀ q : Nat, s.heap.size ≤ q → A q := fun q h => by rw [hAe]; exact Or.inr h
  have hR : rR G A s.heap s.heap [] (X ++ pl) := ⟨hP, hD, va_S.rf⟩
  obtain ⟨Q, hQ⟩ : ∃ Q : State → Prop, Q = MQ below (cQ G A pl (hPv post xp [(IAE, 1), (ISE, 2)])) args s 2 1505 A := ⟨_, rfl⟩
  change W p l e ({ frames := 7, cells := 2, slots := 1505, locals := 104 } : Room) s m args below meth c s.heap [] 0 0 (MQ below (cQ G (va_A (X ++ pl) s.heap.size) pl (hPv post xp [(IAE, 1), (ISE, 2)])) args s 2 1505 (va_A (X ++ pl) s.heap.size)) (entryFrame m args 3)
  rw [← hAe, ← hQ]
  refine nn_entry hargs (Nat.le_of_ble_eq_true rfl) (lv := [(0, .ref mk), (1, .int p0)]) rfl (fun ls hl => ?_)
  refine lv_aload_n hx hb dL_cut_0 rfl (lv_at hl 0 rfl) ?_
  refine lv_iload_n hx hb dL_cut_1 rfl (lv_at hl 1 rfl) ?_
  refine xl_callX (C := RX8) (As := [.int p0]) (rest := []) (cx := X) (wr := []) (hM _) ⟨hx, hb, hml, hown, hts⟩ (cwV 1 hts gL_cut_X8_cut rfl rfl rfl (by decide +kernel) ⟨Nat.le_of_ble_eq_true rfl, Nat.le_of_ble_eq_true rfl⟩) hK hZ hU (show rR G A s.heap s.heap [] ((X ++ []) ++ pl) by rw [List.append_nil]; exact hR) hA (xrecv (ci := 7) hK hR.1 rfl (List.mem_append_left _ hm)) rfl hl.1 rfl (Nat.le_of_ble_eq_true rfl) dL_cut_2 ⟨Nat.le_of_ble_eq_true rfl, Nat.le_of_ble_eq_true rfl⟩ (fun r X1 nw H locs hpost hR => ?_) (fun E q ce X1 nw H locs hxe hR hce hcv hcl => ?_)
  · obtain rfl := hpo _ _ _ hpost
    rw [List.append_nil] at hR
    refine lv_goto (tgt := 14) hx hb dL_cut_5 (by decide) ?_
    refine lv_iconst (v := nI 0) hx hb dL_cut_14 rfl ?_
    rw [hQ]
    refine W.widen (k := 2) (n := 1505) (by omega) (by omega) ?_
    exact xc_iret hx hb hr hlocks hR (Or.inl ⟨hpost, rfl⟩) dL_cut_15
  · rw [List.append_nil] at hR
    rcases hxp _ _ _ hxe with rfl | rfl
    · refine xl_catch1 (x := (⟨0, 5, 8, 13⟩ : ExceptionTableEntry)) (suf := [(⟨0, 5, 11, 15⟩ : ExceptionTableEntry)]) (E := IAE) (name := IAE) hown htb rfl (by decide) (hts (.classLink RL 13 IAE) (by decide +kernel)) (va_Nw.use (cNw_on _ (by decide +kernel)) (hZ.2.2.1 (.castable IAE IAE) (by decide +kernel))) hce hcv hcl ?_
      refine lv_astore_n (lv' := [(2, .ref q), (0, .ref mk), (1, .int p0)]) hx hb dL_cut_8 rfl hl (by decide) rfl (fun ls hl => ?_)
      refine lv_iconst (v := nI 1) hx hb dL_cut_9 rfl ?_
      rw [hQ]
      refine W.widen (k := 2) (n := 1505) (by omega) (by omega) ?_
      exact xc_iret hx hb hr hlocks hR (Or.inr ⟨IAE, 1, by decide, hxe, rfl⟩) dL_cut_10
    · refine xl_catch2 (x1 := (⟨0, 5, 8, 13⟩ : ExceptionTableEntry)) (x2 := (⟨0, 5, 11, 15⟩ : ExceptionTableEntry)) (suf := []) (E := ISE) (name1 := IAE) (name2 := ISE) hown htb rfl (by decide) (hts (.classLink RL 13 IAE) (by decide +kernel)) hn1 rfl (by decide) (hts (.classLink RL 15 ISE) (by decide +kernel)) (va_Nw.use (cNw_on _ (by decide +kernel)) (hZ.2.2.1 (.castable ISE ISE) (by decide +kernel))) hce hcv hcl ?_
      refine lv_astore_n (lv' := [(2, .ref q), (0, .ref mk), (1, .int p0)]) hx hb dL_cut_11 rfl hl (by decide) rfl (fun ls hl => ?_)
      refine lv_iconst (v := nI 2) hx hb dL_cut_12 rfl ?_
      rw [hQ]
      refine W.widen (k := 2) (n := 1505) (by omega) (by omega) ?_
      exact xc_iret hx hb hr hlocks hR (Or.inr ⟨ISE, 2, by decide, hxe, rfl⟩) dL_cut_13
set_option maxHeartbeats 4000000 in
set_option maxRecDepth 100000 in
theorem H_set (l : Launch) {G : va_G} {tys : List (ClassId × FieldType)} {cJ : ClassId} {pl : va_W} {sz : Nat} {X : va_W} {mk : Nat} {fs : List Value} (hm : (mk, .inr (7, fs)) ∈ X) {post : Option Value → va_W → va_W → Prop} {xp : String → va_W → va_W → Prop} (p0 p1 : Int32) (hM : ∀ sz, xMet l yX8_set wsX8_set ({ frames := 6, cells := 1, slots := 6, locals := 82 } : Room) G tys [.ref mk, .int p0, .int p1] X pl sz 1 6 post xp) (hpo : ∀ o X1 nw, post o X1 nw → o = none) (hxp : ∀ E X1 nw, xp E X1 nw → E = IAE ∨ E = ISE) : hMet l yL_set wsL_set ({ frames := 7, cells := 1, slots := 6, locals := 105 } : Room) G tys cJ [.ref mk, .int p0, .int p1] X pl sz 1 6 (hPv post xp [(IAE, 1), (ISE, 2)]) := by
  refine va_MetW (cc := cL_set) (maxL := 4) (ret := (some .int)) (hh := [(0, 6, 9, 13), (0, 6, 12, 15)]) (by decide) rfl ?_
  intro p e s m args below meth c s₁ B hml hv
  obtain ⟨hargs, ⟨⟨hsz, hP, hK, hD0, hZ⟩, hU⟩, hJ, hn1, hn2⟩ := hv
  have hx := B.exec
  have hb := B.bytes
  have hr := B.returns
  have hts := atoms_spec (ws := wsL_set) B.pre
  have hown : s.vm.findClass RL = some m.cls := findClass_of_methodNamed B.named
  have hlocks := B.notSynchronized
  have htb := vx_table (x := yL_make) (bytes := cL_set) (maxL' := 4) (ret' := some .int) (hh := [(0, 6, 9, 13), (0, 6, 12, 15)]) B (hts _ List.mem_cons_self)
  subst hsz
  have hD := hD0.self (sz := s.heap.size)
  obtain ⟨A, hAe⟩ : ∃ A : Nat → Prop, A = va_A (X ++ pl) s.heap.size := ⟨_, rfl⟩
  rw [← hAe] at hD hU
  have hA : ∀ q : Nat, s.heap.size ≤ q → A q := fun q h => by rw [hAe]; exact Or.inr h
  have hR : rR G A s.heap s.heap [] (X ++ pl) := ⟨hP, hD, va_S.rf⟩
  obtain ⟨Q, hQ⟩ : ∃ Q : State → Prop, Q = MQ below (cQ G A pl (hPv post xp [(IAE, 1), (ISE, 2)])) args s 1 6 A := ⟨_, rfl⟩
  change W p l e ({ frames := 7, cells := 1, slots := 6, locals := 105 } : Room) s m args below meth c s.heap [] 0 0 (MQ below (cQ G (va_A (X ++ pl) s.heap.size) pl (hPv post xp [(IAE, 1), (ISE, 2)])) args s 1 6 (va_A (X ++ pl) s.heap.size)) (entryFrame m args 4)
  rw [← hAe, ← hQ]
  refine nn_entry hargs (Nat.le_of_ble_eq_true rfl) (lv := [(0, .ref mk), (1, .int p0), (2, .int p1)]) rfl (fun ls hl => ?_)
  refine lv_aload_n hx hb dL_set_0 rfl (lv_at hl 0 rfl) ?_
  refine lv_iload_n hx hb dL_set_1 rfl (lv_at hl 1 rfl) ?_
  refine lv_iload_n hx hb dL_set_2 rfl (lv_at hl 2 rfl) ?_
  refine xl_callX (C := RX8) (As := [.int p0, .int p1]) (rest := []) (cx := X) (wr := []) (hM _) ⟨hx, hb, hml, hown, hts⟩ (cwV 2 hts gL_set_X8_set rfl rfl rfl (by decide +kernel) ⟨Nat.le_of_ble_eq_true rfl, Nat.le_of_ble_eq_true rfl⟩) hK hZ hU (show rR G A s.heap s.heap [] ((X ++ []) ++ pl) by rw [List.append_nil]; exact hR) hA (xrecv (ci := 7) hK hR.1 rfl (List.mem_append_left _ hm)) rfl hl.1 rfl (Nat.le_of_ble_eq_true rfl) dL_set_3 ⟨Nat.le_of_ble_eq_true rfl, Nat.le_of_ble_eq_true rfl⟩ (fun r X1 nw H locs hpost hR => ?_) (fun E q ce X1 nw H locs hxe hR hce hcv hcl => ?_)
  · obtain rfl := hpo _ _ _ hpost
    rw [List.append_nil] at hR
    refine lv_goto (tgt := 15) hx hb dL_set_6 (by decide) ?_
    refine lv_iconst (v := nI 0) hx hb dL_set_15 rfl ?_
    rw [hQ]
    refine W.widen (k := 1) (n := 6) (by omega) (by omega) ?_
    exact xc_iret hx hb hr hlocks hR (Or.inl ⟨hpost, rfl⟩) dL_set_16
  · rw [List.append_nil] at hR
    rcases hxp _ _ _ hxe with rfl | rfl
    · refine xl_catch1 (x := (⟨0, 6, 9, 13⟩ : ExceptionTableEntry)) (suf := [(⟨0, 6, 12, 15⟩ : ExceptionTableEntry)]) (E := IAE) (name := IAE) hown htb rfl (by decide) (hts (.classLink RL 13 IAE) (by decide +kernel)) (va_Nw.use (cNw_on _ (by decide +kernel)) (hZ.2.2.1 (.castable IAE IAE) (by decide +kernel))) hce hcv hcl ?_
      refine lv_astore_n (lv' := [(3, .ref q), (0, .ref mk), (1, .int p0), (2, .int p1)]) hx hb dL_set_9 rfl hl (by decide) rfl (fun ls hl => ?_)
      refine lv_iconst (v := nI 1) hx hb dL_set_10 rfl ?_
      rw [hQ]
      refine W.widen (k := 1) (n := 6) (by omega) (by omega) ?_
      exact xc_iret hx hb hr hlocks hR (Or.inr ⟨IAE, 1, by decide, hxe, rfl⟩) dL_set_11
    · refine xl_catch2 (x1 := (⟨0, 6, 9, 13⟩ : ExceptionTableEntry)) (x2 := (⟨0, 6, 12, 15⟩ : ExceptionTableEntry)) (suf := []) (E := ISE) (name1 := IAE) (name2 := ISE) hown htb rfl (by decide) (hts (.classLink RL 13 IAE) (by decide +kernel)) hn1 rfl (by decide) (hts (.classLink RL 15 ISE) (by decide +kernel)) (va_Nw.use (cNw_on _ (by decide +kernel)) (hZ.2.2.1 (.castable ISE ISE) (by decide +kernel))) hce hcv hcl ?_
      refine lv_astore_n (lv' := [(3, .ref q), (0, .ref mk), (1, .int p0), (2, .int p1)]) hx hb dL_set_12 rfl hl (by decide) rfl (fun ls hl => ?_)
      refine lv_iconst (v := nI 2) hx hb dL_set_13 rfl ?_
      rw [hQ]
      refine W.widen (k := 1) (n := 6) (by omega) (by omega) ?_
      exact xc_iret hx hb hr hlocks hR (Or.inr ⟨ISE, 2, by decide, hxe, rfl⟩) dL_set_14
set_option maxHeartbeats 4000000 in
set_option maxRecDepth 100000 in
theorem H_remove (l : Launch) {G : va_G} {tys : List (ClassId × FieldType)} {cJ : ClassId} {pl : va_W} {sz : Nat} {X : va_W} {mk : Nat} {fs : List Value} (hm : (mk, .inr (7, fs)) ∈ X) {post : Option Value → va_W → va_W → Prop} {xp : String → va_W → va_W → Prop} (hM : ∀ sz, xMet l yX8_remove wsX8_remove ({ frames := 6, cells := 1, slots := 6, locals := 82 } : Room) G tys [.ref mk] X pl sz 1 6 post xp) (hpo : ∀ o X1 nw, post o X1 nw → ∃ v, o = some (.int v)) (hxp : ∀ E X1 nw, xp E X1 nw → E = ISE) {out : Nat} {fo : Nat → Int64} : hMet l yL_remove wsL_remove ({ frames := 7, cells := 1, slots := 6, locals := 104 } : Room) G tys cJ [.ref mk, .ref out] (X ++ [(out, .inl (cJ, 1, .inr (.inl fo)))]) pl sz 1 6 (hPo cJ out fo post xp [(ISE, 1)]) := by
  refine va_MetW (cc := cL_remove) (maxL := 3) (ret := (some .int)) (hh := [(0, 8, 11, 15)]) (by decide) rfl ?_
  intro p e s m args below meth c s₁ B hml hv
  obtain ⟨hargs, ⟨⟨hsz, hP, hK, hD0, hZ⟩, hU⟩, hJ, hn1, hn2⟩ := hv
  have hx := B.exec
  have hb := B.bytes
  have hr := B.returns
  have hts := atoms_spec (ws := wsL_remove) B.pre
  have hown : s.vm.findClass RL = some m.cls := findClass_of_methodNamed B.named
  have hlocks := B.notSynchronized
  have htb := vx_table (x := yL_make) (bytes := cL_remove) (maxL' := 3) (ret' := some .int) (hh := [(0, 8, 11, 15)]) B (hts _ List.mem_cons_self)
  subst hsz
  have hD := hD0.self (sz := s.heap.size)
  obtain ⟨A, hAe⟩ : ∃ A : Nat → Prop, A = va_A ((X ++ [(out, .inl (cJ, 1, .inr (.inl fo)))]) ++ pl) s.heap.size := ⟨_, rfl⟩
  rw [← hAe] at hD hU
  have hA : ∀ q : Nat, s.heap.size ≤ q → A q := fun q h => by rw [hAe]; exact Or.inr h
  have hR : rR G A s.heap s.heap [] ((X ++ [(out, .inl (cJ, 1, .inr (.inl fo)))]) ++ pl) := ⟨hP, hD, va_S.rf⟩
  obtain ⟨Q, hQ⟩ : ∃ Q : State → Prop, Q = MQ below (cQ G A pl (hPo cJ out fo post xp [(ISE, 1)])) args s 1 6 A := ⟨_, rfl⟩
  change W p l e ({ frames := 7, cells := 1, slots := 6, locals := 104 } : Room) s m args below meth c s.heap [] 0 0 (MQ below (cQ G (va_A ((X ++ [(out, .inl (cJ, 1, .inr (.inl fo)))]) ++ pl) s.heap.size) pl (hPo cJ out fo post xp [(ISE, 1)])) args s 1 6 (va_A ((X ++ [(out, .inl (cJ, 1, .inr (.inl fo)))]) ++ pl) s.heap.size)) (entryFrame m args 3)
  rw [← hAe, ← hQ]
  refine nn_entry hargs (Nat.le_of_ble_eq_true rfl) (lv := [(0, .ref mk), (1, .ref out)]) rfl (fun ls hl => ?_)
  refine lv_aload_n hx hb dL_remove_0 rfl (lv_at hl 1 rfl) ?_
  refine lv_iconst (v := nI 0) hx hb dL_remove_1 rfl ?_
  refine lv_aload_n hx hb dL_remove_2 rfl (lv_at hl 0 rfl) ?_
  refine xl_callX (C := RX8) (As := []) (rest := [.int (nI 0), .ref out]) (cx := X) (wr := [(out, .inl (cJ, 1, .inr (.inl fo)))]) (hM _) ⟨hx, hb, hml, hown, hts⟩ (cwV 0 hts gL_remove_X8_remove rfl rfl rfl (by decide +kernel) ⟨Nat.le_of_ble_eq_true rfl, Nat.le_of_ble_eq_true rfl⟩) hK hZ hU hR hA (xrecv (ci := 7) hK hR.1 rfl (List.mem_append_left _ (List.mem_append_left _ hm))) rfl hl.1 rfl (Nat.le_of_ble_eq_true rfl) dL_remove_3 ⟨Nat.le_of_ble_eq_true rfl, Nat.le_of_ble_eq_true rfl⟩ (fun r X1 nw H locs hpost hR => ?_) (fun E q ce X1 nw H locs hxe hR hce hcv hcl => ?_)
  · obtain ⟨v, rfl⟩ := hpo _ _ _ hpost
    have hset : ∀ (x : Nat × va_E), (((X1 ++ [(out, .inl (cJ, 1, .inr (.inl fo)))]) ++ (pl ++ nw) : va_W)).set X1.length x = (X1 ++ [x]) ++ (pl ++ nw) := fun x => by rw [List.append_assoc, List.set_append_right _ _ (Nat.le_refl _), Nat.sub_self, List.append_assoc]; rfl
    refine lv_i2l hx hb dL_remove_6 rfl ?_
    refine va_last hx hb hJ hR.1 hR.2.1 hR.2.2 X1.length 0 (by rw [List.append_assoc, List.getElem?_append_right (Nat.le_refl _), Nat.sub_self]; rfl) rfl (vp_in_nI (by decide) (by decide)) dL_remove_7 (fun H locs hP hD hS => ?_)
    rw [hset] at hP hD
    have hR : rR G A s.heap H locs ((X1 ++ [(out, .inl (cJ, 1, .inr (.inl (vp_updL fo 0 v.toInt64))))]) ++ (pl ++ nw)) := ⟨hP, hD, hS⟩
    refine lv_goto (tgt := 14) hx hb dL_remove_8 (by decide) ?_
    refine lv_iconst (v := nI 0) hx hb dL_remove_14 rfl ?_
    rw [hQ]
    refine W.widen (k := 1) (n := 6) (by omega) (by omega) ?_
    exact xc_iret hx hb hr hlocks hR (Or.inl ⟨v, X1, _, hpost, rfl, rfl, rfl⟩) dL_remove_15
  · obtain rfl := hxp _ _ _ hxe
    refine xl_catch1 (x := (⟨0, 8, 11, 15⟩ : ExceptionTableEntry)) (suf := []) (E := ISE) (name := ISE) hown htb rfl (by decide) (hts (.classLink RL 15 ISE) (by decide +kernel)) (va_Nw.use (cNw_on _ (by decide +kernel)) (hZ.2.2.1 (.castable ISE ISE) (by decide +kernel))) hce hcv hcl ?_
    refine lv_astore_n (lv' := [(2, .ref q), (0, .ref mk), (1, .ref out)]) hx hb dL_remove_11 rfl hl (by decide) rfl (fun ls hl => ?_)
    refine lv_iconst (v := nI 1) hx hb dL_remove_12 rfl ?_
    rw [hQ]
    refine W.widen (k := 1) (n := 6) (by omega) (by omega) ?_
    exact xc_iret hx hb hr hlocks hR (Or.inr ⟨ISE, 1, X1, by decide, hxe, rfl, rfl⟩) dL_remove_13
set_option maxHeartbeats 4000000 in
set_option maxRecDepth 100000 in
theorem H_begin (l : Launch) {G : va_G} {tys : List (ClassId × FieldType)} {cJ : ClassId} {pl : va_W} {sz : Nat} {X : va_W} {mk : Nat} {fs : List Value} (hm : (mk, .inr (7, fs)) ∈ X) {post : Option Value → va_W → va_W → Prop} {xp : String → va_W → va_W → Prop} (p0 : Int32) (hM : ∀ sz, xMet l yX8_begin wsX8_begin ({ frames := 6, cells := 1, slots := 6, locals := 95 } : Room) G tys [.ref mk, .int p0] X pl sz 1 6 post xp) (hpo : ∀ o X1 nw, post o X1 nw → ∃ v, o = some (.int v)) (hxp : ∀ E X1 nw, xp E X1 nw → E = IAE ∨ E = ISE) {out : Nat} {fo : Nat → Int64} : hMet l yL_begin wsL_begin ({ frames := 7, cells := 1, slots := 6, locals := 116 } : Room) G tys cJ [.ref mk, .int p0, .ref out] (X ++ [(out, .inl (cJ, 1, .inr (.inl fo)))]) pl sz 1 6 (hPo cJ out fo post xp [(IAE, 1), (ISE, 2)]) := by
  refine va_MetW (cc := cL_begin) (maxL := 4) (ret := (some .int)) (hh := [(0, 9, 12, 13), (0, 9, 15, 15)]) (by decide) rfl ?_
  intro p e s m args below meth c s₁ B hml hv
  obtain ⟨hargs, ⟨⟨hsz, hP, hK, hD0, hZ⟩, hU⟩, hJ, hn1, hn2⟩ := hv
  have hx := B.exec
  have hb := B.bytes
  have hr := B.returns
  have hts := atoms_spec (ws := wsL_begin) B.pre
  have hown : s.vm.findClass RL = some m.cls := findClass_of_methodNamed B.named
  have hlocks := B.notSynchronized
  have htb := vx_table (x := yL_make) (bytes := cL_begin) (maxL' := 4) (ret' := some .int) (hh := [(0, 9, 12, 13), (0, 9, 15, 15)]) B (hts _ List.mem_cons_self)
  subst hsz
  have hD := hD0.self (sz := s.heap.size)
  obtain ⟨A, hAe⟩ : ∃ A : Nat → Prop, A = va_A ((X ++ [(out, .inl (cJ, 1, .inr (.inl fo)))]) ++ pl) s.heap.size := ⟨_, rfl⟩
  rw [← hAe] at hD hU
  have hA : ∀ q : Nat, s.heap.size ≤ q → A q := fun q h => by rw [hAe]; exact Or.inr h
  have hR : rR G A s.heap s.heap [] ((X ++ [(out, .inl (cJ, 1, .inr (.inl fo)))]) ++ pl) := ⟨hP, hD, va_S.rf⟩
  obtain ⟨Q, hQ⟩ : ∃ Q : State → Prop, Q = MQ below (cQ G A pl (hPo cJ out fo post xp [(IAE, 1), (ISE, 2)])) args s 1 6 A := ⟨_, rfl⟩
  change W p l e ({ frames := 7, cells := 1, slots := 6, locals := 116 } : Room) s m args below meth c s.heap [] 0 0 (MQ below (cQ G (va_A ((X ++ [(out, .inl (cJ, 1, .inr (.inl fo)))]) ++ pl) s.heap.size) pl (hPo cJ out fo post xp [(IAE, 1), (ISE, 2)])) args s 1 6 (va_A ((X ++ [(out, .inl (cJ, 1, .inr (.inl fo)))]) ++ pl) s.heap.size)) (entryFrame m args 4)
  rw [← hAe, ← hQ]
  refine nn_entry hargs (Nat.le_of_ble_eq_true rfl) (lv := [(0, .ref mk), (1, .int p0), (2, .ref out)]) rfl (fun ls hl => ?_)
  refine lv_aload_n hx hb dL_begin_0 rfl (lv_at hl 2 rfl) ?_
  refine lv_iconst (v := nI 0) hx hb dL_begin_1 rfl ?_
  refine lv_aload_n hx hb dL_begin_2 rfl (lv_at hl 0 rfl) ?_
  refine lv_iload_n hx hb dL_begin_3 rfl (lv_at hl 1 rfl) ?_
  refine xl_callX (C := RX8) (As := [.int p0]) (rest := [.int (nI 0), .ref out]) (cx := X) (wr := [(out, .inl (cJ, 1, .inr (.inl fo)))]) (hM _) ⟨hx, hb, hml, hown, hts⟩ (cwV 1 hts gL_begin_X8_begin rfl rfl rfl (by decide +kernel) ⟨Nat.le_of_ble_eq_true rfl, Nat.le_of_ble_eq_true rfl⟩) hK hZ hU hR hA (xrecv (ci := 7) hK hR.1 rfl (List.mem_append_left _ (List.mem_append_left _ hm))) rfl hl.1 rfl (Nat.le_of_ble_eq_true rfl) dL_begin_4 ⟨Nat.le_of_ble_eq_true rfl, Nat.le_of_ble_eq_true rfl⟩ (fun r X1 nw H locs hpost hR => ?_) (fun E q ce X1 nw H locs hxe hR hce hcv hcl => ?_)
  · obtain ⟨v, rfl⟩ := hpo _ _ _ hpost
    have hset : ∀ (x : Nat × va_E), (((X1 ++ [(out, .inl (cJ, 1, .inr (.inl fo)))]) ++ (pl ++ nw) : va_W)).set X1.length x = (X1 ++ [x]) ++ (pl ++ nw) := fun x => by rw [List.append_assoc, List.set_append_right _ _ (Nat.le_refl _), Nat.sub_self, List.append_assoc]; rfl
    refine lv_i2l hx hb dL_begin_7 rfl ?_
    refine va_last hx hb hJ hR.1 hR.2.1 hR.2.2 X1.length 0 (by rw [List.append_assoc, List.getElem?_append_right (Nat.le_refl _), Nat.sub_self]; rfl) rfl (vp_in_nI (by decide) (by decide)) dL_begin_8 (fun H locs hP hD hS => ?_)
    rw [hset] at hP hD
    have hR : rR G A s.heap H locs ((X1 ++ [(out, .inl (cJ, 1, .inr (.inl (vp_updL fo 0 v.toInt64))))]) ++ (pl ++ nw)) := ⟨hP, hD, hS⟩
    refine lv_goto (tgt := 18) hx hb dL_begin_9 (by decide) ?_
    refine lv_iconst (v := nI 0) hx hb dL_begin_18 rfl ?_
    rw [hQ]
    refine W.widen (k := 1) (n := 6) (by omega) (by omega) ?_
    exact xc_iret hx hb hr hlocks hR (Or.inl ⟨v, X1, _, hpost, rfl, rfl, rfl⟩) dL_begin_19
  · rcases hxp _ _ _ hxe with rfl | rfl
    · refine xl_catch1 (x := (⟨0, 9, 12, 13⟩ : ExceptionTableEntry)) (suf := [(⟨0, 9, 15, 15⟩ : ExceptionTableEntry)]) (E := IAE) (name := IAE) hown htb rfl (by decide) (hts (.classLink RL 13 IAE) (by decide +kernel)) (va_Nw.use (cNw_on _ (by decide +kernel)) (hZ.2.2.1 (.castable IAE IAE) (by decide +kernel))) hce hcv hcl ?_
      refine lv_astore_n (lv' := [(3, .ref q), (0, .ref mk), (1, .int p0), (2, .ref out)]) hx hb dL_begin_12 rfl hl (by decide) rfl (fun ls hl => ?_)
      refine lv_iconst (v := nI 1) hx hb dL_begin_13 rfl ?_
      rw [hQ]
      refine W.widen (k := 1) (n := 6) (by omega) (by omega) ?_
      exact xc_iret hx hb hr hlocks hR (Or.inr ⟨IAE, 1, X1, by decide, hxe, rfl, rfl⟩) dL_begin_14
    · refine xl_catch2 (x1 := (⟨0, 9, 12, 13⟩ : ExceptionTableEntry)) (x2 := (⟨0, 9, 15, 15⟩ : ExceptionTableEntry)) (suf := []) (E := ISE) (name1 := IAE) (name2 := ISE) hown htb rfl (by decide) (hts (.classLink RL 13 IAE) (by decide +kernel)) hn1 rfl (by decide) (hts (.classLink RL 15 ISE) (by decide +kernel)) (va_Nw.use (cNw_on _ (by decide +kernel)) (hZ.2.2.1 (.castable ISE ISE) (by decide +kernel))) hce hcv hcl ?_
      refine lv_astore_n (lv' := [(3, .ref q), (0, .ref mk), (1, .int p0), (2, .ref out)]) hx hb dL_begin_15 rfl hl (by decide) rfl (fun ls hl => ?_)
      refine lv_iconst (v := nI 2) hx hb dL_begin_16 rfl ?_
      rw [hQ]
      refine W.widen (k := 1) (n := 6) (by omega) (by omega) ?_
      exact xc_iret hx hb hr hlocks hR (Or.inr ⟨ISE, 2, X1, by decide, hxe, rfl, rfl⟩) dL_begin_17
set_option maxHeartbeats 4000000 in
set_option maxRecDepth 100000 in
theorem H_step (l : Launch) {G : va_G} {tys : List (ClassId × FieldType)} {cJ : ClassId} {pl : va_W} {sz : Nat} {X : va_W} {mk : Nat} {fs : List Value} (hm : (mk, .inr (7, fs)) ∈ X) {post : Option Value → va_W → va_W → Prop} {xp : String → va_W → va_W → Prop} (p0 : Int32) (hM : ∀ sz, xMet l yX8_step wsX8_step ({ frames := 6, cells := 3, slots := 125, locals := 135 } : Room) G tys [.ref mk, .int p0] X pl sz 3 125 post xp) (hpo : ∀ o X1 nw, post o X1 nw → ∃ v, o = some (.int v)) (hxp : ∀ E X1 nw, xp E X1 nw → E = ISE ∨ E = IAE) {out : Nat} {fo : Nat → Int64} : hMet l yL_step wsL_step ({ frames := 7, cells := 3, slots := 125, locals := 158 } : Room) G tys cJ [.ref mk, .int p0, .ref out] (X ++ [(out, .inl (cJ, 1, .inr (.inl fo)))]) pl sz 3 125 (hPo cJ out fo post xp [(ISE, 1), (IAE, 2)]) := by
  refine va_MetW (cc := cL_step) (maxL := 4) (ret := (some .int)) (hh := [(0, 9, 12, 15), (0, 9, 15, 13)]) (by decide) rfl ?_
  intro p e s m args below meth c s₁ B hml hv
  obtain ⟨hargs, ⟨⟨hsz, hP, hK, hD0, hZ⟩, hU⟩, hJ, hn1, hn2⟩ := hv
  have hx := B.exec
  have hb := B.bytes
  have hr := B.returns
  have hts := atoms_spec (ws := wsL_step) B.pre
  have hown : s.vm.findClass RL = some m.cls := findClass_of_methodNamed B.named
  have hlocks := B.notSynchronized
  have htb := vx_table (x := yL_make) (bytes := cL_step) (maxL' := 4) (ret' := some .int) (hh := [(0, 9, 12, 15), (0, 9, 15, 13)]) B (hts _ List.mem_cons_self)
  subst hsz
  have hD := hD0.self (sz := s.heap.size)
  obtain ⟨A, hAe⟩ : ∃ A : Nat → Prop, A = va_A ((X ++ [(out, .inl (cJ, 1, .inr (.inl fo)))]) ++ pl) s.heap.size := ⟨_, rfl⟩
  rw [← hAe] at hD hU
  have hA : ∀ q : Nat, s.heap.size ≤ q → A q := fun q h => by rw [hAe]; exact Or.inr h
  have hR : rR G A s.heap s.heap [] ((X ++ [(out, .inl (cJ, 1, .inr (.inl fo)))]) ++ pl) := ⟨hP, hD, va_S.rf⟩
  obtain ⟨Q, hQ⟩ : ∃ Q : State → Prop, Q = MQ below (cQ G A pl (hPo cJ out fo post xp [(ISE, 1), (IAE, 2)])) args s 3 125 A := ⟨_, rfl⟩
  change W p l e ({ frames := 7, cells := 3, slots := 125, locals := 158 } : Room) s m args below meth c s.heap [] 0 0 (MQ below (cQ G (va_A ((X ++ [(out, .inl (cJ, 1, .inr (.inl fo)))]) ++ pl) s.heap.size) pl (hPo cJ out fo post xp [(ISE, 1), (IAE, 2)])) args s 3 125 (va_A ((X ++ [(out, .inl (cJ, 1, .inr (.inl fo)))]) ++ pl) s.heap.size)) (entryFrame m args 4)
  rw [← hAe, ← hQ]
  refine nn_entry hargs (Nat.le_of_ble_eq_true rfl) (lv := [(0, .ref mk), (1, .int p0), (2, .ref out)]) rfl (fun ls hl => ?_)
  refine lv_aload_n hx hb dL_step_0 rfl (lv_at hl 2 rfl) ?_
  refine lv_iconst (v := nI 0) hx hb dL_step_1 rfl ?_
  refine lv_aload_n hx hb dL_step_2 rfl (lv_at hl 0 rfl) ?_
  refine lv_iload_n hx hb dL_step_3 rfl (lv_at hl 1 rfl) ?_
  refine xl_callX (C := RX8) (As := [.int p0]) (rest := [.int (nI 0), .ref out]) (cx := X) (wr := [(out, .inl (cJ, 1, .inr (.inl fo)))]) (hM _) ⟨hx, hb, hml, hown, hts⟩ (cwV 1 hts gL_step_X8_step rfl rfl rfl (by decide +kernel) ⟨Nat.le_of_ble_eq_true rfl, Nat.le_of_ble_eq_true rfl⟩) hK hZ hU hR hA (xrecv (ci := 7) hK hR.1 rfl (List.mem_append_left _ (List.mem_append_left _ hm))) rfl hl.1 rfl (Nat.le_of_ble_eq_true rfl) dL_step_4 ⟨Nat.le_of_ble_eq_true rfl, Nat.le_of_ble_eq_true rfl⟩ (fun r X1 nw H locs hpost hR => ?_) (fun E q ce X1 nw H locs hxe hR hce hcv hcl => ?_)
  · obtain ⟨v, rfl⟩ := hpo _ _ _ hpost
    have hset : ∀ (x : Nat × va_E), (((X1 ++ [(out, .inl (cJ, 1, .inr (.inl fo)))]) ++ (pl ++ nw) : va_W)).set X1.length x = (X1 ++ [x]) ++ (pl ++ nw) := fun x => by rw [List.append_assoc, List.set_append_right _ _ (Nat.le_refl _), Nat.sub_self, List.append_assoc]; rfl
    refine lv_i2l hx hb dL_step_7 rfl ?_
    refine va_last hx hb hJ hR.1 hR.2.1 hR.2.2 X1.length 0 (by rw [List.append_assoc, List.getElem?_append_right (Nat.le_refl _), Nat.sub_self]; rfl) rfl (vp_in_nI (by decide) (by decide)) dL_step_8 (fun H locs hP hD hS => ?_)
    rw [hset] at hP hD
    have hR : rR G A s.heap H locs ((X1 ++ [(out, .inl (cJ, 1, .inr (.inl (vp_updL fo 0 v.toInt64))))]) ++ (pl ++ nw)) := ⟨hP, hD, hS⟩
    refine lv_goto (tgt := 18) hx hb dL_step_9 (by decide) ?_
    refine lv_iconst (v := nI 0) hx hb dL_step_18 rfl ?_
    rw [hQ]
    refine W.widen (k := 3) (n := 125) (by omega) (by omega) ?_
    exact xc_iret hx hb hr hlocks hR (Or.inl ⟨v, X1, _, hpost, rfl, rfl, rfl⟩) dL_step_19
  · rcases hxp _ _ _ hxe with rfl | rfl
    · refine xl_catch1 (x := (⟨0, 9, 12, 15⟩ : ExceptionTableEntry)) (suf := [(⟨0, 9, 15, 13⟩ : ExceptionTableEntry)]) (E := ISE) (name := ISE) hown htb rfl (by decide) (hts (.classLink RL 15 ISE) (by decide +kernel)) (va_Nw.use (cNw_on _ (by decide +kernel)) (hZ.2.2.1 (.castable ISE ISE) (by decide +kernel))) hce hcv hcl ?_
      refine lv_astore_n (lv' := [(3, .ref q), (0, .ref mk), (1, .int p0), (2, .ref out)]) hx hb dL_step_12 rfl hl (by decide) rfl (fun ls hl => ?_)
      refine lv_iconst (v := nI 1) hx hb dL_step_13 rfl ?_
      rw [hQ]
      refine W.widen (k := 3) (n := 125) (by omega) (by omega) ?_
      exact xc_iret hx hb hr hlocks hR (Or.inr ⟨ISE, 1, X1, by decide, hxe, rfl, rfl⟩) dL_step_14
    · refine xl_catch2 (x1 := (⟨0, 9, 12, 15⟩ : ExceptionTableEntry)) (x2 := (⟨0, 9, 15, 13⟩ : ExceptionTableEntry)) (suf := []) (E := IAE) (name1 := ISE) (name2 := IAE) hown htb rfl (by decide) (hts (.classLink RL 15 ISE) (by decide +kernel)) hn2 rfl (by decide) (hts (.classLink RL 13 IAE) (by decide +kernel)) (va_Nw.use (cNw_on _ (by decide +kernel)) (hZ.2.2.1 (.castable IAE IAE) (by decide +kernel))) hce hcv hcl ?_
      refine lv_astore_n (lv' := [(3, .ref q), (0, .ref mk), (1, .int p0), (2, .ref out)]) hx hb dL_step_15 rfl hl (by decide) rfl (fun ls hl => ?_)
      refine lv_iconst (v := nI 2) hx hb dL_step_16 rfl ?_
      rw [hQ]
      refine W.widen (k := 3) (n := 125) (by omega) (by omega) ?_
      exact xc_iret hx hb hr hlocks hR (Or.inr ⟨IAE, 2, X1, by decide, hxe, rfl, rfl⟩) dL_step_17
set_option maxHeartbeats 4000000 in
set_option maxRecDepth 100000 in
theorem H_crash (l : Launch) {G : va_G} {tys : List (ClassId × FieldType)} {cJ : ClassId} {pl : va_W} {sz : Nat} {X : va_W} {mk : Nat} {fs : List Value} (hm : (mk, .inr (7, fs)) ∈ X) {post : Option Value → va_W → va_W → Prop} {xp : String → va_W → va_W → Prop} (hM : ∀ sz, xMet l yX8_crash wsX8_crash ({ frames := 6, cells := 1, slots := 6, locals := 82 } : Room) G tys [.ref mk] X pl sz 1 6 post xp) (hpo : ∀ o X1 nw, post o X1 nw → o = none) (hxp : ∀ E X1 nw, xp E X1 nw → E = ISE) : hMet l yL_crash wsL_crash ({ frames := 7, cells := 1, slots := 6, locals := 102 } : Room) G tys cJ [.ref mk] X pl sz 1 6 (hPv post xp [(ISE, 1)]) := by
  refine va_MetW (cc := cL_crash) (maxL := 2) (ret := (some .int)) (hh := [(0, 4, 7, 15)]) (by decide) rfl ?_
  intro p e s m args below meth c s₁ B hml hv
  obtain ⟨hargs, ⟨⟨hsz, hP, hK, hD0, hZ⟩, hU⟩, hJ, hn1, hn2⟩ := hv
  have hx := B.exec
  have hb := B.bytes
  have hr := B.returns
  have hts := atoms_spec (ws := wsL_crash) B.pre
  have hown : s.vm.findClass RL = some m.cls := findClass_of_methodNamed B.named
  have hlocks := B.notSynchronized
  have htb := vx_table (x := yL_make) (bytes := cL_crash) (maxL' := 2) (ret' := some .int) (hh := [(0, 4, 7, 15)]) B (hts _ List.mem_cons_self)
  subst hsz
  have hD := hD0.self (sz := s.heap.size)
  obtain ⟨A, hAe⟩ : ∃ A : Nat → Prop, A = va_A (X ++ pl) s.heap.size := ⟨_, rfl⟩
  rw [← hAe] at hD hU
  have hA : ∀ q : Nat, s.heap.size ≤ q → A q := fun q h => by rw [hAe]; exact Or.inr h
  have hR : rR G A s.heap s.heap [] (X ++ pl) := ⟨hP, hD, va_S.rf⟩
  obtain ⟨Q, hQ⟩ : ∃ Q : State → Prop, Q = MQ below (cQ G A pl (hPv post xp [(ISE, 1)])) args s 1 6 A := ⟨_, rfl⟩
  change W p l e ({ frames := 7, cells := 1, slots := 6, locals := 102 } : Room) s m args below meth c s.heap [] 0 0 (MQ below (cQ G (va_A (X ++ pl) s.heap.size) pl (hPv post xp [(ISE, 1)])) args s 1 6 (va_A (X ++ pl) s.heap.size)) (entryFrame m args 2)
  rw [← hAe, ← hQ]
  refine nn_entry hargs (Nat.le_of_ble_eq_true rfl) (lv := [(0, .ref mk)]) rfl (fun ls hl => ?_)
  refine lv_aload_n hx hb dL_crash_0 rfl (lv_at hl 0 rfl) ?_
  refine xl_callX (C := RX8) (As := []) (rest := []) (cx := X) (wr := []) (hM _) ⟨hx, hb, hml, hown, hts⟩ (cwV 0 hts gL_crash_X8_crash rfl rfl rfl (by decide +kernel) ⟨Nat.le_of_ble_eq_true rfl, Nat.le_of_ble_eq_true rfl⟩) hK hZ hU (show rR G A s.heap s.heap [] ((X ++ []) ++ pl) by rw [List.append_nil]; exact hR) hA (xrecv (ci := 7) hK hR.1 rfl (List.mem_append_left _ hm)) rfl hl.1 rfl (Nat.le_of_ble_eq_true rfl) dL_crash_1 ⟨Nat.le_of_ble_eq_true rfl, Nat.le_of_ble_eq_true rfl⟩ (fun r X1 nw H locs hpost hR => ?_) (fun E q ce X1 nw H locs hxe hR hce hcv hcl => ?_)
  · obtain rfl := hpo _ _ _ hpost
    rw [List.append_nil] at hR
    refine lv_goto (tgt := 10) hx hb dL_crash_4 (by decide) ?_
    refine lv_iconst (v := nI 0) hx hb dL_crash_10 rfl ?_
    rw [hQ]
    refine W.widen (k := 1) (n := 6) (by omega) (by omega) ?_
    exact xc_iret hx hb hr hlocks hR (Or.inl ⟨hpost, rfl⟩) dL_crash_11
  · rw [List.append_nil] at hR
    obtain rfl := hxp _ _ _ hxe
    refine xl_catch1 (x := (⟨0, 4, 7, 15⟩ : ExceptionTableEntry)) (suf := []) (E := ISE) (name := ISE) hown htb rfl (by decide) (hts (.classLink RL 15 ISE) (by decide +kernel)) (va_Nw.use (cNw_on _ (by decide +kernel)) (hZ.2.2.1 (.castable ISE ISE) (by decide +kernel))) hce hcv hcl ?_
    refine lv_astore_n (lv' := [(1, .ref q), (0, .ref mk)]) hx hb dL_crash_7 rfl hl (by decide) rfl (fun ls hl => ?_)
    refine lv_iconst (v := nI 1) hx hb dL_crash_8 rfl ?_
    rw [hQ]
    refine W.widen (k := 1) (n := 6) (by omega) (by omega) ?_
    exact xc_iret hx hb hr hlocks hR (Or.inr ⟨ISE, 1, by decide, hxe, rfl⟩) dL_crash_9
set_option maxHeartbeats 4000000 in
set_option maxRecDepth 100000 in
theorem H_regress (l : Launch) {G : va_G} {tys : List (ClassId × FieldType)} {cJ : ClassId} {pl : va_W} {sz : Nat} {X : va_W} {mk : Nat} {fs : List Value} (hm : (mk, .inr (7, fs)) ∈ X) {post : Option Value → va_W → va_W → Prop} {xp : String → va_W → va_W → Prop} (p0 : Int32) (hM : ∀ sz, xMet l yX8_regress wsX8_regress ({ frames := 6, cells := 1, slots := 6, locals := 135 } : Room) G tys [.ref mk, .int p0] X pl sz 1 6 post xp) (hpo : ∀ o X1 nw, post o X1 nw → ∃ v, o = some (.int v)) (hxp : ∀ E X1 nw, xp E X1 nw → E = ISE ∨ E = IAE) {out : Nat} {fo : Nat → Int64} : hMet l yL_regress wsL_regress ({ frames := 7, cells := 1, slots := 6, locals := 158 } : Room) G tys cJ [.ref mk, .int p0, .ref out] (X ++ [(out, .inl (cJ, 1, .inr (.inl fo)))]) pl sz 1 6 (hPo cJ out fo post xp [(ISE, 1), (IAE, 2)]) := by
  refine va_MetW (cc := cL_regress) (maxL := 4) (ret := (some .int)) (hh := [(0, 9, 12, 15), (0, 9, 15, 13)]) (by decide) rfl ?_
  intro p e s m args below meth c s₁ B hml hv
  obtain ⟨hargs, ⟨⟨hsz, hP, hK, hD0, hZ⟩, hU⟩, hJ, hn1, hn2⟩ := hv
  have hx := B.exec
  have hb := B.bytes
  have hr := B.returns
  have hts := atoms_spec (ws := wsL_regress) B.pre
  have hown : s.vm.findClass RL = some m.cls := findClass_of_methodNamed B.named
  have hlocks := B.notSynchronized
  have htb := vx_table (x := yL_make) (bytes := cL_regress) (maxL' := 4) (ret' := some .int) (hh := [(0, 9, 12, 15), (0, 9, 15, 13)]) B (hts _ List.mem_cons_self)
  subst hsz
  have hD := hD0.self (sz := s.heap.size)
  obtain ⟨A, hAe⟩ : ∃ A : Nat → Prop, A = va_A ((X ++ [(out, .inl (cJ, 1, .inr (.inl fo)))]) ++ pl) s.heap.size := ⟨_, rfl⟩
  rw [← hAe] at hD hU
  have hA : ∀ q : Nat, s.heap.size ≤ q → A q := fun q h => by rw [hAe]; exact Or.inr h
  have hR : rR G A s.heap s.heap [] ((X ++ [(out, .inl (cJ, 1, .inr (.inl fo)))]) ++ pl) := ⟨hP, hD, va_S.rf⟩
  obtain ⟨Q, hQ⟩ : ∃ Q : State → Prop, Q = MQ below (cQ G A pl (hPo cJ out fo post xp [(ISE, 1), (IAE, 2)])) args s 1 6 A := ⟨_, rfl⟩
  change W p l e ({ frames := 7, cells := 1, slots := 6, locals := 158 } : Room) s m args below meth c s.heap [] 0 0 (MQ below (cQ G (va_A ((X ++ [(out, .inl (cJ, 1, .inr (.inl fo)))]) ++ pl) s.heap.size) pl (hPo cJ out fo post xp [(ISE, 1), (IAE, 2)])) args s 1 6 (va_A ((X ++ [(out, .inl (cJ, 1, .inr (.inl fo)))]) ++ pl) s.heap.size)) (entryFrame m args 4)
  rw [← hAe, ← hQ]
  refine nn_entry hargs (Nat.le_of_ble_eq_true rfl) (lv := [(0, .ref mk), (1, .int p0), (2, .ref out)]) rfl (fun ls hl => ?_)
  refine lv_aload_n hx hb dL_regress_0 rfl (lv_at hl 2 rfl) ?_
  refine lv_iconst (v := nI 0) hx hb dL_regress_1 rfl ?_
  refine lv_aload_n hx hb dL_regress_2 rfl (lv_at hl 0 rfl) ?_
  refine lv_iload_n hx hb dL_regress_3 rfl (lv_at hl 1 rfl) ?_
  refine xl_callX (C := RX8) (As := [.int p0]) (rest := [.int (nI 0), .ref out]) (cx := X) (wr := [(out, .inl (cJ, 1, .inr (.inl fo)))]) (hM _) ⟨hx, hb, hml, hown, hts⟩ (cwV 1 hts gL_regress_X8_regress rfl rfl rfl (by decide +kernel) ⟨Nat.le_of_ble_eq_true rfl, Nat.le_of_ble_eq_true rfl⟩) hK hZ hU hR hA (xrecv (ci := 7) hK hR.1 rfl (List.mem_append_left _ (List.mem_append_left _ hm))) rfl hl.1 rfl (Nat.le_of_ble_eq_true rfl) dL_regress_4 ⟨Nat.le_of_ble_eq_true rfl, Nat.le_of_ble_eq_true rfl⟩ (fun r X1 nw H locs hpost hR => ?_) (fun E q ce X1 nw H locs hxe hR hce hcv hcl => ?_)
  · obtain ⟨v, rfl⟩ := hpo _ _ _ hpost
    have hset : ∀ (x : Nat × va_E), (((X1 ++ [(out, .inl (cJ, 1, .inr (.inl fo)))]) ++ (pl ++ nw) : va_W)).set X1.length x = (X1 ++ [x]) ++ (pl ++ nw) := fun x => by rw [List.append_assoc, List.set_append_right _ _ (Nat.le_refl _), Nat.sub_self, List.append_assoc]; rfl
    refine lv_i2l hx hb dL_regress_7 rfl ?_
    refine va_last hx hb hJ hR.1 hR.2.1 hR.2.2 X1.length 0 (by rw [List.append_assoc, List.getElem?_append_right (Nat.le_refl _), Nat.sub_self]; rfl) rfl (vp_in_nI (by decide) (by decide)) dL_regress_8 (fun H locs hP hD hS => ?_)
    rw [hset] at hP hD
    have hR : rR G A s.heap H locs ((X1 ++ [(out, .inl (cJ, 1, .inr (.inl (vp_updL fo 0 v.toInt64))))]) ++ (pl ++ nw)) := ⟨hP, hD, hS⟩
    refine lv_goto (tgt := 18) hx hb dL_regress_9 (by decide) ?_
    refine lv_iconst (v := nI 0) hx hb dL_regress_18 rfl ?_
    rw [hQ]
    refine W.widen (k := 1) (n := 6) (by omega) (by omega) ?_
    exact xc_iret hx hb hr hlocks hR (Or.inl ⟨v, X1, _, hpost, rfl, rfl, rfl⟩) dL_regress_19
  · rcases hxp _ _ _ hxe with rfl | rfl
    · refine xl_catch1 (x := (⟨0, 9, 12, 15⟩ : ExceptionTableEntry)) (suf := [(⟨0, 9, 15, 13⟩ : ExceptionTableEntry)]) (E := ISE) (name := ISE) hown htb rfl (by decide) (hts (.classLink RL 15 ISE) (by decide +kernel)) (va_Nw.use (cNw_on _ (by decide +kernel)) (hZ.2.2.1 (.castable ISE ISE) (by decide +kernel))) hce hcv hcl ?_
      refine lv_astore_n (lv' := [(3, .ref q), (0, .ref mk), (1, .int p0), (2, .ref out)]) hx hb dL_regress_12 rfl hl (by decide) rfl (fun ls hl => ?_)
      refine lv_iconst (v := nI 1) hx hb dL_regress_13 rfl ?_
      rw [hQ]
      refine W.widen (k := 1) (n := 6) (by omega) (by omega) ?_
      exact xc_iret hx hb hr hlocks hR (Or.inr ⟨ISE, 1, X1, by decide, hxe, rfl, rfl⟩) dL_regress_14
    · refine xl_catch2 (x1 := (⟨0, 9, 12, 15⟩ : ExceptionTableEntry)) (x2 := (⟨0, 9, 15, 13⟩ : ExceptionTableEntry)) (suf := []) (E := IAE) (name1 := ISE) (name2 := IAE) hown htb rfl (by decide) (hts (.classLink RL 15 ISE) (by decide +kernel)) hn2 rfl (by decide) (hts (.classLink RL 13 IAE) (by decide +kernel)) (va_Nw.use (cNw_on _ (by decide +kernel)) (hZ.2.2.1 (.castable IAE IAE) (by decide +kernel))) hce hcv hcl ?_
      refine lv_astore_n (lv' := [(3, .ref q), (0, .ref mk), (1, .int p0), (2, .ref out)]) hx hb dL_regress_15 rfl hl (by decide) rfl (fun ls hl => ?_)
      refine lv_iconst (v := nI 2) hx hb dL_regress_16 rfl ?_
      rw [hQ]
      refine W.widen (k := 1) (n := 6) (by omega) (by omega) ?_
      exact xc_iret hx hb hr hlocks hR (Or.inr ⟨IAE, 2, X1, by decide, hxe, rfl, rfl⟩) dL_regress_17
set_option maxHeartbeats 4000000 in
set_option maxRecDepth 100000 in
theorem H_restore (l : Launch) {G : va_G} {tys : List (ClassId × FieldType)} {cJ : ClassId} {pl : va_W} {sz : Nat} {X : va_W} {mk : Nat} {fs : List Value} (hm : (mk, .inr (7, fs)) ∈ X) {post : Option Value → va_W → va_W → Prop} {xp : String → va_W → va_W → Prop} (p0 : Int32) (hM : ∀ sz, xMet l yX8_restore wsX8_restore ({ frames := 6, cells := 1, slots := 6, locals := 82 } : Room) G tys [.ref mk, .int p0] X pl sz 1 6 post xp) (hpo : ∀ o X1 nw, post o X1 nw → ∃ v, o = some (.int v)) (hxp : ∀ E X1 nw, xp E X1 nw → E = ISE) {out : Nat} {fo : Nat → Int64} : hMet l yL_restore wsL_restore ({ frames := 7, cells := 1, slots := 6, locals := 104 } : Room) G tys cJ [.ref mk, .int p0, .ref out] (X ++ [(out, .inl (cJ, 1, .inr (.inl fo)))]) pl sz 1 6 (hPo cJ out fo post xp [(ISE, 1)]) := by
  refine va_MetW (cc := cL_restore) (maxL := 4) (ret := (some .int)) (hh := [(0, 9, 12, 15)]) (by decide) rfl ?_
  intro p e s m args below meth c s₁ B hml hv
  obtain ⟨hargs, ⟨⟨hsz, hP, hK, hD0, hZ⟩, hU⟩, hJ, hn1, hn2⟩ := hv
  have hx := B.exec
  have hb := B.bytes
  have hr := B.returns
  have hts := atoms_spec (ws := wsL_restore) B.pre
  have hown : s.vm.findClass RL = some m.cls := findClass_of_methodNamed B.named
  have hlocks := B.notSynchronized
  have htb := vx_table (x := yL_make) (bytes := cL_restore) (maxL' := 4) (ret' := some .int) (hh := [(0, 9, 12, 15)]) B (hts _ List.mem_cons_self)
  subst hsz
  have hD := hD0.self (sz := s.heap.size)
  obtain ⟨A, hAe⟩ : ∃ A : Nat → Prop, A = va_A ((X ++ [(out, .inl (cJ, 1, .inr (.inl fo)))]) ++ pl) s.heap.size := ⟨_, rfl⟩
  rw [← hAe] at hD hU
  have hA : ∀ q : Nat, s.heap.size ≤ q → A q := fun q h => by rw [hAe]; exact Or.inr h
  have hR : rR G A s.heap s.heap [] ((X ++ [(out, .inl (cJ, 1, .inr (.inl fo)))]) ++ pl) := ⟨hP, hD, va_S.rf⟩
  obtain ⟨Q, hQ⟩ : ∃ Q : State → Prop, Q = MQ below (cQ G A pl (hPo cJ out fo post xp [(ISE, 1)])) args s 1 6 A := ⟨_, rfl⟩
  change W p l e ({ frames := 7, cells := 1, slots := 6, locals := 104 } : Room) s m args below meth c s.heap [] 0 0 (MQ below (cQ G (va_A ((X ++ [(out, .inl (cJ, 1, .inr (.inl fo)))]) ++ pl) s.heap.size) pl (hPo cJ out fo post xp [(ISE, 1)])) args s 1 6 (va_A ((X ++ [(out, .inl (cJ, 1, .inr (.inl fo)))]) ++ pl) s.heap.size)) (entryFrame m args 4)
  rw [← hAe, ← hQ]
  refine nn_entry hargs (Nat.le_of_ble_eq_true rfl) (lv := [(0, .ref mk), (1, .int p0), (2, .ref out)]) rfl (fun ls hl => ?_)
  refine lv_aload_n hx hb dL_restore_0 rfl (lv_at hl 2 rfl) ?_
  refine lv_iconst (v := nI 0) hx hb dL_restore_1 rfl ?_
  refine lv_aload_n hx hb dL_restore_2 rfl (lv_at hl 0 rfl) ?_
  refine lv_iload_n hx hb dL_restore_3 rfl (lv_at hl 1 rfl) ?_
  refine xl_callX (C := RX8) (As := [.int p0]) (rest := [.int (nI 0), .ref out]) (cx := X) (wr := [(out, .inl (cJ, 1, .inr (.inl fo)))]) (hM _) ⟨hx, hb, hml, hown, hts⟩ (cwV 1 hts gL_restore_X8_restore rfl rfl rfl (by decide +kernel) ⟨Nat.le_of_ble_eq_true rfl, Nat.le_of_ble_eq_true rfl⟩) hK hZ hU hR hA (xrecv (ci := 7) hK hR.1 rfl (List.mem_append_left _ (List.mem_append_left _ hm))) rfl hl.1 rfl (Nat.le_of_ble_eq_true rfl) dL_restore_4 ⟨Nat.le_of_ble_eq_true rfl, Nat.le_of_ble_eq_true rfl⟩ (fun r X1 nw H locs hpost hR => ?_) (fun E q ce X1 nw H locs hxe hR hce hcv hcl => ?_)
  · obtain ⟨v, rfl⟩ := hpo _ _ _ hpost
    have hset : ∀ (x : Nat × va_E), (((X1 ++ [(out, .inl (cJ, 1, .inr (.inl fo)))]) ++ (pl ++ nw) : va_W)).set X1.length x = (X1 ++ [x]) ++ (pl ++ nw) := fun x => by rw [List.append_assoc, List.set_append_right _ _ (Nat.le_refl _), Nat.sub_self, List.append_assoc]; rfl
    refine lv_i2l hx hb dL_restore_7 rfl ?_
    refine va_last hx hb hJ hR.1 hR.2.1 hR.2.2 X1.length 0 (by rw [List.append_assoc, List.getElem?_append_right (Nat.le_refl _), Nat.sub_self]; rfl) rfl (vp_in_nI (by decide) (by decide)) dL_restore_8 (fun H locs hP hD hS => ?_)
    rw [hset] at hP hD
    have hR : rR G A s.heap H locs ((X1 ++ [(out, .inl (cJ, 1, .inr (.inl (vp_updL fo 0 v.toInt64))))]) ++ (pl ++ nw)) := ⟨hP, hD, hS⟩
    refine lv_goto (tgt := 15) hx hb dL_restore_9 (by decide) ?_
    refine lv_iconst (v := nI 0) hx hb dL_restore_15 rfl ?_
    rw [hQ]
    refine W.widen (k := 1) (n := 6) (by omega) (by omega) ?_
    exact xc_iret hx hb hr hlocks hR (Or.inl ⟨v, X1, _, hpost, rfl, rfl, rfl⟩) dL_restore_16
  · obtain rfl := hxp _ _ _ hxe
    refine xl_catch1 (x := (⟨0, 9, 12, 15⟩ : ExceptionTableEntry)) (suf := []) (E := ISE) (name := ISE) hown htb rfl (by decide) (hts (.classLink RL 15 ISE) (by decide +kernel)) (va_Nw.use (cNw_on _ (by decide +kernel)) (hZ.2.2.1 (.castable ISE ISE) (by decide +kernel))) hce hcv hcl ?_
    refine lv_astore_n (lv' := [(3, .ref q), (0, .ref mk), (1, .int p0), (2, .ref out)]) hx hb dL_restore_12 rfl hl (by decide) rfl (fun ls hl => ?_)
    refine lv_iconst (v := nI 1) hx hb dL_restore_13 rfl ?_
    rw [hQ]
    refine W.widen (k := 1) (n := 6) (by omega) (by omega) ?_
    exact xc_iret hx hb hr hlocks hR (Or.inr ⟨ISE, 1, X1, by decide, hxe, rfl, rfl⟩) dL_restore_14
set_option maxHeartbeats 4000000 in
set_option maxRecDepth 100000 in
theorem H_prune (l : Launch) {G : va_G} {tys : List (ClassId × FieldType)} {cJ : ClassId} {pl : va_W} {sz : Nat} {X : va_W} {mk : Nat} {fs : List Value} (hm : (mk, .inr (7, fs)) ∈ X) {post : Option Value → va_W → va_W → Prop} {xp : String → va_W → va_W → Prop} (p0 : Int32) (hM : ∀ sz, xMet l yX8_prune wsX8_prune ({ frames := 6, cells := 1, slots := 6, locals := 82 } : Room) G tys [.ref mk, .int p0] X pl sz 1 6 post xp) (hpo : ∀ o X1 nw, post o X1 nw → ∃ v, o = some (.int v)) (hxp : ∀ E X1 nw, xp E X1 nw → E = ISE) {out : Nat} {fo : Nat → Int64} : hMet l yL_prune wsL_prune ({ frames := 7, cells := 1, slots := 6, locals := 103 } : Room) G tys cJ [.ref mk, .int p0, .ref out] (X ++ [(out, .inl (cJ, 1, .inr (.inl fo)))]) pl sz 1 6 (hPo cJ out fo post xp [(ISE, 1)]) := by
  refine va_MetW (cc := cL_prune) (maxL := 4) (ret := (some .int)) (hh := [(0, 9, 12, 15)]) (by decide) rfl ?_
  intro p e s m args below meth c s₁ B hml hv
  obtain ⟨hargs, ⟨⟨hsz, hP, hK, hD0, hZ⟩, hU⟩, hJ, hn1, hn2⟩ := hv
  have hx := B.exec
  have hb := B.bytes
  have hr := B.returns
  have hts := atoms_spec (ws := wsL_prune) B.pre
  have hown : s.vm.findClass RL = some m.cls := findClass_of_methodNamed B.named
  have hlocks := B.notSynchronized
  have htb := vx_table (x := yL_make) (bytes := cL_prune) (maxL' := 4) (ret' := some .int) (hh := [(0, 9, 12, 15)]) B (hts _ List.mem_cons_self)
  subst hsz
  have hD := hD0.self (sz := s.heap.size)
  obtain ⟨A, hAe⟩ : ∃ A : Nat → Prop, A = va_A ((X ++ [(out, .inl (cJ, 1, .inr (.inl fo)))]) ++ pl) s.heap.size := ⟨_, rfl⟩
  rw [← hAe] at hD hU
  have hA : ∀ q : Nat, s.heap.size ≤ q → A q := fun q h => by rw [hAe]; exact Or.inr h
  have hR : rR G A s.heap s.heap [] ((X ++ [(out, .inl (cJ, 1, .inr (.inl fo)))]) ++ pl) := ⟨hP, hD, va_S.rf⟩
  obtain ⟨Q, hQ⟩ : ∃ Q : State → Prop, Q = MQ below (cQ G A pl (hPo cJ out fo post xp [(ISE, 1)])) args s 1 6 A := ⟨_, rfl⟩
  change W p l e ({ frames := 7, cells := 1, slots := 6, locals := 103 } : Room) s m args below meth c s.heap [] 0 0 (MQ below (cQ G (va_A ((X ++ [(out, .inl (cJ, 1, .inr (.inl fo)))]) ++ pl) s.heap.size) pl (hPo cJ out fo post xp [(ISE, 1)])) args s 1 6 (va_A ((X ++ [(out, .inl (cJ, 1, .inr (.inl fo)))]) ++ pl) s.heap.size)) (entryFrame m args 4)
  rw [← hAe, ← hQ]
  refine nn_entry hargs (Nat.le_of_ble_eq_true rfl) (lv := [(0, .ref mk), (1, .int p0), (2, .ref out)]) rfl (fun ls hl => ?_)
  refine lv_aload_n hx hb dL_prune_0 rfl (lv_at hl 2 rfl) ?_
  refine lv_iconst (v := nI 0) hx hb dL_prune_1 rfl ?_
  refine lv_aload_n hx hb dL_prune_2 rfl (lv_at hl 0 rfl) ?_
  refine lv_iload_n hx hb dL_prune_3 rfl (lv_at hl 1 rfl) ?_
  refine xl_callX (C := RX8) (As := [.int p0]) (rest := [.int (nI 0), .ref out]) (cx := X) (wr := [(out, .inl (cJ, 1, .inr (.inl fo)))]) (hM _) ⟨hx, hb, hml, hown, hts⟩ (cwV 1 hts gL_prune_X8_prune rfl rfl rfl (by decide +kernel) ⟨Nat.le_of_ble_eq_true rfl, Nat.le_of_ble_eq_true rfl⟩) hK hZ hU hR hA (xrecv (ci := 7) hK hR.1 rfl (List.mem_append_left _ (List.mem_append_left _ hm))) rfl hl.1 rfl (Nat.le_of_ble_eq_true rfl) dL_prune_4 ⟨Nat.le_of_ble_eq_true rfl, Nat.le_of_ble_eq_true rfl⟩ (fun r X1 nw H locs hpost hR => ?_) (fun E q ce X1 nw H locs hxe hR hce hcv hcl => ?_)
  · obtain ⟨v, rfl⟩ := hpo _ _ _ hpost
    have hset : ∀ (x : Nat × va_E), (((X1 ++ [(out, .inl (cJ, 1, .inr (.inl fo)))]) ++ (pl ++ nw) : va_W)).set X1.length x = (X1 ++ [x]) ++ (pl ++ nw) := fun x => by rw [List.append_assoc, List.set_append_right _ _ (Nat.le_refl _), Nat.sub_self, List.append_assoc]; rfl
    refine lv_i2l hx hb dL_prune_7 rfl ?_
    refine va_last hx hb hJ hR.1 hR.2.1 hR.2.2 X1.length 0 (by rw [List.append_assoc, List.getElem?_append_right (Nat.le_refl _), Nat.sub_self]; rfl) rfl (vp_in_nI (by decide) (by decide)) dL_prune_8 (fun H locs hP hD hS => ?_)
    rw [hset] at hP hD
    have hR : rR G A s.heap H locs ((X1 ++ [(out, .inl (cJ, 1, .inr (.inl (vp_updL fo 0 v.toInt64))))]) ++ (pl ++ nw)) := ⟨hP, hD, hS⟩
    refine lv_goto (tgt := 15) hx hb dL_prune_9 (by decide) ?_
    refine lv_iconst (v := nI 0) hx hb dL_prune_15 rfl ?_
    rw [hQ]
    refine W.widen (k := 1) (n := 6) (by omega) (by omega) ?_
    exact xc_iret hx hb hr hlocks hR (Or.inl ⟨v, X1, _, hpost, rfl, rfl, rfl⟩) dL_prune_16
  · obtain rfl := hxp _ _ _ hxe
    refine xl_catch1 (x := (⟨0, 9, 12, 15⟩ : ExceptionTableEntry)) (suf := []) (E := ISE) (name := ISE) hown htb rfl (by decide) (hts (.classLink RL 15 ISE) (by decide +kernel)) (va_Nw.use (cNw_on _ (by decide +kernel)) (hZ.2.2.1 (.castable ISE ISE) (by decide +kernel))) hce hcv hcl ?_
    refine lv_astore_n (lv' := [(3, .ref q), (0, .ref mk), (1, .int p0), (2, .ref out)]) hx hb dL_prune_12 rfl hl (by decide) rfl (fun ls hl => ?_)
    refine lv_iconst (v := nI 1) hx hb dL_prune_13 rfl ?_
    rw [hQ]
    refine W.widen (k := 1) (n := 6) (by omega) (by omega) ?_
    exact xc_iret hx hb hr hlocks hR (Or.inr ⟨ISE, 1, X1, by decide, hxe, rfl, rfl⟩) dL_prune_14
