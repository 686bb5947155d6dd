/-! Arrays.copyOf of bytes. -/
/-- the first n of a list, zeros behind its end -/
def cpyL (P : List Nat) (n : Nat) : List Nat := P.take n ++ List.replicate (n - P.length) 0
theorem cpyL_len {P : List Nat} {n : Nat} : (cpyL P n).length = n := by
  unfold cpyL
  rw [List.length_append, List.length_take, List.length_replicate]
  omega
theorem cpyL_get {P : List Nat} {n j : Nat} (h : j < n) : (cpyL P n).getD j 0 = if j < P.length then P.getD j 0 else 0 := by
  unfold cpyL
  simp only [List.getD_eq_getElem?_getD]
  by_cases h1 : j < P.length
  · rw [if_pos h1, List.getElem?_append_left (by rw [List.length_take]; omega), List.getElem?_take, if_pos h]
  · rw [if_neg h1, List.getElem?_append_right (by rw [List.length_take]; omega), List.length_take, List.getElem?_replicate, if_pos (by omega)]
    rfl
theorem cpyL_take {P : List Nat} {n : Nat} (h : n ≤ P.length) : cpyL P n = P.take n := by
  unfold cpyL
  rw [show n - P.length = 0 by omega]
  simp
theorem cpyL_mem {P : List Nat} {n : Nat} (h : ∀ b ∈ P, b < 256) : ∀ b ∈ cpyL P n, b < 256 := by
  intro b hb
  unfold cpyL at hb
  rcases List.mem_append.mp hb with h1 | h1
  · exact h b (List.mem_of_mem_take h1)
  · rw [(List.mem_replicate.mp h1).2]; decide
theorem sb_0 : sb_b 0 = 0 := by decide +kernel
theorem sb_fit_all : ∀ v : Fin 256, fits .byte (.int (sb_b v.val)) = true := by decide +kernel
theorem sb_fit {v : Nat} (h : v < 256) : fits .byte (.int (sb_b v)) = true := sb_fit_all ⟨v, h⟩
set_option maxHeartbeats 4000000 in
set_option maxRecDepth 100000 in
theorem c_copyOf (l : Launch) {G : va_G} {tys : List (ClassId × FieldType)} {cB cI cE cS : ClassId} (hT : tys = [(cB, .byte), (cI, .int), (cE, .object RX1), (cS, .object RX4)]) {X pl : va_W} {sz : Nat} {a n : Nat} {P : List Nat} (hb9 : bArr (X ++ pl) cB a P) (hn : n ≤ 1500) (hPl : P.length ≤ 1500) :
    cMet l yJ7_copyOf_9075b wsJ7_copyOf_9075b ({ frames := 1, cells := 1, slots := 1500, locals := 60 } : Room) G tys [.ref a, .int (nI n)] X pl sz 1 1500 (fun o9 X1 nw => X1 = X ∧ ∃ (q : Nat) (g : Nat → Int32), o9 = some (.ref q) ∧ nw = [(q, .inl (cB, n, .inl g))] ∧ enb g (cpyL P n) ∧ bArr (pl ++ nw) cB q (cpyL P n)) := by
  have hT0 : tys[0]? = some (cB, .byte) := by rw [hT]; rfl
  refine Met.ofW (cc := cJ7_copyOf_9075b) (maxL := 3) (ret := (some (.array .byte))) (by decide) rfl ?_
  intro p e s m args below meth c s₁ B hml hv
  obtain ⟨hargs, hsz, hP, hK, hD0, hZ⟩ := hv
  have hx := B.exec
  have hb := B.bytes
  have hr := B.returns
  have hts := atoms_spec (ws := wsJ7_copyOf_9075b) B.pre
  have hown : s.vm.findClass RJ7 = some m.cls := findClass_of_methodNamed B.named
  have hlocks := B.notSynchronized
  subst hsz
  have hD := hD0.self (sz := s.heap.size)
  obtain ⟨A, hAe⟩ : ∃ A : Nat → Prop, A = va_A (X ++ pl) s.heap.size := ⟨_, rfl⟩
  rw [← hAe] at hD
  have hA : ∀ q : Nat, s.heap.size ≤ q → A q := fun q h => by rw [hAe]; exact Or.inr h
  have hR : rR G A s.heap s.heap [] (X ++ pl) := ⟨hP, hD, va_S.rf⟩
  obtain ⟨Q, hQ⟩ : ∃ Q : State → Prop, Q = MQ below (cQ G A pl (fun o9 X1 nw => X1 = X ∧ ∃ (q : Nat) (g : Nat → Int32), o9 = some (.ref q) ∧ nw = [(q, .inl (cB, n, .inl g))] ∧ enb g (cpyL P n) ∧ bArr (pl ++ nw) cB q (cpyL P n))) args s 1 1500 A := ⟨_, rfl⟩
  change W p l e ({ frames := 1, cells := 1, slots := 1500, locals := 60 } : Room) s m args below meth c s.heap [] 0 0 (MQ below (cQ G (va_A (X ++ pl) s.heap.size) pl (fun o9 X1 nw => X1 = X ∧ ∃ (q : Nat) (g : Nat → Int32), o9 = some (.ref q) ∧ nw = [(q, .inl (cB, n, .inl g))] ∧ enb g (cpyL P n) ∧ bArr (pl ++ nw) cB q (cpyL P n))) args s 1 1500 (va_A (X ++ pl) s.heap.size)) (entryFrame m args 3)
  rw [← hAe, ← hQ]
  have ret9 : ∀ (H : Heap) (locs : List Loc) (q pc : Nat) (g : Nat → Int32) (ls : Array Slot), decode cJ7_copyOf_9075b pc = .ok (.areturn, 1) → rR G A s.heap H locs ((X ++ [(q, .inl (cB, n, .inl g))]) ++ pl) → (∀ j, j < n → g j = if j < P.length then sb_b (P.getD j 0) else 0) → W p l e ({ frames := 1, cells := 1, slots := 1500, locals := 60 } : Room) s m args below meth c H locs 1 1500 Q (F0 m pc ls [.ref q]) := by
    intro H locs q pc g ls hd hR hg
    rw [hQ]
    obtain ⟨f, h1, h2, h3, h4⟩ := hb9
    have hen : enb g (cpyL P n) := by
      intro k hk
      rw [cpyL_len] at hk
      rw [hg k hk, cpyL_get hk]
      by_cases e1 : k < P.length
      · rw [if_pos e1, if_pos e1]
      · rw [if_neg e1, if_neg e1, sb_0]
    refine xc_aret (X1 := X) (nw := [(q, .inl (cB, n, .inl g))]) hx hb hr (Or.inr ⟨_, rfl⟩) (Or.inr ⟨_, rfl⟩) hlocks (xc_pool hR) ⟨rfl, q, g, rfl, rfl, hen, g, ?_, hen, cpyL_mem h3, ?_⟩ hd
    · rw [cpyL_len]; exact List.mem_append_right _ List.mem_cons_self
    · rw [cpyL_len]; omega
  refine nn_entry hargs (Nat.le_of_ble_eq_true rfl) (lv := [(0, .ref a), (1, .int (nI n))]) rfl (fun ls hl => ?_)
  refine lv_iload_n hx hb dJ7_copyOf_9075b_0 rfl (lv_at hl 1 rfl) ?_
  refine lv_aload_n hx hb dJ7_copyOf_9075b_1 rfl (lv_at hl 0 rfl) ?_
  refine xb_len hx hb hK hT0 hR.1 hb9 dJ7_copyOf_9075b_2 ?_
  refine nn_ne hx hb dJ7_copyOf_9075b_3 (tgt := 14) (by decide) (by omega) (by omega) (fun c_1 => ?_) (fun c_1 => ?_)
  · refine lv_iload_n hx hb dJ7_copyOf_9075b_14 rfl (lv_at hl 1 rfl) ?_
    refine xc_newb hx hb (hts (.arrayClass .byte) (by decide +kernel)) hK hT0 hR hA (by omega) (Nat.le_of_ble_eq_true rfl) (show 0 + n ≤ 1500 by omega) dJ7_copyOf_9075b_15 (fun q H hR => ?_)
    refine W.widen (k := 1) (n := 1500) (by omega) (by omega) ?_
    refine lv_astore_n (lv' := [(2, .ref q), (0, .ref a), (1, .int (nI n))]) hx hb dJ7_copyOf_9075b_17 rfl hl (by decide) rfl (fun ls hl => ?_)
    refine lv_aload_n hx hb dJ7_copyOf_9075b_18 rfl (lv_at hl 1 rfl) ?_
    refine lv_iconst (v := nI 0) hx hb dJ7_copyOf_9075b_19 rfl ?_
    refine lv_aload_n hx hb dJ7_copyOf_9075b_20 rfl (lv_at hl 0 rfl) ?_
    refine lv_iconst (v := nI 0) hx hb dJ7_copyOf_9075b_21 rfl ?_
    refine lv_aload_n hx hb dJ7_copyOf_9075b_22 rfl (lv_at hl 1 rfl) ?_
    have hb8 : bArr ((X ++ [(q, .inl (cB, n, .inl (fun _ => 0)))]) ++ pl) cB a P := hb9.mono (fun z hz => by
      rcases List.mem_append.mp hz with h | h
      · exact List.mem_append_left _ (List.mem_append_left _ h)
      · exact List.mem_append_right _ h)
    refine xb_len hx hb hK hT0 hR.1 hb8 dJ7_copyOf_9075b_23 ?_
    refine lv_iload_n hx hb dJ7_copyOf_9075b_24 rfl (lv_at hl 2 rfl) ?_
    refine va_mmin hx hb (hml.trans hl.1.symm) hown (hts (.methodLink RJ7 304 Lib.Math.min.name) (by decide +kernel)) (hts (.static Lib.Math.min.name) (by decide +kernel)) (hts (.initialized "java/lang/Math") (by decide +kernel)) (hts (.code Lib.Math.min.name Lib.Math.min.code 2 (some .int)) (by decide +kernel)) (Nat.le_of_ble_eq_true rfl) (Nat.le_of_ble_eq_true rfl) (Nat.le_of_ble_eq_true rfl) (Nat.le_of_ble_eq_true rfl) dJ7_copyOf_9075b_25 ?_
    refine nn_eqi (y := nI (if n < P.length then n else P.length)) (min_nI (by omega) (by omega)) ?_
    obtain ⟨mn, hmn⟩ : ∃ mn, mn = (if n < P.length then n else P.length) := ⟨_, rfl⟩
    have hmn2 : mn ≤ n ∧ mn ≤ P.length ∧ (n ≤ mn ∨ P.length ≤ mn) := by rw [hmn]; split <;> omega
    rw [← hmn]
    obtain ⟨f, h1, h2, h3, h4⟩ := hb8
    obtain ⟨q0, hq0⟩ := List.getElem?_of_mem h1
    have hq1 : ((X ++ [(q, (.inl (cB, n, .inl (fun _ => 0)) : va_E))]) ++ pl)[X.length]? = some (q, .inl (cB, n, .inl (fun _ => 0))) := by
      rw [List.getElem?_append_left (by rw [List.length_append]; simp), List.getElem?_append_right (Nat.le_refl _)]
      simp
    refine va_copyi (ty := .byte) hx hb (hml.trans hl.1.symm) hown (hts (.methodLink RJ7 150 arraycopyName) (by decide +kernel)) (hts (.native arraycopyName) (by decide +kernel)) (hts (.static arraycopyName) (by decide +kernel)) (hts (.initialized "java/lang/System") (by decide +kernel)) hK hR.1 hR.2.1 hR.2.2 q0 X.length 0 0 hq0 hq1 hT0 hT0 rfl (nI_pos (by omega)) (nI_pos (by omega)) (nI_pos (by omega)) (by rw [nI_clamp (by omega), nI_clamp (by omega)]; omega) (by rw [nI_clamp (by omega), nI_clamp (by omega)]; omega) ?_ (Nat.le_of_ble_eq_true rfl) (Nat.le_of_ble_eq_true rfl) dJ7_copyOf_9075b_28 ?_
    · intro i hi
      rw [nI_clamp (by omega)] at hi
      rw [nI_clamp (by omega), Nat.zero_add, h2 i (by omega)]
      exact sb_fit (h3 _ (gd_mem (by omega)))
    · rw [nI_clamp (by omega), nI_clamp (by omega)]
      intro H2 locs2 k1 k2 k3
      have hset : ((X ++ [(q, (.inl (cB, n, .inl (fun _ => 0)) : va_E))]) ++ pl).set X.length (q, .inl (cB, n, .inl (va_cpy f (fun _ => 0) 0 0 mn))) = (X ++ [(q, .inl (cB, n, .inl (va_cpy f (fun _ => 0) 0 0 mn)))]) ++ pl := by
        rw [List.set_append_left _ _ (by rw [List.length_append]; simp), List.set_append_right _ _ (Nat.le_refl _)]
        simp
      rw [hset] at k1 k2
      refine lv_aload_n hx hb dJ7_copyOf_9075b_31 rfl (lv_at hl 0 rfl) ?_
      refine ret9 _ _ q 32 _ ls dJ7_copyOf_9075b_32 ⟨k1, k2, k3⟩ (fun j hj => ?_)
      by_cases e1 : j < P.length
      · rw [if_pos e1, pk_cpy_in (by omega) (by omega), Nat.zero_add, Nat.sub_zero]
        exact h2 j e1
      · rw [if_neg e1, pk_cpy_out (by omega)]
  · refine lv_aload_n hx hb dJ7_copyOf_9075b_6 rfl (lv_at hl 0 rfl) ?_
    obtain ⟨f, h1, h2, h3, h4⟩ := id hb9
    obtain ⟨q0, hq0⟩ := List.getElem?_of_mem h1
    have hnm : s.vm.findClass "[B" = some cB := va_nm_byte (hK.2 0 _ hT0).2
    refine va_clone (ty := .byte) hx hb (hml.trans hl.1.symm) hown (hts (.methodLink RJ7 310 ⟨"[B", "clone", "()Ljava/lang/Object;"⟩) (by decide +kernel)) (hts (.sameMethod "[B" "java/lang/Object" "clone" "()Ljava/lang/Object;") (by decide +kernel)) (hts (.native ⟨"java/lang/Object", "clone", "()Ljava/lang/Object;"⟩) (by decide +kernel)) (hts (.instanceMethod ⟨"java/lang/Object", "clone", "()Ljava/lang/Object;"⟩) (by decide +kernel)) (hts (.selects "[B" ⟨"[B", "clone", "()Ljava/lang/Object;"⟩ ⟨"java/lang/Object", "clone", "()Ljava/lang/Object;"⟩) (by decide +kernel)) (hZ.2.2.1 _ (by decide +kernel)) hK hR.1 hR.2.1 hR.2.2 hA q0 0 hq0 hT0 hnm (va_fit (fun i hi => by rw [h2 i hi]; exact sb_fit (h3 _ (gd_mem hi)))) (Nat.le_of_ble_eq_true rfl) (Nat.le_of_ble_eq_true rfl) (Nat.le_of_ble_eq_true rfl) (show 0 + P.length ≤ 1500 by omega) dJ7_copyOf_9075b_7 (fun q H1 hK1 k1 k2 k3 => ?_)
    have e1 : P.length = n := by omega
    have hR1 : rR G A s.heap H1 [] ((X ++ [(q, .inl (cB, n, .inl f))]) ++ pl) := by
      rw [e1] at k1 k2
      exact ⟨k1.swap, k2.swap, k3⟩
    refine W.widen (k := 1) (n := 1500) (by omega) (by show 0 + P.length ≤ 1500; omega) ?_
    refine va_castA (nm := "[B") hx hb hown (hts (.classLink RJ7 311 "[B") (by decide +kernel)) hR1.1 X.length (cA := cB) (x := (n, .inl f)) (by
      rw [List.getElem?_append_left (by rw [List.length_append]; simp), List.getElem?_append_right (Nat.le_refl _)]
      simp) hnm dJ7_copyOf_9075b_10 ?_
    exact ret9 _ _ q 13 _ ls dJ7_copyOf_9075b_13 hR1 (fun j hj => by rw [if_pos (by omega)]; exact h2 j (by omega))
