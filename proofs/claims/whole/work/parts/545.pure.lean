/-! The class's answers are the reference's. -/
theorem fnd2_fndr {L : List En} (hs : srt L) (hl : L.length < 2 ^ 31) (P : List Nat) : fnd2 L P = fndr L P L.length := by
  rcases fndr_bd L P L.length hl with ⟨h1, h2⟩ | ⟨i, h1, h2, h3⟩
  · rw [h1, fnd2, if_neg (fun q => h2 _ q.1 q.2)]
  · have e : insI P L = i := insI_eq (fun j hj => by rw [← h3]; exact hs j i hj h1) (by omega) (Or.inr (by rw [h3, pcm_refl]; omega))
    rw [h2, fnd2, e, if_pos ⟨h1, h3⟩]
theorem dirC_OK {L : List En} (hs : srt L) (hl : L.length < 2 ^ 31) (P : List Nat) : dirC L P = dirOK L P := by
  unfold dirC dirOK
  cases lsl P P.length with
  | none => rfl
  | some k => simp only [fnd2_fndr hs hl]
theorem blw2_iff {P D : List Nat} : blw2 P D = true ↔ ∃ R, P = D ++ 47 :: R := by
  unfold blw2
  rw [decide_eq_true_eq]
  constructor
  · rintro ⟨h1, h2, h3⟩
    refine ⟨P.drop (D.length + 1), ?_⟩
    have := dr_cons (d := 0) h1
    rw [h2] at this
    rw [← this, ← h3, List.length_take, show min D.length P.length = D.length by omega, List.take_append_drop]
  · rintro ⟨R, rfl⟩
    refine ⟨by rw [List.length_append, List.length_cons]; omega, ?_, ?_⟩
    · rw [List.getD_eq_getElem?_getD, List.getElem?_append_right (Nat.le_refl _), Nat.sub_self]; rfl
    · rw [List.take_append_of_le_length (Nat.le_refl _), List.take_length]
theorem blw_or {P D : List Nat} : blw P D = true ↔ P = D ∨ blw2 P D = true := by
  unfold blw blw2
  rw [decide_eq_true_eq, decide_eq_true_eq]
  constructor
  · rintro ⟨h1 | h1, h2⟩
    · exact Or.inl (by rw [← h2, ← h1, List.take_length])
    · exact Or.inr ⟨h1.1, h1.2, h2⟩
  · rintro (rfl | ⟨h1, h2, h3⟩)
    · exact ⟨Or.inl rfl, List.take_length⟩
    · exact ⟨Or.inr ⟨h1, h2⟩, h3⟩
theorem pcm_below (D R : List Nat) : pcm D (D ++ 47 :: R) < 0 := by
  induction D with
  | nil => show -1 - rkn 47 < 0; unfold rkn; omega
  | cons a D ih => rw [List.cons_append, pcm, if_pos rfl]; exact ih
theorem pcm_conv {D x : List Nat} (h : pcm D x < 0) (hn : ¬ ∃ R, x = D ++ 47 :: R) (R : List Nat) : pcm (D ++ 47 :: R) x < 0 := by
  induction D generalizing x with
  | nil =>
    cases x with
    | nil => simp [pcm] at h
    | cons b x =>
      have hb : (47 : Nat) ≠ b := fun q => hn ⟨x, by rw [q]; rfl⟩
      rw [List.nil_append, pcm, if_neg hb]
      unfold rkn
      rw [if_pos rfl, if_neg (Ne.symm hb)]
      omega
  | cons a D ih =>
    cases x with
    | nil => simp only [pcm] at h; unfold rkn at h; split at h <;> omega
    | cons b x =>
      rw [pcm] at h
      rw [List.cons_append, pcm]
      by_cases e : a = b
      · rw [if_pos e] at h ⊢
        exact ih h (fun ⟨R, q⟩ => hn ⟨R, by rw [e, q]; rfl⟩)
      · rw [if_neg e] at h ⊢
        exact h
theorem pcm_irr {P Q : List Nat} (h1 : pcm P Q < 0) (h2 : pcm Q P < 0) : False := by
  have := pcm_trans h1 h2
  rw [pcm_refl] at this
  omega
theorem nblw {D P : List Nat} (h : pcm P D < 0) : blw P D = false := by
  cases hb : blw P D with
  | false => rfl
  | true =>
    rcases blw_or.mp hb with rfl | h1
    · rw [pcm_refl] at h; omega
    · obtain ⟨R, rfl⟩ := blw2_iff.mp h1
      exact (pcm_irr h (pcm_below D R)).elim
theorem cnt_filter (D : List Nat) : ∀ L : List En, sP L → (∀ u ∈ L, pcm D u.1 < 0) → L.filter (fun u => !blw u.1 D) = L.drop (cntB D L) := by
  intro L
  induction L with
  | nil => intro _ _; rfl
  | cons u L ih =>
    intro hs hd
    obtain ⟨h1, h2⟩ := List.pairwise_cons.mp hs
    by_cases hb : blw2 u.1 D = true
    · rw [List.filter_cons_of_neg (by rw [blw_or.mpr (Or.inr hb)]; decide), cntB, if_pos hb, List.drop_succ_cons]
      exact ih h2 (fun v hv => hd v (List.mem_cons_of_mem _ hv))
    · rw [cntB, if_neg hb, List.drop_zero, List.filter_eq_self]
      intro v hv
      cases hv2 : blw v.1 D with
      | false => rfl
      | true =>
        exfalso
        have hdv := hd v hv
        rcases blw_or.mp hv2 with h3 | h3
        · rw [h3, pcm_refl] at hdv; omega
        · rcases List.mem_cons.mp hv with rfl | hv
          · exact hb h3
          · obtain ⟨R, hR⟩ := blw2_iff.mp h3
            have h4 := pcm_conv (hd u List.mem_cons_self) (fun ⟨R, q⟩ => hb (blw2_iff.mpr ⟨R, q⟩)) R
            rw [← hR] at h4
            exact pcm_irr h4 (h1 v hv)
theorem take_lt {L : List En} (hs : srt L) {i : Nat} (hi : i < L.length) : ∀ u ∈ L.take i, pcm u.1 (L.getD i e0).1 < 0 := by
  intro u hu
  obtain ⟨j, hj, e⟩ := List.getElem_of_mem hu
  rw [List.length_take] at hj
  have := hs j i (by omega) hi
  rw [List.getD_eq_getElem?_getD, List.getElem?_eq_getElem (show j < L.length by omega), Option.getD_some] at this
  rw [List.getElem_take] at e
  rw [← e]; exact this
theorem drop_gt {L : List En} (hs : srt L) {i : Nat} (hi : i < L.length) : ∀ u ∈ L.drop (i + 1), pcm (L.getD i e0).1 u.1 < 0 := by
  intro u hu
  obtain ⟨j, hj, e⟩ := List.getElem_of_mem hu
  rw [List.length_drop] at hj
  have := hs i (i + 1 + j) (by omega) (by omega)
  rw [List.getD_eq_getElem?_getD (i := i + 1 + j), List.getElem?_eq_getElem (show i + 1 + j < L.length by omega), Option.getD_some] at this
  rw [List.getElem_drop] at e
  rw [← e]; exact this
/-- what remove leaves -/
theorem rm_filter {L : List En} (hs : srt L) {i : Nat} (hi : i < L.length) : L.filter (fun u => !blw u.1 (L.getD i e0).1) = drpL L i (1 + cntB (L.getD i e0).1 (L.drop (i + 1))) := by
  have e1 : L = L.take i ++ (L.getD i e0 :: L.drop (i + 1)) := by rw [← dr_cons (d := e0) hi, List.take_append_drop]
  have hsd : sP (L.drop (i + 1)) := (srt_P.mp hs).sublist (List.drop_sublist _ _)
  have e2 : (L.take i).filter (fun u => !blw u.1 (L.getD i e0).1) = L.take i := by
    rw [List.filter_eq_self]
    intro u hu
    rw [nblw (take_lt hs hi u hu)]; rfl
  have e3 : (L.getD i e0 :: L.drop (i + 1)).filter (fun u => !blw u.1 (L.getD i e0).1) = (L.drop (i + 1)).drop (cntB (L.getD i e0).1 (L.drop (i + 1))) := by
    rw [List.filter_cons_of_neg (by rw [blw_or.mpr (Or.inl rfl)]; decide)]
    exact cnt_filter _ _ hsd (drop_gt hs hi)
  have e4 : L.filter (fun u => !blw u.1 (L.getD i e0).1) = (L.take i ++ (L.getD i e0 :: L.drop (i + 1))).filter (fun u => !blw u.1 (L.getD i e0).1) := by rw [← e1]
  rw [e4, List.filter_append, e2, e3, List.drop_drop, drpL, show i + (1 + cntB (L.getD i e0).1 (L.drop (i + 1))) = i + 1 + cntB (L.getD i e0).1 (L.drop (i + 1)) by omega]
theorem path_set {L : List En} {i : Nat} {u : En} (hi : i < L.length) (h : u.1 = (L.getD i e0).1) (j : Nat) : ((L.set i u).getD j e0).1 = (L.getD j e0).1 := by
  by_cases e : i = j
  · rw [← e, gd_set_self hi, h]
  · rw [gd_set_ne e]
theorem fndr_set {L : List En} {i : Nat} {u : En} (hi : i < L.length) (h : u.1 = (L.getD i e0).1) (P : List Nat) (n : Nat) : fndr (L.set i u) P n = fndr L P n := by
  induction n with
  | zero => rfl
  | succ n ih => rw [fndr, fndr, path_set hi h, ih]
theorem cAt_set {L : List En} {i : Nat} {u : En} (hi : i < L.length) (h : u.1 = (L.getD i e0).1) (cs : Bool) (cp : List Nat) : cAt (L.set i u) cs cp = cAt L cs cp := by
  unfold cAt
  rw [fndr_set hi h, List.length_set]
theorem srt_set {L : List En} (hs : srt L) {i : Nat} {u : En} (hi : i < L.length) (h : u.1 = (L.getD i e0).1) : srt (L.set i u) := by
  intro a b hab hb
  rw [List.length_set] at hb
  rw [path_set hi h, path_set hi h]
  exact hs a b hab hb
theorem sP_ins {L : List En} {u : En} : sP L → ¬ fd9 u.1 L → sP (insL L (insI u.1 L) u) ∧ ∀ v ∈ insL L (insI u.1 L) u, v = u ∨ v ∈ L := by
  induction L with
  | nil => intro _ _; exact ⟨List.pairwise_singleton _ _, fun v hv => Or.inl (List.mem_singleton.mp hv)⟩
  | cons b L ih =>
    intro hs hf
    obtain ⟨h1, h2⟩ := List.pairwise_cons.mp hs
    by_cases hb : pcm b.1 u.1 < 0
    · obtain ⟨g1, g2⟩ := ih h2 (fun q => hf ((fd9_c hb).mpr q))
      rw [insI_c hb, show insL (b :: L) (insI u.1 L + 1) u = b :: insL L (insI u.1 L) u from rfl]
      refine ⟨List.pairwise_cons.mpr ⟨fun v hv => ?_, g1⟩, fun v hv => ?_⟩
      · rcases g2 v hv with rfl | h3
        · exact hb
        · exact h1 v h3
      · rcases List.mem_cons.mp hv with rfl | hv
        · exact Or.inr List.mem_cons_self
        · exact (g2 v hv).imp_right (List.mem_cons_of_mem _)
    · rw [insI_0 hb, show insL (b :: L) 0 u = u :: b :: L from rfl]
      have hub : pcm u.1 b.1 < 0 := pcm_anti (by
        have : pcm b.1 u.1 ≠ 0 := fun q => hf (fd9_0 (pcm_zero.mp q))
        omega)
      refine ⟨List.pairwise_cons.mpr ⟨fun v hv => ?_, hs⟩, fun v hv => ?_⟩
      · rcases List.mem_cons.mp hv with rfl | hv
        · exact hub
        · exact pcm_trans hub (h1 v hv)
      · exact List.mem_cons.mp hv
theorem ssm_z (f : Nat → Int32) (z : Int32) (n : Nat) : ssm f z n = ssm f 0 n + z := by
  induction n with
  | zero => rw [ssm, ssm, Int32.zero_add]
  | succ n ih =>
    rw [ssm, ssm]
    by_cases h : n = 0
    · rw [if_pos h, if_pos h, Int32.zero_add]
    · rw [if_neg h, if_neg h, ih, Int32.add_assoc, Int32.add_assoc, Int32.add_comm z]
theorem ssm_congr {f g : Nat → Int32} {n : Nat} (z : Int32) (h : ∀ k, k < n → f k = g k) : ssm f z n = ssm g z n := by
  induction n with
  | zero => rfl
  | succ n ih => rw [ssm, ssm, h n (by omega), ih (fun k hk => h k (by omega))]
theorem ltst_congr {f g : Nat → Int32} {n : Nat} (tm : Int32) (h : ∀ k, k < n → f k = g k) : ltst f tm n = ltst g tm n := by
  induction n with
  | zero => rfl
  | succ n ih => rw [ltst, ltst, h n (by omega), ih (fun k hk => h k (by omega))]
theorem tr_cases (tr : Int32) : tr.toInt = 0 ∨ tr.toInt = 1 ∨ tr.toInt = 2 ∨ (tr.toInt < 0 ∨ 2 < tr.toInt) := by omega
theorem trS_in {Ts : Nat → List En} {tr : Int32} (h : 0 ≤ tr.toInt ∧ tr.toInt < 3) : trS (Ts 0) (Ts 1) (Ts 2) tr = Ts tr.toInt.toNat := by
  rcases tr_cases tr with h1 | h1 | h1 | h1
  · rw [trS_0 h1, h1]; rfl
  · rw [trS_1 h1, h1]; rfl
  · rw [trS_2 h1, h1]; rfl
  · omega
theorem enK_A (Ts : Nat → List En) (tr ix w0 : Int32) : enK (trS (Ts 0) (Ts 1) (Ts 2) tr) ix w0 = enA Ts tr ix w0 := by
  by_cases h : 0 ≤ tr.toInt ∧ tr.toInt < 3
  · rw [trS_in h]
    by_cases h2 : 0 ≤ ix.toInt ∧ ix.toInt < (Ts tr.toInt.toNat).length
    · have e1 : enK (Ts tr.toInt.toNat) ix w0 = enE ((Ts tr.toInt.toNat).getD ix.toInt.toNat e0) w0 := if_pos h2
      rw [e1]
      exact (if_pos (⟨h.1, h.2, h2.1, h2.2⟩ : 0 ≤ tr.toInt ∧ tr.toInt < 3 ∧ 0 ≤ ix.toInt ∧ ix.toInt < (Ts tr.toInt.toNat).length)).symm
    · rw [enK_out h2, enA, if_neg (fun q => h2 ⟨q.2.2.1, q.2.2.2⟩)]
  · rw [trS_d (by omega), enK_out (by simp), enA, if_neg (fun q => h ⟨q.1, q.2.1⟩)]
theorem atE_3 {P : List Nat} {k0 : Int32} (h : 0 ≤ k0.toInt) : atE P k0 = if k0.toInt < P.length then nI (P.getD k0.toInt.toNat 0) else -1 := by
  by_cases h2 : k0.toInt < P.length
  · rw [if_pos h2, atE, if_pos ⟨h, h2⟩]
  · rw [if_neg h2, atE_out (fun q => h2 q.2)]
theorem atK_A (Ts : Nat → List En) (tr ix : Int32) (pb : Bool) (k0 : Int32) : atK (trS (Ts 0) (Ts 1) (Ts 2) tr) ix pb k0 = atA Ts tr ix pb k0 := by
  by_cases h : 0 ≤ tr.toInt ∧ tr.toInt < 3
  · rw [trS_in h]
    by_cases h2 : 0 ≤ ix.toInt ∧ ix.toInt < (Ts tr.toInt.toNat).length
    · have e1 : atK (Ts tr.toInt.toNat) ix pb k0 = if pb = true then atE ((Ts tr.toInt.toNat).getD ix.toInt.toNat e0).1 k0 else atE (ct ((Ts tr.toInt.toNat).getD ix.toInt.toNat e0)) k0 := if_pos h2
      rw [e1]
      by_cases h3 : 0 ≤ k0.toInt
      · rw [atE_3 h3, atE_3 h3]
        exact (if_pos (⟨⟨h.1, h.2, h2.1, h2.2⟩, h3⟩ : (0 ≤ tr.toInt ∧ tr.toInt < 3 ∧ 0 ≤ ix.toInt ∧ ix.toInt < (Ts tr.toInt.toNat).length) ∧ 0 ≤ k0.toInt)).symm
      · have e2 : atA Ts tr ix pb k0 = -1 := if_neg (fun q : (0 ≤ tr.toInt ∧ tr.toInt < 3 ∧ 0 ≤ ix.toInt ∧ ix.toInt < (Ts tr.toInt.toNat).length) ∧ 0 ≤ k0.toInt => h3 q.2)
        rw [e2, atE_out (fun q => h3 q.1), atE_out (fun q => h3 q.1)]
        split <;> rfl
    · rw [atK_out h2, atA, if_neg (fun q => h2 ⟨q.1.2.2.1, q.1.2.2.2⟩)]
  · rw [trS_d (by omega), atK_out (by simp), atA, if_neg (fun q => h ⟨q.1.1, q.1.2.1⟩)]
theorem abK_A {Ts : Nat → List En} {T : List Nat} {Sn : List Se} {nC dn st ops cg ns : Nat} {sC : Nat → Int32} (hns : Sn.length = ns) (hsC : ∀ k, k < ns → nI (Sn.getD k s0).2.1 = sC k) (h0 : st = 0 → ops = 0) (h1 : st ≠ 0 → dn = ops ∧ nC = cg) (w0 : Int32) : abK T (Ts 0) (Ts 1) (Ts 2) Sn nC dn st w0 = abA Ts T st ops cg ns sC w0 := by
  unfold abK abA
  rw [hns, ssm_z sC, ssm_congr 0 hsC]
  by_cases h : st = 0
  · simp only [if_pos h, h0 h]; rfl
  · obtain ⟨rfl, rfl⟩ := h1 h
    simp only [if_neg h]
theorem seK_A {Sn : List Se} {ns : Nat} {sT sC : Nat → Int32} (hns : Sn.length = ns) (hsT : ∀ k, k < ns → (Sn.getD k s0).1 = sT k) (hsC : ∀ k, k < ns → nI (Sn.getD k s0).2.1 = sC k) (i w0 : Int32) : seK Sn i w0 = sesA ns sT sC i w0 := by
  unfold seK sesA
  rw [hns]
  by_cases h : 0 ≤ i.toInt ∧ i.toInt < ns
  · rw [if_pos h, if_pos h, hsT _ (by omega), hsC _ (by omega)]
    by_cases h0 : w0.toInt = 0
    · rw [if_pos h0, if_pos h0]
    · rw [if_neg h0, if_neg h0]
      by_cases h1 : w0.toInt = 1
      · rw [if_pos h1]
        by_cases h2 : i.toInt = 0
        · rw [if_pos h2, if_neg (by omega)]
        · rw [if_neg h2, if_pos (by omega)]
      · rw [if_neg h1, if_neg (by omega)]
  · rw [if_neg h, if_neg h]
