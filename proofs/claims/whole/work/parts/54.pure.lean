/-! The class's changes are the reference's. -/
theorem pcm_refl (P : List Nat) : pcm P P = 0 := pcm_zero.mpr rfl
/-- how jn and chg go through two trees -/
theorem jn_ind {P : List En → List En → Prop} (h0 : P [] []) (hS : ∀ a S T, (T = [] ∨ ∃ b T', T = b :: T' ∧ pcm a.1 b.1 < 0) → P S T → P (a :: S) T) (hT : ∀ b S T, (S = [] ∨ ∃ a S', S = a :: S' ∧ 0 < pcm a.1 b.1) → P S T → P S (b :: T)) (hE : ∀ (a b : En) (S T : List En), pcm a.1 b.1 = 0 → a.2 = b.2 → P S T → P (a :: S) (b :: T)) (hC : ∀ (a b : En) (S T : List En), pcm a.1 b.1 = 0 → ¬ a.2 = b.2 → P S T → P (a :: S) (b :: T)) : ∀ S T : List En, P S T := by
  have key : ∀ (n : Nat) (S T : List En), S.length + T.length ≤ n → P S T := by
    intro n
    induction n with
    | zero =>
      intro S T h
      have h1 : S = [] := List.eq_nil_of_length_eq_zero (by omega)
      have h2 : T = [] := List.eq_nil_of_length_eq_zero (by omega)
      rw [h1, h2]; exact h0
    | succ n ih =>
      intro S T h
      cases S with
      | nil =>
        cases T with
        | nil => exact h0
        | cons b T => exact hT b [] T (Or.inl rfl) (ih [] T (by simp only [List.length_cons, List.length_nil] at h ⊢; omega))
      | cons a S =>
        cases T with
        | nil => exact hS a S [] (Or.inl rfl) (ih S [] (by simp only [List.length_cons, List.length_nil] at h ⊢; omega))
        | cons b T =>
          simp only [List.length_cons] at h
          by_cases h1 : pcm a.1 b.1 < 0
          · exact hS a S (b :: T) (Or.inr ⟨b, T, rfl, h1⟩) (ih S (b :: T) (by simp only [List.length_cons]; omega))
          · by_cases h2 : 0 < pcm a.1 b.1
            · exact hT b (a :: S) T (Or.inr ⟨a, S, rfl, h2⟩) (ih (a :: S) T (by simp only [List.length_cons]; omega))
            · by_cases h3 : a.2 = b.2
              · exact hE a b S T (by omega) h3 (ih S T (by omega))
              · exact hC a b S T (by omega) h3 (ih S T (by omega))
  exact fun S T => key _ S T (Nat.le_refl _)
theorem jS {a : En} {S T : List En} (h : T = [] ∨ ∃ b T', T = b :: T' ∧ pcm a.1 b.1 < 0) (d : Nat) : jn (a :: S) T d = (1 + (jn S T (d - 1)).1, (if 0 < d then [] else [a]) ++ (jn S T (d - 1)).2) := by
  rcases h with rfl | ⟨b, T', rfl, h⟩
  · rw [jn]
  · rw [jn, if_pos h]
theorem jT {b : En} {S T : List En} (h : S = [] ∨ ∃ a S', S = a :: S' ∧ 0 < pcm a.1 b.1) (d : Nat) : jn S (b :: T) d = (1 + (jn S T (d - 1)).1, (if 0 < d then [b] else []) ++ (jn S T (d - 1)).2) := by
  rcases h with rfl | ⟨a, S', rfl, h⟩
  · rw [jn]
  · rw [jn, if_neg (by omega), if_pos h]
theorem jE {a b : En} {S T : List En} (h : pcm a.1 b.1 = 0) (h2 : a.2 = b.2) (d : Nat) : jn (a :: S) (b :: T) d = ((jn S T d).1, [a] ++ (jn S T d).2) := by
  rw [jn, if_neg (by omega), if_neg (by omega), if_pos h2]
theorem jC {a b : En} {S T : List En} (h : pcm a.1 b.1 = 0) (h2 : ¬ a.2 = b.2) (d : Nat) : jn (a :: S) (b :: T) d = (1 + (jn S T (d - 1)).1, (if 0 < d then [b] else [a]) ++ (jn S T (d - 1)).2) := by
  rw [jn, if_neg (by omega), if_neg (by omega), if_neg h2]
theorem cS9 {a : En} {S T : List En} (h : T = [] ∨ ∃ b T', T = b :: T' ∧ pcm a.1 b.1 < 0) : chg (a :: S) T = (some a, none) :: chg S T := by
  rcases h with rfl | ⟨b, T', rfl, h⟩
  · rw [chg]
  · rw [chg, if_pos h]
theorem cT9 {b : En} {S T : List En} (h : S = [] ∨ ∃ a S', S = a :: S' ∧ 0 < pcm a.1 b.1) : chg S (b :: T) = (none, some b) :: chg S T := by
  rcases h with rfl | ⟨a, S', rfl, h⟩
  · rw [chg]
  · rw [chg, if_neg (by omega), if_pos h]
theorem cE9 {a b : En} {S T : List En} (h : pcm a.1 b.1 = 0) (h2 : a.2 = b.2) : chg (a :: S) (b :: T) = chg S T := by
  rw [chg, if_neg (by omega), if_neg (by omega), if_pos h2]
theorem cC9 {a b : En} {S T : List En} (h : pcm a.1 b.1 = 0) (h2 : ¬ a.2 = b.2) : chg (a :: S) (b :: T) = (some a, some b) :: chg S T := by
  rw [chg, if_neg (by omega), if_neg (by omega), if_neg h2]
theorem jn_cnt (S T : List En) : ∀ d, (jn S T d).1 = (chg S T).length := by
  refine jn_ind (P := fun S T => ∀ d, (jn S T d).1 = (chg S T).length) ?_ ?_ ?_ ?_ ?_ S T
  · intro d; rw [jn, chg]; rfl
  · intro a S T h ih d; rw [jS h, cS9 h, List.length_cons, ih]; omega
  · intro b S T h ih d; rw [jT h, cT9 h, List.length_cons, ih]; omega
  · intro a b S T h h2 ih d; rw [jE h h2, cE9 h h2, ih]
  · intro a b S T h h2 ih d; rw [jC h h2, cC9 h h2, List.length_cons, ih]; omega
theorem jn_zero (S T : List En) : (jn S T 0).2 = S := by
  refine jn_ind (P := fun S T => (jn S T 0).2 = S) ?_ ?_ ?_ ?_ ?_ S T
  · rw [jn]
  · intro a S T h ih; rw [jS h, if_neg (by omega), ih]; rfl
  · intro b S T h ih; rw [jT h, if_neg (by omega), ih]; rfl
  · intro a b S T h h2 ih; rw [jE h h2, ih]; rfl
  · intro a b S T h h2 ih; rw [jC h h2, if_neg (by omega), ih]; rfl
theorem jn_all (S T : List En) : ∀ d, (chg S T).length ≤ d → (jn S T d).2 = T := by
  refine jn_ind (P := fun S T => ∀ d, (chg S T).length ≤ d → (jn S T d).2 = T) ?_ ?_ ?_ ?_ ?_ S T
  · intro d hd; rw [jn]
  · intro a S T h ih d hd
    rw [cS9 h, List.length_cons] at hd
    rw [jS h, if_pos (by omega), ih _ (by omega)]; rfl
  · intro b S T h ih d hd
    rw [cT9 h, List.length_cons] at hd
    rw [jT h, if_pos (by omega), ih _ (by omega)]; rfl
  · intro a b S T h h2 ih d hd
    rw [cE9 h h2] at hd
    rw [jE h h2, ih _ hd, show a = b from Prod.ext (pcm_zero.mp h) h2]; rfl
  · intro a b S T h h2 ih d hd
    rw [cC9 h h2, List.length_cons] at hd
    rw [jC h h2, if_pos (by omega), ih _ (by omega)]; rfl
theorem jn_mem (S T : List En) : ∀ d u, u ∈ (jn S T d).2 → u ∈ S ∨ u ∈ T := by
  refine jn_ind (P := fun S T => ∀ d u, u ∈ (jn S T d).2 → u ∈ S ∨ u ∈ T) ?_ ?_ ?_ ?_ ?_ S T
  · intro d u h; rw [jn] at h; cases h
  · intro a S T h ih d u hu
    rw [jS h] at hu
    rcases List.mem_append.mp hu with h1 | h1
    · split at h1
      · cases h1
      · exact Or.inl (by rw [List.mem_singleton.mp h1]; exact List.mem_cons_self)
    · exact (ih _ _ h1).imp_left (List.mem_cons_of_mem _)
  · intro b S T h ih d u hu
    rw [jT h] at hu
    rcases List.mem_append.mp hu with h1 | h1
    · split at h1
      · exact Or.inr (by rw [List.mem_singleton.mp h1]; exact List.mem_cons_self)
      · cases h1
    · exact (ih _ _ h1).imp_right (List.mem_cons_of_mem _)
  · intro a b S T h h2 ih d u hu
    rw [jE h h2] at hu
    rcases List.mem_append.mp hu with h1 | h1
    · exact Or.inl (by rw [List.mem_singleton.mp h1]; exact List.mem_cons_self)
    · exact (ih _ _ h1).imp (List.mem_cons_of_mem _) (List.mem_cons_of_mem _)
  · intro a b S T h h2 ih d u hu
    rw [jC h h2] at hu
    rcases List.mem_append.mp hu with h1 | h1
    · split at h1
      · exact Or.inr (by rw [List.mem_singleton.mp h1]; exact List.mem_cons_self)
      · exact Or.inl (by rw [List.mem_singleton.mp h1]; exact List.mem_cons_self)
    · exact (ih _ _ h1).imp (List.mem_cons_of_mem _) (List.mem_cons_of_mem _)
abbrev sP (L : List En) : Prop := L.Pairwise (fun a b => pcm a.1 b.1 < 0)
theorem srt_P {L : List En} : srt L ↔ sP L := by
  constructor
  · intro h
    rw [sP, List.pairwise_iff_getElem]
    intro i j hi hj hij
    have := h i j hij hj
    simp only [List.getD_eq_getElem?_getD, List.getElem?_eq_getElem hi, List.getElem?_eq_getElem hj, Option.getD_some] at this
    exact this
  · intro h i j hij hj
    rw [sP, List.pairwise_iff_getElem] at h
    have := h i j (by omega) hj hij
    simp only [List.getD_eq_getElem?_getD, List.getElem?_eq_getElem (show i < L.length by omega), List.getElem?_eq_getElem hj, Option.getD_some]
    exact this
theorem cnd_all {a : En} {T : List En} (hT : sP T) (h : T = [] ∨ ∃ b T', T = b :: T' ∧ pcm a.1 b.1 < 0) : ∀ u ∈ T, pcm a.1 u.1 < 0 := by
  rcases h with rfl | ⟨b, T', rfl, h⟩
  · intro u hu; cases hu
  · intro u hu
    rcases List.mem_cons.mp hu with rfl | hu
    · exact h
    · exact pcm_trans h ((List.pairwise_cons.mp hT).1 u hu)
theorem pcm_anti {P Q : List Nat} (h : 0 < pcm P Q) : pcm Q P < 0 := by
  induction P generalizing Q with
  | nil =>
    cases Q with
    | nil => simp [pcm] at h
    | cons b Q => simp only [pcm] at h; unfold rkn at h; split at h <;> omega
  | cons a P ih =>
    cases Q with
    | nil => simp only [pcm]; unfold rkn; split <;> omega
    | cons b Q =>
      simp only [pcm] at h ⊢
      by_cases e : a = b
      · rw [if_pos e] at h; rw [if_pos e.symm]; exact ih h
      · rw [if_neg e] at h; rw [if_neg (Ne.symm e)]; omega
theorem cnd_all2 {b : En} {S : List En} (hS : sP S) (h : S = [] ∨ ∃ a S', S = a :: S' ∧ 0 < pcm a.1 b.1) : ∀ u ∈ S, pcm b.1 u.1 < 0 := by
  refine cnd_all hS (h.imp_right ?_)
  rintro ⟨a, S', h1, h2⟩
  exact ⟨a, S', h1, pcm_anti h2⟩
theorem jn_sP (S T : List En) : sP S → sP T → ∀ d, sP (jn S T d).2 := by
  refine jn_ind (P := fun S T => sP S → sP T → ∀ d, sP (jn S T d).2) ?_ ?_ ?_ ?_ ?_ S T
  · intro _ _ d; rw [jn]; exact List.Pairwise.nil
  · intro a S T h ih hS hT d
    obtain ⟨h1, h2⟩ := List.pairwise_cons.mp hS
    rw [jS h]
    split
    · exact ih h2 hT _
    · refine List.pairwise_cons.mpr ⟨fun u hu => ?_, ih h2 hT _⟩
      rcases jn_mem _ _ _ _ hu with h3 | h3
      · exact h1 u h3
      · exact cnd_all hT h u h3
  · intro b S T h ih hS hT d
    obtain ⟨h1, h2⟩ := List.pairwise_cons.mp hT
    rw [jT h]
    split
    · refine List.pairwise_cons.mpr ⟨fun u hu => ?_, ih hS h2 _⟩
      rcases jn_mem _ _ _ _ hu with h3 | h3
      · exact cnd_all2 hS h u h3
      · exact h1 u h3
    · exact ih hS h2 _
  · intro a b S T h h2 ih hS hT d
    obtain ⟨h3, h4⟩ := List.pairwise_cons.mp hS
    obtain ⟨h5, h6⟩ := List.pairwise_cons.mp hT
    have hab := pcm_zero.mp h
    rw [jE h h2]
    refine List.pairwise_cons.mpr ⟨fun u hu => ?_, ih h4 h6 _⟩
    rcases jn_mem _ _ _ _ hu with h7 | h7
    · exact h3 u h7
    · rw [hab]; exact h5 u h7
  · intro a b S T h h2 ih hS hT d
    obtain ⟨h3, h4⟩ := List.pairwise_cons.mp hS
    obtain ⟨h5, h6⟩ := List.pairwise_cons.mp hT
    have hab := pcm_zero.mp h
    rw [jC h h2]
    split
    · refine List.pairwise_cons.mpr ⟨fun u hu => ?_, ih h4 h6 _⟩
      rcases jn_mem _ _ _ _ hu with h7 | h7
      · rw [← hab]; exact h3 u h7
      · exact h5 u h7
    · refine List.pairwise_cons.mpr ⟨fun u hu => ?_, ih h4 h6 _⟩
      rcases jn_mem _ _ _ _ hu with h7 | h7
      · exact h3 u h7
      · rw [hab]; exact h5 u h7
abbrev fd9 (P : List Nat) (L : List En) : Prop := insI P L < L.length ∧ (L.getD (insI P L) e0).1 = P
theorem insI_c {P : List Nat} {b : En} {L : List En} (h : pcm b.1 P < 0) : insI P (b :: L) = insI P L + 1 := by rw [insI, if_pos h]
theorem insI_0 {P : List Nat} {b : En} {L : List En} (h : ¬ pcm b.1 P < 0) : insI P (b :: L) = 0 := by rw [insI, if_neg h]
theorem fd9_c {P : List Nat} {b : En} {L : List En} (h : pcm b.1 P < 0) : fd9 P (b :: L) ↔ fd9 P L := by
  unfold fd9
  rw [insI_c h, List.length_cons, List.getD_cons_succ]
  constructor
  · rintro ⟨h1, h2⟩; exact ⟨by omega, h2⟩
  · rintro ⟨h1, h2⟩; exact ⟨by omega, h2⟩
theorem putL_c {b v : En} {L : List En} (h : pcm b.1 v.1 < 0) : putL (b :: L) v = b :: putL L v := by
  unfold putL
  by_cases h1 : fd9 v.1 L
  · rw [if_pos ((fd9_c h).mpr h1), if_pos h1, insI_c h, List.set_cons_succ]
  · rw [if_neg (fun q => h1 ((fd9_c h).mp q)), if_neg h1, insI_c h]
    rfl
theorem drpL_c {α : Type} {b : α} {L : List α} {k n : Nat} : drpL (b :: L) (k + 1) n = b :: drpL L k n := by
  unfold drpL
  rw [List.take_succ_cons, show k + 1 + n = (k + n) + 1 by omega, List.drop_succ_cons]
  rfl
abbrev aft (b : En) (x : Option En) : Prop := ∀ u, x = some u → pcm b.1 u.1 < 0
theorem exL_c {b : En} {L : List En} {x y : Option En} (hx : aft b x) (hy : aft b y) : exL (b :: L) x y = b :: exL L x y := by
  unfold exL
  cases y with
  | some v => exact putL_c (hy v rfl)
  | none =>
    cases x with
    | some u =>
      show drpL (b :: L) (insI u.1 (b :: L)) 1 = _
      rw [insI_c (hx u rfl), drpL_c]
    | none => rfl
/-- a change can be done, within bounds -/
def exQ (K B : Nat) (L : List En) (x y : Option En) : Prop := match y with
  | some v => v.1.length ≤ 150 ∧ (¬ fd9 v.1 L → L.length < K) ∧ csum L + (ct v).length ≤ B
  | none => ∃ u, x = some u ∧ fd9 u.1 L
theorem exQ_ok {K B : Nat} {L : List En} {x y : Option En} (h : exQ K B L x y) (hK : K ≤ 120) (hB : B ≤ 8000) : exOK L x y := by
  cases y with
  | some v => exact ⟨h.1, fun q => Nat.lt_of_lt_of_le (h.2.1 q) hK, Nat.le_trans h.2.2 hB⟩
  | none => exact h
theorem exQ_mono {K B K' B' : Nat} {L : List En} {x y : Option En} (h : exQ K B L x y) (hK : K ≤ K') (hB : B ≤ B') : exQ K' B' L x y := by
  cases y with
  | some v => exact ⟨h.1, fun q => Nat.lt_of_lt_of_le (h.2.1 q) hK, Nat.le_trans h.2.2 hB⟩
  | none => exact h
theorem csum_cons (b : En) (L : List En) : csum (b :: L) = (ct b).length + csum L := by
  rfl
theorem exQ_c {K B : Nat} {b : En} {L : List En} {x y : Option En} (hx : aft b x) (hy : aft b y) (h : exQ K B L x y) : exQ (K + 1) (B + (ct b).length) (b :: L) x y := by
  cases y with
  | some v => exact ⟨h.1, fun q => by rw [List.length_cons]; exact Nat.succ_lt_succ (h.2.1 (fun q2 => q ((fd9_c (hy v rfl)).mpr q2))), by rw [csum_cons]; have := h.2.2; omega⟩
  | none =>
    obtain ⟨u, h1, h2⟩ := h
    exact ⟨u, h1, (fd9_c (hx u h1)).mpr h2⟩
theorem chg_mem (S T : List En) : ∀ c ∈ chg S T, (∀ u, c.1 = some u → u ∈ S) ∧ ∀ v, c.2 = some v → v ∈ T := by
  refine jn_ind (P := fun S T => ∀ c ∈ chg S T, (∀ u, c.1 = some u → u ∈ S) ∧ ∀ v, c.2 = some v → v ∈ T) ?_ ?_ ?_ ?_ ?_ S T
  · intro c h; rw [chg] at h; cases h
  · intro a S T h ih c hc
    rw [cS9 h] at hc
    rcases List.mem_cons.mp hc with rfl | hc
    · exact ⟨fun u hu => by cases hu; exact List.mem_cons_self, fun v hv => by cases hv⟩
    · exact ⟨fun u hu => List.mem_cons_of_mem _ ((ih c hc).1 u hu), (ih c hc).2⟩
  · intro b S T h ih c hc
    rw [cT9 h] at hc
    rcases List.mem_cons.mp hc with rfl | hc
    · exact ⟨fun u hu => (by cases hu), fun v hv => (by cases hv; exact List.mem_cons_self)⟩
    · exact ⟨(ih c hc).1, fun v hv => List.mem_cons_of_mem _ ((ih c hc).2 v hv)⟩
  · intro a b S T h h2 ih c hc
    rw [cE9 h h2] at hc
    exact ⟨fun u hu => List.mem_cons_of_mem _ ((ih c hc).1 u hu), fun v hv => List.mem_cons_of_mem _ ((ih c hc).2 v hv)⟩
  · intro a b S T h h2 ih c hc
    rw [cC9 h h2] at hc
    rcases List.mem_cons.mp hc with rfl | hc
    · exact ⟨fun u hu => by cases hu; exact List.mem_cons_self, fun v hv => by cases hv; exact List.mem_cons_self⟩
    · exact ⟨fun u hu => List.mem_cons_of_mem _ ((ih c hc).1 u hu), fun v hv => List.mem_cons_of_mem _ ((ih c hc).2 v hv)⟩
theorem fd9_0 {b : En} {L : List En} {P : List Nat} (h : b.1 = P) : fd9 P (b :: L) := by
  unfold fd9
  rw [insI_0 (by rw [h, pcm_refl]; omega)]
  exact ⟨Nat.zero_lt_succ _, h⟩
theorem putL_0 {b v : En} {L : List En} (h : b.1 = v.1) : putL (b :: L) v = v :: L := by
  unfold putL
  rw [if_pos (fd9_0 h), insI_0 (by rw [h, pcm_refl]; omega)]
  rfl
theorem drpL_0 {a : En} {L : List En} : drpL (a :: L) (insI a.1 (a :: L)) 1 = L := by
  rw [insI_0 (by rw [pcm_refl]; omega)]
  rfl
theorem ins_at0 {v : En} {L : List En} (h : ∀ u ∈ L, pcm v.1 u.1 < 0) : insI v.1 L = 0 := by
  cases L with
  | nil => rfl
  | cons u L =>
    refine insI_0 (fun q => ?_)
    have := pcm_trans q (h u List.mem_cons_self)
    rw [pcm_refl] at this
    omega
theorem nfd9 {v : En} {L : List En} (h : ∀ u ∈ L, pcm v.1 u.1 < 0) : ¬ fd9 v.1 L := by
  unfold fd9
  rw [ins_at0 h]
  rintro ⟨h1, h2⟩
  have := h _ (gd_mem (d := e0) h1)
  rw [h2, pcm_refl] at this
  omega
theorem putL_f {v : En} {L : List En} (h : ∀ u ∈ L, pcm v.1 u.1 < 0) : putL L v = v :: L := by
  unfold putL
  rw [if_neg (nfd9 h), ins_at0 h]
  rfl
theorem aft_mem {b : En} {S T : List En} {d : Nat} (hd : d < (chg S T).length) (hS : ∀ u ∈ S, pcm b.1 u.1 < 0) (hT : ∀ u ∈ T, pcm b.1 u.1 < 0) : aft b ((chg S T).getD d c0).1 ∧ aft b ((chg S T).getD d c0).2 := by
  have h := chg_mem S T _ (gd_mem (d := c0) hd)
  exact ⟨fun u hu => hS u (h.1 u hu), fun v hv => hT v (h.2 v hv)⟩
/-- each change done, and taken back -/
theorem jn_step (S T : List En) : sP S → sP T → (∀ u ∈ S, u.1.length ≤ 150) → (∀ u ∈ T, u.1.length ≤ 150) → ∀ d, d < (chg S T).length →
    exQ (S.length + T.length) (csum S + csum T) (jn S T d).2 ((chg S T).getD d c0).1 ((chg S T).getD d c0).2 ∧ exL (jn S T d).2 ((chg S T).getD d c0).1 ((chg S T).getD d c0).2 = (jn S T (d + 1)).2 ∧
    exQ (S.length + T.length) (csum S + csum T) (jn S T (d + 1)).2 ((chg S T).getD d c0).2 ((chg S T).getD d c0).1 ∧ exL (jn S T (d + 1)).2 ((chg S T).getD d c0).2 ((chg S T).getD d c0).1 = (jn S T d).2 := by
  refine jn_ind (P := fun S T => sP S → sP T → (∀ u ∈ S, u.1.length ≤ 150) → (∀ u ∈ T, u.1.length ≤ 150) → ∀ d, d < (chg S T).length →
    exQ (S.length + T.length) (csum S + csum T) (jn S T d).2 ((chg S T).getD d c0).1 ((chg S T).getD d c0).2 ∧ exL (jn S T d).2 ((chg S T).getD d c0).1 ((chg S T).getD d c0).2 = (jn S T (d + 1)).2 ∧
    exQ (S.length + T.length) (csum S + csum T) (jn S T (d + 1)).2 ((chg S T).getD d c0).2 ((chg S T).getD d c0).1 ∧ exL (jn S T (d + 1)).2 ((chg S T).getD d c0).2 ((chg S T).getD d c0).1 = (jn S T d).2) ?_ ?_ ?_ ?_ ?_ S T
  · intro _ _ _ _ d hd; rw [chg] at hd; exact absurd hd (Nat.not_lt_zero _)
  · intro a S T h ih hS hT pS pT d hd
    obtain ⟨h1, h2⟩ := List.pairwise_cons.mp hS
    rw [cS9 h] at hd ⊢
    rw [jS h, jS h]
    cases d with
    | zero =>
      simp only [List.getD_cons_zero, Nat.lt_irrefl, if_false, Nat.zero_add, Nat.zero_sub, Nat.sub_self, jn_zero, if_pos Nat.zero_lt_one, List.nil_append]
      exact ⟨⟨a, rfl, fd9_0 rfl⟩, drpL_0, ⟨pS a List.mem_cons_self, fun _ => by rw [List.length_cons]; omega, by rw [csum_cons]; omega⟩, putL_f h1⟩
    | succ d =>
      simp only [List.getD_cons_succ, Nat.add_sub_cancel, if_pos (Nat.succ_pos _), List.nil_append]
      rw [List.length_cons] at hd
      obtain ⟨g1, g2, g3, g4⟩ := ih h2 hT (fun u hu => pS u (List.mem_cons_of_mem _ hu)) pT d (by omega)
      exact ⟨exQ_mono g1 (by rw [List.length_cons]; omega) (by rw [csum_cons]; omega), g2, exQ_mono g3 (by rw [List.length_cons]; omega) (by rw [csum_cons]; omega), g4⟩
  · intro b S T h ih hS hT pS pT d hd
    obtain ⟨h1, h2⟩ := List.pairwise_cons.mp hT
    have hb := cnd_all2 hS h
    rw [cT9 h] at hd ⊢
    rw [jT h, jT h]
    cases d with
    | zero =>
      simp only [List.getD_cons_zero, Nat.lt_irrefl, if_false, Nat.zero_add, Nat.zero_sub, Nat.sub_self, jn_zero, if_pos Nat.zero_lt_one, List.nil_append]
      exact ⟨⟨pT b List.mem_cons_self, fun _ => by rw [List.length_cons]; omega, by rw [csum_cons]; omega⟩, putL_f hb, ⟨b, rfl, fd9_0 rfl⟩, drpL_0⟩
    | succ d =>
      simp only [List.getD_cons_succ, Nat.add_sub_cancel, if_pos (Nat.succ_pos _)]
      rw [List.length_cons] at hd
      obtain ⟨a1, a2⟩ := aft_mem (b := b) (S := S) (T := T) (d := d) (by omega) hb h1
      obtain ⟨g1, g2, g3, g4⟩ := ih hS h2 pS (fun u hu => pT u (List.mem_cons_of_mem _ hu)) d (by omega)
      exact ⟨exQ_mono (exQ_c a1 a2 g1) (by rw [List.length_cons]; omega) (by rw [csum_cons]; omega), (exL_c a1 a2).trans (congrArg (List.cons b) g2), exQ_mono (exQ_c a2 a1 g3) (by rw [List.length_cons]; omega) (by rw [csum_cons]; omega), (exL_c a2 a1).trans (congrArg (List.cons b) g4)⟩
  · intro a b S T h h2 ih hS hT pS pT d hd
    obtain ⟨h3, h4⟩ := List.pairwise_cons.mp hS
    obtain ⟨h5, h6⟩ := List.pairwise_cons.mp hT
    have hab := pcm_zero.mp h
    rw [cE9 h h2] at hd ⊢
    rw [jE h h2, jE h h2]
    obtain ⟨a1, a2⟩ := aft_mem (b := a) (S := S) (T := T) (d := d) hd h3 (by rw [hab]; exact h5)
    obtain ⟨g1, g2, g3, g4⟩ := ih h4 h6 (fun u hu => pS u (List.mem_cons_of_mem _ hu)) (fun u hu => pT u (List.mem_cons_of_mem _ hu)) d hd
    exact ⟨exQ_mono (exQ_c a1 a2 g1) (by rw [List.length_cons, List.length_cons]; omega) (by rw [csum_cons, csum_cons]; omega), (exL_c a1 a2).trans (congrArg (List.cons a) g2), exQ_mono (exQ_c a2 a1 g3) (by rw [List.length_cons, List.length_cons]; omega) (by rw [csum_cons, csum_cons]; omega), (exL_c a2 a1).trans (congrArg (List.cons a) g4)⟩
  · intro a b S T h h2 ih hS hT pS pT d hd
    obtain ⟨h3, h4⟩ := List.pairwise_cons.mp hS
    obtain ⟨h5, h6⟩ := List.pairwise_cons.mp hT
    have hab := pcm_zero.mp h
    rw [cC9 h h2] at hd ⊢
    rw [jC h h2, jC h h2]
    cases d with
    | zero =>
      simp only [List.getD_cons_zero, Nat.lt_irrefl, if_false, Nat.zero_add, Nat.zero_sub, Nat.sub_self, jn_zero, if_pos Nat.zero_lt_one]
      exact ⟨⟨pT b List.mem_cons_self, fun q => absurd (fd9_0 hab) q, by show csum (a :: S) + _ ≤ _; rw [csum_cons b T]; omega⟩, putL_0 hab, ⟨pS a List.mem_cons_self, fun q => absurd (fd9_0 hab.symm) q, by show csum (b :: S) + _ ≤ _; rw [csum_cons, csum_cons, csum_cons]; omega⟩, putL_0 hab.symm⟩
    | succ d =>
      simp only [List.getD_cons_succ, Nat.add_sub_cancel, if_pos (Nat.succ_pos _)]
      rw [List.length_cons] at hd
      obtain ⟨a1, a2⟩ := aft_mem (b := b) (S := S) (T := T) (d := d) (by omega) (by rw [← hab]; exact h3) h5
      obtain ⟨g1, g2, g3, g4⟩ := ih h4 h6 (fun u hu => pS u (List.mem_cons_of_mem _ hu)) (fun u hu => pT u (List.mem_cons_of_mem _ hu)) d (by omega)
      exact ⟨exQ_mono (exQ_c a1 a2 g1) (by rw [List.length_cons, List.length_cons]; omega) (by rw [csum_cons, csum_cons]; omega), (exL_c a1 a2).trans (congrArg (List.cons b) g2), exQ_mono (exQ_c a2 a1 g3) (by rw [List.length_cons, List.length_cons]; omega) (by rw [csum_cons, csum_cons]; omega), (exL_c a2 a1).trans (congrArg (List.cons b) g4)⟩
/-- the mirror when so many operations of a session are done -/
def mir (S T : List En) (d : Nat) : List En := (jn S T (upds d (chg S T).length)).2
theorem upds_e {d n : Nat} (h1 : 2 ≤ d) (h2 : d ≤ 2 * n) (h3 : d % 2 = 0) : upds d n = d / 2 - 1 ∧ upds (d + 1) n = (d / 2 - 1) + 1 ∧ d / 2 - 1 < n := by
  refine ⟨?_, ?_, by omega⟩
  · unfold upds
    rw [if_neg (by omega)]
    split <;> omega
  · unfold upds
    rw [if_neg (by omega)]
    split <;> omega
theorem upds_o {d n : Nat} (h : ¬ (2 ≤ d ∧ d ≤ 2 * n ∧ d % 2 = 0)) : upds (d + 1) n = upds d n := by
  unfold upds
  split <;> split <;> (try split) <;> (try split) <;> omega
theorem mir_do {S T : List En} (hS : sP S) (hT : sP T) (pS : ∀ u ∈ S, u.1.length ≤ 150) (pT : ∀ u ∈ T, u.1.length ≤ 150) (hl : S.length + T.length ≤ 120) (hc : csum S + csum T ≤ 8000) (d : Nat) :
    srt (mir S T d) ∧ doL (chg S T) d (mir S T d) = mir S T (d + 1) ∧ (2 ≤ d ∧ d ≤ 2 * (chg S T).length ∧ d % 2 = 0 → exOK (mir S T d) ((chg S T).getD (d / 2 - 1) c0).1 ((chg S T).getD (d / 2 - 1) c0).2) := by
  refine ⟨srt_P.mpr (jn_sP S T hS hT _), ?_, ?_⟩
  · unfold doL mir
    by_cases h : 2 ≤ d ∧ d ≤ 2 * (chg S T).length ∧ d % 2 = 0
    · obtain ⟨u1, u2, u3⟩ := upds_e h.1 h.2.1 h.2.2
      rw [if_pos h, u1, u2]
      exact (jn_step S T hS hT pS pT _ u3).2.1
    · rw [if_neg h, upds_o h]
  · intro h
    obtain ⟨u1, u2, u3⟩ := upds_e h.1 h.2.1 h.2.2
    unfold mir
    rw [u1]
    exact exQ_ok (jn_step S T hS hT pS pT _ u3).1 hl hc
theorem mir_back {S T : List En} (hS : sP S) (hT : sP T) (pS : ∀ u ∈ S, u.1.length ≤ 150) (pT : ∀ u ∈ T, u.1.length ≤ 150) (hl : S.length + T.length ≤ 120) (hc : csum S + csum T ≤ 8000) (d : Nat) :
    bkL (chg S T) d (mir S T (d + 1)) = mir S T d ∧ (2 ≤ d ∧ d ≤ 2 * (chg S T).length ∧ d % 2 = 0 → exOK (mir S T (d + 1)) ((chg S T).getD (d / 2 - 1) c0).2 ((chg S T).getD (d / 2 - 1) c0).1) := by
  refine ⟨?_, ?_⟩
  · unfold bkL mir
    by_cases h : 2 ≤ d ∧ d ≤ 2 * (chg S T).length ∧ d % 2 = 0
    · obtain ⟨u1, u2, u3⟩ := upds_e h.1 h.2.1 h.2.2
      rw [if_pos h, u1, u2]
      exact (jn_step S T hS hT pS pT _ u3).2.2.2
    · rw [if_neg h, upds_o h]
  · intro h
    obtain ⟨u1, u2, u3⟩ := upds_e h.1 h.2.1 h.2.2
    unfold mir
    rw [u2]
    exact exQ_ok (jn_step S T hS hT pS pT _ u3).2.2.1 hl hc
theorem mir_end {S T : List En} {d : Nat} (h : 2 * (chg S T).length < d) : mir S T d = T := by
  unfold mir
  refine jn_all S T _ ?_
  unfold upds
  rw [if_neg (by omega)]
  split <;> omega
theorem mir_0 {S T : List En} : mir S T 0 = S := by
  unfold mir upds
  rw [if_pos (by omega)]
  exact jn_zero S T
