def rkI (f : Nat → Int32) (fm n k : Nat) : Int32 := if n ≤ k then -1 else if f (fm + k) = nI 47 then nI 0 else f (fm + k) + nI 1
def rkd : List Nat → Int
  | [] => -1
  | a :: _ => rkn a
theorem dr_cons {α : Type} {L : List α} {d : α} {k : Nat} (h : k < L.length) : L.drop k = L.getD k d :: L.drop (k + 1) := by
  rw [List.drop_eq_getElem_cons h, List.getD_eq_getElem?_getD, List.getElem?_eq_getElem h]
  rfl
theorem rkI_toInt {f : Nat → Int32} {a k : Nat} {P : List Nat} (h : en f a P) (hb : ∀ b ∈ P, b < 256) : (rkI f a P.length k).toInt = rkd (P.drop k) := by
  unfold rkI
  by_cases hk : P.length ≤ k
  · rw [if_pos hk, List.drop_eq_nil_of_le hk]; rfl
  · have hk2 : k < P.length := by omega
    rw [if_neg hk, dr_cons (d := 0) hk2, h k hk2]
    have hv := hb _ (gd_mem (d := 0) hk2)
    generalize P.getD k 0 = v at hv ⊢
    show _ = rkn v
    unfold rkn
    by_cases h47 : v = 47
    · subst h47; rfl
    · rw [if_neg (fun q => h47 ((nI_eq (by omega) (by omega)).mp q)), if_neg h47, nI_add, nI_toInt (by omega)]
      omega
theorem rkn_inj {a b : Nat} (h : rkn a = rkn b) : a = b := by
  unfold rkn at h
  split at h <;> split at h <;> omega
theorem rkn_ge (a : Nat) : 0 ≤ rkn a := by
  unfold rkn
  split <;> omega
theorem pcm_head (A B : List Nat) (h : A = [] ∨ B = [] ∨ A.head? ≠ B.head?) : pcm A B = rkd A - rkd B := by
  cases A with
  | nil => cases B with
    | nil => rfl
    | cons b B => rfl
  | cons a A => cases B with
    | nil => show rkn a + 1 = rkn a - (-1); omega
    | cons b B =>
      have hne : a ≠ b := by
        rcases h with h | h | h
        · cases h
        · cases h
        · exact fun q => h (by rw [q]; rfl)
      simp [pcm, hne, rkd]
theorem pcm_drop {P Q : List Nat} {k : Nat} (h1 : k < P.length) (h2 : k < Q.length) (h : P.getD k 0 = Q.getD k 0) : pcm (P.drop k) (Q.drop k) = pcm (P.drop (k + 1)) (Q.drop (k + 1)) := by
  rw [dr_cons (d := 0) h1, dr_cons (d := 0) h2, h]
  simp [pcm]
theorem rkd_lo (A : List Nat) : -1 ≤ rkd A := by
  cases A with
  | nil => exact Int.le_refl _
  | cons a A => have := rkn_ge a; show -1 ≤ rkn a; omega
theorem rkd_hi {A : List Nat} (h : ∀ b ∈ A, b < 256) : rkd A ≤ 256 := by
  cases A with
  | nil => show (-1 : Int) ≤ 256; omega
  | cons a A =>
    have := h a List.mem_cons_self
    show rkn a ≤ 256
    unfold rkn
    split <;> omega
theorem i32_sub {x y : Int32} (h1 : -1000 ≤ x.toInt) (h2 : x.toInt ≤ 1000) (h3 : -1000 ≤ y.toInt) (h4 : y.toInt ≤ 1000) : (x - y).toInt = x.toInt - y.toInt := by
  rw [Int32.toInt_sub]
  simp only [Int.bmod]
  split <;> omega
theorem order_end {f g : Nat → Int32} {ao bo k : Nat} {P Q : List Nat} (hp : en f ao P) (hq : en g bo Q) (b1 : ∀ b ∈ P, b < 256) (b2 : ∀ b ∈ Q, b < 256) (hpc : pcm P Q = pcm (P.drop k) (Q.drop k)) (hx : P.length ≤ k ∨ Q.length ≤ k ∨ P.getD k 0 ≠ Q.getD k 0) : (rkI f ao P.length k - rkI g bo Q.length k).toInt = pcm P Q := by
  have e1 := rkI_toInt (k := k) hp b1
  have e2 := rkI_toInt (k := k) hq b2
  have l1 := rkd_lo (P.drop k)
  have l2 := rkd_lo (Q.drop k)
  have u1 := rkd_hi (A := P.drop k) (fun b hb => b1 b (List.mem_of_mem_drop hb))
  have u2 := rkd_hi (A := Q.drop k) (fun b hb => b2 b (List.mem_of_mem_drop hb))
  rw [i32_sub (by omega) (by omega) (by omega) (by omega), e1, e2, hpc, pcm_head]
  rcases hx with h | h | h
  · exact Or.inl (List.drop_eq_nil_of_le h)
  · exact Or.inr (Or.inl (List.drop_eq_nil_of_le h))
  · by_cases h1 : P.length ≤ k
    · exact Or.inl (List.drop_eq_nil_of_le h1)
    · by_cases h2 : Q.length ≤ k
      · exact Or.inr (Or.inl (List.drop_eq_nil_of_le h2))
      · refine Or.inr (Or.inr ?_)
        rw [dr_cons (L := P) (d := 0) (k := k) (by omega), dr_cons (L := Q) (d := 0) (k := k) (by omega)]
        intro q
        exact h (Option.some.inj q)
theorem pcm_zero {P Q : List Nat} : pcm P Q = 0 ↔ P = Q := by
  induction P generalizing Q with
  | nil => cases Q with
    | nil => simp [pcm]
    | cons b Q =>
      have := rkn_ge b
      simp only [pcm]
      constructor
      · intro h; omega
      · intro h; cases h
  | cons a P ih => cases Q with
    | nil =>
      have := rkn_ge a
      simp only [pcm]
      constructor
      · intro h; omega
      · intro h; cases h
    | cons b Q =>
      simp only [pcm]
      by_cases hab : a = b
      · subst hab
        rw [if_pos rfl, ih]
        simp
      · rw [if_neg hab]
        constructor
        · intro h; exact absurd (rkn_inj (by omega)) hab
        · intro h; cases h; exact absurd rfl hab
theorem same_iff {u v : En} : u.2 = v.2 ↔ (u.2.1 = v.2.1 ∧ u.2.2.1 = v.2.2.1 ∧ u.2.2.2.1 = v.2.2.2.1 ∧ (ct u).length = (ct v).length) ∧ ∀ j, j < (ct u).length → (ct u).getD j 0 = (ct v).getD j 0 := by
  obtain ⟨p1, k1, m1, t1, c1⟩ := u
  obtain ⟨p2, k2, m2, t2, c2⟩ := v
  simp only [Prod.mk.injEq, ct]
  constructor
  · rintro ⟨rfl, rfl, rfl, rfl⟩
    exact ⟨⟨rfl, rfl, rfl, rfl⟩, fun _ _ => rfl⟩
  · rintro ⟨⟨rfl, rfl, rfl, h⟩, h2⟩
    exact ⟨rfl, rfl, rfl, gd_ext 0 h h2⟩
/-- two trees laid into one another: how many changes there are, and what there is when the first d of them are done -/
def jn : List En → List En → Nat → Nat × List En
  | [], [], _ => (0, [])
  | a :: S, [], d => (1 + (jn S [] (d - 1)).1, (if 0 < d then [] else [a]) ++ (jn S [] (d - 1)).2)
  | [], b :: T, d => (1 + (jn [] T (d - 1)).1, (if 0 < d then [b] else []) ++ (jn [] T (d - 1)).2)
  | a :: S, b :: T, d =>
    if pcm a.1 b.1 < 0 then (1 + (jn S (b :: T) (d - 1)).1, (if 0 < d then [] else [a]) ++ (jn S (b :: T) (d - 1)).2)
    else if 0 < pcm a.1 b.1 then (1 + (jn (a :: S) T (d - 1)).1, (if 0 < d then [b] else []) ++ (jn (a :: S) T (d - 1)).2)
    else if a.2 = b.2 then ((jn S T d).1, [a] ++ (jn S T d).2)
    else (1 + (jn S T (d - 1)).1, (if 0 < d then [b] else [a]) ++ (jn S T (d - 1)).2)
termination_by S T _ => S.length + T.length
theorem jn_end {S T : List En} {i j d : Nat} (h1 : S.length ≤ i) (h2 : T.length ≤ j) : jn (S.drop i) (T.drop j) d = (0, []) := by
  rw [List.drop_eq_nil_of_le h1, List.drop_eq_nil_of_le h2, jn]
theorem jn_S {S T : List En} {i j d : Nat} (h1 : i < S.length) (h2 : T.length ≤ j ∨ (j < T.length ∧ pcm (S.getD i e0).1 (T.getD j e0).1 < 0)) : jn (S.drop i) (T.drop j) d = (1 + (jn (S.drop (i + 1)) (T.drop j) (d - 1)).1, (if 0 < d then [] else [S.getD i e0]) ++ (jn (S.drop (i + 1)) (T.drop j) (d - 1)).2) := by
  rw [dr_cons (d := e0) h1]
  rcases h2 with h2 | ⟨h2, h3⟩
  · rw [List.drop_eq_nil_of_le h2, jn]
  · rw [dr_cons (d := e0) h2, jn, if_pos h3]
theorem jn_T {S T : List En} {i j d : Nat} (h1 : j < T.length) (h2 : S.length ≤ i ∨ (i < S.length ∧ 0 < pcm (S.getD i e0).1 (T.getD j e0).1)) : jn (S.drop i) (T.drop j) d = (1 + (jn (S.drop i) (T.drop (j + 1)) (d - 1)).1, (if 0 < d then [T.getD j e0] else []) ++ (jn (S.drop i) (T.drop (j + 1)) (d - 1)).2) := by
  rw [dr_cons (d := e0) h1]
  rcases h2 with h2 | ⟨h2, h3⟩
  · rw [List.drop_eq_nil_of_le h2, jn]
  · rw [dr_cons (d := e0) h2, jn, if_neg (by omega), if_pos h3]
theorem jn_E {S T : List En} {i j d : Nat} (h1 : i < S.length) (h2 : j < T.length) (h3 : pcm (S.getD i e0).1 (T.getD j e0).1 = 0) (h4 : (S.getD i e0).2 = (T.getD j e0).2) : jn (S.drop i) (T.drop j) d = ((jn (S.drop (i + 1)) (T.drop (j + 1)) d).1, [S.getD i e0] ++ (jn (S.drop (i + 1)) (T.drop (j + 1)) d).2) := by
  rw [dr_cons (d := e0) h1, dr_cons (d := e0) h2, jn, if_neg (by omega), if_neg (by omega), if_pos h4]
theorem jn_C {S T : List En} {i j d : Nat} (h1 : i < S.length) (h2 : j < T.length) (h3 : pcm (S.getD i e0).1 (T.getD j e0).1 = 0) (h4 : ¬ (S.getD i e0).2 = (T.getD j e0).2) : jn (S.drop i) (T.drop j) d = (1 + (jn (S.drop (i + 1)) (T.drop (j + 1)) (d - 1)).1, (if 0 < d then [T.getD j e0] else [S.getD i e0]) ++ (jn (S.drop (i + 1)) (T.drop (j + 1)) (d - 1)).2) := by
  rw [dr_cons (d := e0) h1, dr_cons (d := e0) h2, jn, if_neg (by omega), if_neg (by omega), if_neg h4]
theorem isSame_end {u v : En} {k : Nat} {b : Bool} (hk : k ≤ (ct u).length) (h : b = true ↔ (u.2.1 = v.2.1 ∧ u.2.2.1 = v.2.2.1 ∧ u.2.2.2.1 = v.2.2.2.1 ∧ (ct u).length = (ct v).length) ∧ ∀ j, j < k → (ct u).getD j 0 = (ct v).getD j 0) (hx : (ct u).length ≤ k ∨ b = false) : b = decide (u.2 = v.2) := by
  by_cases hb : b = true
  · rw [hb]
    obtain ⟨h1, h2⟩ := h.mp hb
    have hl : (ct u).length ≤ k := by
      rcases hx with hx | hx
      · exact hx
      · rw [hb] at hx; cases hx
    exact (decide_eq_true (same_iff.mpr ⟨h1, fun j hj => h2 j (by omega)⟩)).symm
  · have hn : ¬ u.2 = v.2 := fun q => hb (h.mpr (by
      obtain ⟨h1, h2⟩ := same_iff.mp q
      exact ⟨h1, fun j hj => h2 j (by omega)⟩))
    rw [decide_eq_false hn]
    cases b with
    | false => rfl
    | true => exact absurd rfl hb
theorem csum_tk {L : List En} {i : Nat} (h : i < L.length) : csum (L.take (i + 1)) = csum (L.take i) + (ct (L.getD i e0)).length := by
  rw [tk_succ (d := e0) h, csum_app]
  simp [csum]
theorem csum_le (L : List En) (i : Nat) : csum (L.take i) ≤ csum L := by
  have h : csum (L.take i) + csum (L.drop i) = csum L := by rw [← csum_app, List.take_append_drop]
  omega
theorem csum_a1 (L : List En) (u : En) : csum (L ++ [u]) = csum L + (ct u).length := by
  rw [csum_app]; simp [csum]
