/-! The tape, the rows of changes. -/
def rdW (g : Nat → Int32) : List Nat := feedL (g 0) (g 1) (g 2) (g 3) (g 4)
theorem rdW_len (g : Nat → Int32) : (rdW g).length = 20 := rfl
theorem rdW_get (g : Nat → Int32) : ∀ {i : Nat}, i < 20 → (rdW g).getD i 0 = bt (g (i / 4)) (i % 4)
  | 0, _ => rfl | 1, _ => rfl | 2, _ => rfl | 3, _ => rfl | 4, _ => rfl | 5, _ => rfl | 6, _ => rfl | 7, _ => rfl | 8, _ => rfl | 9, _ => rfl
  | 10, _ => rfl | 11, _ => rfl | 12, _ => rfl | 13, _ => rfl | 14, _ => rfl | 15, _ => rfl | 16, _ => rfl | 17, _ => rfl | 18, _ => rfl | 19, _ => rfl
  | n + 20, h => absurd h (by omega)
theorem rdW_mem (g : Nat → Int32) : ∀ b ∈ rdW g, b < 256 := by
  intro b hb
  obtain ⟨i, hi⟩ := List.getElem?_of_mem hb
  have h1 : i < 20 := by
    have := (List.getElem?_eq_some_iff.mp hi).1
    exact this
  have h2 := rdW_get g h1
  rw [List.getD_eq_getElem?_getD, hi] at h2
  have h3 : b = bt (g (i / 4)) (i % 4) := h2
  rw [h3]; exact bt_lt _ _
def tpR (fb : Nat → Int32) (T : List Nat) : Prop := ∃ B : List Nat, B.length = 400 ∧ enb fb B ∧ (∀ b ∈ B, b < 256) ∧ T.length ≤ 400 ∧ B.take T.length = T
theorem tpR_app {fb f2 : Nat → Int32} {T : List Nat} {g : Nat → Int32} {n : Nat} (h : tpR fb T) (hn : n ≤ 20) (hs : T.length + n ≤ 400) (h1 : ∀ k, k < n → f2 (T.length + k) = sb_b (bt (g (k / 4)) (k % 4))) (h2 : ∀ k, k < T.length ∨ T.length + n ≤ k → f2 k = fb k) : tpR f2 (T ++ (rdW g).take n) := by
  obtain ⟨B, hB, he, hb, hl, ht⟩ := h
  have hrl : ((rdW g).take n).length = n := by rw [List.length_take, rdW_len]; omega
  have hol : (ovl B T.length ((rdW g).take n)).length = 400 := by rw [ovl_len (by omega), hrl, hB]; split <;> omega
  refine ⟨ovl B T.length ((rdW g).take n), hol, fun k hk => ?_, ovl_mem hb (fun b hb => rdW_mem g b (List.mem_of_mem_take hb)), by rw [List.length_append, hrl]; exact hs, ?_⟩
  · rw [ovl_get (by omega) hk, hrl]
    by_cases e1 : T.length ≤ k ∧ k < T.length + n
    · rw [if_pos e1, gd_take (by omega), rdW_get g (by omega), ← h1 _ (by omega)]
      congr 1; omega
    · rw [if_neg e1, h2 k (by omega)]
      exact he k (by omega)
  · unfold ovl
    rw [List.length_append, ht, hrl, List.take_append_of_le_length (by rw [List.length_append, hrl]; exact Nat.le_refl _), List.take_of_length_le (by rw [List.length_append, hrl]; exact Nat.le_refl _)]
theorem tpR_arr {fb : Nat → Int32} {T : List Nat} {cB : ClassId} {by1 : Nat} {pl : va_W} (h : tpR fb T) : ∃ B : List Nat, bArr ([(by1, .inl (cB, 400, .inl fb))] ++ pl) cB by1 B ∧ B.length = 400 ∧ cpyL B T.length = T := by
  obtain ⟨B, hB, he, hb, hl, ht⟩ := h
  exact ⟨B, ⟨fb, by rw [hB]; exact List.mem_append_left _ List.mem_cons_self, he, hb, by omega⟩, hB, by rw [cpyL_take (by omega)]; exact ht⟩
theorem tpR_lt {fb : Nat → Int32} {T : List Nat} (h : tpR fb T) : T.length ≤ 400 := by
  obtain ⟨B, -, -, -, hl, -⟩ := h
  exact hl
theorem tpR_mem {fb : Nat → Int32} {T : List Nat} (h : tpR fb T) : ∀ b ∈ T, b < 256 := by
  obtain ⟨B, hB, he, hb, hl, ht⟩ := h
  intro b hb2
  rw [← ht] at hb2
  exact hb b (List.mem_of_mem_take hb2)
theorem tpR_nil {fb : Nat → Int32} {T : List Nat} (h : tpR fb T) : tpR fb [] := by
  obtain ⟨B, hB, he, hb, hl, ht⟩ := h
  exact ⟨B, hB, he, hb, by simp, by simp⟩
theorem tpR_new : tpR (fun _ => 0) [] := ⟨List.replicate 400 0, by rw [List.length_replicate], fun k hk => by
    rw [List.length_replicate] at hk
    rw [show (List.replicate 400 0).getD k 0 = 0 by rw [List.getD_eq_getElem?_getD, List.getElem?_replicate, if_pos hk]; rfl, sb_0], fun b hb => by rw [(List.mem_replicate.mp hb).2]; decide, by simp, by simp⟩
/-- the rows of changes -/
abbrev Cg : Type := Option En × Option En
def c0 : Cg := (none, none)
def cRows (w : va_W) (cB : ClassId) (f1 f2 : Nat → Option Nat) (C : List Cg) : Prop := C.length ≤ 180 ∧ ∀ i, i < C.length → oEnt w cB (f1 i) (C.getD i c0).1 ∧ oEnt w cB (f2 i) (C.getD i c0).2
theorem oEnt.mono {w w' : va_W} {cB : ClassId} {o : Option Nat} {x : Option En} (h : oEnt w cB o x) (hs : ∀ q, q ∈ w → q ∈ w') : oEnt w' cB o x := by
  rcases h with h | ⟨u, a, h1, h2, h3⟩
  · exact Or.inl h
  · exact Or.inr ⟨u, a, h1, h2, h3.mono hs⟩
theorem cRows.mono {w w' : va_W} {cB : ClassId} {f1 f2 : Nat → Option Nat} {C : List Cg} (h : cRows w cB f1 f2 C) (hs : ∀ q, q ∈ w → q ∈ w') : cRows w' cB f1 f2 C := ⟨h.1, fun i hi => ⟨(h.2 i hi).1.mono hs, (h.2 i hi).2.mono hs⟩⟩
theorem cRows_nil {w : va_W} {cB : ClassId} {f1 f2 : Nat → Option Nat} : cRows w cB f1 f2 [] := ⟨by simp, fun i hi => absurd hi (Nat.not_lt_zero _)⟩
theorem cRows_app {w : va_W} {cB : ClassId} {f1 f2 : Nat → Option Nat} {C : List Cg} {o1 o2 : Option Nat} {x y : Option En} (h : cRows w cB f1 f2 C) (hl : C.length < 180) (h1 : oEnt w cB o1 x) (h2 : oEnt w cB o2 y) : cRows w cB (va_up f1 C.length o1) (va_up f2 C.length o2) (C ++ [(x, y)]) := by
  refine ⟨by rw [List.length_append]; simp only [List.length_cons, List.length_nil]; omega, fun i hi => ?_⟩
  rw [List.length_append] at hi
  simp only [List.length_cons, List.length_nil] at hi
  by_cases e1 : i = C.length
  · rw [e1, gd_last, va_up_self, va_up_self]; exact ⟨h1, h2⟩
  · rw [gd_left (by omega), va_up_ne _ _ e1, va_up_ne _ _ e1]; exact h.2 i (by omega)
theorem cRows.rep {X pl : va_W} {cB cE : ClassId} {ch b1 b2 : Nat} {f1 f2 : Nat → Option Nat} {C : List Cg} (h : cRows pl cB f1 f2 C) (h1 : (ch, .inr (0, [.ref b1, .ref b2, .int (nI C.length)])) ∈ X ++ pl) (h2 : (b1, .inl (cE, 180, rfs f1)) ∈ X ++ pl) (h3 : (b2, .inl (cE, 180, rfs f2)) ∈ X ++ pl) : cRep (X ++ pl) cB cE ch b1 b2 f1 f2 C := ⟨h1, h2, h3, h.1, fun i hi => ⟨(h.2 i hi).1.mono xpm, (h.2 i hi).2.mono xpm⟩⟩
/-- what leads from one tree to the other -/
def chg : List En → List En → List Cg
  | [], [] => []
  | [], v :: T => (none, some v) :: chg [] T
  | u :: S, [] => (some u, none) :: chg S []
  | u :: S, v :: T => if pcm u.1 v.1 < 0 then (some u, none) :: chg S (v :: T) else if 0 < pcm u.1 v.1 then (none, some v) :: chg (u :: S) T else if u.2 = v.2 then chg S T else (some u, some v) :: chg S T
termination_by S T => S.length + T.length
theorem chg_end {S T : List En} {i j : Nat} (h1 : S.length ≤ i) (h2 : T.length ≤ j) : chg (S.drop i) (T.drop j) = [] := by
  rw [List.drop_eq_nil_of_le h1, List.drop_eq_nil_of_le h2, chg]
theorem chg_S {S T : List En} {i j : Nat} (h1 : i < S.length) (h2 : T.length ≤ j ∨ (j < T.length ∧ pcm (S.getD i e0).1 (T.getD j e0).1 < 0)) : chg (S.drop i) (T.drop j) = (some (S.getD i e0), none) :: chg (S.drop (i + 1)) (T.drop j) := by
  rw [dr_cons (d := e0) h1]
  rcases h2 with h2 | ⟨h2, h3⟩
  · rw [List.drop_eq_nil_of_le h2, chg]
  · rw [dr_cons (d := e0) h2, chg, if_pos h3]
theorem chg_T {S T : List En} {i j : Nat} (h1 : j < T.length) (h2 : S.length ≤ i ∨ (i < S.length ∧ 0 < pcm (S.getD i e0).1 (T.getD j e0).1)) : chg (S.drop i) (T.drop j) = (none, some (T.getD j e0)) :: chg (S.drop i) (T.drop (j + 1)) := by
  rw [dr_cons (d := e0) h1]
  rcases h2 with h2 | ⟨h2, h3⟩
  · rw [List.drop_eq_nil_of_le h2, chg]
  · rw [dr_cons (d := e0) h2, chg, if_neg (by omega), if_pos h3]
theorem chg_E {S T : List En} {i j : Nat} (h1 : i < S.length) (h2 : j < T.length) (h3 : pcm (S.getD i e0).1 (T.getD j e0).1 = 0) (h4 : (S.getD i e0).2 = (T.getD j e0).2) : chg (S.drop i) (T.drop j) = chg (S.drop (i + 1)) (T.drop (j + 1)) := by
  rw [dr_cons (d := e0) h1, dr_cons (d := e0) h2, chg, if_neg (by omega), if_neg (by omega), if_pos h4]
theorem chg_C {S T : List En} {i j : Nat} (h1 : i < S.length) (h2 : j < T.length) (h3 : pcm (S.getD i e0).1 (T.getD j e0).1 = 0) (h4 : ¬ (S.getD i e0).2 = (T.getD j e0).2) : chg (S.drop i) (T.drop j) = (some (S.getD i e0), some (T.getD j e0)) :: chg (S.drop (i + 1)) (T.drop (j + 1)) := by
  rw [dr_cons (d := e0) h1, dr_cons (d := e0) h2, chg, if_neg (by omega), if_neg (by omega), if_neg h4]
theorem chg_app {C D : List Cg} {x : Cg} {E F : List Cg} (h : C ++ E = D) (h2 : E = x :: F) : (C ++ [x]) ++ F = D := by rw [List.append_assoc, ← h, h2]; rfl
/-- a change done to a tree -/
def exL (L : List En) (x y : Option En) : List En := match y with
  | some v => putL L v
  | none => match x with
    | some u => drpL L (insI u.1 L) 1
    | none => L
theorem fill_s {f g : Nat → Int32} {v : Int32} {k : Nat} (h : ∀ j, j < k → g j = v) : ∀ j, j < k + 1 → upd g k v j = v := by
  intro j hj
  by_cases e : j = k
  · rw [e, pk_us]
  · rw [pk_un e]; exact h j (by omega)
theorem sb_vnar_all : ∀ v : Fin 256, vp_nar .byte (sb_b v.val) = sb_b v.val := by decide +kernel
theorem sb_vnar {v : Nat} (h : v < 256) : vp_nar .byte (sb_b v) = sb_b v := sb_vnar_all ⟨v, h⟩
theorem rd_z {g : Nat → Int32} (h : ∀ j, j < 5 → g j = nI 0) : rdW g = List.replicate 20 0 := by
  unfold rdW
  rw [h 0 (by omega), h 1 (by omega), h 2 (by omega), h 3 (by omega), h 4 (by omega)]
  decide +kernel
theorem pe_row {pl : va_W} {cB : ClassId} {f : Nat → Option Nat} {L : List En} (hr : tRows pl cB f L) {k a : Nat} (h : f k = some a) (hk : k < L.length) : pEnt pl cB a (L.getD k e0) := by
  obtain ⟨b, h1, h2⟩ := hr.2.1 k hk
  cases h.symm.trans h1
  exact h2
/-- what must hold for a change to be done -/
def exOK (L : List En) (x y : Option En) : Prop := match y with
  | some v => v.1.length ≤ 150 ∧ (¬ (insI v.1 L < L.length ∧ (L.getD (insI v.1 L) e0).1 = v.1) → L.length < 120) ∧ csum L + (ct v).length ≤ 8000
  | none => ∃ u, x = some u ∧ insI u.1 L < L.length ∧ (L.getD (insI u.1 L) e0).1 = u.1
def doL (C : List Cg) (dn : Nat) (L : List En) : List En := if 2 ≤ dn ∧ dn ≤ 2 * C.length ∧ dn % 2 = 0 then exL L (C.getD (dn / 2 - 1) c0).1 (C.getD (dn / 2 - 1) c0).2 else L
def bkL (C : List Cg) (dn : Nat) (L : List En) : List En := if 2 ≤ dn ∧ dn ≤ 2 * C.length ∧ dn % 2 = 0 then exL L (C.getD (dn / 2 - 1) c0).2 (C.getD (dn / 2 - 1) c0).1 else L
abbrev Se : Type := Int32 × Nat × List En
def hRows (w : va_W) (cB cE : ClassId) (f : Nat → Option Nat) (S : List Se) : Prop := S.length ≤ 40 ∧ ∀ i, i < S.length → ∃ a, f i = some a ∧ sEnt w cB cE a (S.getD i s0)
theorem tRep.mono {w w' : va_W} {cB cE : ClassId} {t r : Nat} {f : Nat → Option Nat} {L : List En} (h : tRep w cB cE t r f L) (hs : ∀ q, q ∈ w → q ∈ w') : tRep w' cB cE t r f L := ⟨hs _ h.1, hs _ h.2.1, h.2.2.mono hs⟩
theorem sEnt.mono {w w' : va_W} {cB cE : ClassId} {a : Nat} {u : Se} (h : sEnt w cB cE a u) (hs : ∀ q, q ∈ w → q ∈ w') : sEnt w' cB cE a u := by
  obtain ⟨t, r, f, h1, h2⟩ := h
  exact ⟨t, r, f, hs _ h1, h2.mono hs⟩
theorem hRows.mono {w w' : va_W} {cB cE : ClassId} {f : Nat → Option Nat} {S : List Se} (h : hRows w cB cE f S) (hs : ∀ q, q ∈ w → q ∈ w') : hRows w' cB cE f S := ⟨h.1, fun i hi => by obtain ⟨a, h1, h2⟩ := h.2 i hi; exact ⟨a, h1, h2.mono hs⟩⟩
theorem hRows.rep {X pl : va_W} {cB cE cS : ClassId} {h r : Nat} {f : Nat → Option Nat} {S : List Se} (hh : hRows pl cB cE f S) (h1 : (h, .inr (2, [.ref r, .int (nI S.length)])) ∈ X ++ pl) (h2 : (r, .inl (cS, 40, rfs f)) ∈ X ++ pl) : hRep (X ++ pl) cB cE cS h r f S := ⟨h1, h2, hh.1, fun i hi => by obtain ⟨a, h3, h4⟩ := hh.2 i hi; exact ⟨a, h3, h4.mono xpm⟩⟩
theorem hRows_nil {w : va_W} {cB cE : ClassId} {f : Nat → Option Nat} : hRows w cB cE f [] := ⟨by simp, fun i hi => absurd hi (Nat.not_lt_zero _)⟩
theorem hRows_app {w : va_W} {cB cE : ClassId} {f : Nat → Option Nat} {S : List Se} {a : Nat} {u : Se} (h : hRows w cB cE f S) (hl : S.length < 40) (h1 : sEnt w cB cE a u) : hRows w cB cE (va_up f S.length (some a)) (S ++ [u]) := by
  refine ⟨by rw [List.length_append]; simp only [List.length_cons, List.length_nil]; omega, fun i hi => ?_⟩
  rw [List.length_append] at hi
  simp only [List.length_cons, List.length_nil] at hi
  by_cases e1 : i = S.length
  · rw [e1, gd_last, va_up_self]; exact ⟨a, rfl, h1⟩
  · rw [gd_left (by omega), va_up_ne _ _ e1]; exact h.2 i (by omega)
theorem hRows_drop {w : va_W} {cB cE : ClassId} {f g : Nat → Option Nat} {S : List Se} {k : Nat} (h : hRows w cB cE f S) (hg : ∀ j, j + k < S.length → g j = f (j + k)) : hRows w cB cE g (S.drop k) := by
  refine ⟨by rw [List.length_drop]; have := h.1; omega, fun i hi => ?_⟩
  rw [List.length_drop] at hi
  rw [hg i (by omega), show (S.drop k).getD i s0 = S.getD (i + k) s0 by simp only [List.getD_eq_getElem?_getD]; rw [List.getElem?_drop, Nat.add_comm]]
  exact h.2 (i + k) (by omega)
theorem ovl_enb {C T : List Nat} {a : Nat} {g g2 : Nat → Int32} {mx : Nat} (h : a ≤ C.length) (hmx : mx = if C.length < a + T.length then a + T.length else C.length) (hg : enb g (cpyL C mx)) (h1 : ∀ k, k < T.length → g2 (a + k) = sb_b (T.getD k 0)) (h2 : ∀ k, k < a ∨ a + T.length ≤ k → g2 k = g k) : (ovl C a T).length = mx ∧ enb g2 (ovl C a T) := by
  have hl : (ovl C a T).length = mx := by rw [ovl_len h, hmx]; split <;> split <;> omega
  refine ⟨hl, fun k hk => ?_⟩
  rw [ovl_get h hk]
  by_cases e1 : a ≤ k ∧ k < a + T.length
  · rw [if_pos e1, ← h1 _ (by omega)]
    congr 1; omega
  · have hc := ovl_cov h hk
    rw [if_neg e1, h2 k (by omega), hg k (by rw [cpyL_len]; omega), cpyL_get (by omega), if_pos (by omega)]
/-- is there a directory for it, by the class's find -/
def dirC (L : List En) (P : List Nat) : Bool := match lsl P P.length with
  | none => true
  | some k => decide (0 ≤ (fnd2 L (P.take k)).toInt ∧ (L.getD (fnd2 L (P.take k)).toInt.toNat e0).2.1 = 2)
theorem dirC_none {L : List En} {P : List Nat} (h : lsl P P.length = none) : dirC L P = true := by unfold dirC; rw [h]
theorem dirC_some {L : List En} {P : List Nat} {k : Nat} (h : lsl P P.length = some k) : dirC L P = decide (0 ≤ (fnd2 L (P.take k)).toInt ∧ (L.getD (fnd2 L (P.take k)).toInt.toNat e0).2.1 = 2) := by unfold dirC; rw [h]
theorem max_nI {a b : Nat} (ha : a < 2 ^ 31) (hb : b < 2 ^ 31) : (if nI a < nI b then nI b else nI a) = nI (if a < b then b else a) := by
  by_cases h : a < b
  · rw [if_pos h, if_pos ((nI_ltI ha hb).mpr h)]
  · rw [if_neg h, if_neg (fun q => h ((nI_ltI ha hb).mp q))]
theorem bArr.mem {w : va_W} {cB : ClassId} {a : Nat} {P : List Nat} (h : bArr w cB a P) : ∀ b ∈ P, b < 256 := by
  obtain ⟨f, -, -, h3, -⟩ := h
  exact h3
