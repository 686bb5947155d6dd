/-! Trees as lists, and how the reference's arrays hold them. -/
theorem rMet.mono {l : Launch} {y : MethodName} {ws : List Cond} {rm : Room} {G : va_G} {tys : List (ClassId × FieldType)} {A : Nat → Prop} {As : List Value} {w : va_W} {post post' : Option Value → va_W → Prop} (h : rMet l y ws rm G tys A As w post) (hi : ∀ r w, post r w → post' r w) : rMet l y ws rm G tys A As w post' := by
  intro p e h1 h2 h3 s m args below h4 h5 h6 h7
  obtain ⟨n, o, a1, a2, a3, ⟨⟨⟨r, w1, b1, b2, b3⟩, b4⟩, b5⟩⟩ := h p e h1 h2 h3 s m args below h4 h5 h6 h7
  exact ⟨n, o, a1, a2, a3, ⟨⟨⟨r, w1, b1, hi _ _ b2, b3⟩, b4⟩, b5⟩⟩
theorem pMet.mono {l : Launch} {y : MethodName} {ws : List Cond} {rm : Room} {G : va_G} {tys : List (ClassId × FieldType)} {As : List Value} {w : va_W} {post post' : Value → Prop} (h : pMet l y ws rm G tys As w post) (hi : ∀ r, post r → post' r) : pMet l y ws rm G tys As w post' := by
  intro p e h1 h2 h3 s m args below h4 h5 h6 h7
  obtain ⟨n, o, a1, a2, a3, ⟨⟨r, b1, b2, b3⟩, b5⟩⟩ := h p e h1 h2 h3 s m args below h4 h5 h6 h7
  exact ⟨n, o, a1, a2, a3, ⟨⟨r, b1, hi _ b2, b3⟩, b5⟩⟩
/-- path, kind, mode, time, content -/
abbrev En : Type := List Nat × Int32 × Int32 × Int32 × List Nat
def e0 : En := ([], 0, 0, 0, [])
abbrev ct (u : En) : List Nat := u.2.2.2.2
def csum : List En → Nat
  | [] => 0
  | u :: L => (ct u).length + csum L
theorem csum_app (L M : List En) : csum (L ++ M) = csum L + csum M := by
  induction L with
  | nil => simp [csum]
  | cons u L ih => simp [csum, ih]; omega
theorem gd_left {α : Type} {L M : List α} {d : α} {i : Nat} (h : i < L.length) : (L ++ M).getD i d = L.getD i d := by
  simp [List.getD_eq_getElem?_getD, List.getElem?_append_left h]
theorem gd_last {α : Type} {L : List α} {d u : α} : (L ++ [u]).getD L.length d = u := by
  simp [List.getD_eq_getElem?_getD]
theorem gd_out {α : Type} {L : List α} {d : α} {i : Nat} (h : L.length ≤ i) : L.getD i d = d := by
  simp [List.getD_eq_getElem?_getD, h]
theorem gd_mem {α : Type} {L : List α} {d : α} {i : Nat} (h : i < L.length) : L.getD i d ∈ L := by
  rw [List.getD_eq_getElem?_getD, List.getElem?_eq_getElem h]
  exact List.getElem_mem h
theorem gd_ext {α : Type} {L M : List α} (d : α) (hl : L.length = M.length) (h : ∀ i, i < L.length → L.getD i d = M.getD i d) : L = M := by
  apply List.ext_getElem hl
  intro i h1 h2
  have := h i h1
  rw [List.getD_eq_getElem?_getD, List.getD_eq_getElem?_getD, List.getElem?_eq_getElem h1, List.getElem?_eq_getElem h2] at this
  exact this
theorem tk_succ {α : Type} {L : List α} {d : α} {i : Nat} (h : i < L.length) : L.take (i + 1) = L.take i ++ [L.getD i d] := by
  rw [List.take_add_one, List.getD_eq_getElem?_getD, List.getElem?_eq_getElem h]
  rfl
theorem csum_take {L : List En} {i : Nat} (h : i < L.length) : csum (L.take i) + (ct (L.getD i e0)).length ≤ csum L := by
  have h1 : csum (L.take (i + 1)) + csum (L.drop (i + 1)) = csum L := by rw [← csum_app, List.take_append_drop]
  rw [tk_succ (d := e0) h, csum_app] at h1
  have h2 : csum [L.getD i e0] = (ct (L.getD i e0)).length := by simp [csum]
  omega
/-- an array holds a list of numbers from a place on -/
def en (f : Nat → Int32) (a : Nat) (P : List Nat) : Prop := ∀ k, k < P.length → f (a + k) = nI (P.getD k 0)
def rEnt (kinds modes times paths contentAt contents path content : Nat → Int32) (t i off : Nat) (u : En) : Prop :=
  kinds (120 * t + i) = u.2.1 ∧ modes (120 * t + i) = u.2.2.1 ∧ times (120 * t + i) = u.2.2.2.1 ∧ paths (120 * t + i) = nI u.1.length ∧ u.1.length ≤ 150 ∧ contentAt (120 * t + i) = nI off ∧ contents (120 * t + i) = nI (ct u).length ∧ en path (150 * (120 * t + i)) u.1 ∧ en content (8000 * t + off) (ct u) ∧ (∀ b ∈ u.1, b < 256) ∧ (∀ b ∈ ct u, b < 256)
def rTree (many bytes kinds modes times paths contentAt contents path content : Nat → Int32) (t : Nat) (L : List En) : Prop :=
  many t = nI L.length ∧ bytes t = nI (csum L) ∧ L.length ≤ 120 ∧ csum L ≤ 8000 ∧ ∀ i, i < L.length → rEnt kinds modes times paths contentAt contents path content t i (csum (L.take i)) (L.getD i e0)
/-- all 46 trees -/
def RT (many bytes kinds modes times paths contentAt contents path content : Nat → Int32) (Ts : Nat → List En) : Prop := ∀ t, t < 46 → rTree many bytes kinds modes times paths contentAt contents path content t (Ts t)
theorem RT_empty {many bytes kinds modes times paths contentAt contents path content : Nat → Int32} {Ts : Nat → List En} (h : RT many bytes kinds modes times paths contentAt contents path content Ts) {t : Nat} : RT (upd many t (nI 0)) (upd bytes t (nI 0)) kinds modes times paths contentAt contents path content (va_up Ts t []) := by
  intro u hu
  by_cases e1 : u = t
  · subst e1
    rw [va_up_self]
    exact ⟨pk_us, pk_us, by simp, by simp [csum], fun i hi => by simp at hi⟩
  · rw [va_up_ne _ _ e1]
    obtain ⟨h1, h2, h3⟩ := h u hu
    exact ⟨by rw [pk_un e1]; exact h1, by rw [pk_un e1]; exact h2, h3⟩
theorem en_cpy {f : Nat → Int32} {sp dp n a : Nat} {P : List Nat} (h : en f a P) (hd : a + P.length ≤ dp ∨ dp + n ≤ a) : en (va_cpy f f sp dp n) a P := by
  intro k hk
  rw [pk_cpy_out (by omega)]
  exact h k hk
theorem en_cpy2 {f : Nat → Int32} {sp dp : Nat} {P : List Nat} (h : en f sp P) : en (va_cpy f f sp dp P.length) dp P := by
  intro k hk
  rw [pk_cpy_in (by omega) (by omega)]
  rw [show sp + (dp + k - dp) = sp + k by omega]
  exact h k hk
theorem RT_append {many bytes kinds modes times paths contentAt contents path content : Nat → Int32} {Ts : Nat → List En} (h : RT many bytes kinds modes times paths contentAt contents path content Ts) {fr i to : Nat} (hfr : fr < 46) (hto : to < 46) (hne : fr ≠ to) (hi : i < (Ts fr).length) (hm : (Ts to).length < 120) (hb : csum (Ts to) + (ct ((Ts fr).getD i e0)).length ≤ 8000) :
    RT (upd many to (nI ((Ts to).length + 1))) (upd bytes to (nI (csum (Ts to) + (ct ((Ts fr).getD i e0)).length))) (upd kinds (120 * to + (Ts to).length) (kinds (120 * fr + i))) (upd modes (120 * to + (Ts to).length) (modes (120 * fr + i))) (upd times (120 * to + (Ts to).length) (times (120 * fr + i))) (upd paths (120 * to + (Ts to).length) (nI ((Ts fr).getD i e0).1.length)) (upd contentAt (120 * to + (Ts to).length) (nI (csum (Ts to)))) (upd contents (120 * to + (Ts to).length) (nI (ct ((Ts fr).getD i e0)).length))
      (va_cpy path path (150 * (120 * fr + i)) (150 * (120 * to + (Ts to).length)) ((Ts fr).getD i e0).1.length) (va_cpy content content (8000 * fr + csum ((Ts fr).take i)) (8000 * to + csum (Ts to)) (ct ((Ts fr).getD i e0)).length) (va_up Ts to (Ts to ++ [(Ts fr).getD i e0])) := by
  obtain ⟨-, -, f3, f4, f5⟩ := h fr hfr
  obtain ⟨c1, c2, c3, c4, c5, c6, c7, c8, c9, c10, c11⟩ := f5 i hi
  generalize hE : (Ts fr).getD i e0 = E at *
  have hof := csum_take hi
  rw [hE] at hof
  obtain ⟨t1, t2, t3, t4, t5⟩ := h to hto
  intro u hu
  by_cases e1 : u = to
  · subst e1
    rw [va_up_self]
    have hcs : csum (Ts u ++ [E]) = csum (Ts u) + (ct E).length := by rw [csum_app]; simp [csum]
    refine ⟨by rw [pk_us]; simp, by rw [pk_us, hcs], by simp; omega, by omega, fun j hj => ?_⟩
    rw [List.length_append, List.length_singleton] at hj
    by_cases e2 : j = (Ts u).length
    · subst e2
      rw [gd_last, List.take_left]
      refine ⟨by rw [pk_us]; exact c1, by rw [pk_us]; exact c2, by rw [pk_us]; exact c3, pk_us, c5, pk_us, pk_us, en_cpy2 c8, en_cpy2 c9, c10, c11⟩
    · have hj2 : j < (Ts u).length := by omega
      obtain ⟨d1, d2, d3, d4, d5, d6, d7, d8, d9, d10, d11⟩ := t5 j hj2
      have hoj := csum_take hj2
      rw [gd_left hj2, List.take_append_of_le_length (by omega)]
      have hab : 120 * u + j ≠ 120 * u + (Ts u).length := by omega
      refine ⟨by rw [pk_un hab]; exact d1, by rw [pk_un hab]; exact d2, by rw [pk_un hab]; exact d3, by rw [pk_un hab]; exact d4, d5, by rw [pk_un hab]; exact d6, by rw [pk_un hab]; exact d7, en_cpy d8 (by omega), en_cpy d9 (by omega), d10, d11⟩
  · rw [va_up_ne _ _ e1]
    obtain ⟨g1, g2, g3, g4, g5⟩ := h u hu
    refine ⟨by rw [pk_un e1]; exact g1, by rw [pk_un e1]; exact g2, g3, g4, fun j hj => ?_⟩
    obtain ⟨d1, d2, d3, d4, d5, d6, d7, d8, d9, d10, d11⟩ := g5 j hj
    have hoj := csum_take hj
    have hab : 120 * u + j ≠ 120 * to + (Ts to).length := by omega
    refine ⟨by rw [pk_un hab]; exact d1, by rw [pk_un hab]; exact d2, by rw [pk_un hab]; exact d3, by rw [pk_un hab]; exact d4, d5, by rw [pk_un hab]; exact d6, by rw [pk_un hab]; exact d7, en_cpy d8 (by omega), en_cpy d9 (by omega), d10, d11⟩
/-- the order of paths, as the reference's ranks have it -/
def rkn (a : Nat) : Int := if a = 47 then 0 else (a : Int) + 1
def pcm : List Nat → List Nat → Int
  | [], [] => 0
  | [], b :: _ => -1 - rkn b
  | a :: _, [] => rkn a + 1
  | a :: P, b :: Q => if a = b then pcm P Q else rkn a - rkn b
/-- the last place whose entry has the path, of the first i -/
def fndr (L : List En) (P : List Nat) : Nat → Int32
  | 0 => -1
  | i + 1 => if (L.getD i e0).1 = P then nI i else fndr L P i
