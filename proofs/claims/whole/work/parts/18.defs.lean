/-! What paths are. -/
def nmOK (P : List Nat) : Bool := decide (1 ≤ P.length ∧ P.length ≤ 24 ∧ ¬ (P = [46] ∨ P = [46, 46]) ∧ ∀ k, k < P.length → P.getD k 0 ≠ 0)
/-- names apart by 47: whether all are good, and how many; the first one's beginning is P -/
def pk2 (P : List Nat) : List Nat → Bool × Nat
  | [] => (nmOK P, 1)
  | b :: R => if b = 47 then (nmOK P && (pk2 [] R).1, 1 + (pk2 [] R).2) else pk2 (P ++ [b]) R
def pathOK (P : List Nat) : Bool := (pk2 [] P).1 && decide ((pk2 [] P).2 ≤ 6)
/-- the last 47 among the first k -/
def lsl (P : List Nat) : Nat → Option Nat
  | 0 => none
  | k + 1 => if P.getD k 0 = 47 then some k else lsl P k
/-- is there a directory for it -/
def dirOK (L : List En) (P : List Nat) : Bool := match lsl P P.length with
  | none => true
  | some k => decide (0 ≤ (fndr L (P.take k) L.length).toInt ∧ (L.getD (fndr L (P.take k) L.length).toInt.toNat e0).2.1 = 2)
def cAt (L : List En) (cs : Bool) (cp : List Nat) : Int32 := if cs = true then fndr L cp L.length else -1
def blw (P C : List Nat) : Bool := decide ((P.length = C.length ∨ (C.length < P.length ∧ P.getD C.length 0 = 47)) ∧ P.take C.length = C)
def ltst (sT : Nat → Int32) (tm : Int32) : Nat → Int32
  | 0 => -1
  | k + 1 => if tm < sT k then ltst sT tm k else nI k
def upds (ops cg : Nat) : Nat := if ops < 1 then 0 else if (ops - 1) / 2 < cg then (ops - 1) / 2 else cg
def incs (ops cg : Nat) : Nat := if ops / 2 < cg then ops / 2 else cg
theorem fndr_bd (L : List En) (P : List Nat) (n : Nat) (hn : n < 2 ^ 31) : (fndr L P n = -1 ∧ ∀ i, i < n → (L.getD i e0).1 ≠ P) ∨ ∃ i, i < n ∧ fndr L P n = nI i ∧ (L.getD i e0).1 = P := by
  induction n with
  | zero => exact Or.inl ⟨rfl, fun i h => absurd h (Nat.not_lt_zero _)⟩
  | succ n ih =>
    by_cases h : (L.getD n e0).1 = P
    · exact Or.inr ⟨n, Nat.lt_succ_self _, by rw [fndr, if_pos h], h⟩
    · have e1 : fndr L P (n + 1) = fndr L P n := by rw [fndr, if_neg h]
      rcases ih (by omega) with ⟨h1, h2⟩ | ⟨i, h1, h2⟩
      · refine Or.inl ⟨by rw [e1, h1], fun i hi => ?_⟩
        rcases Nat.lt_succ_iff_lt_or_eq.mp hi with h3 | h3
        · exact h2 i h3
        · rw [h3]; exact h
      · exact Or.inr ⟨i, by omega, by rw [e1]; exact h2⟩
theorem nmOK_end {P : List Nat} {dt zb : Bool} (h1 : 1 ≤ P.length) (h2 : P.length ≤ 24) (hd : dt = true ↔ (P = [46] ∨ P = [46, 46])) (hz : zb = true ↔ ∃ k, k < P.length ∧ P.getD k 0 = 0) : nmOK P = (!dt && !zb) := by
  unfold nmOK
  by_cases a : dt = true
  · rw [a, decide_eq_false (fun q => q.2.2.1 (hd.mp a))]; rfl
  · have a' : dt = false := by cases dt <;> simp_all
    by_cases b : zb = true
    · rw [a', b, decide_eq_false (fun q => by obtain ⟨k, k1, k2⟩ := hz.mp b; exact q.2.2.2 k k1 k2)]; rfl
    · have b' : zb = false := by cases zb <;> simp_all
      rw [a', b', decide_eq_true ⟨h1, h2, fun q => a (hd.mpr q), fun k hk q => b (hz.mpr ⟨k, hk, q⟩)⟩]; rfl
theorem nmOK_no {P : List Nat} (h : P.length < 1 ∨ 24 < P.length) : nmOK P = false := decide_eq_false (fun q => by omega)
theorem pk2_one {P R : List Nat} : pk2 P [] = (nmOK P, 1) := rfl
theorem pk2_sl {P R : List Nat} : pk2 P (47 :: R) = (nmOK P && (pk2 [] R).1, 1 + (pk2 [] R).2) := by simp [pk2]
theorem pk2_ns {P R : List Nat} {b : Nat} (h : b ≠ 47) : pk2 P (b :: R) = pk2 (P ++ [b]) R := by simp [pk2, h]
/-- the piece of a list from a place up to another -/
def pc3 (L : List Nat) (a b : Nat) : List Nat := (L.drop a).take (b - a)
theorem pc3_len {L : List Nat} {a b : Nat} (h : b ≤ L.length) : (pc3 L a b).length = b - a := by
  unfold pc3
  rw [List.length_take, List.length_drop]; omega
theorem pc3_get {L : List Nat} {a b k : Nat} (h : a + k < b) : (pc3 L a b).getD k 0 = L.getD (a + k) 0 := by
  unfold pc3
  simp only [List.getD_eq_getElem?_getD]
  rw [List.getElem?_take, if_pos (by omega), List.getElem?_drop]
theorem pc3_en {f : Nat → Int32} {L : List Nat} {a b o : Nat} (h : en f o L) (hb : b ≤ L.length) : en f (o + a) (pc3 L a b) := by
  intro k hk
  rw [pc3_len hb] at hk
  rw [pc3_get (by omega), Nat.add_assoc]
  exact h _ (by omega)
theorem pc3_mem {L : List Nat} {a b v : Nat} (h : v ∈ pc3 L a b) : v ∈ L := List.mem_of_mem_drop (List.mem_of_mem_take h)
theorem pc3_snoc {L : List Nat} {a b : Nat} (h1 : a ≤ b) (h2 : b < L.length) : pc3 L a (b + 1) = pc3 L a b ++ [L.getD b 0] := by
  apply gd_ext 0
  · rw [List.length_append, pc3_len (by omega), pc3_len (by omega)]; simp; omega
  · intro i hi
    rw [pc3_len (by omega)] at hi
    rw [pc3_get (by omega)]
    by_cases e1 : i = b - a
    · have : (pc3 L a b).length = b - a := pc3_len (by omega)
      rw [e1, ← this, gd_last, this]
      congr 1; omega
    · rw [gd_left (by rw [pc3_len (by omega)]; omega), pc3_get (by omega)]
theorem pc3_nil {L : List Nat} {a : Nat} : pc3 L a a = [] := by simp [pc3]
theorem lsl_bd {P : List Nat} {n k : Nat} (h : lsl P n = some k) : k < n ∧ P.getD k 0 = 47 := by
  induction n with
  | zero => cases h
  | succ n ih =>
    by_cases h1 : P.getD n 0 = 47
    · rw [lsl, if_pos h1] at h
      cases h
      exact ⟨Nat.lt_succ_self _, h1⟩
    · rw [lsl, if_neg h1] at h
      obtain ⟨a, b⟩ := ih h
      exact ⟨by omega, b⟩
theorem en_take {f : Nat → Int32} {a k : Nat} {P : List Nat} (h : en f a P) : en f a (P.take k) := by
  intro j hj
  rw [List.length_take] at hj
  have e1 : (P.take k).getD j 0 = P.getD j 0 := by
    simp only [List.getD_eq_getElem?_getD]
    rw [List.getElem?_take, if_pos (by omega)]
  rw [e1]
  exact h j (by omega)
theorem dots_iff {P : List Nat} (h1 : 1 ≤ P.length) : (P = [46] ∨ P = [46, 46]) ↔ P.getD 0 0 = 46 ∧ (P.length = 1 ∨ (P.length = 2 ∧ P.getD 1 0 = 46)) := by
  match P, h1 with
  | [a], _ => simp
  | [a, b], _ => simp
  | a :: b :: d :: R, _ => simp
theorem blw_iff {P C : List Nat} : blw P C = true ↔ (P.length = C.length ∨ (C.length < P.length ∧ P.getD C.length 0 = 47)) ∧ ∀ k, k < C.length → P.getD k 0 = C.getD k 0 := by
  unfold blw
  rw [decide_eq_true_iff]
  constructor
  · rintro ⟨h1, h2⟩
    refine ⟨h1, fun k hk => ?_⟩
    rw [← h2] at hk ⊢
    rw [List.length_take] at hk
    simp only [List.getD_eq_getElem?_getD]
    rw [List.getElem?_take, if_pos (by omega)]
  · rintro ⟨h1, h2⟩
    refine ⟨h1, gd_ext 0 (by rw [List.length_take]; omega) (fun k hk => ?_)⟩
    rw [List.length_take] at hk
    rw [← h2 k (by omega)]
    simp only [List.getD_eq_getElem?_getD]
    rw [List.getElem?_take, if_pos (by omega)]
theorem blw_end {P C : List Nat} {k : Nat} {b : Bool} (hk : k ≤ C.length) (h : b = true ↔ (P.length = C.length ∨ (C.length < P.length ∧ P.getD C.length 0 = 47)) ∧ ∀ j, j < k → P.getD j 0 = C.getD j 0) (hx : C.length ≤ k ∨ b = false) : b = blw P C := by
  by_cases hb : b = true
  · rw [hb]
    obtain ⟨h1, h2⟩ := h.mp hb
    have hl : C.length ≤ k := by
      rcases hx with hx | hx
      · exact hx
      · rw [hb] at hx; cases hx
    exact (blw_iff.mpr ⟨h1, fun j hj => h2 j (by omega)⟩).symm
  · have hn : ¬ blw P C = true := fun q => hb (h.mpr (by
      obtain ⟨h1, h2⟩ := blw_iff.mp q
      exact ⟨h1, fun j hj => h2 j (by omega)⟩))
    cases b with
    | true => exact absurd rfl hb
    | false =>
      cases hB : blw P C with
      | false => rfl
      | true => exact absurd hB hn
theorem isPath_s1 {tp : List Nat} {k nm fm : Nat} {is1 : Bool} (h : (is1 = true → k ≤ tp.length → (pk2 [] tp).1 = (pk2 (pc3 tp fm k) (tp.drop k)).1 ∧ (pk2 [] tp).2 = nm + (pk2 (pc3 tp fm k) (tp.drop k)).2) ∧ (is1 = true → k = tp.length + 1 → (pk2 [] tp).1 = true ∧ (pk2 [] tp).2 = nm) ∧ (is1 = false → (pk2 [] tp).1 = false)) (hi : is1 = true) (hf : fm ≤ k) (hk : k < tp.length) (hs : tp.getD k 0 ≠ 47) :
    (is1 = true → k + 1 ≤ tp.length → (pk2 [] tp).1 = (pk2 (pc3 tp fm (k + 1)) (tp.drop (k + 1))).1 ∧ (pk2 [] tp).2 = nm + (pk2 (pc3 tp fm (k + 1)) (tp.drop (k + 1))).2) ∧ (is1 = true → k + 1 = tp.length + 1 → (pk2 [] tp).1 = true ∧ (pk2 [] tp).2 = nm) ∧ (is1 = false → (pk2 [] tp).1 = false) := by
  refine ⟨fun _ _ => ?_, fun _ q => by omega, h.2.2⟩
  have h1 := h.1 hi (by omega)
  rw [dr_cons (d := 0) hk, pk2_ns hs, ← pc3_snoc hf hk] at h1
  exact h1
theorem isPath_s2 {tp : List Nat} {k nm fm : Nat} {is1 : Bool} (h : (is1 = true → k ≤ tp.length → (pk2 [] tp).1 = (pk2 (pc3 tp fm k) (tp.drop k)).1 ∧ (pk2 [] tp).2 = nm + (pk2 (pc3 tp fm k) (tp.drop k)).2) ∧ (is1 = true → k = tp.length + 1 → (pk2 [] tp).1 = true ∧ (pk2 [] tp).2 = nm) ∧ (is1 = false → (pk2 [] tp).1 = false)) (hi : is1 = true) (hf : fm ≤ k) (hk : k ≤ tp.length) (hs : tp.length ≤ k ∨ tp.getD k 0 = 47) :
    (nmOK (pc3 tp fm k) = true → k + 1 ≤ tp.length → (pk2 [] tp).1 = (pk2 (pc3 tp (k + 1) (k + 1)) (tp.drop (k + 1))).1 ∧ (pk2 [] tp).2 = nm + 1 + (pk2 (pc3 tp (k + 1) (k + 1)) (tp.drop (k + 1))).2) ∧ (nmOK (pc3 tp fm k) = true → k + 1 = tp.length + 1 → (pk2 [] tp).1 = true ∧ (pk2 [] tp).2 = nm + 1) ∧ (nmOK (pc3 tp fm k) = false → (pk2 [] tp).1 = false) := by
  have h1 := h.1 hi hk
  rw [pc3_nil]
  by_cases he : k = tp.length
  · rw [List.drop_eq_nil_of_le (by omega)] at h1
    refine ⟨fun _ q => by omega, fun a _ => ⟨by rw [h1.1]; exact a, h1.2⟩, fun a => by rw [h1.1]; exact a⟩
  · have hk2 : k < tp.length := by omega
    have h47 : tp.getD k 0 = 47 := by omega
    rw [dr_cons (d := 0) hk2, h47, pk2_sl] at h1
    refine ⟨fun a _ => ?_, fun _ q => by omega, fun a => ?_⟩
    · obtain ⟨b1, b2⟩ := h1
      rw [a] at b1
      exact ⟨by rw [b1]; rfl, by rw [b2]; dsimp only; omega⟩
    · obtain ⟨b1, b2⟩ := h1
      rw [a] at b1
      rw [b1]; rfl
theorem isPath_end {tp : List Nat} {k nm fm : Nat} {is1 : Bool} (h : (is1 = true → k ≤ tp.length → (pk2 [] tp).1 = (pk2 (pc3 tp fm k) (tp.drop k)).1 ∧ (pk2 [] tp).2 = nm + (pk2 (pc3 tp fm k) (tp.drop k)).2) ∧ (is1 = true → k = tp.length + 1 → (pk2 [] tp).1 = true ∧ (pk2 [] tp).2 = nm) ∧ (is1 = false → (pk2 [] tp).1 = false)) (hx : k = tp.length + 1 ∨ is1 = false) : pathOK tp = (is1 && decide (nm ≤ 6)) := by
  unfold pathOK
  cases is1 with
  | false => rw [h.2.2 rfl]; rfl
  | true =>
    rcases hx with hx | hx
    · obtain ⟨a, b⟩ := h.2.1 rfl hx
      rw [a, b]
    · cases hx
