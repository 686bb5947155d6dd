/-! What the face answers, by the class's own state. -/
def trS (L1 L2 L3 : List En) (tr : Int32) : List En := if tr.toInt = 0 then L1 else if tr.toInt = 1 then L2 else if tr.toInt = 2 then L3 else []
theorem trS_0 {L1 L2 L3 : List En} {tr : Int32} (h : tr.toInt = 0) : trS L1 L2 L3 tr = L1 := by rw [trS, if_pos h]
theorem trS_1 {L1 L2 L3 : List En} {tr : Int32} (h : tr.toInt = 1) : trS L1 L2 L3 tr = L2 := by rw [trS, if_neg (by omega), if_pos h]
theorem trS_2 {L1 L2 L3 : List En} {tr : Int32} (h : tr.toInt = 2) : trS L1 L2 L3 tr = L3 := by rw [trS, if_neg (by omega), if_neg (by omega), if_pos h]
theorem trS_d {L1 L2 L3 : List En} {tr : Int32} (h : tr.toInt < 0 ∨ 2 < tr.toInt) : trS L1 L2 L3 tr = [] := by rw [trS, if_neg (by omega), if_neg (by omega), if_neg (by omega)]
def enE (u : En) (w0 : Int32) : Int32 := if w0.toInt = 0 then u.2.1 else if w0.toInt = 1 then u.2.2.1 else if w0.toInt = 2 then u.2.2.2.1 else if w0.toInt = 3 then nI (ct u).length else if w0.toInt = 4 then nI u.1.length else -1
def enK (L : List En) (ix w0 : Int32) : Int32 := if 0 ≤ ix.toInt ∧ ix.toInt < L.length then enE (L.getD ix.toInt.toNat e0) w0 else -1
theorem ix_in {n k : Nat} {ix : Int32} (h : ix = nI k) (hk : k < n) (hl : n < 2 ^ 31) : (0 ≤ ix.toInt ∧ ix.toInt < n) ∧ ix.toInt.toNat = k := by
  rw [h, nI_toInt (by omega)]
  omega
theorem enK_in {L : List En} {ix w0 : Int32} {k : Nat} (h : ix = nI k) (hk : k < L.length) (hl : L.length < 2 ^ 31) : enK L ix w0 = enE (L.getD k e0) w0 := by
  obtain ⟨h1, h2⟩ := ix_in h hk hl
  rw [enK, if_pos h1, h2]
theorem enK_out {L : List En} {ix w0 : Int32} (h : ¬ (0 ≤ ix.toInt ∧ ix.toInt < L.length)) : enK L ix w0 = -1 := by rw [enK, if_neg h]
def atE (P : List Nat) (k0 : Int32) : Int32 := if 0 ≤ k0.toInt ∧ k0.toInt < P.length then nI (P.getD k0.toInt.toNat 0) else -1
def atK (L : List En) (ix : Int32) (pb : Bool) (k0 : Int32) : Int32 := if 0 ≤ ix.toInt ∧ ix.toInt < L.length then (if pb = true then atE (L.getD ix.toInt.toNat e0).1 k0 else atE (ct (L.getD ix.toInt.toNat e0)) k0) else -1
theorem atK_in {L : List En} {ix k0 : Int32} {pb : Bool} {k : Nat} (h : ix = nI k) (hk : k < L.length) (hl : L.length < 2 ^ 31) : atK L ix pb k0 = if pb = true then atE (L.getD k e0).1 k0 else atE (ct (L.getD k e0)) k0 := by
  obtain ⟨h1, h2⟩ := ix_in h hk hl
  rw [atK, if_pos h1, h2]
theorem atK_out {L : List En} {ix k0 : Int32} {pb : Bool} (h : ¬ (0 ≤ ix.toInt ∧ ix.toInt < L.length)) : atK L ix pb k0 = -1 := by rw [atK, if_neg h]
theorem atE_in {P : List Nat} {k0 : Int32} {k : Nat} (h : k0 = nI k) (hk : k < P.length) (hl : P.length < 2 ^ 31) : atE P k0 = nI (P.getD k 0) := by
  obtain ⟨h1, h2⟩ := ix_in h hk hl
  rw [atE, if_pos h1, h2]
theorem atE_out {P : List Nat} {k0 : Int32} (h : ¬ (0 ≤ k0.toInt ∧ k0.toInt < P.length)) : atE P k0 = -1 := by rw [atE, if_neg h]
def abK (T : List Nat) (Ls Lm Lr : List En) (Sn : List Se) (nC dn st : Nat) (w0 : Int32) : Int32 :=
  if w0.toInt = 0 then nI st else if w0.toInt = 1 then nI Sn.length else if w0.toInt = 2 then (if st = 0 then nI 0 else nI dn) else if w0.toInt = 3 then nI Ls.length else if w0.toInt = 4 then nI Lm.length else if w0.toInt = 5 then nI Lr.length else if w0.toInt = 6 then nI (csum Ls) else if w0.toInt = 7 then ssm (fun k => nI (Sn.getD k s0).2.1) 0 Sn.length + (if st = 0 then nI 0 else nI (incs dn nC)) else if w0.toInt = 8 then nI T.length else -1
def seK (Sn : List Se) (ix w0 : Int32) : Int32 := if 0 ≤ ix.toInt ∧ ix.toInt < Sn.length then (if w0.toInt = 0 then (Sn.getD ix.toInt.toNat s0).1 else if w0.toInt = 1 then (if ix.toInt = 0 then -1 else nI (Sn.getD ix.toInt.toNat s0).2.1) else -1) else -1
theorem seK_in {L : List Se} {ix w0 : Int32} {k : Nat} (h : ix = nI k) (hk : k < L.length) (hl : L.length < 2 ^ 31) : seK L ix w0 = if w0.toInt = 0 then (L.getD k s0).1 else if w0.toInt = 1 then (if ix.toInt = 0 then -1 else nI (L.getD k s0).2.1) else -1 := by
  obtain ⟨h1, h2⟩ := ix_in h hk hl
  rw [seK, if_pos h1, h2]
theorem seK_out {L : List Se} {ix w0 : Int32} (h : ¬ (0 ≤ ix.toInt ∧ ix.toInt < L.length)) : seK L ix w0 = -1 := by rw [seK, if_neg h]
theorem se_row {pl : va_W} {cB cE : ClassId} {f : Nat → Option Nat} {S : List Se} (hr : hRows pl cB cE f S) {k a : Nat} (h : f k = some a) (hk : k < S.length) : sEnt pl cB cE a (S.getD k s0) := by
  obtain ⟨b, h1, h2⟩ := hr.2 k hk
  cases h.symm.trans h1
  exact h2
theorem cntB_le (top : List Nat) : ∀ L : List En, cntB top L ≤ L.length
  | [] => Nat.le_refl _
  | u :: L => by
    have := cntB_le top L
    simp only [cntB]
    split <;> simp only [List.length_cons] <;> omega
theorem ct_le {L : List En} {i : Nat} (h : i < L.length) : (ct (L.getD i e0)).length ≤ csum L := by
  have := csum_take h
  omega
