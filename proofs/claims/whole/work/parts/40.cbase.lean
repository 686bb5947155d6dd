/-! Rows for the class's own objects: cells by membership; byte arrays as lists. -/
def sbi (v : Nat) : Int := if v < 128 then (v : Int) else (v : Int) - 256
theorem sbi_or (v : Nat) : (v < 128 ∧ sbi v = (v : Int)) ∨ (128 ≤ v ∧ sbi v = (v : Int) - 256) := by
  unfold sbi
  split <;> omega
theorem sb_all : ∀ v : Fin 256, (sb_b v.val).toInt = sbi v.val := by decide +kernel
theorem sb_toInt {v : Nat} (h : v < 256) : (sb_b v).toInt = sbi v := sb_all ⟨v, h⟩
def enb (f : Nat → Int32) (P : List Nat) : Prop := ∀ k, k < P.length → f k = sb_b (P.getD k 0)
/-- a byte array of the world that holds a list -/
def bArr (w : va_W) (cB : ClassId) (a : Nat) (P : List Nat) : Prop := ∃ f : Nat → Int32, (a, .inl (cB, P.length, .inl f)) ∈ w ∧ enb f P ∧ (∀ b ∈ P, b < 256) ∧ P.length < 2 ^ 31
theorem bArr.mono {w w' : va_W} {cB : ClassId} {a : Nat} {P : List Nat} (h : bArr w cB a P) (hs : ∀ q, q ∈ w → q ∈ w') : bArr w' cB a P := by
  obtain ⟨f, h1, h2⟩ := h
  exact ⟨f, hs _ h1, h2⟩
theorem bArr.lt {w : va_W} {cB : ClassId} {a : Nat} {P : List Nat} (h : bArr w cB a P) {i : Nat} (hi : i < P.length) : P.getD i 0 < 256 := by
  obtain ⟨f, -, -, h3, -⟩ := h
  exact h3 _ (gd_mem hi)
theorem bArr.len {w : va_W} {cB : ClassId} {a : Nat} {P : List Nat} (h : bArr w cB a P) : P.length < 2 ^ 31 := by
  obtain ⟨f, -, -, -, h4⟩ := h
  exact h4
/-- an entry of the pool -/
def pEnt (w : va_W) (cB : ClassId) (a : Nat) (u : En) : Prop := ∃ pa ca : Nat, (a, .inr (1, [.ref pa, .int u.2.1, .int u.2.2.1, .int u.2.2.2.1, .ref ca])) ∈ w ∧ bArr w cB pa u.1 ∧ bArr w cB ca (ct u)
theorem pEnt.mono {w w' : va_W} {cB : ClassId} {a : Nat} {u : En} (h : pEnt w cB a u) (hs : ∀ q, q ∈ w → q ∈ w') : pEnt w' cB a u := by
  obtain ⟨pa, ca, h1, h2, h3⟩ := h
  exact ⟨pa, ca, hs _ h1, h2.mono hs, h3.mono hs⟩
section XCA
variable {p : Program} {l : Launch} {e : Env} {R : Room} {s : State} {m : MethodId} {args : Array Value} {below : List Frame} {meth : Method} {c : Code} {H H0 : Heap} {locs : List Loc} {cells slots : Nat} {Q : State → Prop} {cc : ByteArray} {pc : Nat} {ls : Array Slot} {rest : List Value} {G : va_G} {tys : List (ClassId × FieldType)} {A : Nat → Prop} {w : va_W}
theorem xg {own ref C : String} {T : u_T} {N ci index a : Nat} {Ts : List Cond} {fs : List Value} {v : Value} (hx : p.tables.exec = Jvm.exec) (hb : c.code = cc) (hts : ∀ w ∈ Ts, w.before args s = true) (hin : ∀ w ∈ u_ws C T N, w ∈ Ts) (hown : s.vm.findClass own = some m.cls) (hK : va_K G vwCl tys s) (hP : va_P G vwCl w H) (hm : (a, .inr (ci, fs)) ∈ w) (hc : vwCl[ci]? = some (C, T, N)) (k : Nat) (hk : k < N) (hlink : (Cond.fieldLink own index ref (T k).2.1 (T k).2.2.1).before args s = true) (hsame : ∀ x, s.fieldFound? (T k).1 (T k).2.1 (T k).2.2.1 = some x → s.fieldFound? ref (T k).2.1 (T k).2.2.1 = some x) (hv : fs[k]? = some v) (hdg : decode cc pc = .ok (.getfield index, 3))
    (kk : W p l e R s m args below meth c H locs cells slots Q (F0 m (pc + 3) ls (v :: rest))) : W p l e R s m args below meth c H locs cells slots Q (F0 m pc ls (.ref a :: rest)) := by
  obtain ⟨q0, he⟩ := List.getElem?_of_mem hm
  exact va_get hx hb hts hin hown hK hP q0 he hc k hk hlink hsame hv hdg kk
theorem xb_ld {cB : ClassId} {a i : Nat} {P : List Nat} (hx : p.tables.exec = Jvm.exec) (hb : c.code = cc) (hK : va_K G vwCl tys s) (hT0 : tys[0]? = some (cB, .byte)) (hP : va_P G vwCl w H) (hA : bArr w cB a P) (hi : i < P.length) (hdg : decode cc pc = .ok (.baload, 1)) (kk : W p l e R s m args below meth c H locs cells slots Q (F0 m (pc + 1) ls (.int (sb_b (P.getD i 0)) :: rest))) : W p l e R s m args below meth c H locs cells slots Q (F0 m pc ls (.int (nI i) :: .ref a :: rest)) := by
  obtain ⟨f, h1, h2, h3, h4⟩ := hA
  obtain ⟨q0, he⟩ := List.getElem?_of_mem h1
  refine va_bald hx hb hK hP q0 0 he hT0 (vp_in_nI hi h4) hdg ?_
  rw [nI_clamp (Nat.lt_trans hi h4), h2 i hi]
  exact kk
theorem xb_len {cB : ClassId} {a : Nat} {P : List Nat} (hx : p.tables.exec = Jvm.exec) (hb : c.code = cc) (hK : va_K G vwCl tys s) (hT0 : tys[0]? = some (cB, .byte)) (hP : va_P G vwCl w H) (hA : bArr w cB a P) (hdg : decode cc pc = .ok (.arraylength, 1)) (kk : W p l e R s m args below meth c H locs cells slots Q (F0 m (pc + 1) ls (.int (nI P.length) :: rest))) : W p l e R s m args below meth c H locs cells slots Q (F0 m pc ls (.ref a :: rest)) := by
  obtain ⟨f, h1, h2, h3, h4⟩ := hA
  obtain ⟨q0, he⟩ := List.getElem?_of_mem h1
  exact va_alen (v := nI P.length) hx hb hK hP q0 0 he hT0 rfl hdg kk
theorem xrecv {C : String} {T : u_T} {N ci a : Nat} {fs : List Value} (hK : va_K G vwCl tys s) (hP : va_P G vwCl w H) (hc : vwCl[ci]? = some (C, T, N)) (hm : (a, .inr (ci, fs)) ∈ w) : ∃ cell : Cell, H[a]? = some cell ∧ cell.vm.isStatics = false ∧ s.vm.findClass C = some cell.cls := by
  obtain ⟨q0, he⟩ := List.getElem?_of_mem hm
  exact va_recv hK hP hc he
end XCA
/-- paths of the class: what its methods answer -/
def rk3 (v : Nat) : Int := if v = 47 then -1 else (v : Int)
theorem rk3_or (v : Nat) : (v = 47 ∧ rk3 v = -1) ∨ (v ≠ 47 ∧ rk3 v = (v : Int)) := by
  unfold rk3
  split <;> omega
theorem rkn_or (v : Nat) : (v = 47 ∧ rkn v = 0) ∨ (v ≠ 47 ∧ rkn v = (v : Int) + 1) := by
  unfold rkn
  split <;> omega
theorem nmOK_cls {P : List Nat} {dt : Nat} (h1 : 1 ≤ P.length) (h2 : P.length ≤ 24) (hd : dt = P.length ↔ ∀ j, j < P.length → P.getD j 0 = 46) (hz : ∀ j, j < P.length → P.getD j 0 ≠ 0) (hdl : dt ≤ P.length) : nmOK P = decide (dt < P.length ∨ 2 < P.length) := by
  unfold nmOK
  have key : (P = [46] ∨ P = [46, 46]) ↔ (dt = P.length ∧ P.length ≤ 2) := by
    rw [hd]
    constructor
    · rintro (h | h)
      · subst h
        exact ⟨fun j hj => by simp at hj; subst hj; rfl, by decide⟩
      · subst h
        refine ⟨fun j hj => ?_, by decide⟩
        have hj2 : j < 2 := hj
        match j, hj2 with
        | 0, _ => rfl
        | 1, _ => rfl
    · rintro ⟨ha, hl⟩
      rcases (show P.length = 1 ∨ P.length = 2 by omega) with h | h
      · left
        exact gd_ext 0 h (fun i hi => by rw [ha i hi]; have : i = 0 := by omega
                                         subst this; rfl)
      · right
        refine gd_ext 0 h (fun i hi => ?_)
        rw [ha i hi]
        have hi2 : i < 2 := by omega
        match i, hi2 with
        | 0, _ => rfl
        | 1, _ => rfl
  by_cases hq : dt < P.length ∨ 2 < P.length
  · rw [decide_eq_true hq, decide_eq_true ⟨h1, h2, fun a => by rw [key] at a; omega, hz⟩]
  · rw [decide_eq_false hq, decide_eq_false (fun a => a.2.2.1 (key.mpr (by omega)))]
theorem pathOK_of {P : List Nat} {nm : Nat} (h : (pk2 [] P).1 = true ∧ (pk2 [] P).2 = nm) : pathOK P = decide (nm ≤ 6) := by
  unfold pathOK
  rw [h.1, h.2]; rfl
theorem pathOK_no {P : List Nat} (h : (pk2 [] P).1 = false) : pathOK P = false := by
  unfold pathOK
  rw [h]; rfl
def blw2 (P D : List Nat) : Bool := decide (D.length < P.length ∧ P.getD D.length 0 = 47 ∧ P.take D.length = D)
theorem blw2_t {P D : List Nat} (h1 : D.length < P.length) (h2 : P.getD D.length 0 = 47) (h3 : ∀ k, k < D.length → P.getD k 0 = D.getD k 0) : blw2 P D = true := by
  refine decide_eq_true ⟨h1, h2, gd_ext 0 (by rw [List.length_take]; omega) (fun k hk => ?_)⟩
  rw [List.length_take] at hk
  rw [gd_take (by omega)]
  exact h3 k (by omega)
theorem blw2_f {P D : List Nat} (h : D.length < P.length → P.getD D.length 0 = 47 → ∃ k, k < D.length ∧ P.getD k 0 ≠ D.getD k 0) : blw2 P D = false := by
  refine decide_eq_false (fun q => ?_)
  obtain ⟨k, hk, hn⟩ := h q.1 q.2.1
  apply hn
  have this : (P.take D.length).getD k 0 = D.getD k 0 := congrArg (fun L => L.getD k 0) q.2.2
  rw [gd_take hk] at this
  exact this
/-- the sign that the class's compare has is the reference's -/
def sgn2 (v : Int32) (z : Int) : Prop := (v.toInt < 0 ↔ z < 0) ∧ (v.toInt = 0 ↔ z = 0)
theorem cmp_head {P Q : List Nat} {k : Nat} {v : Int32} (hpc : pcm P Q = pcm (P.drop k) (Q.drop k)) (h1 : k < P.length) (h2 : k < Q.length) (hne : P.getD k 0 ≠ Q.getD k 0) (b1 : P.getD k 0 < 256) (b2 : Q.getD k 0 < 256) (hv : v.toInt = rk3 (P.getD k 0) - rk3 (Q.getD k 0)) : sgn2 v (pcm P Q) := by
  rw [hpc, dr_cons (d := 0) h1, dr_cons (d := 0) h2]
  unfold sgn2
  simp only [pcm, hne, if_false]
  have a1 := rk3_or (P.getD k 0)
  have a2 := rk3_or (Q.getD k 0)
  have a3 := rkn_or (P.getD k 0)
  have a4 := rkn_or (Q.getD k 0)
  rw [hv]
  constructor <;> constructor <;> intro h <;> omega
theorem cmp_sgn {P Q : List Nat} {k : Nat} {v : Int32} (hpc : pcm P Q = pcm (P.drop k) (Q.drop k)) (h1 : k < P.length) (h2 : k < Q.length) (hne : P.getD k 0 ≠ Q.getD k 0) (hv : (v.toInt < 0 ∧ rk3 (P.getD k 0) < rk3 (Q.getD k 0)) ∨ (0 < v.toInt ∧ rk3 (Q.getD k 0) < rk3 (P.getD k 0))) : sgn2 v (pcm P Q) := by
  rw [hpc, dr_cons (d := 0) h1, dr_cons (d := 0) h2]
  unfold sgn2
  simp only [pcm, hne, if_false]
  have a1 := rk3_or (P.getD k 0)
  have a2 := rk3_or (Q.getD k 0)
  have a3 := rkn_or (P.getD k 0)
  have a4 := rkn_or (Q.getD k 0)
  rcases hv with ⟨h8, h9⟩ | ⟨h8, h9⟩ <;> constructor <;> constructor <;> intro h <;> omega
theorem cmp_end {P Q : List Nat} {k : Nat} {v : Int32} (hpc : pcm P Q = pcm (P.drop k) (Q.drop k)) (h1 : k ≤ P.length) (h2 : k ≤ Q.length) (hk : P.length ≤ k ∨ Q.length ≤ k) (hv : v.toInt = (P.length : Int) - Q.length) : sgn2 v (pcm P Q) := by
  rw [hpc]
  unfold sgn2
  rw [hv]
  by_cases e1 : P.length ≤ k
  · rw [List.drop_eq_nil_of_le e1]
    by_cases e2 : Q.length ≤ k
    · have e3 : (P.length : Int) - Q.length = 0 := by omega
      rw [List.drop_eq_nil_of_le e2, e3]
      exact ⟨Iff.rfl, Iff.rfl⟩
    · rw [dr_cons (d := 0) (by omega : k < Q.length)]
      have := rkn_ge (Q.getD k 0)
      simp only [pcm]
      constructor <;> constructor <;> intro h <;> omega
  · rw [List.drop_eq_nil_of_le (by omega : Q.length ≤ k), dr_cons (d := 0) (by omega : k < P.length)]
    have := rkn_ge (P.getD k 0)
    simp only [pcm]
    constructor <;> constructor <;> intro h <;> omega
theorem nm_zero {P : List Nat} {fm to i : Nat} (hto : to ≤ P.length) (h1 : fm ≤ i) (h2 : i < to) (h0 : P.getD i 0 = 0) : nmOK (pc3 P fm to) = false := by
  refine decide_eq_false (fun q => q.2.2.2 (i - fm) (by rw [pc3_len hto]; omega) ?_)
  rw [pc3_get (by omega), show fm + (i - fm) = i by omega]
  exact h0
theorem nm_cls {P : List Nat} {fm to i dt : Nat} (hft : fm ≤ to) (hto : to ≤ P.length) (h1 : 1 ≤ to - fm) (h2 : to - fm ≤ 24) (hdl : dt ≤ i - fm) (hd : dt = i - fm ↔ ∀ j, fm ≤ j → j < i → P.getD j 0 = 46) (hz : ∀ j, fm ≤ j → j < i → P.getD j 0 ≠ 0) (hi : i = to) : nmOK (pc3 P fm to) = decide (dt < to - fm ∨ 2 < to - fm) := by
  subst hi
  have hl : (pc3 P fm i).length = i - fm := pc3_len hto
  have h := nmOK_cls (P := pc3 P fm i) (dt := dt) (by omega) (by omega) (by
    rw [hl, hd]
    constructor
    · intro h j hj
      rw [pc3_get (by omega)]
      exact h _ (by omega) (by omega)
    · intro h j h3 h4
      have := h (j - fm) (by omega)
      rwa [pc3_get (by omega), show fm + (j - fm) = j by omega] at this) (fun j hj => by
    rw [hl] at hj
    rw [pc3_get (by omega)]
    exact hz _ (by omega) (by omega)) (by omega)
  rw [hl] at h
  exact h
theorem min_nI {a b : Nat} (ha : a < 2 ^ 31) (hb : b < 2 ^ 31) : (if nI b < nI a then nI b else nI a) = nI (if b < a then b else a) := by
  by_cases h : b < a
  · rw [if_pos h, if_pos ((nI_ltI hb ha).mpr h)]
  · rw [if_neg h, if_neg (fun q => h ((nI_ltI hb ha).mp q))]
theorem pcm_trans {B C : List Nat} : ∀ {A : List Nat}, pcm A B < 0 → pcm B C < 0 → pcm A C < 0 := by
  induction B generalizing C with
  | nil =>
    intro A h1 h2
    cases A with
    | nil => simp [pcm] at h1
    | cons a A => have := rkn_ge a; simp only [pcm] at h1; omega
  | cons b B ih =>
    intro A h1 h2
    cases C with
    | nil => have := rkn_ge b; simp only [pcm] at h2; omega
    | cons d C =>
      cases A with
      | nil => have := rkn_ge d; simp only [pcm]; omega
      | cons a A =>
        simp only [pcm] at h1 h2 ⊢
        by_cases e1 : a = b
        · rw [if_pos e1] at h1
          by_cases e2 : b = d
          · rw [if_pos e2] at h2
            rw [if_pos (e1.trans e2)]
            exact ih h1 h2
          · rw [if_neg e2] at h2
            rw [if_neg (fun q => e2 (e1.symm.trans q)), e1]
            exact h2
        · rw [if_neg e1] at h1
          by_cases e2 : b = d
          · subst e2
            rw [if_neg e1]
            exact h1
          · rw [if_neg e2] at h2
            have e3 : a ≠ d := fun q => by rw [q] at h1; omega
            rw [if_neg e3]
            omega
/-- in order -/
def srt (L : List En) : Prop := ∀ i j, i < j → j < L.length → pcm (L.getD i e0).1 (L.getD j e0).1 < 0
abbrev rfs (f : Nat → Option Nat) : (Nat → Int32) ⊕ (Nat → Int64) ⊕ (Nat → UInt32) ⊕ (Nat → UInt64) ⊕ (Nat → Option Nat) := .inr (.inr (.inr (.inr f)))
/-- the rows of a tree -/
def tRows (w : va_W) (cB : ClassId) (f : Nat → Option Nat) (L : List En) : Prop := L.length ≤ 120 ∧ (∀ i, i < L.length → ∃ a, f i = some a ∧ pEnt w cB a (L.getD i e0)) ∧ (∀ i, i < L.length → (L.getD i e0).1.length ≤ 150) ∧ csum L ≤ 8000
theorem tRows.mono {w w' : va_W} {cB : ClassId} {f : Nat → Option Nat} {L : List En} (h : tRows w cB f L) (hs : ∀ q, q ∈ w → q ∈ w') : tRows w' cB f L := by
  obtain ⟨h1, h2, h3⟩ := h
  exact ⟨h1, fun i hi => by obtain ⟨a, h4, h5⟩ := h2 i hi; exact ⟨a, h4, h5.mono hs⟩, h3⟩
/-- a tree's two cells are in the world, and hold a list -/
def tRep (w : va_W) (cB cE : ClassId) (t r : Nat) (f : Nat → Option Nat) (L : List En) : Prop := (t, .inr (5, [.ref r, .int (nI L.length)])) ∈ w ∧ (r, .inl (cE, 120, rfs f)) ∈ w ∧ tRows w cB f L
theorem ins_mid {P : List Nat} {L : List En} (hs : srt L) {k j : Nat} (hk : k < L.length) (h : pcm (L.getD k e0).1 P < 0) (hj : j ≤ k) : pcm (L.getD j e0).1 P < 0 := by
  rcases Nat.lt_or_eq_of_le hj with h1 | h1
  · exact pcm_trans (hs j k h1 hk) h
  · rw [h1]; exact h
theorem ins_mid2 {P : List Nat} {L : List En} (hs : srt L) {k j : Nat} (hj2 : j < L.length) (h : ¬ pcm (L.getD k e0).1 P < 0) (hj : k ≤ j) : ¬ pcm (L.getD j e0).1 P < 0 := by
  rcases Nat.lt_or_eq_of_le hj with h1 | h1
  · exact fun q => h (pcm_trans (hs k j h1 hj2) q)
  · rw [← h1]; exact h
def fnd2 (L : List En) (P : List Nat) : Int32 := if insI P L < L.length ∧ (L.getD (insI P L) e0).1 = P then nI (insI P L) else -1
def cntB (top : List Nat) : List En → Nat
  | [] => 0
  | u :: L => if blw2 u.1 top = true then cntB top L + 1 else 0
section XCB
variable {p : Program} {l : Launch} {e : Env} {R : Room} {s : State} {m : MethodId} {args : Array Value} {below : List Frame} {meth : Method} {c : Code} {H H0 : Heap} {locs : List Loc} {cells slots : Nat} {Q : State → Prop} {cc : ByteArray} {pc : Nat} {ls : Array Slot} {rest : List Value} {G : va_G} {tys : List (ClassId × FieldType)} {A : Nat → Prop} {w : va_W}
theorem xq_ld {cE : ClassId} {C : String} {a i n t0 : Nat} {f : Nat → Option Nat} (hx : p.tables.exec = Jvm.exec) (hb : c.code = cc) (hK : va_K G vwCl tys s) (hT2 : tys[t0]? = some (cE, .object C)) (hP : va_P G vwCl w H) (hm : (a, .inl (cE, n, rfs f)) ∈ w) (hi : i < n) (hn : n < 2 ^ 31) (hdg : decode cc pc = .ok (.aaload, 1)) (kk : W p l e R s m args below meth c H locs cells slots Q (F0 m (pc + 1) ls (va_rf (f i) :: rest))) : W p l e R s m args below meth c H locs cells slots Q (F0 m pc ls (.int (nI i) :: .ref a :: rest)) := by
  obtain ⟨q0, he⟩ := List.getElem?_of_mem hm
  refine va_aldq hx hb hK hP q0 t0 he hT2 (vp_in_nI hi hn) hdg ?_
  rw [nI_clamp (Nat.lt_trans hi hn)]
  exact kk
theorem pf_aret {post : Value → Prop} {v : Value} {rt : FieldType} (hx : p.tables.exec = Jvm.exec) (hb : c.code = cc) (hr : meth.sig.returnType = some rt) (hrt : (∃ n, rt = .object n) ∨ ∃ t, rt = .array t) (hv : v = .null ∨ ∃ a, v = .ref a) (hlocks : meth.locks = false) (hp : post v) (hdg : decode cc pc = .ok (.areturn, 1)) : W p l e R s m args below meth c s.heap [] cells slots (MQ below (pQ post) args s cells slots (fun _ => False)) (F0 m pc ls [v]) :=
  W.aret hx hb hr hrt hv (fun t ht hW => ⟨_, rfl, hp, ht⟩) (fun q h => by cases h) hdg hlocks
theorem pf_bret {post : Value → Prop} {v : Int32} (hx : p.tables.exec = Jvm.exec) (hb : c.code = cc) (hr : meth.sig.returnType = some .byte) (hn : narrow .byte (.int v) = .int v) (hlocks : meth.locks = false) (hp : post (.int v)) (hdg : decode cc pc = .ok (.ireturn, 1)) : W p l e R s m args below meth c s.heap [] cells slots (MQ below (pQ post) args s cells slots (fun _ => False)) (F0 m pc ls [.int v]) :=
  W.zret hx hb hr hn (fun t ht hW => ⟨_, rfl, hp, ht⟩) (fun q h => by cases h) hdg hlocks
end XCB
theorem like_t {u v : En} (h1 : u.2.1 = v.2.1) (h2 : u.2.2.1 = v.2.2.1) (h3 : u.2.2.2.1 = v.2.2.2.1) (h4 : ct u = ct v) : u.2 = v.2 := by
  obtain ⟨p1, k1, m1, t1, c1⟩ := u
  obtain ⟨p2, k2, m2, t2, c2⟩ := v
  simp only [ct] at h1 h2 h3 h4
  subst h1; subst h2; subst h3; subst h4
  rfl
/-- a change's one side -/
def oEnt (w : va_W) (cB : ClassId) (o : Option Nat) (x : Option En) : Prop := (x = none ∧ o = none) ∨ ∃ u a, x = some u ∧ o = some a ∧ pEnt w cB a u
def cRep (w : va_W) (cB cE : ClassId) (ch b1 b2 : Nat) (f1 f2 : Nat → Option Nat) (C : List (Option En × Option En)) : Prop := (ch, .inr (0, [.ref b1, .ref b2, .int (nI C.length)])) ∈ w ∧ (b1, .inl (cE, 180, rfs f1)) ∈ w ∧ (b2, .inl (cE, 180, rfs f2)) ∈ w ∧ C.length ≤ 180 ∧ ∀ i, i < C.length → oEnt w cB (f1 i) (C.getD i (none, none)).1 ∧ oEnt w cB (f2 i) (C.getD i (none, none)).2
def s0 : Int32 × Nat × List En := (0, 0, [])
/-- a session: its time, how many changes led to it, its tree -/
def sEnt (w : va_W) (cB cE : ClassId) (a : Nat) (u : Int32 × Nat × List En) : Prop := ∃ (t r : Nat) (f : Nat → Option Nat), (a, .inr (3, [.int u.1, .int (nI u.2.1), .ref t])) ∈ w ∧ tRep w cB cE t r f u.2.2
def hRep (w : va_W) (cB cE cS : ClassId) (h r : Nat) (f : Nat → Option Nat) (S : List (Int32 × Nat × List En)) : Prop := (h, .inr (2, [.ref r, .int (nI S.length)])) ∈ w ∧ (r, .inl (cS, 40, rfs f)) ∈ w ∧ S.length ≤ 40 ∧ ∀ i, i < S.length → ∃ a, f i = some a ∧ sEnt w cB cE a (S.getD i s0)
def lstT (S : List (Int32 × Nat × List En)) : Int32 := if 0 < S.length then (S.getD (S.length - 1) s0).1 else -1
theorem lt_idx {n k : Nat} (h : nI n - nI 1 = nI k) (hn : 0 < n) (hk : n ≤ 40 ∧ k < 2 ^ 31) : n - 1 = k := by
  rw [pk_sub (a := n) (b := 1) (by omega)] at h
  exact (nI_eq (by omega) hk.2).mp h
theorem rb_eq {v : Int32} {i : Nat} (hi : i < 20) : ((v.toUInt32 >>> ((nI (24 - 8 * (i % 4))).toUInt32 &&& Int32.toUInt32 31)).toInt32).toInt8.toInt32 = sb_b (bt v (i % 4)) := by
  have h4 : ∀ j, j < 4 → (((nI (24 - 8 * j)).toUInt32 &&& Int32.toUInt32 31).toBitVec % 32).toNat = 24 - 8 * j := by decide
  have h1 := pk_ushr v (nI (24 - 8 * (i % 4))) (24 - 8 * (i % 4)) (h4 _ (Nat.mod_lt _ (by decide)))
  generalize (v.toUInt32 >>> ((nI (24 - 8 * (i % 4))).toUInt32 &&& Int32.toUInt32 31)).toInt32 = y at h1 ⊢
  unfold sb_b bt
  rw [← h1]
  apply Int32.toInt_inj.mp
  rw [Int8.toInt_toInt32, Int8.toInt_toInt32, Int32.toInt_toInt8, Int32.toInt_toInt8, nI_toInt (by omega)]
  have h3 : (y.toBitVec.toNat : Int) = y.toInt % 2 ^ 32 := by
    rw [← Int32.toInt_toBitVec, BitVec.toInt_eq_toNat_bmod]
    have := y.toBitVec.isLt
    simp only [Int.bmod]
    split <;> omega
  simp only [Int.bmod]
  split <;> split <;> omega
theorem sb_nar_all : ∀ v : Fin 256, narrow .byte (.int (sb_b v.val)) = .int (sb_b v.val) := by decide +kernel
theorem sb_nar {v : Nat} (h : v < 256) : narrow .byte (.int (sb_b v)) = .int (sb_b v) := sb_nar_all ⟨v, h⟩
