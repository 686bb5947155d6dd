/-! Class and reference hold the same. -/
def JT (L : List En) : Prop := srt L ∧ L.length ≤ 60 ∧ csum L ≤ 4000
def JS (L : List En) : Prop := JT L ∧ ∀ i, i < L.length → (ct (L.getD i e0)).length ≤ 1500 ∧ 1 ≤ (L.getD i e0).2.1.toInt ∧ (L.getD i e0).2.1.toInt ≤ 3
def JH (Sn : List Se) (ns : Nat) (sT sC : Nat → Int32) (Ts : Nat → List En) : Prop := Sn.length = ns ∧ ns ≤ 40 ∧ ∀ k, k < ns → (Sn.getD k s0).1 = sT k ∧ nI (Sn.getD k s0).2.1 = sC k ∧ (Sn.getD k s0).2.2 = Ts (6 + k)
def JW (S T M : List En) (Cw : List Cg) (tm0 : Int32) (dn ops cg : Nat) (bg : Int32) : Prop := dn = ops ∧ Cw = chg S T ∧ cg = Cw.length ∧ tm0 = bg ∧ ops ≤ 2 * cg + 3 ∧ M = mir S T ops
def J9 (Ts : Nat → List En) (Sn : List Se) (Cw : List Cg) (tm0 : Int32) (dn st ops cg ns : Nat) (bg : Int32) (sT sC : Nat → Int32) : Prop :=
  JS (Ts 0) ∧ JT (Ts 3) ∧ JT (Ts 4) ∧ JH Sn ns sT sC Ts ∧ (st ≤ 2 ∧ dn ≤ 400 ∧ cg ≤ 180 ∧ ops ≤ 400) ∧ (st = 0 → ops = 0 ∧ JT (Ts 1)) ∧ (st ≠ 0 → JW (Ts 3) (Ts 4) (Ts 1) Cw tm0 dn ops cg bg) ∧ (st = 1 → ns < 40)
def Sim (cB cI cE cS : ClassId) (z q : Nat → Nat) (x : Nat) (th : Int32) (X w pl : va_W) : Prop := ∃ (T rd : List Nat) (Sn : List Se) (Cw C2 : List Cg) (tm0 : Int32) (dn st : Nat) (Ts : Nat → List En) (cs : Bool) (cp : List Nat) (ops cg ns : Nat) (bg : Int32) (sT sC : Nat → Int32), kRep cB cI cE cS z X pl T rd (Ts 0) (Ts 1) (Ts 2) Sn Cw C2 tm0 dn (cAt (Ts 0) cs cp) st ∧ RW cI x q w th Ts T rd cs cp st ops cg ns bg sT sC ∧ J9 Ts Sn Cw tm0 dn st ops cg ns bg sT sC
theorem mkSim {cB cI cE cS : ClassId} {z q : Nat → Nat} {x : Nat} {th : Int32} {X w pl : va_W} {T rd : List Nat} {Ls Lm Lr : List En} {Sn : List Se} {Cw C2 : List Cg} {tm0 : Int32} {dn st : Nat} {cho : Int32} {Ts : Nat → List En} {cs : Bool} {cp : List Nat} {ops cg ns : Nat} {bg : Int32} {sT sC : Nat → Int32} (hk : kRep cB cI cE cS z X pl T rd Ls Lm Lr Sn Cw C2 tm0 dn cho st) (hw : RW cI x q w th Ts T rd cs cp st ops cg ns bg sT sC) (e0 : Ls = Ts 0) (e1 : Lm = Ts 1) (e2 : Lr = Ts 2) (ec : cho = cAt (Ts 0) cs cp) (hJ : J9 Ts Sn Cw tm0 dn st ops cg ns bg sT sC) : Sim cB cI cE cS z q x th X w pl := by
  rw [e0, e1, e2, ec] at hk
  exact ⟨_, _, _, _, _, _, _, _, _, _, _, _, _, _, _, _, _, hk, hw, hJ⟩
theorem RW.bd {cI : ClassId} {x : Nat} {q : Nat → Nat} {w : va_W} {th : Int32} {Ts : Nat → List En} {tp rd : List Nat} {cs : Bool} {cp : List Nat} {st ops cg ns : Nat} {bg : Int32} {sT sC : Nat → Int32} (h : RW cI x q w th Ts tp rd cs cp st ops cg ns bg sT sC) : (∀ t, t < 46 → (Ts t).length ≤ 120 ∧ ∀ u ∈ Ts t, u.1.length ≤ 150) ∧ tp.length ≤ 400 := by
  obtain ⟨cm, f1, f2, f3, f4, f5, f6, f7, f8, f9, f10, f11, f12, f13, -, hRT, htp, -, -⟩ := h
  refine ⟨fun t ht => ?_, htp.2.1⟩
  obtain ⟨-, -, h3, -, h5⟩ := hRT t ht
  refine ⟨h3, fun u hu => ?_⟩
  obtain ⟨i, hi, e⟩ := List.getElem_of_mem hu
  have h6 := (h5 i hi).2.2.2.2.1
  rw [List.getD_eq_getElem?_getD, List.getElem?_eq_getElem hi, Option.getD_some, e] at h6
  exact h6
theorem m1_toInt : (-1 : Int32).toInt = -1 := rfl
theorem cA_or (L : List En) (cs : Bool) (cp : List Nat) (hl : L.length < 2 ^ 31) : cAt L cs cp = -1 ∨ ∃ i, i < L.length ∧ cAt L cs cp = nI i ∧ (L.getD i e0).1 = cp ∧ cs = true := by
  unfold cAt
  by_cases h : cs = true
  · rw [if_pos h]
    rcases fndr_bd L cp L.length hl with ⟨h1, -⟩ | ⟨i, h1, h2, h3⟩
    · exact Or.inl h1
    · exact Or.inr ⟨i, h1, h2, h3, h⟩
  · rw [if_neg h]; exact Or.inl rfl
theorem cA_rng {L : List En} {cs : Bool} {cp : List Nat} (hl : L.length < 2 ^ 31) : (cAt L cs cp).toInt < 0 ∨ (0 ≤ (cAt L cs cp).toInt ∧ (cAt L cs cp).toInt < L.length) := by
  rcases cA_or L cs cp hl with h | ⟨i, h1, h2, -⟩
  · rw [h]; exact Or.inl (by decide)
  · rw [h2, nI_toInt (by omega)]; omega
theorem nI_ij {n i j : Nat} {c : Int32} (h1 : c = nI i) (h2 : c = nI j) (hi : i < n) (hj : j < n) (hn : n < 2 ^ 31) : i = j := (nI_eq (by omega) (by omega)).mp (h1.symm.trans h2)
theorem JH.up {Sn : List Se} {ns : Nat} {sT sC : Nat → Int32} {Ts Ts' : Nat → List En} (h : JH Sn ns sT sC Ts) (hT : ∀ k, k < ns → Ts' (6 + k) = Ts (6 + k)) : JH Sn ns sT sC Ts' := ⟨h.1, h.2.1, fun k hk => ⟨(h.2.2 k hk).1, (h.2.2 k hk).2.1, by rw [hT k hk]; exact (h.2.2 k hk).2.2⟩⟩
/-- the source changes, nothing else -/
theorem J9.src {Ts : Nat → List En} {Sn : List Se} {Cw : List Cg} {tm0 : Int32} {dn st ops cg ns : Nat} {bg : Int32} {sT sC : Nat → Int32} (h : J9 Ts Sn Cw tm0 dn st ops cg ns bg sT sC) {Ts' : Nat → List En} (h0 : JS (Ts' 0)) (hT : ∀ k, k ≠ 0 → k ≠ 5 → Ts' k = Ts k) : J9 Ts' Sn Cw tm0 dn st ops cg ns bg sT sC := by
  obtain ⟨-, h3, h4, hH, hb, hr, hw, hn⟩ := h
  refine ⟨h0, ?_, ?_, hH.up (fun k hk => hT _ (by omega) (by omega)), hb, ?_, ?_, hn⟩
  · rw [hT 3 (by omega) (by omega)]; exact h3
  · rw [hT 4 (by omega) (by omega)]; exact h4
  · rw [hT 1 (by omega) (by omega)]; exact hr
  · rw [hT 3 (by omega) (by omega), hT 4 (by omega) (by omega), hT 1 (by omega) (by omega)]; exact hw
theorem up5 {Ts : Nat → List En} {L M : List En} : va_up (va_up Ts 5 M) 0 L 0 = L ∧ ∀ k, k ≠ 0 → k ≠ 5 → va_up (va_up Ts 5 M) 0 L k = Ts k := ⟨(by rw [va_up_self]), fun k h0 h5 => by rw [va_up_ne _ _ h0, va_up_ne _ _ h5]⟩
theorem up0 {Ts : Nat → List En} {L : List En} : va_up Ts 0 L 0 = L ∧ ∀ k, k ≠ 0 → k ≠ 5 → va_up Ts 0 L k = Ts k := ⟨(by rw [va_up_self]), fun k h0 _ => by rw [va_up_ne _ _ h0]⟩
theorem JS_set {L : List En} (h : JS L) {i : Nat} {u : En} (hi : i < L.length) (he : u.1 = (L.getD i e0).1) (hk : u.2.1 = (L.getD i e0).2.1) (hc : (ct u).length ≤ 1500) (hs : csum L + (ct u).length ≤ 4000 + (ct (L.getD i e0)).length) : JS (L.set i u) := by
  obtain ⟨⟨h1, h2, h3⟩, h4⟩ := h
  have h5 := csum_set (u := u) hi
  refine ⟨⟨srt_set h1 hi he, by rw [List.length_set]; exact h2, by omega⟩, fun j hj => ?_⟩
  rw [List.length_set] at hj
  by_cases e : i = j
  · rw [← e, gd_set_self hi, hk]; exact ⟨hc, (h4 i hi).2⟩
  · rw [gd_set_ne e]; exact h4 j hj
theorem i32_1 {x : Int32} : x = 1 ↔ x.toInt = 1 := ⟨fun h => by rw [h]; rfl, fun h => Int32.toInt_inj.mp (by rw [h]; rfl)⟩
theorem wl_eq {k : Int32} (h : ¬ k.toInt = 2) (hr : 1 ≤ k.toInt ∧ k.toInt ≤ 3) : ((if k.toInt = 3 then 100 else 1500 : Nat) : Int) = wlim k := by
  unfold wlim
  by_cases h1 : k.toInt = 1
  · rw [if_pos (i32_1.mpr h1), if_neg (by omega)]; rfl
  · rw [if_neg (fun q => h1 (i32_1.mp q)), if_pos (by omega)]; rfl
