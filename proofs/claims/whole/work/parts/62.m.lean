set_option maxHeartbeats 4000000 in
set_option maxRecDepth 20000 in
theorem J_feed {cB cI cE cS : ClassId} {z q : Nat → Nat} {x : Nat} {X1 nw w1 pl : va_W} {T rd : List Nat} {Sn : List Se} {Cw C2 : List Cg} {tm0 : Int32} {dn st : Nat} {Ts : Nat → List En} {cs : Bool} {cp : List Nat} {ops cg ns : Nat} {bg : Int32} {sT sC : Nat → Int32} (hJ : J9 Ts Sn Cw tm0 dn st ops cg ns bg sT sC) {wa wb wc wd9 we : Int32} {o9 r : Option Value} (h1 : (fun o9 X1 nw => o9 = none ∧ kRep cB cI cE cS z X1 (pl ++ nw) T (feedL wa wb wc wd9 we) (Ts 0) (Ts 1) (Ts 2) Sn Cw C2 tm0 dn (cAt (Ts 0) cs cp) st) o9 X1 nw) (h2 : (fun r w => r = none ∧ RW cI x q w (nI 0) Ts T (feedL wa wb wc wd9 we) cs cp st ops cg ns bg sT sC) r w1) : Sim cB cI cE cS z q x (nI 0) X1 w1 (pl ++ nw) := by
  obtain ⟨-, hk⟩ := h1
  obtain ⟨-, hw⟩ := h2
  exact mkSim hk hw rfl rfl rfl rfl hJ
set_option maxHeartbeats 4000000 in
set_option maxRecDepth 20000 in
theorem J_end {cB cI cE cS : ClassId} {z q : Nat → Nat} {x : Nat} {X1 nw w1 pl : va_W} {T rd : List Nat} {Sn : List Se} {Cw C2 : List Cg} {tm0 : Int32} {dn st : Nat} {Ts : Nat → List En} {cs : Bool} {cp : List Nat} {ops cg ns : Nat} {bg : Int32} {sT sC : Nat → Int32} (hJ : J9 Ts Sn Cw tm0 dn st ops cg ns bg sT sC) {n0 : Int32} {o9 r : Option Value} (h1 : (fun o9 X1 nw => ((0 ≤ n0.toInt ∧ n0.toInt ≤ 20 ∧ (T.length : Int) + n0.toInt ≤ 400) ∧ o9 = some (.int (nI (T ++ rd.take n0.toInt.toNat).length)) ∧ kRep cB cI cE cS z X1 (pl ++ nw) (T ++ rd.take n0.toInt.toNat) (List.replicate 20 0) (Ts 0) (Ts 1) (Ts 2) Sn Cw C2 tm0 dn (cAt (Ts 0) cs cp) st) ∨ (¬ (0 ≤ n0.toInt ∧ n0.toInt ≤ 20 ∧ (T.length : Int) + n0.toInt ≤ 400) ∧ o9 = some (.int (-1)) ∧ kRep cB cI cE cS z X1 (pl ++ nw) T rd (Ts 0) (Ts 1) (Ts 2) Sn Cw C2 tm0 dn (cAt (Ts 0) cs cp) st)) o9 X1 nw) (h2 : (fun r w => ((0 ≤ n0.toInt ∧ n0.toInt ≤ 20 ∧ (T.length : Int) + n0.toInt ≤ 400) ∧ r = some (.int (nI (T ++ rd.take n0.toInt.toNat).length)) ∧ RW cI x q w (nI 0) Ts (T ++ rd.take n0.toInt.toNat) (List.replicate 20 0) cs cp st ops cg ns bg sT sC) ∨ (¬ (0 ≤ n0.toInt ∧ n0.toInt ≤ 20 ∧ (T.length : Int) + n0.toInt ≤ 400) ∧ r = some (.int (-1)) ∧ RW cI x q w (nI 0) Ts T rd cs cp st ops cg ns bg sT sC)) r w1) : ∃ v, o9 = some (.int v) ∧ r = some (.int v) ∧ Sim cB cI cE cS z q x (nI 0) X1 w1 (pl ++ nw) := by
  rcases h1 with ⟨a1, rfl, hk⟩ | ⟨a1, rfl, hk⟩ <;> rcases h2 with ⟨a2, rfl, hw⟩ | ⟨a2, rfl, hw⟩
  · exact ⟨_, rfl, rfl, mkSim hk hw rfl rfl rfl rfl hJ⟩
  · exact absurd a1 a2
  · exact absurd a2 a1
  · exact ⟨_, rfl, rfl, mkSim hk hw rfl rfl rfl rfl hJ⟩
set_option maxHeartbeats 4000000 in
set_option maxRecDepth 20000 in
theorem J_choose {cB cI cE cS : ClassId} {z q : Nat → Nat} {x : Nat} {X1 nw w1 pl : va_W} {T rd : List Nat} {Sn : List Se} {Cw C2 : List Cg} {tm0 : Int32} {dn st : Nat} {Ts : Nat → List En} {cs : Bool} {cp : List Nat} {ops cg ns : Nat} {bg : Int32} {sT sC : Nat → Int32} (hJ : J9 Ts Sn Cw tm0 dn st ops cg ns bg sT sC)  {o9 r : Option Value} (h1 : (fun o9 X1 nw => ((¬ (0 ≤ (fnd2 (Ts 0) T).toInt ∧ (fnd2 (Ts 0) T).toInt < (Ts 0).length) ∧ o9 = some (.int (-1))) ∨ ∃ i, fnd2 (Ts 0) T = nI i ∧ i < (Ts 0).length ∧ o9 = some (.int ((Ts 0).getD i e0).2.1)) ∧ kRep cB cI cE cS z X1 (pl ++ nw) ([]) rd (Ts 0) (Ts 1) (Ts 2) Sn Cw C2 tm0 dn (fnd2 (Ts 0) T) st) o9 X1 nw) (h2 : (fun r w => ((fndr (Ts 0) T (Ts 0).length).toInt < 0 ∧ r = some (.int (-1)) ∧ RW cI x q w (nI 0) Ts ([]) rd false cp st ops cg ns bg sT sC) ∨ ∃ i, i < (Ts 0).length ∧ fndr (Ts 0) T (Ts 0).length = nI i ∧ ((Ts 0).getD i e0).1 = T ∧ r = some (.int ((Ts 0).getD i e0).2.1) ∧ RW cI x q w (nI 0) Ts ([]) rd true T st ops cg ns bg sT sC) r w1) : ∃ v, o9 = some (.int v) ∧ r = some (.int v) ∧ Sim cB cI cE cS z q x (nI 0) X1 w1 (pl ++ nw) := by
  obtain ⟨⟨⟨hs0, hl0, hc0⟩, hu0⟩, hT3, hT4, hH, ⟨hst, hdn, hcg, hop⟩, hr0, hw0, hn1⟩ := id hJ
  have hf := fnd2_fndr hs0 (by omega) T
  obtain ⟨h1, hk⟩ := h1
  rw [hf] at h1 hk
  rcases h2 with ⟨a2, rfl, hw⟩ | ⟨i, hi, a2, a3, rfl, hw⟩
  · rcases h1 with ⟨a1, rfl⟩ | ⟨j, a1, hj, -⟩
    · refine ⟨_, rfl, rfl, mkSim hk hw rfl rfl rfl ?_ hJ⟩
      rcases fndr_bd (Ts 0) T (Ts 0).length (by omega) with ⟨h3, -⟩ | ⟨i, h3, h4, -⟩
      · rw [h3]; rfl
      · rw [h4, nI_toInt (by omega)] at a2; omega
    · rw [a1, nI_toInt (by omega)] at a2; omega
  · rcases h1 with ⟨a1, -⟩ | ⟨j, a1, hj, rfl⟩
    · rw [a2, nI_toInt (by omega)] at a1; omega
    · obtain rfl := nI_ij a2 a1 hi hj (by omega)
      exact ⟨_, rfl, rfl, mkSim hk hw rfl rfl rfl rfl hJ⟩
set_option maxHeartbeats 4000000 in
set_option maxRecDepth 20000 in
theorem J_differ {cB cI cE cS : ClassId} {z q : Nat → Nat} {x : Nat} {X1 nw w1 pl : va_W} {T rd : List Nat} {Sn : List Se} {Cw C2 : List Cg} {tm0 : Int32} {dn st : Nat} {Ts : Nat → List En} {cs : Bool} {cp : List Nat} {ops cg ns : Nat} {bg : Int32} {sT sC : Nat → Int32} (hJ : J9 Ts Sn Cw tm0 dn st ops cg ns bg sT sC)  {o9 r : Option Value} (h1 : (fun o9 X1 nw => o9 = some (.int (nI (chg (Ts 1) (Ts 0)).length)) ∧ kRep cB cI cE cS z X1 (pl ++ nw) T rd (Ts 0) (Ts 1) (Ts 2) Sn Cw (chg (Ts 1) (Ts 0)) tm0 dn (cAt (Ts 0) cs cp) st) o9 X1 nw) (h2 : (fun r w => r = some (.int (nI (jn (Ts 1) (Ts 0) 0).1)) ∧ RW cI x q w (nI 0) Ts T rd cs cp st ops cg ns bg sT sC) r w1) : ∃ v, o9 = some (.int v) ∧ r = some (.int v) ∧ Sim cB cI cE cS z q x (nI 0) X1 w1 (pl ++ nw) := by
  obtain ⟨rfl, hk⟩ := h1
  obtain ⟨rfl, hw⟩ := h2
  exact ⟨_, rfl, by rw [jn_cnt], mkSim hk hw rfl rfl rfl rfl hJ⟩
set_option maxHeartbeats 4000000 in
set_option maxRecDepth 20000 in
theorem J_entry {cB cI cE cS : ClassId} {z q : Nat → Nat} {x : Nat} {X1 nw w1 pl : va_W} {T rd : List Nat} {Sn : List Se} {Cw C2 : List Cg} {tm0 : Int32} {dn st : Nat} {Ts : Nat → List En} {cs : Bool} {cp : List Nat} {ops cg ns : Nat} {bg : Int32} {sT sC : Nat → Int32} (hJ : J9 Ts Sn Cw tm0 dn st ops cg ns bg sT sC) {tr ix w0 : Int32} {o9 r : Option Value} (h1 : (fun o9 X1 nw => o9 = some (.int (enK (trS (Ts 0) (Ts 1) (Ts 2) tr) ix w0)) ∧ kRep cB cI cE cS z X1 (pl ++ nw) T rd (Ts 0) (Ts 1) (Ts 2) Sn Cw C2 tm0 dn (cAt (Ts 0) cs cp) st) o9 X1 nw) (h2 : (fun r w => r = some (.int (enA Ts tr ix w0)) ∧ RW cI x q w (nI 0) Ts T rd cs cp st ops cg ns bg sT sC) r w1) : ∃ v, o9 = some (.int v) ∧ r = some (.int v) ∧ Sim cB cI cE cS z q x (nI 0) X1 w1 (pl ++ nw) := by
  obtain ⟨rfl, hk⟩ := h1
  obtain ⟨rfl, hw⟩ := h2
  exact ⟨_, rfl, by rw [enK_A], mkSim hk hw rfl rfl rfl rfl hJ⟩
set_option maxHeartbeats 4000000 in
set_option maxRecDepth 20000 in
theorem J_at {cB cI cE cS : ClassId} {z q : Nat → Nat} {x : Nat} {X1 nw w1 pl : va_W} {T rd : List Nat} {Sn : List Se} {Cw C2 : List Cg} {tm0 : Int32} {dn st : Nat} {Ts : Nat → List En} {cs : Bool} {cp : List Nat} {ops cg ns : Nat} {bg : Int32} {sT sC : Nat → Int32} (hJ : J9 Ts Sn Cw tm0 dn st ops cg ns bg sT sC) {tr ix k0 : Int32} {pb : Bool} {o9 r : Option Value} (h1 : (fun o9 X1 nw => o9 = some (.int (atK (trS (Ts 0) (Ts 1) (Ts 2) tr) ix pb k0)) ∧ kRep cB cI cE cS z X1 (pl ++ nw) T rd (Ts 0) (Ts 1) (Ts 2) Sn Cw C2 tm0 dn (cAt (Ts 0) cs cp) st) o9 X1 nw) (h2 : (fun r w => r = some (.int (atA Ts tr ix pb k0)) ∧ RW cI x q w (nI 0) Ts T rd cs cp st ops cg ns bg sT sC) r w1) : ∃ v, o9 = some (.int v) ∧ r = some (.int v) ∧ Sim cB cI cE cS z q x (nI 0) X1 w1 (pl ++ nw) := by
  obtain ⟨rfl, hk⟩ := h1
  obtain ⟨rfl, hw⟩ := h2
  exact ⟨_, rfl, by rw [atK_A], mkSim hk hw rfl rfl rfl rfl hJ⟩
set_option maxHeartbeats 4000000 in
set_option maxRecDepth 20000 in
theorem J_about {cB cI cE cS : ClassId} {z q : Nat → Nat} {x : Nat} {X1 nw w1 pl : va_W} {T rd : List Nat} {Sn : List Se} {Cw C2 : List Cg} {tm0 : Int32} {dn st : Nat} {Ts : Nat → List En} {cs : Bool} {cp : List Nat} {ops cg ns : Nat} {bg : Int32} {sT sC : Nat → Int32} (hJ : J9 Ts Sn Cw tm0 dn st ops cg ns bg sT sC) {w0 : Int32} {o9 r : Option Value} (h1 : (fun o9 X1 nw => o9 = some (.int (abK T (Ts 0) (Ts 1) (Ts 2) Sn Cw.length dn st w0)) ∧ kRep cB cI cE cS z X1 (pl ++ nw) T rd (Ts 0) (Ts 1) (Ts 2) Sn Cw C2 tm0 dn (cAt (Ts 0) cs cp) st) o9 X1 nw) (h2 : (fun r w => r = some (.int (abA Ts T st ops cg ns sC w0)) ∧ RW cI x q w (nI 0) Ts T rd cs cp st ops cg ns bg sT sC) r w1) : ∃ v, o9 = some (.int v) ∧ r = some (.int v) ∧ Sim cB cI cE cS z q x (nI 0) X1 w1 (pl ++ nw) := by
  obtain ⟨⟨⟨hs0, hl0, hc0⟩, hu0⟩, hT3, hT4, hH, ⟨hst, hdn, hcg, hop⟩, hr0, hw0, hn1⟩ := id hJ
  obtain ⟨rfl, hk⟩ := h1
  obtain ⟨rfl, hw⟩ := h2
  exact ⟨_, rfl, by rw [abK_A hH.1 (fun k hk => (hH.2.2 k hk).2.1) (fun h => (hr0 h).1) (fun h => ⟨(hw0 h).1, (hw0 h).2.2.1.symm⟩)], mkSim hk hw rfl rfl rfl rfl hJ⟩
set_option maxHeartbeats 4000000 in
set_option maxRecDepth 20000 in
theorem J_session {cB cI cE cS : ClassId} {z q : Nat → Nat} {x : Nat} {X1 nw w1 pl : va_W} {T rd : List Nat} {Sn : List Se} {Cw C2 : List Cg} {tm0 : Int32} {dn st : Nat} {Ts : Nat → List En} {cs : Bool} {cp : List Nat} {ops cg ns : Nat} {bg : Int32} {sT sC : Nat → Int32} (hJ : J9 Ts Sn Cw tm0 dn st ops cg ns bg sT sC) {ix w0 : Int32} {o9 r : Option Value} (h1 : (fun o9 X1 nw => o9 = some (.int (seK Sn ix w0)) ∧ kRep cB cI cE cS z X1 (pl ++ nw) T rd (Ts 0) (Ts 1) (Ts 2) Sn Cw C2 tm0 dn (cAt (Ts 0) cs cp) st) o9 X1 nw) (h2 : (fun r w => r = some (.int (sesA ns sT sC ix w0)) ∧ RW cI x q w (nI 0) Ts T rd cs cp st ops cg ns bg sT sC) r w1) : ∃ v, o9 = some (.int v) ∧ r = some (.int v) ∧ Sim cB cI cE cS z q x (nI 0) X1 w1 (pl ++ nw) := by
  obtain ⟨⟨⟨hs0, hl0, hc0⟩, hu0⟩, hT3, hT4, hH, ⟨hst, hdn, hcg, hop⟩, hr0, hw0, hn1⟩ := id hJ
  obtain ⟨rfl, hk⟩ := h1
  obtain ⟨rfl, hw⟩ := h2
  exact ⟨_, rfl, by rw [seK_A hH.1 (fun k hk => (hH.2.2 k hk).1) (fun k hk => (hH.2.2 k hk).2.1)], mkSim hk hw rfl rfl rfl rfl hJ⟩
set_option maxHeartbeats 4000000 in
set_option maxRecDepth 20000 in
theorem J_crash {cB cI cE cS : ClassId} {z q : Nat → Nat} {x : Nat} {X1 nw w1 pl : va_W} {T rd : List Nat} {Sn : List Se} {Cw C2 : List Cg} {tm0 : Int32} {dn st : Nat} {Ts : Nat → List En} {cs : Bool} {cp : List Nat} {ops cg ns : Nat} {bg : Int32} {sT sC : Nat → Int32} (hJ : J9 Ts Sn Cw tm0 dn st ops cg ns bg sT sC)  {k : Nat} {o9 r : Option Value} (h1 : (k = 0 ∧ (fun o9 X1 nw => o9 = none ∧ st = 1 ∧ kRep cB cI cE cS z X1 (pl ++ nw) T rd (Ts 0) (Ts 1) (Ts 2) Sn Cw C2 tm0 dn (cAt (Ts 0) cs cp) 2) o9 X1 nw) ∨ ∃ E, (E, k) ∈ [(ISE, 1)] ∧ (fun E X1 nw => E = ISE ∧ st ≠ 1 ∧ kRep cB cI cE cS z X1 (pl ++ nw) T rd (Ts 0) (Ts 1) (Ts 2) Sn Cw C2 tm0 dn (cAt (Ts 0) cs cp) st) E X1 nw) (h2 : (fun r w => r = none ∧ ((st = 1 ∧ RW cI x q w (nI 0) Ts T rd cs cp 2 ops cg ns bg sT sC) ∨ (st ≠ 1 ∧ RW cI x q w (nI 1) Ts T rd cs cp st ops cg ns bg sT sC))) r w1) : r = none ∧ Sim cB cI cE cS z q x (nI k) X1 w1 (pl ++ nw) := by
  obtain ⟨⟨⟨hs0, hl0, hc0⟩, hu0⟩, hT3, hT4, hH, ⟨hst, hdn, hcg, hop⟩, hr0, hw0, hn1⟩ := id hJ
  obtain ⟨rfl, h2⟩ := h2
  refine ⟨rfl, ?_⟩
  rcases h1 with ⟨rfl, -, a1, hk⟩ | ⟨E, hE, h1⟩
  · rcases h2 with ⟨-, hw⟩ | ⟨a2, hw⟩
    · exact mkSim hk hw rfl rfl rfl rfl ⟨⟨⟨hs0, hl0, hc0⟩, hu0⟩, hT3, hT4, hH, ⟨by omega, hdn, hcg, hop⟩, fun h => absurd h (by decide), fun _ => hw0 (by omega), fun h => absurd h (by decide)⟩
    · exact absurd a1 a2
  · simp only [List.mem_cons, Prod.mk.injEq, List.not_mem_nil, or_false] at hE
    obtain ⟨rfl, rfl⟩ := hE
    obtain ⟨-, a1, hk⟩ := h1
    rcases h2 with ⟨a2, hw⟩ | ⟨a2, hw⟩
    · exact absurd a2 a1
    · exact mkSim hk hw rfl rfl rfl rfl hJ
set_option maxHeartbeats 4000000 in
set_option maxRecDepth 20000 in
theorem J_set {cB cI cE cS : ClassId} {z q : Nat → Nat} {x : Nat} {X1 nw w1 pl : va_W} {T rd : List Nat} {Sn : List Se} {Cw C2 : List Cg} {tm0 : Int32} {dn st : Nat} {Ts : Nat → List En} {cs : Bool} {cp : List Nat} {ops cg ns : Nat} {bg : Int32} {sT sC : Nat → Int32} (hJ : J9 Ts Sn Cw tm0 dn st ops cg ns bg sT sC) {md tm : Int32} {k : Nat} {o9 r : Option Value} (h1 : (k = 0 ∧ (fun o9 X1 nw => o9 = none ∧ st ≠ 1 ∧ ∃ i, (cAt (Ts 0) cs cp) = nI i ∧ i < (Ts 0).length ∧ (0 ≤ md.toInt ∧ md.toInt < 4096 ∧ 0 ≤ tm.toInt) ∧ kRep cB cI cE cS z X1 (pl ++ nw) T rd ((Ts 0).set i (((Ts 0).getD i e0).1, ((Ts 0).getD i e0).2.1, md, tm, ct ((Ts 0).getD i e0))) (Ts 1) (Ts 2) Sn Cw C2 tm0 dn (cAt (Ts 0) cs cp) st) o9 X1 nw) ∨ ∃ E, (E, k) ∈ [(IAE, 1), (ISE, 2)] ∧ (fun E X1 nw => (E = ISE ∧ (st = 1 ∨ ¬ (0 ≤ (cAt (Ts 0) cs cp).toInt ∧ (cAt (Ts 0) cs cp).toInt < (Ts 0).length)) ∧ kRep cB cI cE cS z X1 (pl ++ nw) T rd (Ts 0) (Ts 1) (Ts 2) Sn Cw C2 tm0 dn (cAt (Ts 0) cs cp) st) ∨ (E = IAE ∧ st ≠ 1 ∧ (0 ≤ (cAt (Ts 0) cs cp).toInt ∧ (cAt (Ts 0) cs cp).toInt < (Ts 0).length) ∧ ¬ (0 ≤ md.toInt ∧ md.toInt < 4096 ∧ 0 ≤ tm.toInt) ∧ kRep cB cI cE cS z X1 (pl ++ nw) T rd (Ts 0) (Ts 1) (Ts 2) Sn Cw C2 tm0 dn (cAt (Ts 0) cs cp) st)) E X1 nw) (h2 : (fun r w => r = none ∧ (((st = 1 ∨ (cAt (Ts 0) cs cp).toInt < 0) ∧ RW cI x q w (nI 2) Ts T rd cs cp st ops cg ns bg sT sC) ∨ (¬ (st = 1 ∨ (cAt (Ts 0) cs cp).toInt < 0) ∧ (md.toInt < 0 ∨ 4095 < md.toInt ∨ tm.toInt < 0) ∧ RW cI x q w (nI 1) Ts T rd cs cp st ops cg ns bg sT sC) ∨ (¬ (st = 1 ∨ (cAt (Ts 0) cs cp).toInt < 0) ∧ ¬ (md.toInt < 0 ∨ 4095 < md.toInt ∨ tm.toInt < 0) ∧ ∃ i, i < (Ts 0).length ∧ (cAt (Ts 0) cs cp) = nI i ∧ RW cI x q w (nI 0) (va_up Ts 0 ((Ts 0).set i (((Ts 0).getD i e0).1, ((Ts 0).getD i e0).2.1, md, tm, ct ((Ts 0).getD i e0)))) T rd cs cp st ops cg ns bg sT sC))) r w1) : r = none ∧ Sim cB cI cE cS z q x (nI k) X1 w1 (pl ++ nw) := by
  obtain ⟨⟨⟨hs0, hl0, hc0⟩, hu0⟩, hT3, hT4, hH, ⟨hst, hdn, hcg, hop⟩, hr0, hw0, hn1⟩ := id hJ
  have hca := cA_rng (L := Ts 0) (cs := cs) (cp := cp) (by omega)
  obtain ⟨rfl, h2⟩ := h2
  refine ⟨rfl, ?_⟩
  rcases h1 with ⟨rfl, -, a1, i, a3, hi, a4, hk⟩ | ⟨E, hE, h1⟩
  · have hci : (cAt (Ts 0) cs cp).toInt = i := by rw [a3, nI_toInt (by omega)]
    rcases h2 with ⟨b1, hw⟩ | ⟨b1, b2, hw⟩ | ⟨b1, b2, j, hj, b3, hw⟩
    · omega
    · omega
    · obtain rfl := nI_ij a3 b3 hi hj (by omega)
      have hJS := JS_set ⟨⟨hs0, hl0, hc0⟩, hu0⟩ (u := (((Ts 0).getD i e0).1, ((Ts 0).getD i e0).2.1, md, tm, ct ((Ts 0).getD i e0))) hi rfl rfl (hu0 i hi).1 (by show csum (Ts 0) + (ct ((Ts 0).getD i e0)).length ≤ _; omega)
      exact mkSim hk hw up0.1.symm (up0.2 1 (by decide) (by decide)).symm (up0.2 2 (by decide) (by decide)).symm (by rw [up0.1]; exact (cAt_set hi (by rfl) _ _).symm) (hJ.src (by rw [up0.1]; exact hJS) up0.2)
  · simp only [List.mem_cons, Prod.mk.injEq, List.not_mem_nil, or_false] at hE
    rcases hE with ⟨rfl, rfl⟩ | ⟨rfl, rfl⟩
    · rcases h1 with ⟨e, -⟩ | ⟨-, a1, a2, a3, hk⟩
      · exact absurd e (by decide)
      · rcases h2 with ⟨b1, hw⟩ | ⟨b1, b2, hw⟩ | ⟨b1, b2, j, hj, b3, hw⟩
        · omega
        · exact mkSim hk hw rfl rfl rfl rfl hJ
        · omega
    · rcases h1 with ⟨-, a1, hk⟩ | ⟨e, -⟩
      · rcases h2 with ⟨b1, hw⟩ | ⟨b1, b2, hw⟩ | ⟨b1, b2, j, hj, b3, hw⟩
        · exact mkSim hk hw rfl rfl rfl rfl hJ
        · omega
        · omega
      · exact absurd e (by decide)
set_option maxHeartbeats 4000000 in
set_option maxRecDepth 20000 in
theorem J_cut {cB cI cE cS : ClassId} {z q : Nat → Nat} {x : Nat} {X1 nw w1 pl : va_W} {T rd : List Nat} {Sn : List Se} {Cw C2 : List Cg} {tm0 : Int32} {dn st : Nat} {Ts : Nat → List En} {cs : Bool} {cp : List Nat} {ops cg ns : Nat} {bg : Int32} {sT sC : Nat → Int32} (hJ : J9 Ts Sn Cw tm0 dn st ops cg ns bg sT sC) {ln : Int32} {k : Nat} {o9 r : Option Value} (h1 : (k = 0 ∧ (fun o9 X1 nw => o9 = none ∧ st ≠ 1 ∧ ∃ i, (cAt (Ts 0) cs cp) = nI i ∧ i < (Ts 0).length ∧ ¬ ((Ts 0).getD i e0).2.1.toInt = 2 ∧ (0 ≤ ln.toInt ∧ ln.toInt ≤ (ct ((Ts 0).getD i e0)).length) ∧ kRep cB cI cE cS z X1 (pl ++ nw) T rd ((Ts 0).set i (((Ts 0).getD i e0).1, ((Ts 0).getD i e0).2.1, ((Ts 0).getD i e0).2.2.1, ((Ts 0).getD i e0).2.2.2.1, (ct ((Ts 0).getD i e0)).take ln.toInt.toNat)) (Ts 1) (Ts 2) Sn Cw C2 tm0 dn (cAt (Ts 0) cs cp) st) o9 X1 nw) ∨ ∃ E, (E, k) ∈ [(IAE, 1), (ISE, 2)] ∧ (fun E X1 nw => (E = ISE ∧ (st = 1 ∨ ¬ (0 ≤ (cAt (Ts 0) cs cp).toInt ∧ (cAt (Ts 0) cs cp).toInt < (Ts 0).length) ∨ ∃ i, (cAt (Ts 0) cs cp) = nI i ∧ i < (Ts 0).length ∧ ((Ts 0).getD i e0).2.1.toInt = 2) ∧ kRep cB cI cE cS z X1 (pl ++ nw) T rd (Ts 0) (Ts 1) (Ts 2) Sn Cw C2 tm0 dn (cAt (Ts 0) cs cp) st) ∨ (E = IAE ∧ st ≠ 1 ∧ ∃ i, (cAt (Ts 0) cs cp) = nI i ∧ i < (Ts 0).length ∧ ¬ ((Ts 0).getD i e0).2.1.toInt = 2 ∧ (ln.toInt < 0 ∨ ((ct ((Ts 0).getD i e0)).length : Int) < ln.toInt) ∧ kRep cB cI cE cS z X1 (pl ++ nw) T rd (Ts 0) (Ts 1) (Ts 2) Sn Cw C2 tm0 dn (cAt (Ts 0) cs cp) st)) E X1 nw) (h2 : (fun r w => r = none ∧ (((st = 1 ∨ (cAt (Ts 0) cs cp).toInt < 0 ∨ ∃ i, i < (Ts 0).length ∧ (cAt (Ts 0) cs cp) = nI i ∧ ((Ts 0).getD i e0).2.1 = 2) ∧ RW cI x q w (nI 2) Ts T rd cs cp st ops cg ns bg sT sC) ∨ ∃ i, i < (Ts 0).length ∧ (cAt (Ts 0) cs cp) = nI i ∧ st ≠ 1 ∧ ¬ ((Ts 0).getD i e0).2.1 = 2 ∧ (((ln.toInt < 0 ∨ ((ct ((Ts 0).getD i e0)).length : Int) < ln.toInt) ∧ RW cI x q w (nI 1) Ts T rd cs cp st ops cg ns bg sT sC) ∨ (¬ (ln.toInt < 0 ∨ ((ct ((Ts 0).getD i e0)).length : Int) < ln.toInt) ∧ RW cI x q w (nI 0) (va_up (va_up Ts 5 ((Ts 0).set i (((Ts 0).getD i e0).1, ((Ts 0).getD i e0).2.1, ((Ts 0).getD i e0).2.2.1, ((Ts 0).getD i e0).2.2.2.1, (ct ((Ts 0).getD i e0)).take ln.toInt.toNat))) 0 ((Ts 0).set i (((Ts 0).getD i e0).1, ((Ts 0).getD i e0).2.1, ((Ts 0).getD i e0).2.2.1, ((Ts 0).getD i e0).2.2.2.1, (ct ((Ts 0).getD i e0)).take ln.toInt.toNat))) T rd cs cp st ops cg ns bg sT sC)))) r w1) : r = none ∧ Sim cB cI cE cS z q x (nI k) X1 w1 (pl ++ nw) := by
  obtain ⟨⟨⟨hs0, hl0, hc0⟩, hu0⟩, hT3, hT4, hH, ⟨hst, hdn, hcg, hop⟩, hr0, hw0, hn1⟩ := id hJ
  have hca := cA_rng (L := Ts 0) (cs := cs) (cp := cp) (by omega)
  obtain ⟨rfl, h2⟩ := h2
  refine ⟨rfl, ?_⟩
  have kin : ∀ i j, (cAt (Ts 0) cs cp) = nI i → (cAt (Ts 0) cs cp) = nI j → i < (Ts 0).length → j < (Ts 0).length → i = j := fun i j h1 h2 hi hj => nI_ij h1 h2 hi hj (by omega)
  rcases h1 with ⟨rfl, -, a1, i, a3, hi, a4, a5, hk⟩ | ⟨E, hE, h1⟩
  · have hci : (cAt (Ts 0) cs cp).toInt = i := by rw [a3, nI_toInt (by omega)]
    rcases h2 with ⟨b1, hw⟩ | ⟨j, hj, b3, b1, b2, h2⟩
    · rcases b1 with b1 | b1 | ⟨j, hj, b1, b2⟩
      · omega
      · omega
      · obtain rfl := kin i j a3 b1 hi hj
        exact absurd (i32_2.mp b2) a4
    · obtain rfl := kin i j a3 b3 hi hj
      rcases h2 with ⟨b4, hw⟩ | ⟨b4, hw⟩
      · omega
      · have hJS := JS_set ⟨⟨hs0, hl0, hc0⟩, hu0⟩ (u := (((Ts 0).getD i e0).1, ((Ts 0).getD i e0).2.1, ((Ts 0).getD i e0).2.2.1, ((Ts 0).getD i e0).2.2.2.1, (ct ((Ts 0).getD i e0)).take ln.toInt.toNat)) hi rfl rfl (by show ((ct ((Ts 0).getD i e0)).take ln.toInt.toNat).length ≤ 1500; rw [List.length_take]; have := (hu0 i hi).1; omega) (by show csum (Ts 0) + ((ct ((Ts 0).getD i e0)).take ln.toInt.toNat).length ≤ _; rw [List.length_take]; omega)
        exact mkSim hk hw up5.1.symm (up5.2 1 (by decide) (by decide)).symm (up5.2 2 (by decide) (by decide)).symm (by rw [up5.1]; exact (cAt_set hi (by rfl) _ _).symm) (hJ.src (by rw [up5.1]; exact hJS) up5.2)
  · simp only [List.mem_cons, Prod.mk.injEq, List.not_mem_nil, or_false] at hE
    rcases hE with ⟨rfl, rfl⟩ | ⟨rfl, rfl⟩
    · rcases h1 with ⟨e, -⟩ | ⟨-, a1, i, a3, hi, a4, a5, hk⟩
      · exact absurd e (by decide)
      · have hci : (cAt (Ts 0) cs cp).toInt = i := by rw [a3, nI_toInt (by omega)]
        rcases h2 with ⟨b1, hw⟩ | ⟨j, hj, b3, b1, b2, h2⟩
        · rcases b1 with b1 | b1 | ⟨j, hj, b1, b2⟩
          · omega
          · omega
          · obtain rfl := kin i j a3 b1 hi hj
            exact absurd (i32_2.mp b2) a4
        · obtain rfl := kin i j a3 b3 hi hj
          rcases h2 with ⟨b4, hw⟩ | ⟨b4, hw⟩
          · exact mkSim hk hw rfl rfl rfl rfl hJ
          · omega
    · rcases h1 with ⟨-, a1, hk⟩ | ⟨e, -⟩
      · rcases h2 with ⟨b1, hw⟩ | ⟨j, hj, b3, b1, b2, h2⟩
        · exact mkSim hk hw rfl rfl rfl rfl hJ
        · have hcj : (cAt (Ts 0) cs cp).toInt = j := by rw [b3, nI_toInt (by omega)]
          rcases a1 with a1 | a1 | ⟨i, a3, hi, a4⟩
          · omega
          · omega
          · obtain rfl := kin i j a3 b3 hi hj
            exact absurd (i32_2.mpr a4) b2
      · exact absurd e (by decide)
set_option maxHeartbeats 4000000 in
set_option maxRecDepth 20000 in
theorem J_remove {cB cI cE cS : ClassId} {z q : Nat → Nat} {x : Nat} {X1 nw w1 pl : va_W} {T rd : List Nat} {Sn : List Se} {Cw C2 : List Cg} {tm0 : Int32} {dn st : Nat} {Ts : Nat → List En} {cs : Bool} {cp : List Nat} {ops cg ns : Nat} {bg : Int32} {sT sC : Nat → Int32} (hJ : J9 Ts Sn Cw tm0 dn st ops cg ns bg sT sC)  {k : Nat} {o9 r : Option Value} (h1 : (k = 0 ∧ (fun o9 X1 nw => st ≠ 1 ∧ ∃ i, (cAt (Ts 0) cs cp) = nI i ∧ i < (Ts 0).length ∧ o9 = some (.int (nI (1 + cntB ((Ts 0).getD i e0).1 ((Ts 0).drop (i + 1))))) ∧ kRep cB cI cE cS z X1 (pl ++ nw) T rd (drpL (Ts 0) i (1 + cntB ((Ts 0).getD i e0).1 ((Ts 0).drop (i + 1)))) (Ts 1) (Ts 2) Sn Cw C2 tm0 dn (-1) st) o9 X1 nw) ∨ ∃ E, (E, k) ∈ [(ISE, 1)] ∧ (fun E X1 nw => E = ISE ∧ (st = 1 ∨ ¬ (0 ≤ (cAt (Ts 0) cs cp).toInt ∧ (cAt (Ts 0) cs cp).toInt < (Ts 0).length)) ∧ kRep cB cI cE cS z X1 (pl ++ nw) T rd (Ts 0) (Ts 1) (Ts 2) Sn Cw C2 tm0 dn (cAt (Ts 0) cs cp) st) E X1 nw) (h2 : (fun r w => ((st = 1 ∨ (cAt (Ts 0) cs cp).toInt < 0) ∧ r = some (.int (nI 0)) ∧ RW cI x q w (nI 1) Ts T rd cs cp st ops cg ns bg sT sC) ∨ (¬ (st = 1 ∨ (cAt (Ts 0) cs cp).toInt < 0) ∧ r = some (.int (nI ((Ts 0).length - ((Ts 0).filter (fun u => !blw u.1 cp)).length))) ∧ RW cI x q w (nI 0) (va_up (va_up Ts 5 ((Ts 0).filter (fun u => !blw u.1 cp))) 0 ((Ts 0).filter (fun u => !blw u.1 cp))) T rd false cp st ops cg ns bg sT sC)) r w1) : ∃ b, r = some (.int b) ∧ (k = 0 → o9 = some (.int b)) ∧ Sim cB cI cE cS z q x (nI k) X1 w1 (pl ++ nw) := by
  obtain ⟨⟨⟨hs0, hl0, hc0⟩, hu0⟩, hT3, hT4, hH, ⟨hst, hdn, hcg, hop⟩, hr0, hw0, hn1⟩ := id hJ
  have hca := cA_rng (L := Ts 0) (cs := cs) (cp := cp) (by omega)
  rcases h1 with ⟨rfl, a1, i, a3, hi, rfl, hk⟩ | ⟨E, hE, h1⟩
  · have hci : (cAt (Ts 0) cs cp).toInt = i := by rw [a3, nI_toInt (by omega)]
    rcases h2 with ⟨b1, rfl, hw⟩ | ⟨b1, rfl, hw⟩
    · omega
    · have hcp : ((Ts 0).getD i e0).1 = cp := by
        rcases cA_or (Ts 0) cs cp (by omega) with h | ⟨j, hj, h2, h3, -⟩
        · rw [h] at hci; exact absurd hci (by rw [m1_toInt]; omega)
        · obtain rfl := nI_ij a3 h2 hi hj (by omega)
          exact h3
      have hf := rm_filter hs0 hi
      have hc := cnt_ok hi ((Ts 0).getD i e0).1
      rw [hcp] at hf hk hc
      rw [hf] at hw
      have hle : (drpL (Ts 0) i (1 + cntB cp ((Ts 0).drop (i + 1)))).length = (Ts 0).length - (1 + cntB cp ((Ts 0).drop (i + 1))) := drpL_len hc
      have hJS : JS (drpL (Ts 0) i (1 + cntB cp ((Ts 0).drop (i + 1)))) := by
        refine ⟨⟨?_, by omega, Nat.le_trans drpL_csum hc0⟩, fun j hj => ?_⟩
        · rw [← hf]; exact srt_P.mpr ((srt_P.mp hs0).filter _)
        · rw [drpL_get hc]
          split
          · exact hu0 j (by omega)
          · exact hu0 _ (by omega)
      refine ⟨_, rfl, fun _ => ?_, mkSim hk hw up5.1.symm (up5.2 1 (by decide) (by decide)).symm (up5.2 2 (by decide) (by decide)).symm rfl (hJ.src (by rw [up5.1]; exact hJS) up5.2)⟩
      rw [hf, hle, hcp, show (Ts 0).length - ((Ts 0).length - (1 + cntB cp ((Ts 0).drop (i + 1)))) = 1 + cntB cp ((Ts 0).drop (i + 1)) by omega]
  · simp only [List.mem_cons, Prod.mk.injEq, List.not_mem_nil, or_false] at hE
    obtain ⟨rfl, rfl⟩ := hE
    obtain ⟨-, a1, hk⟩ := h1
    rcases h2 with ⟨b1, rfl, hw⟩ | ⟨b1, rfl, hw⟩
    · exact ⟨_, rfl, fun h => absurd h (by decide), mkSim hk hw rfl rfl rfl rfl hJ⟩
    · omega
set_option maxHeartbeats 4000000 in
set_option maxRecDepth 20000 in
theorem J_restore {cB cI cE cS : ClassId} {z q : Nat → Nat} {x : Nat} {X1 nw w1 pl : va_W} {T rd : List Nat} {Sn : List Se} {Cw C2 : List Cg} {tm0 : Int32} {dn st : Nat} {Ts : Nat → List En} {cs : Bool} {cp : List Nat} {ops cg ns : Nat} {bg : Int32} {sT sC : Nat → Int32} (hJ : J9 Ts Sn Cw tm0 dn st ops cg ns bg sT sC) {tm : Int32} {k : Nat} {o9 r : Option Value} (h1 : (k = 0 ∧ (fun o9 X1 nw => st = 0 ∧ ∃ k, (ltst (fun k => (Sn.getD k s0).1) tm Sn.length) = nI k ∧ k < Sn.length ∧ o9 = some (.int (nI (Sn.getD k s0).2.2.length)) ∧ kRep cB cI cE cS z X1 (pl ++ nw) T rd (Ts 0) (Ts 1) ((Sn.getD k s0).2.2) Sn Cw C2 tm0 dn (cAt (Ts 0) cs cp) st) o9 X1 nw) ∨ ∃ E, (E, k) ∈ [(ISE, 1)] ∧ (fun E X1 nw => E = ISE ∧ (st ≠ 0 ∨ ¬ (0 ≤ (ltst (fun k => (Sn.getD k s0).1) tm Sn.length).toInt ∧ (ltst (fun k => (Sn.getD k s0).1) tm Sn.length).toInt < Sn.length)) ∧ kRep cB cI cE cS z X1 (pl ++ nw) T rd (Ts 0) (Ts 1) (Ts 2) Sn Cw C2 tm0 dn (cAt (Ts 0) cs cp) st) E X1 nw) (h2 : (fun r w => ((st ≠ 0 ∨ (ltst sT tm ns).toInt < 0) ∧ r = some (.int (nI 0)) ∧ RW cI x q w (nI 1) Ts T rd cs cp st ops cg ns bg sT sC) ∨ ∃ k, ¬ (st ≠ 0 ∨ (ltst sT tm ns).toInt < 0) ∧ k < ns ∧ ltst sT tm ns = nI k ∧ r = some (.int (nI (Ts (6 + k)).length)) ∧ RW cI x q w (nI 0) (va_up Ts 2 (Ts (6 + k))) T rd cs cp st ops cg ns bg sT sC) r w1) : ∃ b, r = some (.int b) ∧ (k = 0 → o9 = some (.int b)) ∧ Sim cB cI cE cS z q x (nI k) X1 w1 (pl ++ nw) := by
  obtain ⟨⟨⟨hs0, hl0, hc0⟩, hu0⟩, hT3, hT4, hH, ⟨hst, hdn, hcg, hop⟩, hr0, hw0, hn1⟩ := id hJ
  have he : ltst (fun k => (Sn.getD k s0).1) tm Sn.length = ltst sT tm ns := by rw [hH.1]; exact ltst_congr tm (fun k hk => (hH.2.2 k hk).1)
  have hns := hH.2.1
  have hlen := hH.1
  rw [he] at h1
  rcases h1 with ⟨rfl, a1, k, a2, hk9, rfl, hk⟩ | ⟨E, hE, h1⟩
  · have hci : (ltst sT tm ns).toInt = k := by rw [a2, nI_toInt (by omega)]
    rcases h2 with ⟨b1, rfl, hw⟩ | ⟨j, b1, hj, b2, rfl, hw⟩
    · omega
    · obtain rfl := nI_ij a2 b2 (n := 40) (by omega) (by omega) (by decide)
      have e2 := (hH.2.2 k (by omega)).2.2
      refine ⟨_, rfl, fun _ => by rw [e2], mkSim hk hw (by rw [va_up_ne _ _ (by decide)]) (by rw [va_up_ne _ _ (by decide)]) (by rw [va_up_self, e2]) (by rw [va_up_ne _ _ (by decide)]) ?_⟩
      refine ⟨by rw [va_up_ne _ _ (by decide)]; exact ⟨⟨hs0, hl0, hc0⟩, hu0⟩, by rw [va_up_ne _ _ (by decide)]; exact hT3, by rw [va_up_ne _ _ (by decide)]; exact hT4, hH.up (fun k hk => va_up_ne _ _ (by omega)), ⟨hst, hdn, hcg, hop⟩, by rw [va_up_ne _ _ (by decide)]; exact hr0, by rw [va_up_ne _ _ (by decide), va_up_ne _ _ (by decide), va_up_ne _ _ (by decide)]; exact hw0, hn1⟩
  · simp only [List.mem_cons, Prod.mk.injEq, List.not_mem_nil, or_false] at hE
    obtain ⟨rfl, rfl⟩ := hE
    obtain ⟨-, a1, hk⟩ := h1
    rcases h2 with ⟨b1, rfl, hw⟩ | ⟨j, b1, hj, b2, rfl, hw⟩
    · exact ⟨_, rfl, fun h => absurd h (by decide), mkSim hk hw rfl rfl rfl rfl hJ⟩
    · rw [b2, nI_toInt (by omega)] at a1; omega
set_option maxHeartbeats 4000000 in
set_option maxRecDepth 20000 in
theorem J_prune {cB cI cE cS : ClassId} {z q : Nat → Nat} {x : Nat} {X1 nw w1 pl : va_W} {T rd : List Nat} {Sn : List Se} {Cw C2 : List Cg} {tm0 : Int32} {dn st : Nat} {Ts : Nat → List En} {cs : Bool} {cp : List Nat} {ops cg ns : Nat} {bg : Int32} {sT sC : Nat → Int32} (hJ : J9 Ts Sn Cw tm0 dn st ops cg ns bg sT sC) {tm : Int32} {k : Nat} {o9 r : Option Value} (h1 : (k = 0 ∧ (fun o9 X1 nw => st = 0 ∧ ((¬ (0 < (ltst (fun k => (Sn.getD k s0).1) tm Sn.length).toInt ∧ (ltst (fun k => (Sn.getD k s0).1) tm Sn.length).toInt < Sn.length) ∧ o9 = some (.int (nI 0)) ∧ kRep cB cI cE cS z X1 (pl ++ nw) T rd (Ts 0) (Ts 1) (Ts 2) Sn Cw C2 tm0 dn (cAt (Ts 0) cs cp) st) ∨ ∃ k, (ltst (fun k => (Sn.getD k s0).1) tm Sn.length) = nI k ∧ 0 < k ∧ k < Sn.length ∧ o9 = some (.int (nI k)) ∧ kRep cB cI cE cS z X1 (pl ++ nw) T rd (Ts 0) (Ts 1) (Ts 2) (Sn.drop k) Cw C2 tm0 dn (cAt (Ts 0) cs cp) st)) o9 X1 nw) ∨ ∃ E, (E, k) ∈ [(ISE, 1)] ∧ (fun E X1 nw => E = ISE ∧ st ≠ 0 ∧ kRep cB cI cE cS z X1 (pl ++ nw) T rd (Ts 0) (Ts 1) (Ts 2) Sn Cw C2 tm0 dn (cAt (Ts 0) cs cp) st) E X1 nw) (h2 : (fun r w => (st ≠ 0 ∧ r = some (.int (nI 0)) ∧ RW cI x q w (nI 1) Ts T rd cs cp st ops cg ns bg sT sC) ∨ (st = 0 ∧ (ltst sT tm ns).toInt ≤ 0 ∧ r = some (.int (nI 0)) ∧ RW cI x q w (nI 0) Ts T rd cs cp st ops cg ns bg sT sC) ∨ ∃ (k : Nat) (T2 : Nat → List En) (g1 g2 : Nat → Int32), st = 0 ∧ 0 < k ∧ k < ns ∧ ltst sT tm ns = nI k ∧ r = some (.int (nI k)) ∧ (∀ i, i < 6 → T2 i = Ts i) ∧ (∀ i, i < ns - k → T2 (6 + i) = Ts (6 + i + k)) ∧ (∀ i, i < ns - k → g1 i = sT (i + k)) ∧ (∀ i, i < ns - k → g2 i = sC (i + k)) ∧ RW cI x q w (nI 0) T2 T rd cs cp st ops cg (ns - k) bg g1 g2) r w1) : ∃ b, r = some (.int b) ∧ (k = 0 → o9 = some (.int b)) ∧ Sim cB cI cE cS z q x (nI k) X1 w1 (pl ++ nw) := by
  obtain ⟨⟨⟨hs0, hl0, hc0⟩, hu0⟩, hT3, hT4, hH, ⟨hst, hdn, hcg, hop⟩, hr0, hw0, hn1⟩ := id hJ
  have he : ltst (fun k => (Sn.getD k s0).1) tm Sn.length = ltst sT tm ns := by rw [hH.1]; exact ltst_congr tm (fun k hk => (hH.2.2 k hk).1)
  have hns := hH.2.1
  have hlen := hH.1
  have hrg : (ltst sT tm ns).toInt < ns := by
    rcases ltst_bd sT tm ns with h | ⟨k, h1, h2, -⟩
    · rw [h, m1_toInt]; omega
    · rw [h2, nI_toInt (by omega)]; omega
  rw [he] at h1
  rcases h1 with ⟨rfl, a1, h1⟩ | ⟨E, hE, h1⟩
  · rcases h2 with ⟨b1, rfl, hw⟩ | ⟨b1, b2, rfl, hw⟩ | ⟨k, T2, g1, g2, b1, hk0, hk1, b2, rfl, c1, c2, c3, c4, hw⟩
    · omega
    · rcases h1 with ⟨a2, rfl, hk⟩ | ⟨k, a2, hk0, hk1, rfl, hk⟩
      · exact ⟨_, rfl, fun _ => rfl, mkSim hk hw rfl rfl rfl rfl hJ⟩
      · rw [a2, nI_toInt (by omega)] at b2; omega
    · rcases h1 with ⟨a2, rfl, hk⟩ | ⟨j, a2, hj0, hj1, rfl, hk⟩
      · rw [b2, nI_toInt (by omega)] at a2; omega
      · obtain rfl := nI_ij a2 b2 (n := 40) (by omega) (by omega) (by decide)
        refine ⟨_, rfl, fun _ => rfl, mkSim hk hw (c1 0 (by decide)).symm (c1 1 (by decide)).symm (c1 2 (by decide)).symm (by rw [c1 0 (by decide)]) ?_⟩
        refine ⟨by rw [c1 0 (by decide)]; exact ⟨⟨hs0, hl0, hc0⟩, hu0⟩, by rw [c1 3 (by decide)]; exact hT3, by rw [c1 4 (by decide)]; exact hT4, ⟨by rw [List.length_drop]; omega, by omega, fun i hi => ?_⟩, ⟨hst, hdn, hcg, hop⟩, by rw [c1 1 (by decide)]; exact hr0, fun h => absurd a1 h, fun h => by omega⟩
        have e1 : (Sn.drop j).getD i s0 = Sn.getD (i + j) s0 := by simp only [List.getD_eq_getElem?_getD]; rw [List.getElem?_drop, Nat.add_comm]
        rw [e1, c2 i hi, c3 i hi, c4 i hi, show 6 + i + j = 6 + (i + j) by omega]
        exact hH.2.2 (i + j) (by omega)
  · simp only [List.mem_cons, Prod.mk.injEq, List.not_mem_nil, or_false] at hE
    obtain ⟨rfl, rfl⟩ := hE
    obtain ⟨-, a1, hk⟩ := h1
    rcases h2 with ⟨b1, rfl, hw⟩ | ⟨b1, b2, rfl, hw⟩ | ⟨k, T2, g1, g2, b1, hk0, hk1, b2, rfl, c1, c2, c3, c4, hw⟩
    · exact ⟨_, rfl, fun h => absurd h (by decide), mkSim hk hw rfl rfl rfl rfl hJ⟩
    · exact absurd b1 a1
    · exact absurd b1 a1
set_option maxHeartbeats 4000000 in
set_option maxRecDepth 20000 in
theorem J_begin {cB cI cE cS : ClassId} {z q : Nat → Nat} {x : Nat} {X1 nw w1 pl : va_W} {T rd : List Nat} {Sn : List Se} {Cw C2 : List Cg} {tm0 : Int32} {dn st : Nat} {Ts : Nat → List En} {cs : Bool} {cp : List Nat} {ops cg ns : Nat} {bg : Int32} {sT sC : Nat → Int32} (hJ : J9 Ts Sn Cw tm0 dn st ops cg ns bg sT sC) {tm : Int32} (hkC : (chg (Ts 1) (Ts 0)).length ≤ 180) {k : Nat} {o9 r : Option Value} (h1 : (k = 0 ∧ (fun o9 X1 nw => o9 = some (.int (nI (3 + 2 * (chg (Ts 1) (Ts 0)).length))) ∧ st = 0 ∧ Sn.length ≠ 40 ∧ 0 ≤ tm.toInt ∧ (lstT Sn).toInt < tm.toInt ∧ kRep cB cI cE cS z X1 (pl ++ nw) T rd (Ts 0) (Ts 1) (Ts 2) Sn (chg (Ts 1) (Ts 0)) C2 tm 0 (cAt (Ts 0) cs cp) 1) o9 X1 nw) ∨ ∃ E, (E, k) ∈ [(IAE, 1), (ISE, 2)] ∧ (fun E X1 nw => (E = ISE ∧ (st ≠ 0 ∨ Sn.length = 40) ∧ kRep cB cI cE cS z X1 (pl ++ nw) T rd (Ts 0) (Ts 1) (Ts 2) Sn Cw C2 tm0 dn (cAt (Ts 0) cs cp) st) ∨ (E = IAE ∧ st = 0 ∧ Sn.length ≠ 40 ∧ (tm.toInt < 0 ∨ tm.toInt ≤ (lstT Sn).toInt) ∧ kRep cB cI cE cS z X1 (pl ++ nw) T rd (Ts 0) (Ts 1) (Ts 2) Sn Cw C2 tm0 dn (cAt (Ts 0) cs cp) st)) E X1 nw) (h2 : (fun r w => ((st ≠ 0 ∨ ns = 40) ∧ r = some (.int (nI 0)) ∧ RW cI x q w (nI 2) Ts T rd cs cp st ops cg ns bg sT sC) ∨ (¬ (st ≠ 0 ∨ ns = 40) ∧ (tm.toInt < 0 ∨ (0 < ns ∧ tm.toInt ≤ (sT (ns - 1)).toInt)) ∧ r = some (.int (nI 0)) ∧ RW cI x q w (nI 1) Ts T rd cs cp st ops cg ns bg sT sC) ∨ (¬ (st ≠ 0 ∨ ns = 40) ∧ ¬ (tm.toInt < 0 ∨ (0 < ns ∧ tm.toInt ≤ (sT (ns - 1)).toInt)) ∧ r = some (.int (nI (2 * (jn (Ts 1) (Ts 0) 0).1 + 3))) ∧ RW cI x q w (nI 0) (va_up (va_up Ts 3 (Ts 1)) 4 (Ts 0)) T rd cs cp 1 0 ((jn (Ts 1) (Ts 0) 0).1) ns tm sT sC)) r w1) : ∃ b, r = some (.int b) ∧ (k = 0 → o9 = some (.int b)) ∧ Sim cB cI cE cS z q x (nI k) X1 w1 (pl ++ nw) := by
  obtain ⟨⟨⟨hs0, hl0, hc0⟩, hu0⟩, hT3, hT4, hH, ⟨hst, hdn, hcg, hop⟩, hr0, hw0, hn1⟩ := id hJ
  have hns := hH.2.1
  have hlen := hH.1
  have hlt : (0 ≤ tm.toInt → (tm.toInt ≤ (lstT Sn).toInt ↔ (0 < ns ∧ tm.toInt ≤ (sT (ns - 1)).toInt))) := fun h => by
    unfold lstT
    rw [hlen]
    by_cases h0 : 0 < ns
    · rw [if_pos h0, (hH.2.2 (ns - 1) (by omega)).1]; omega
    · rw [if_neg h0, m1_toInt]; omega
  rcases h1 with ⟨rfl, rfl, a1, a2, a3, a4, hk⟩ | ⟨E, hE, h1⟩
  · have h9 := hlt a3
    rcases h2 with ⟨b1, rfl, hw⟩ | ⟨b1, b2, rfl, hw⟩ | ⟨b1, b2, rfl, hw⟩
    · omega
    · omega
    · refine ⟨_, rfl, fun _ => by rw [jn_cnt, Nat.add_comm], mkSim hk hw (by rw [va_up_ne _ _ (by decide), va_up_ne _ _ (by decide)]) (by rw [va_up_ne _ _ (by decide), va_up_ne _ _ (by decide)]) (by rw [va_up_ne _ _ (by decide), va_up_ne _ _ (by decide)]) (by rw [va_up_ne _ _ (by decide), va_up_ne _ _ (by decide)]) ?_⟩
      have e0 : va_up (va_up Ts 3 (Ts 1)) 4 (Ts 0) 0 = Ts 0 := by rw [va_up_ne _ _ (by decide), va_up_ne _ _ (by decide)]
      have e1 : va_up (va_up Ts 3 (Ts 1)) 4 (Ts 0) 1 = Ts 1 := by rw [va_up_ne _ _ (by decide), va_up_ne _ _ (by decide)]
      have e3 : va_up (va_up Ts 3 (Ts 1)) 4 (Ts 0) 3 = Ts 1 := by rw [va_up_ne _ _ (by decide), va_up_self]
      have e4 : va_up (va_up Ts 3 (Ts 1)) 4 (Ts 0) 4 = Ts 0 := by rw [va_up_self]
      have hcl : (chg (Ts 1) (Ts 0)).length ≤ 180 := hkC
      refine ⟨by rw [e0]; exact ⟨⟨hs0, hl0, hc0⟩, hu0⟩, by rw [e3]; exact (hr0 a1).2, by rw [e4]; exact ⟨hs0, hl0, hc0⟩, hH.up (fun k hk => by rw [va_up_ne _ _ (by omega), va_up_ne _ _ (by omega)]), ⟨by omega, by omega, by rw [jn_cnt]; exact hcl, by omega⟩, fun h => absurd h (by decide), fun _ => ?_, fun _ => by omega⟩
      rw [e3, e4, e1]
      exact ⟨rfl, rfl, by rw [jn_cnt], rfl, by omega, mir_0.symm⟩
  · simp only [List.mem_cons, Prod.mk.injEq, List.not_mem_nil, or_false] at hE
    rcases hE with ⟨rfl, rfl⟩ | ⟨rfl, rfl⟩
    · rcases h1 with ⟨e, -⟩ | ⟨-, a1, a2, a3, hk⟩
      · exact absurd e (by decide)
      · rcases h2 with ⟨b1, rfl, hw⟩ | ⟨b1, b2, rfl, hw⟩ | ⟨b1, b2, rfl, hw⟩
        · omega
        · exact ⟨_, rfl, fun h => absurd h (by decide), mkSim hk hw rfl rfl rfl rfl hJ⟩
        · have h9 := hlt (by omega)
          omega
    · rcases h1 with ⟨-, a1, hk⟩ | ⟨e, -⟩
      · rcases h2 with ⟨b1, rfl, hw⟩ | ⟨b1, b2, rfl, hw⟩ | ⟨b1, b2, rfl, hw⟩
        · exact ⟨_, rfl, fun h => absurd h (by decide), mkSim hk hw rfl rfl rfl rfl hJ⟩
        · omega
        · omega
      · exact absurd e (by decide)
set_option maxHeartbeats 4000000 in
set_option maxRecDepth 20000 in
theorem J_make {cB cI cE cS : ClassId} {z q : Nat → Nat} {x : Nat} {X1 nw w1 pl : va_W} {T rd : List Nat} {Sn : List Se} {Cw C2 : List Cg} {tm0 : Int32} {dn st : Nat} {Ts : Nat → List En} {cs : Bool} {cp : List Nat} {ops cg ns : Nat} {bg : Int32} {sT sC : Nat → Int32} (hJ : J9 Ts Sn Cw tm0 dn st ops cg ns bg sT sC) {kd md tm : Int32} {k : Nat} {o9 r : Option Value} (h1 : (k = 0 ∧ (fun o9 X1 nw => st ≠ 1 ∧ (1 ≤ kd.toInt ∧ kd.toInt ≤ 3 ∧ 0 ≤ md.toInt ∧ md.toInt < 4096 ∧ 0 ≤ tm.toInt ∧ pathOK T = true) ∧ ¬ ((fnd2 (Ts 0) T).toInt ≠ -1 ∨ dirC (Ts 0) T = false ∨ 60 ≤ (Ts 0).length) ∧ o9 = some (.int (nI (putL (Ts 0) (T, kd, md, tm, [])).length)) ∧ kRep cB cI cE cS z X1 (pl ++ nw) ([]) rd (putL (Ts 0) (T, kd, md, tm, [])) (Ts 1) (Ts 2) Sn Cw C2 tm0 dn (fnd2 (putL (Ts 0) (T, kd, md, tm, [])) T) st) o9 X1 nw) ∨ ∃ E, (E, k) ∈ [(IAE, 1), (ISE, 2)] ∧ (fun E X1 nw => (E = ISE ∧ st = 1 ∧ kRep cB cI cE cS z X1 (pl ++ nw) T rd (Ts 0) (Ts 1) (Ts 2) Sn Cw C2 tm0 dn (cAt (Ts 0) cs cp) st) ∨ (E = IAE ∧ st ≠ 1 ∧ ¬ (1 ≤ kd.toInt ∧ kd.toInt ≤ 3 ∧ 0 ≤ md.toInt ∧ md.toInt < 4096 ∧ 0 ≤ tm.toInt ∧ pathOK T = true) ∧ kRep cB cI cE cS z X1 (pl ++ nw) ([]) rd (Ts 0) (Ts 1) (Ts 2) Sn Cw C2 tm0 dn (cAt (Ts 0) cs cp) st) ∨ (E = ISE ∧ st ≠ 1 ∧ (1 ≤ kd.toInt ∧ kd.toInt ≤ 3 ∧ 0 ≤ md.toInt ∧ md.toInt < 4096 ∧ 0 ≤ tm.toInt ∧ pathOK T = true) ∧ ((fnd2 (Ts 0) T).toInt ≠ -1 ∨ dirC (Ts 0) T = false ∨ 60 ≤ (Ts 0).length) ∧ kRep cB cI cE cS z X1 (pl ++ nw) ([]) rd (Ts 0) (Ts 1) (Ts 2) Sn Cw C2 tm0 dn (cAt (Ts 0) cs cp) st)) E X1 nw) (h2 : (fun r w => (st = 1 ∧ r = some (.int (nI 0)) ∧ RW cI x q w (nI 2) Ts T rd cs cp st ops cg ns bg sT sC) ∨ (st ≠ 1 ∧ ¬ (1 ≤ kd.toInt ∧ kd.toInt ≤ 3 ∧ 0 ≤ md.toInt ∧ md.toInt < 4096 ∧ 0 ≤ tm.toInt ∧ pathOK T = true) ∧ r = some (.int (nI 0)) ∧ RW cI x q w (nI 1) Ts ([]) rd cs cp st ops cg ns bg sT sC) ∨ (st ≠ 1 ∧ (1 ≤ kd.toInt ∧ kd.toInt ≤ 3 ∧ 0 ≤ md.toInt ∧ md.toInt < 4096 ∧ 0 ≤ tm.toInt ∧ pathOK T = true) ∧ (0 ≤ (fndr (Ts 0) T (Ts 0).length).toInt ∨ dirOK (Ts 0) T = false ∨ (Ts 0).length = 60) ∧ r = some (.int (nI 0)) ∧ RW cI x q w (nI 2) Ts ([]) rd cs cp st ops cg ns bg sT sC) ∨ (st ≠ 1 ∧ (1 ≤ kd.toInt ∧ kd.toInt ≤ 3 ∧ 0 ≤ md.toInt ∧ md.toInt < 4096 ∧ 0 ≤ tm.toInt ∧ pathOK T = true) ∧ ¬ (0 ≤ (fndr (Ts 0) T (Ts 0).length).toInt ∨ dirOK (Ts 0) T = false ∨ (Ts 0).length = 60) ∧ r = some (.int (nI ((Ts 0).take (insI T (Ts 0)) ++ [(T, kd, md, tm, [])] ++ (Ts 0).drop (insI T (Ts 0))).length)) ∧ RW cI x q w (nI 0) (va_up (va_up Ts 5 ((Ts 0).take (insI T (Ts 0)) ++ [(T, kd, md, tm, [])] ++ (Ts 0).drop (insI T (Ts 0)))) 0 ((Ts 0).take (insI T (Ts 0)) ++ [(T, kd, md, tm, [])] ++ (Ts 0).drop (insI T (Ts 0)))) ([]) rd true T st ops cg ns bg sT sC)) r w1) : ∃ b, r = some (.int b) ∧ (k = 0 → o9 = some (.int b)) ∧ Sim cB cI cE cS z q x (nI k) X1 w1 (pl ++ nw) := by
  obtain ⟨⟨⟨hs0, hl0, hc0⟩, hu0⟩, hT3, hT4, hH, ⟨hst, hdn, hcg, hop⟩, hr0, hw0, hn1⟩ := id hJ
  have hF : ((fnd2 (Ts 0) T).toInt ≠ -1 ∨ dirC (Ts 0) T = false ∨ 60 ≤ (Ts 0).length) ↔ (0 ≤ (fndr (Ts 0) T (Ts 0).length).toInt ∨ dirOK (Ts 0) T = false ∨ (Ts 0).length = 60) := by
    rw [fnd2_fndr hs0 (by omega), dirC_OK hs0 (by omega)]
    rcases fndr_bd (Ts 0) T (Ts 0).length (by omega) with ⟨h3, -⟩ | ⟨i, h3, h4, -⟩
    · rw [h3, m1_toInt]
      constructor
      · rintro (h | h | h)
        · exact absurd rfl h
        · exact Or.inr (Or.inl h)
        · exact Or.inr (Or.inr (by omega))
      · rintro (h | h | h)
        · omega
        · exact Or.inr (Or.inl h)
        · exact Or.inr (Or.inr (by omega))
    · have e1 : (nI i).toInt = i := nI_toInt (by omega)
      rw [h4, e1]
      exact ⟨fun _ => Or.inl (by omega), fun _ => Or.inl (by omega)⟩
  rcases h1 with ⟨rfl, a1, a2, a3, rfl, hk⟩ | ⟨E, hE, h1⟩
  · rcases h2 with ⟨b1, rfl, hw⟩ | ⟨b1, b2, rfl, hw⟩ | ⟨b1, b2, b3, rfl, hw⟩ | ⟨b1, b2, b3, rfl, hw⟩
    · exact absurd b1 a1
    · exact absurd a2 b2
    · exact absurd (hF.mpr b3) a3
    · have hm1 : (fnd2 (Ts 0) T).toInt = -1 := by
        rcases Int.decEq (fnd2 (Ts 0) T).toInt (-1) with h | h
        · exact absurd (Or.inl h) a3
        · exact h
      have hl60 : ¬ 60 ≤ (Ts 0).length := fun h => a3 (Or.inr (Or.inr h))
      have hnf : ¬ fd9 T (Ts 0) := fnd2_m1 (by omega) hm1
      have e1 : putL (Ts 0) (T, kd, md, tm, []) = (Ts 0).take (insI T (Ts 0)) ++ [(T, kd, md, tm, [])] ++ (Ts 0).drop (insI T (Ts 0)) := putL_new (u := (T, kd, md, tm, [])) hnf
      have hsN : srt (putL (Ts 0) (T, kd, md, tm, [])) := srt_put hs0 hnf
      have e2 : putL (Ts 0) (T, kd, md, tm, []) = insL (Ts 0) (insI T (Ts 0)) (T, kd, md, tm, []) := putL_new (u := (T, kd, md, tm, [])) hnf
      have hil := insI_le T (Ts 0)
      have hlN : (putL (Ts 0) (T, kd, md, tm, [])).length = (Ts 0).length + 1 := by rw [e2, insL_len hil]
      rw [← e1] at hw ⊢
      have hJS : JS (putL (Ts 0) (T, kd, md, tm, [])) := by
        refine ⟨⟨hsN, by omega, by rw [e2, insL_csum]; show csum (Ts 0) + 0 ≤ 4000; omega⟩, fun j hj => ?_⟩
        rw [e2, insL_get hil]
        split
        · exact hu0 j (by omega)
        · split
          · exact ⟨by show 0 ≤ 1500; omega, a2.1, a2.2.1⟩
          · exact hu0 _ (by omega)
      exact ⟨_, rfl, fun _ => rfl, mkSim hk hw up5.1.symm (up5.2 1 (by decide) (by decide)).symm (up5.2 2 (by decide) (by decide)).symm (by rw [up5.1, fnd2_fndr hsN (by omega)]; rfl) (hJ.src (by rw [up5.1]; exact hJS) up5.2)⟩
  · simp only [List.mem_cons, Prod.mk.injEq, List.not_mem_nil, or_false] at hE
    rcases hE with ⟨rfl, rfl⟩ | ⟨rfl, rfl⟩
    · rcases h1 with ⟨e, -⟩ | ⟨-, a1, a2, hk⟩ | ⟨e, -⟩
      · exact absurd e (by decide)
      · rcases h2 with ⟨b1, rfl, hw⟩ | ⟨b1, b2, rfl, hw⟩ | ⟨b1, b2, b3, rfl, hw⟩ | ⟨b1, b2, b3, rfl, hw⟩
        · exact absurd b1 a1
        · exact ⟨_, rfl, fun h => absurd h (by decide), mkSim hk hw rfl rfl rfl rfl hJ⟩
        · exact absurd b2 a2
        · exact absurd b2 a2
      · exact absurd e (by decide)
    · rcases h1 with ⟨-, a1, hk⟩ | ⟨e, -⟩ | ⟨-, a1, a2, a3, hk⟩
      · rcases h2 with ⟨b1, rfl, hw⟩ | ⟨b1, b2, rfl, hw⟩ | ⟨b1, b2, b3, rfl, hw⟩ | ⟨b1, b2, b3, rfl, hw⟩
        · exact ⟨_, rfl, fun h => absurd h (by decide), mkSim hk hw rfl rfl rfl rfl hJ⟩
        · exact absurd a1 b1
        · exact absurd a1 b1
        · exact absurd a1 b1
      · exact absurd e (by decide)
      · rcases h2 with ⟨b1, rfl, hw⟩ | ⟨b1, b2, rfl, hw⟩ | ⟨b1, b2, b3, rfl, hw⟩ | ⟨b1, b2, b3, rfl, hw⟩
        · exact absurd b1 a1
        · exact absurd a2 b2
        · exact ⟨_, rfl, fun h => absurd h (by decide), mkSim hk hw rfl rfl rfl rfl hJ⟩
        · exact absurd (hF.mp a3) b3
set_option maxHeartbeats 4000000 in
set_option maxRecDepth 20000 in
theorem J_write {cB cI cE cS : ClassId} {z q : Nat → Nat} {x : Nat} {X1 nw w1 pl : va_W} {T rd : List Nat} {Sn : List Se} {Cw C2 : List Cg} {tm0 : Int32} {dn st : Nat} {Ts : Nat → List En} {cs : Bool} {cp : List Nat} {ops cg ns : Nat} {bg : Int32} {sT sC : Nat → Int32} (hJ : J9 Ts Sn Cw tm0 dn st ops cg ns bg sT sC) {at0 : Int32} {k : Nat} {o9 r : Option Value} (h1 : (k = 0 ∧ (fun o9 X1 nw => st ≠ 1 ∧ ∃ i, (cAt (Ts 0) cs cp) = nI i ∧ i < (Ts 0).length ∧ ¬ ((Ts 0).getD i e0).2.1.toInt = 2 ∧ ¬ (((if ((Ts 0).getD i e0).2.1.toInt = 3 then 100 else 1500 : Nat) : Int) < nowI at0 T.length (ct ((Ts 0).getD i e0)).length ∨ 4000 < (csum (Ts 0) : Int) - (ct ((Ts 0).getD i e0)).length + nowI at0 T.length (ct ((Ts 0).getD i e0)).length) ∧ ¬ (at0.toInt < 0 ∨ ((ct ((Ts 0).getD i e0)).length : Int) < at0.toInt) ∧ o9 = some (.int (nI (ovl (ct ((Ts 0).getD i e0)) at0.toInt.toNat T).length)) ∧ kRep cB cI cE cS z X1 (pl ++ nw) ([]) rd ((Ts 0).set i (((Ts 0).getD i e0).1, ((Ts 0).getD i e0).2.1, ((Ts 0).getD i e0).2.2.1, ((Ts 0).getD i e0).2.2.2.1, ovl (ct ((Ts 0).getD i e0)) at0.toInt.toNat T)) (Ts 1) (Ts 2) Sn Cw C2 tm0 dn (cAt (Ts 0) cs cp) st) o9 X1 nw) ∨ ∃ E, (E, k) ∈ [(IAE, 1), (ISE, 2)] ∧ (fun E X1 nw => (E = ISE ∧ st = 1 ∧ kRep cB cI cE cS z X1 (pl ++ nw) T rd (Ts 0) (Ts 1) (Ts 2) Sn Cw C2 tm0 dn (cAt (Ts 0) cs cp) st) ∨ (E = ISE ∧ st ≠ 1 ∧ (¬ (0 ≤ (cAt (Ts 0) cs cp).toInt ∧ (cAt (Ts 0) cs cp).toInt < (Ts 0).length) ∨ ∃ i, (cAt (Ts 0) cs cp) = nI i ∧ i < (Ts 0).length ∧ ((Ts 0).getD i e0).2.1.toInt = 2) ∧ kRep cB cI cE cS z X1 (pl ++ nw) ([]) rd (Ts 0) (Ts 1) (Ts 2) Sn Cw C2 tm0 dn (cAt (Ts 0) cs cp) st) ∨ (st ≠ 1 ∧ ∃ i, (cAt (Ts 0) cs cp) = nI i ∧ i < (Ts 0).length ∧ ¬ ((Ts 0).getD i e0).2.1.toInt = 2 ∧ ((E = ISE ∧ (((if ((Ts 0).getD i e0).2.1.toInt = 3 then 100 else 1500 : Nat) : Int) < nowI at0 T.length (ct ((Ts 0).getD i e0)).length ∨ 4000 < (csum (Ts 0) : Int) - (ct ((Ts 0).getD i e0)).length + nowI at0 T.length (ct ((Ts 0).getD i e0)).length) ∧ kRep cB cI cE cS z X1 (pl ++ nw) ([]) rd (Ts 0) (Ts 1) (Ts 2) Sn Cw C2 tm0 dn (cAt (Ts 0) cs cp) st) ∨ (E = IAE ∧ ¬ (((if ((Ts 0).getD i e0).2.1.toInt = 3 then 100 else 1500 : Nat) : Int) < nowI at0 T.length (ct ((Ts 0).getD i e0)).length ∨ 4000 < (csum (Ts 0) : Int) - (ct ((Ts 0).getD i e0)).length + nowI at0 T.length (ct ((Ts 0).getD i e0)).length) ∧ (at0.toInt < 0 ∨ ((ct ((Ts 0).getD i e0)).length : Int) < at0.toInt) ∧ kRep cB cI cE cS z X1 (pl ++ nw) ([]) rd (Ts 0) (Ts 1) (Ts 2) Sn Cw C2 tm0 dn (cAt (Ts 0) cs cp) st)))) E X1 nw) (h2 : (fun r w => (st = 1 ∧ r = some (.int (nI 0)) ∧ RW cI x q w (nI 2) Ts T rd cs cp st ops cg ns bg sT sC) ∨ (st ≠ 1 ∧ ((cAt (Ts 0) cs cp).toInt < 0 ∨ ∃ i, i < (Ts 0).length ∧ (cAt (Ts 0) cs cp) = nI i ∧ ((Ts 0).getD i e0).2.1 = 2) ∧ r = some (.int (nI 0)) ∧ RW cI x q w (nI 2) Ts ([]) rd cs cp st ops cg ns bg sT sC) ∨ ∃ i, i < (Ts 0).length ∧ (cAt (Ts 0) cs cp) = nI i ∧ st ≠ 1 ∧ ¬ ((Ts 0).getD i e0).2.1 = 2 ∧ (((wlim ((Ts 0).getD i e0).2.1 < nowI at0 T.length (ct ((Ts 0).getD i e0)).length ∨ 4000 < (csum (Ts 0) : Int) - (ct ((Ts 0).getD i e0)).length + nowI at0 T.length (ct ((Ts 0).getD i e0)).length) ∧ r = some (.int (nI 0)) ∧ RW cI x q w (nI 2) Ts ([]) rd cs cp st ops cg ns bg sT sC) ∨ (¬ (wlim ((Ts 0).getD i e0).2.1 < nowI at0 T.length (ct ((Ts 0).getD i e0)).length ∨ 4000 < (csum (Ts 0) : Int) - (ct ((Ts 0).getD i e0)).length + nowI at0 T.length (ct ((Ts 0).getD i e0)).length) ∧ (at0.toInt < 0 ∨ ((ct ((Ts 0).getD i e0)).length : Int) < at0.toInt) ∧ r = some (.int (nI 0)) ∧ RW cI x q w (nI 1) Ts ([]) rd cs cp st ops cg ns bg sT sC) ∨ (¬ (wlim ((Ts 0).getD i e0).2.1 < nowI at0 T.length (ct ((Ts 0).getD i e0)).length ∨ 4000 < (csum (Ts 0) : Int) - (ct ((Ts 0).getD i e0)).length + nowI at0 T.length (ct ((Ts 0).getD i e0)).length) ∧ ¬ (at0.toInt < 0 ∨ ((ct ((Ts 0).getD i e0)).length : Int) < at0.toInt) ∧ r = some (.int (nI (ovl (ct ((Ts 0).getD i e0)) at0.toInt.toNat T).length)) ∧ RW cI x q w (nI 0) (va_up (va_up Ts 5 ((Ts 0).set i (((Ts 0).getD i e0).1, ((Ts 0).getD i e0).2.1, ((Ts 0).getD i e0).2.2.1, ((Ts 0).getD i e0).2.2.2.1, (ovl (ct ((Ts 0).getD i e0)) at0.toInt.toNat T)))) 0 ((Ts 0).set i (((Ts 0).getD i e0).1, ((Ts 0).getD i e0).2.1, ((Ts 0).getD i e0).2.2.1, ((Ts 0).getD i e0).2.2.2.1, (ovl (ct ((Ts 0).getD i e0)) at0.toInt.toNat T)))) ([]) rd cs cp st ops cg ns bg sT sC))) r w1) : ∃ b, r = some (.int b) ∧ (k = 0 → o9 = some (.int b)) ∧ Sim cB cI cE cS z q x (nI k) X1 w1 (pl ++ nw) := by
  obtain ⟨⟨⟨hs0, hl0, hc0⟩, hu0⟩, hT3, hT4, hH, ⟨hst, hdn, hcg, hop⟩, hr0, hw0, hn1⟩ := id hJ
  have hca := cA_rng (L := Ts 0) (cs := cs) (cp := cp) (by omega)
  have wl : ∀ i, i < (Ts 0).length → ¬ ((Ts 0).getD i e0).2.1.toInt = 2 → ((if ((Ts 0).getD i e0).2.1.toInt = 3 then 100 else 1500 : Nat) : Int) = wlim ((Ts 0).getD i e0).2.1 := fun i hi h => wl_eq h (hu0 i hi).2
  have kin : ∀ i j, (cAt (Ts 0) cs cp) = nI i → (cAt (Ts 0) cs cp) = nI j → i < (Ts 0).length → j < (Ts 0).length → i = j := fun i j h1 h2 hi hj => nI_ij h1 h2 hi hj (by omega)
  rcases h1 with ⟨rfl, a1, i, a3, hi, a4, a5, a6, rfl, hk⟩ | ⟨E, hE, h1⟩
  · have hci : (cAt (Ts 0) cs cp).toInt = i := by rw [a3, nI_toInt (by omega)]
    rw [wl i hi a4] at a5
    rcases h2 with ⟨b1, rfl, hw⟩ | ⟨b1, b2, rfl, hw⟩ | ⟨j, hj, b3, b1, b2, h2⟩
    · exact absurd b1 a1
    · rcases b2 with b2 | ⟨j, hj, b2, b3⟩
      · omega
      · obtain rfl := kin i j a3 b2 hi hj
        exact absurd (i32_2.mp b3) a4
    · obtain rfl := kin i j a3 b3 hi hj
      rcases h2 with ⟨b4, rfl, hw⟩ | ⟨b4, b5, rfl, hw⟩ | ⟨b4, b5, rfl, hw⟩
      · exact absurd b4 a5
      · exact absurd b5 a6
      · have hwl : wlim ((Ts 0).getD i e0).2.1 ≤ 1500 := by unfold wlim; split <;> omega
        have hov := nowI_ovl (f0 := at0) (a := at0.toInt.toNat) (C := ct ((Ts 0).getD i e0)) (T := T) (by omega) (by omega)
        have hct := ct_le hi
        have hJS := JS_set ⟨⟨hs0, hl0, hc0⟩, hu0⟩ (u := (((Ts 0).getD i e0).1, ((Ts 0).getD i e0).2.1, ((Ts 0).getD i e0).2.2.1, ((Ts 0).getD i e0).2.2.2.1, ovl (ct ((Ts 0).getD i e0)) at0.toInt.toNat T)) hi rfl rfl (by show (ovl (ct ((Ts 0).getD i e0)) at0.toInt.toNat T).length ≤ 1500; omega) (by show csum (Ts 0) + (ovl (ct ((Ts 0).getD i e0)) at0.toInt.toNat T).length ≤ _; omega)
        exact ⟨_, rfl, fun _ => rfl, mkSim hk hw up5.1.symm (up5.2 1 (by decide) (by decide)).symm (up5.2 2 (by decide) (by decide)).symm (by rw [up5.1]; exact (cAt_set hi (by rfl) _ _).symm) (hJ.src (by rw [up5.1]; exact hJS) up5.2)⟩
  · simp only [List.mem_cons, Prod.mk.injEq, List.not_mem_nil, or_false] at hE
    rcases h2 with ⟨b1, rfl, hw⟩ | ⟨b1, b2, rfl, hw⟩ | ⟨j, hj, b3, b1, b2, h2⟩
    · rcases hE with ⟨rfl, rfl⟩ | ⟨rfl, rfl⟩
      · rcases h1 with ⟨e, -⟩ | ⟨e, -⟩ | ⟨a1, -⟩
        · exact absurd e (by decide)
        · exact absurd e (by decide)
        · exact absurd b1 a1
      · rcases h1 with ⟨-, a1, hk⟩ | ⟨-, a1, -⟩ | ⟨a1, -⟩
        · exact ⟨_, rfl, fun h => absurd h (by decide), mkSim hk hw rfl rfl rfl rfl hJ⟩
        · exact absurd b1 a1
        · exact absurd b1 a1
    · have nok : ∀ i, cAt (Ts 0) cs cp = nI i → i < (Ts 0).length → ¬ ((Ts 0).getD i e0).2.1.toInt = 2 → False := fun i a3 hi a4 => by
        have hci : (cAt (Ts 0) cs cp).toInt = i := by rw [a3, nI_toInt (by omega)]
        rcases b2 with b2 | ⟨j, hj, b2, b3⟩
        · omega
        · obtain rfl := kin i j a3 b2 hi hj
          exact absurd (i32_2.mp b3) a4
      rcases hE with ⟨rfl, rfl⟩ | ⟨rfl, rfl⟩
      · rcases h1 with ⟨e, -⟩ | ⟨e, -⟩ | ⟨a1, i, a3, hi, a4, -⟩
        · exact absurd e (by decide)
        · exact absurd e (by decide)
        · exact (nok i a3 hi a4).elim
      · rcases h1 with ⟨-, a1, -⟩ | ⟨-, a1, a2, hk⟩ | ⟨a1, i, a3, hi, a4, -⟩
        · exact absurd a1 b1
        · exact ⟨_, rfl, fun h => absurd h (by decide), mkSim hk hw rfl rfl rfl rfl hJ⟩
        · exact (nok i a3 hi a4).elim
    · have hcj : (cAt (Ts 0) cs cp).toInt = j := by rw [b3, nI_toInt (by omega)]
      have b2' : ¬ ((Ts 0).getD j e0).2.1.toInt = 2 := fun h => b2 (i32_2.mpr h)
      have hwj := wl j hj b2'
      rcases hE with ⟨rfl, rfl⟩ | ⟨rfl, rfl⟩
      · rcases h1 with ⟨e, -⟩ | ⟨e, -⟩ | ⟨a1, i, a3, hi, a4, h1⟩
        · exact absurd e (by decide)
        · exact absurd e (by decide)
        · obtain rfl := kin i j a3 b3 hi hj
          rcases h1 with ⟨e, -⟩ | ⟨-, a5, a6, hk⟩
          · exact absurd e (by decide)
          · rw [hwj] at a5
            rcases h2 with ⟨b4, rfl, hw⟩ | ⟨b4, b5, rfl, hw⟩ | ⟨b4, b5, rfl, hw⟩
            · exact absurd b4 a5
            · exact ⟨_, rfl, fun h => absurd h (by decide), mkSim hk hw rfl rfl rfl rfl hJ⟩
            · exact absurd a6 b5
      · rcases h1 with ⟨-, a1, -⟩ | ⟨-, a1, a2, -⟩ | ⟨a1, i, a3, hi, a4, h1⟩
        · exact absurd a1 b1
        · rcases a2 with a2 | ⟨i, a2, hi, a3⟩
          · omega
          · obtain rfl := kin i j a2 b3 hi hj
            exact absurd a3 b2'
        · obtain rfl := kin i j a3 b3 hi hj
          rcases h1 with ⟨-, a5, hk⟩ | ⟨e, -⟩
          · rw [hwj] at a5
            rcases h2 with ⟨b4, rfl, hw⟩ | ⟨b4, b5, rfl, hw⟩ | ⟨b4, b5, rfl, hw⟩
            · exact ⟨_, rfl, fun h => absurd h (by decide), mkSim hk hw rfl rfl rfl rfl hJ⟩
            · exact absurd a5 b4
            · exact absurd a5 b4
          · exact absurd e (by decide)
set_option maxHeartbeats 4000000 in
set_option maxRecDepth 20000 in
theorem J_step {cB cI cE cS : ClassId} {z q : Nat → Nat} {x : Nat} {X1 nw w1 pl : va_W} {T rd : List Nat} {Sn : List Se} {Cw C2 : List Cg} {tm0 : Int32} {dn st : Nat} {Ts : Nat → List En} {cs : Bool} {cp : List Nat} {ops cg ns : Nat} {bg : Int32} {sT sC : Nat → Int32} (hJ : J9 Ts Sn Cw tm0 dn st ops cg ns bg sT sC) {n0 : Int32} {k : Nat} {o9 r : Option Value} (h1 : (k = 0 ∧ (fun o9 X1 nw => st = 1 ∧ (0 ≤ n0.toInt ∧ n0.toInt ≤ 200) ∧ ∃ cn, cn = stp n0 (3 + 2 * Cw.length - dn) ∧ o9 = some (.int (nI cn)) ∧ ((dn + cn = 3 + 2 * Cw.length ∧ kRep cB cI cE cS z X1 (pl ++ nw) T rd (Ts 0) ((mir (Ts 3) (Ts 4)) (dn + cn)) (Ts 2) (Sn ++ [(tm0, Cw.length, (mir (Ts 3) (Ts 4)) (dn + cn))]) Cw C2 tm0 (dn + cn) (cAt (Ts 0) cs cp) 0) ∨ (dn + cn ≠ 3 + 2 * Cw.length ∧ kRep cB cI cE cS z X1 (pl ++ nw) T rd (Ts 0) ((mir (Ts 3) (Ts 4)) (dn + cn)) (Ts 2) Sn Cw C2 tm0 (dn + cn) (cAt (Ts 0) cs cp) st))) o9 X1 nw) ∨ ∃ E, (E, k) ∈ [(ISE, 1), (IAE, 2)] ∧ (fun E X1 nw => (E = ISE ∧ st ≠ 1 ∧ kRep cB cI cE cS z X1 (pl ++ nw) T rd (Ts 0) (Ts 1) (Ts 2) Sn Cw C2 tm0 dn (cAt (Ts 0) cs cp) st) ∨ (E = IAE ∧ st = 1 ∧ ¬ (0 ≤ n0.toInt ∧ n0.toInt ≤ 200) ∧ kRep cB cI cE cS z X1 (pl ++ nw) T rd (Ts 0) (Ts 1) (Ts 2) Sn Cw C2 tm0 dn (cAt (Ts 0) cs cp) st)) E X1 nw) (h2 : (fun r w => (st ≠ 1 ∧ r = some (.int (nI 0)) ∧ RW cI x q w (nI 1) Ts T rd cs cp st ops cg ns bg sT sC) ∨ (st = 1 ∧ ¬ (0 ≤ n0.toInt ∧ n0.toInt ≤ 200) ∧ r = some (.int (nI 0)) ∧ RW cI x q w (nI 2) Ts T rd cs cp st ops cg ns bg sT sC) ∨ (st = 1 ∧ (0 ≤ n0.toInt ∧ n0.toInt ≤ 200) ∧ r = some (.int (nI (stp n0 (2 * cg + 3 - ops)))) ∧ ((stp n0 (2 * cg + 3 - ops) = (2 * cg + 3 - ops) ∧ RW cI x q w (nI 0) (va_up (va_up Ts 1 (jn (Ts 3) (Ts 4) (upds (ops + (2 * cg + 3 - ops)) cg)).2) (6 + ns) ((va_up Ts 1 (jn (Ts 3) (Ts 4) (upds (ops + (2 * cg + 3 - ops)) cg)).2) 4)) T rd cs cp 0 0 cg (ns + 1) bg (upd sT ns bg) (upd sC ns (nI cg))) ∨ (stp n0 (2 * cg + 3 - ops) ≠ (2 * cg + 3 - ops) ∧ RW cI x q w (nI 0) (va_up Ts 1 (jn (Ts 3) (Ts 4) (upds (ops + stp n0 (2 * cg + 3 - ops)) cg)).2) T rd cs cp st (ops + stp n0 (2 * cg + 3 - ops)) cg ns bg sT sC)))) r w1) : ∃ b, r = some (.int b) ∧ (k = 0 → o9 = some (.int b)) ∧ Sim cB cI cE cS z q x (nI k) X1 w1 (pl ++ nw) := by
  obtain ⟨⟨⟨hs0, hl0, hc0⟩, hu0⟩, hT3, hT4, hH, ⟨hst, hdn, hcg, hop⟩, hr0, hw0, hn1⟩ := id hJ
  rcases h1 with ⟨rfl, a1, a2, cn, a3, rfl, h1⟩ | ⟨E, hE, h1⟩
  · obtain ⟨rfl, rfl, rfl, rfl, hle, hM⟩ := hw0 (by omega)
    have hns := hn1 a1
    rw [show 3 + 2 * (chg (Ts 3) (Ts 4)).length - dn = 2 * (chg (Ts 3) (Ts 4)).length + 3 - dn by omega] at a3
    rcases h2 with ⟨b1, rfl, hw⟩ | ⟨b1, b2, rfl, hw⟩ | ⟨b1, b2, rfl, h2⟩
    · exact absurd a1 b1
    · exact absurd a2 b2
    · rw [← a3] at h2 ⊢
      refine ⟨_, rfl, fun _ => rfl, ?_⟩
      rcases h2 with ⟨b4, hw⟩ | ⟨b4, hw⟩
      · rcases h1 with ⟨a4, hk⟩ | ⟨a4, -⟩
        · rw [← b4] at hw
          have hMe : mir (Ts 3) (Ts 4) (dn + cn) = Ts 4 := mir_end (by omega)
          have e1 : (jn (Ts 3) (Ts 4) (upds (dn + cn) (chg (Ts 3) (Ts 4)).length)).2 = Ts 4 := hMe
          rw [e1] at hw
          rw [hMe] at hk
          have f4 : va_up Ts 1 (Ts 4) 4 = Ts 4 := va_up_ne _ _ (by decide)
          rw [f4] at hw
          have g : ∀ k, k ≠ 1 → k ≠ 6 + ns → va_up (va_up Ts 1 (Ts 4)) (6 + ns) (Ts 4) k = Ts k := fun k h1 h2 => by rw [va_up_ne _ _ h2, va_up_ne _ _ h1]
          have g1 : va_up (va_up Ts 1 (Ts 4)) (6 + ns) (Ts 4) 1 = Ts 4 := by rw [va_up_ne _ _ (by omega), va_up_self]
          refine mkSim hk hw (g 0 (by decide) (by omega)).symm g1.symm (g 2 (by decide) (by omega)).symm (by rw [g 0 (by decide) (by omega)]) ?_
          refine ⟨by rw [g 0 (by decide) (by omega)]; exact ⟨⟨hs0, hl0, hc0⟩, hu0⟩, by rw [g 3 (by decide) (by omega)]; exact hT3, by rw [g 4 (by decide) (by omega)]; exact hT4, ⟨by rw [List.length_append, hH.1]; rfl, by omega, fun k hk9 => ?_⟩, ⟨by omega, by omega, hcg, by omega⟩, fun _ => ⟨rfl, by rw [g1]; exact hT4⟩, fun h => absurd rfl h, fun h => absurd h (by decide)⟩
          by_cases ek : k = ns
          · rw [ek, ← hH.1, gd_last, hH.1, pk_us, pk_us, va_up_self]
            exact ⟨rfl, rfl, rfl⟩
          · rw [gd_left (by rw [hH.1]; omega), pk_un ek, pk_un ek, g (6 + k) (by omega) (by omega)]
            exact hH.2.2 k (by omega)
        · omega
      · rcases h1 with ⟨a4, -⟩ | ⟨a4, hk⟩
        · omega
        · have e1 : (jn (Ts 3) (Ts 4) (upds (dn + cn) (chg (Ts 3) (Ts 4)).length)).2 = mir (Ts 3) (Ts 4) (dn + cn) := rfl
          rw [e1] at hw
          have hcn : cn ≤ 2 * (chg (Ts 3) (Ts 4)).length + 3 - dn := by rw [a3]; unfold stp; split <;> omega
          have g : ∀ k, k ≠ 1 → va_up Ts 1 (mir (Ts 3) (Ts 4) (dn + cn)) k = Ts k := fun k h1 => by rw [va_up_ne _ _ h1]
          refine mkSim hk hw (g 0 (by decide)).symm (by rw [va_up_self]) (g 2 (by decide)).symm (by rw [g 0 (by decide)]) ?_
          refine ⟨by rw [g 0 (by decide)]; exact ⟨⟨hs0, hl0, hc0⟩, hu0⟩, by rw [g 3 (by decide)]; exact hT3, by rw [g 4 (by decide)]; exact hT4, hH.up (fun k hk => g _ (by omega)), ⟨hst, by omega, hcg, by omega⟩, fun h => by omega, fun _ => ?_, hn1⟩
          rw [g 3 (by decide), g 4 (by decide), va_up_self]
          exact ⟨rfl, rfl, rfl, rfl, by omega, rfl⟩
  · simp only [List.mem_cons, Prod.mk.injEq, List.not_mem_nil, or_false] at hE
    rcases hE with ⟨rfl, rfl⟩ | ⟨rfl, rfl⟩
    · rcases h1 with ⟨-, a1, hk⟩ | ⟨e, -⟩
      · rcases h2 with ⟨b1, rfl, hw⟩ | ⟨b1, b2, rfl, hw⟩ | ⟨b1, b2, rfl, h2⟩
        · exact ⟨_, rfl, fun h => absurd h (by decide), mkSim hk hw rfl rfl rfl rfl hJ⟩
        · exact absurd b1 a1
        · exact absurd b1 a1
      · exact absurd e (by decide)
    · rcases h1 with ⟨e, -⟩ | ⟨-, a1, a2, hk⟩
      · exact absurd e (by decide)
      · rcases h2 with ⟨b1, rfl, hw⟩ | ⟨b1, b2, rfl, hw⟩ | ⟨b1, b2, rfl, h2⟩
        · exact absurd a1 b1
        · exact ⟨_, rfl, fun h => absurd h (by decide), mkSim hk hw rfl rfl rfl rfl hJ⟩
        · exact absurd b2 a2
set_option maxHeartbeats 4000000 in
set_option maxRecDepth 20000 in
theorem J_regress {cB cI cE cS : ClassId} {z q : Nat → Nat} {x : Nat} {X1 nw w1 pl : va_W} {T rd : List Nat} {Sn : List Se} {Cw C2 : List Cg} {tm0 : Int32} {dn st : Nat} {Ts : Nat → List En} {cs : Bool} {cp : List Nat} {ops cg ns : Nat} {bg : Int32} {sT sC : Nat → Int32} (hJ : J9 Ts Sn Cw tm0 dn st ops cg ns bg sT sC) {n0 : Int32} {k : Nat} {o9 r : Option Value} (h1 : (k = 0 ∧ (fun o9 X1 nw => st = 2 ∧ (0 ≤ n0.toInt ∧ n0.toInt ≤ 200) ∧ ∃ cn, cn = stp n0 dn ∧ o9 = some (.int (nI cn)) ∧ kRep cB cI cE cS z X1 (pl ++ nw) T rd (Ts 0) ((mir (Ts 3) (Ts 4)) (dn - cn)) (Ts 2) Sn Cw C2 tm0 (dn - cn) (cAt (Ts 0) cs cp) (if dn - cn = 0 then 0 else 2)) o9 X1 nw) ∨ ∃ E, (E, k) ∈ [(ISE, 1), (IAE, 2)] ∧ (fun E X1 nw => (E = ISE ∧ st ≠ 2 ∧ kRep cB cI cE cS z X1 (pl ++ nw) T rd (Ts 0) (Ts 1) (Ts 2) Sn Cw C2 tm0 dn (cAt (Ts 0) cs cp) st) ∨ (E = IAE ∧ st = 2 ∧ ¬ (0 ≤ n0.toInt ∧ n0.toInt ≤ 200) ∧ kRep cB cI cE cS z X1 (pl ++ nw) T rd (Ts 0) (Ts 1) (Ts 2) Sn Cw C2 tm0 dn (cAt (Ts 0) cs cp) st)) E X1 nw) (h2 : (fun r w => (st ≠ 2 ∧ r = some (.int (nI 0)) ∧ RW cI x q w (nI 1) Ts T rd cs cp st ops cg ns bg sT sC) ∨ (st = 2 ∧ ¬ (0 ≤ n0.toInt ∧ n0.toInt ≤ 200) ∧ r = some (.int (nI 0)) ∧ RW cI x q w (nI 2) Ts T rd cs cp st ops cg ns bg sT sC) ∨ (st = 2 ∧ (0 ≤ n0.toInt ∧ n0.toInt ≤ 200) ∧ r = some (.int (nI (stp n0 ops))) ∧ RW cI x q w (nI 0) (va_up Ts 1 (jn (Ts 3) (Ts 4) (upds (ops - stp n0 ops) cg)).2) T rd cs cp (if ops - stp n0 ops = 0 then 0 else 2) (ops - stp n0 ops) cg ns bg sT sC)) r w1) : ∃ b, r = some (.int b) ∧ (k = 0 → o9 = some (.int b)) ∧ Sim cB cI cE cS z q x (nI k) X1 w1 (pl ++ nw) := by
  obtain ⟨⟨⟨hs0, hl0, hc0⟩, hu0⟩, hT3, hT4, hH, ⟨hst, hdn, hcg, hop⟩, hr0, hw0, hn1⟩ := id hJ
  rcases h1 with ⟨rfl, a1, a2, cn, a3, rfl, hk⟩ | ⟨E, hE, h1⟩
  · obtain ⟨rfl, rfl, rfl, rfl, hle, hM⟩ := hw0 (by omega)
    rcases h2 with ⟨b1, rfl, hw⟩ | ⟨b1, b2, rfl, hw⟩ | ⟨b1, b2, rfl, hw⟩
    · exact absurd a1 b1
    · exact absurd a2 b2
    · rw [← a3] at hw ⊢
      refine ⟨_, rfl, fun _ => rfl, ?_⟩
      have e1 : (jn (Ts 3) (Ts 4) (upds (dn - cn) (chg (Ts 3) (Ts 4)).length)).2 = mir (Ts 3) (Ts 4) (dn - cn) := rfl
      rw [e1] at hw
      have g : ∀ k, k ≠ 1 → va_up Ts 1 (mir (Ts 3) (Ts 4) (dn - cn)) k = Ts k := fun k h1 => by rw [va_up_ne _ _ h1]
      refine mkSim hk hw (g 0 (by decide)).symm (by rw [va_up_self]) (g 2 (by decide)).symm (by rw [g 0 (by decide)]) ?_
      refine ⟨by rw [g 0 (by decide)]; exact ⟨⟨hs0, hl0, hc0⟩, hu0⟩, by rw [g 3 (by decide)]; exact hT3, by rw [g 4 (by decide)]; exact hT4, hH.up (fun k hk => g _ (by omega)), ⟨by split <;> omega, by omega, hcg, by omega⟩, fun h => ?_, fun _ => ?_, fun h => by split at h <;> omega⟩
      · have h0 : dn - cn = 0 := by
          by_cases h9 : dn - cn = 0
          · exact h9
          · rw [if_neg h9] at h; exact absurd h (by decide)
        rw [h0]
        exact ⟨rfl, by rw [va_up_self, mir_0]; exact hT3⟩
      · rw [g 3 (by decide), g 4 (by decide), va_up_self]
        exact ⟨rfl, rfl, rfl, rfl, by omega, rfl⟩
  · simp only [List.mem_cons, Prod.mk.injEq, List.not_mem_nil, or_false] at hE
    rcases hE with ⟨rfl, rfl⟩ | ⟨rfl, rfl⟩
    · rcases h1 with ⟨-, a1, hk⟩ | ⟨e, -⟩
      · rcases h2 with ⟨b1, rfl, hw⟩ | ⟨b1, b2, rfl, hw⟩ | ⟨b1, b2, rfl, hw⟩
        · exact ⟨_, rfl, fun h => absurd h (by decide), mkSim hk hw rfl rfl rfl rfl hJ⟩
        · exact absurd b1 a1
        · exact absurd b1 a1
      · exact absurd e (by decide)
    · rcases h1 with ⟨e, -⟩ | ⟨-, a1, a2, hk⟩
      · exact absurd e (by decide)
      · rcases h2 with ⟨b1, rfl, hw⟩ | ⟨b1, b2, rfl, hw⟩ | ⟨b1, b2, rfl, hw⟩
        · exact absurd a1 b1
        · exact ⟨_, rfl, fun h => absurd h (by decide), mkSim hk hw rfl rfl rfl rfl hJ⟩
        · exact absurd b2 a2
