/-! Rows for the law's walk. -/
def lwX (p : Program) (l : Launch) (s : State) (m : MethodId) (args : Array Value) (c : Code) (b L : Nat) (xs : Nat → Int32) (G : va_G) (tys : List (ClassId × FieldType)) (cB cI cE cS cJ : ClassId) : Prop :=
  p.tables.exec = Jvm.exec ∧ c.code = cL_law ∧ c.maxLocals = 7 ∧ s.vm.findClass RL = some m.cls ∧ (∀ w ∈ wsL_law, w.before args s = true) ∧ tys = [(cB, .byte), (cI, .int), (cE, .object RX1), (cS, .object RX4)] ∧ va_K G vwCl tys s ∧ va_K G vwCl [(cJ, .long)] s ∧ cT s ∧ xU (fun q => s.heap.size ≤ q) s s.heap ∧ va_Nc ISE IAE s ∧ va_Nc IAE ISE s ∧ va_X b L xs s s.heap ∧ b < s.heap.size ∧ l.stackTraces = false ∧ L ≤ 3072
theorem kRep.mem {cB cI cE cS : ClassId} {z : Nat → Nat} {X pl : va_W} {T rd : List Nat} {Ls Lm Lr : List En} {Sn : List Se} {Cw C2 : List Cg} {tm0 : Int32} {dn : Nat} {cho : Int32} {st : Nat} (h : kRep cB cI cE cS z X pl T rd Ls Lm Lr Sn Cw C2 tm0 dn cho st) : ∃ fs : List Value, (z 0, .inr (7, fs)) ∈ X := by
  obtain ⟨g, fb, f1, f2, f3, fh, c1, c2, c3, c4, rfl, -⟩ := h
  exact ⟨_, List.mem_cons_self⟩
theorem RW.mem {cI : ClassId} {x : Nat} {q : Nat → Nat} {w : va_W} {th : Int32} {Ts : Nat → List En} {tp rd : List Nat} {cs : Bool} {cp : List Nat} {st ops cg ns : Nat} {bg : Int32} {sT sC : Nat → Int32} (h : RW cI x q w th Ts tp rd cs cp st ops cg ns bg sT sC) : ∃ fs : List Value, (x, .inr (8, fs)) ∈ w := by
  obtain ⟨cm, f1, f2, f3, f4, f5, f6, f7, f8, f9, f10, f11, f12, f13, rfl, -⟩ := h
  exact ⟨_, List.mem_cons_self⟩
theorem hPo_norm {cJ : ClassId} {out : Nat} {fo : Nat → Int64} {post : Option Value → va_W → va_W → Prop} {xp : String → va_W → va_W → Prop} {cs : List (String × Nat)} {o : Option Value} {X1 nw : va_W} (hc : ∀ e ∈ cs, 1 ≤ e.2 ∧ e.2 ≤ 2) (h : hPo cJ out fo post xp cs o X1 nw) : ∃ (k : Nat) (X2 : va_W) (f2 : Nat → Int64) (o9 : Option Value), o = some (.int (nI k)) ∧ k ≤ 2 ∧ X1 = X2 ++ [(out, .inl (cJ, 1, .inr (.inl f2)))] ∧ ((k = 0 ∧ post o9 X2 nw) ∨ ∃ E, (E, k) ∈ cs ∧ xp E X2 nw) ∧ (k = 0 → ∀ v, o9 = some (.int v) → f2 0 = v.toInt64) := by
  rcases h with ⟨v, X2, f2, h1, h2, h3, h4⟩ | ⟨E, k, X2, h1, h2, h3, h4⟩
  · exact ⟨0, X2, f2, _, h3, by omega, h4, Or.inl ⟨rfl, h1⟩, fun _ v2 h => by cases h; exact h2⟩
  · have := hc _ h1
    exact ⟨k, X2, fo, none, h3, this.2, h4, Or.inr ⟨E, h1, h2⟩, fun _ v2 h => by cases h⟩
theorem hPv_norm {post : Option Value → va_W → va_W → Prop} {xp : String → va_W → va_W → Prop} {cs : List (String × Nat)} {o : Option Value} {X1 nw : va_W} (hc : ∀ e ∈ cs, 1 ≤ e.2 ∧ e.2 ≤ 2) (h : hPv post xp cs o X1 nw) : ∃ (k : Nat) (o9 : Option Value), o = some (.int (nI k)) ∧ k ≤ 2 ∧ ((k = 0 ∧ post o9 X1 nw) ∨ ∃ E, (E, k) ∈ cs ∧ xp E X1 nw) := by
  rcases h with ⟨h1, h2⟩ | ⟨E, k, h1, h2, h3⟩
  · exact ⟨0, _, h2, by omega, Or.inl ⟨rfl, h1⟩⟩
  · have := hc _ h1
    exact ⟨k, none, h3, this.2, Or.inr ⟨E, h1, h2⟩⟩
theorem chg_le (S T : List En) : (chg S T).length ≤ S.length + T.length := by
  refine jn_ind (P := fun S T => (chg S T).length ≤ S.length + T.length) ?_ ?_ ?_ ?_ ?_ S T
  · rw [chg]; exact Nat.le_refl _
  · intro a S T h ih; rw [cS9 h, List.length_cons, List.length_cons]; omega
  · intro b S T h ih; rw [cT9 h, List.length_cons, List.length_cons]; omega
  · intro a b S T h h2 ih; rw [cE9 h h2, List.length_cons, List.length_cons]; omega
  · intro a b S T h h2 ih; rw [cC9 h h2, List.length_cons, List.length_cons, List.length_cons]; omega
theorem q_step {S T M : List En} {Cw : List Cg} {tm0 : Int32} {dn ops cg : Nat} {bg : Int32} (h : JW S T M Cw tm0 dn ops cg bg) (hS : JT S) (hT : JT T) (pS : ∀ u ∈ S, u.1.length ≤ 150) (pT : ∀ u ∈ T, u.1.length ≤ 150) : dn ≤ 3 + 2 * Cw.length ∧ M = mir S T dn ∧ ∀ d, d < 3 + 2 * Cw.length → srt (mir S T d) ∧ doL Cw d (mir S T d) = mir S T (d + 1) ∧ (2 ≤ d ∧ d ≤ 2 * Cw.length ∧ d % 2 = 0 → exOK (mir S T d) (Cw.getD (d / 2 - 1) c0).1 (Cw.getD (d / 2 - 1) c0).2) := by
  obtain ⟨rfl, rfl, rfl, rfl, h5, h6⟩ := h
  exact ⟨by omega, h6, fun d _ => mir_do (srt_P.mp hS.1) (srt_P.mp hT.1) pS pT (by have := hS.2.1; have := hT.2.1; omega) (by have := hS.2.2; have := hT.2.2; omega) d⟩
theorem q_back {S T M : List En} {Cw : List Cg} {tm0 : Int32} {dn ops cg : Nat} {bg : Int32} (h : JW S T M Cw tm0 dn ops cg bg) (hS : JT S) (hT : JT T) (pS : ∀ u ∈ S, u.1.length ≤ 150) (pT : ∀ u ∈ T, u.1.length ≤ 150) : dn ≤ 3 + 2 * Cw.length ∧ M = mir S T dn ∧ ∀ d, d < 3 + 2 * Cw.length → srt (mir S T (d + 1)) ∧ bkL Cw d (mir S T (d + 1)) = mir S T d ∧ (2 ≤ d ∧ d ≤ 2 * Cw.length ∧ d % 2 = 0 → exOK (mir S T (d + 1)) (Cw.getD (d / 2 - 1) c0).2 (Cw.getD (d / 2 - 1) c0).1) := by
  obtain ⟨rfl, rfl, rfl, rfl, h5, h6⟩ := h
  have hl : S.length + T.length ≤ 120 := by have := hS.2.1; have := hT.2.1; omega
  have hc : csum S + csum T ≤ 8000 := by have := hS.2.2; have := hT.2.2; omega
  exact ⟨by omega, h6, fun d _ => ⟨(mir_do (srt_P.mp hS.1) (srt_P.mp hT.1) pS pT hl hc (d + 1)).1, mir_back (srt_P.mp hS.1) (srt_P.mp hT.1) pS pT hl hc d⟩⟩
