/-! The law's helpers: what they ask and tell; the reference's contracts among other cells. -/
def lB9 (G : va_G) (tys : List (ClassId × FieldType)) (cJ : ClassId) (w : va_W) (sz : Nat) : State → Prop := fun U => xB9 G tys w sz U ∧ va_K G vwCl [(cJ, .long)] U ∧ va_Nc ISE IAE U ∧ va_Nc IAE ISE U
def hMet (l : Launch) (y : MethodName) (ws : List Cond) (rm : Room) (G : va_G) (tys : List (ClassId × FieldType)) (cJ : ClassId) (As : List Value) (X pl : va_W) (sz mc ms : Nat) (post : Option Value → va_W → va_W → Prop) : Prop := Met l y ws rm (va_Pc As (lB9 G tys cJ (X ++ pl) sz)) (cQ G (va_A (X ++ pl) sz) pl post) mc ms (va_A (X ++ pl) sz)
theorem lB9_blind {G : va_G} {tys : List (ClassId × FieldType)} {cJ : ClassId} {w : va_W} {sz : Nat} {As : List Value} : FrameBlind (va_Pc As (lB9 G tys cJ w sz)) := fun a U g mk q => by
  have h := xB9_blind a U g mk ⟨q.1, q.2.1⟩
  exact ⟨h.1, h.2, va_K.moved (u := U) (U := U.calling g mk a) (Vm.Alike.refl U.vm) q.2.2.1, va_Nc.moved (u := U) (U := U.calling g mk a) (Vm.Alike.refl U.vm) q.2.2.2.1, va_Nc.moved (u := U) (U := U.calling g mk a) (Vm.Alike.refl U.vm) q.2.2.2.2⟩
/-- a helper's end where there is an answer: it lies in the long row, or the code of what was thrown comes back -/
def hPo (cJ : ClassId) (out : Nat) (fo : Nat → Int64) (post : Option Value → va_W → va_W → Prop) (xp : String → va_W → va_W → Prop) (cs : List (String × Nat)) : Option Value → va_W → va_W → Prop := fun o X1 nw =>
  (∃ (v : Int32) (X2 : va_W) (f2 : Nat → Int64), post (some (.int v)) X2 nw ∧ f2 0 = v.toInt64 ∧ o = some (.int (nI 0)) ∧ X1 = X2 ++ [(out, .inl (cJ, 1, .inr (.inl f2)))]) ∨
  ∃ (E : String) (k : Nat) (X2 : va_W), (E, k) ∈ cs ∧ xp E X2 nw ∧ o = some (.int (nI k)) ∧ X1 = X2 ++ [(out, .inl (cJ, 1, .inr (.inl fo)))]
/-- and where there is none -/
def hPv (post : Option Value → va_W → va_W → Prop) (xp : String → va_W → va_W → Prop) (cs : List (String × Nat)) : Option Value → va_W → va_W → Prop := fun o X1 nw =>
  (post none X1 nw ∧ o = some (.int (nI 0))) ∨ ∃ (E : String) (k : Nat), (E, k) ∈ cs ∧ xp E X1 nw ∧ o = some (.int (nI k))
/-- only the cells of a world -/
def wIn (w : va_W) : Nat → Prop := fun q => ∃ (k : Nat) (e : va_E), w[k]? = some (q, e)
section R2C
variable {l : Launch} {y : MethodName} {ws : List Cond} {rm : Room} {G : va_G} {tys : List (ClassId × FieldType)} {As : List Value} {w pl : va_W} {sz : Nat}
theorem r2c {post : Option Value → va_W → Prop} (h : rMet l y ws rm G tys (wIn w) As w post) : cMet l y ws rm G tys As w pl sz 0 0 (fun o X1 nw => nw = [] ∧ post o X1) := by
  intro p e h1 h2 h3 s m args below h4 h5 h6 h7
  obtain ⟨ha, hsz, hP, hK, hD, hZ⟩ := h6
  have hPw : va_P G vwCl w s.heap := fun k q hk => hP k q (by rw [List.getElem?_append_left (List.getElem?_eq_some_iff.mp hk).1]; exact hk)
  have hDw : va_D (wIn w) w := ⟨fun i j p q hi hj => hD.1 i j p q (by rw [List.getElem?_append_left (List.getElem?_eq_some_iff.mp hi).1]; exact hi) (by rw [List.getElem?_append_left (List.getElem?_eq_some_iff.mp hj).1]; exact hj), fun k q hk => ⟨k, q.2, hk⟩⟩
  have hpl : ∀ (k : Nat) (q : Nat × va_E), pl[k]? = some q → (w ++ pl)[w.length + k]? = some q := fun k q hk => by rw [List.getElem?_append_right (by omega), show w.length + k - w.length = k by omega]; exact hk
  have hap : ∀ (k : Nat) (q : Nat × va_E), pl[k]? = some q → ¬ wIn w q.1 := fun k q hk ⟨i, e9, hi⟩ => by
    have hil := (List.getElem?_eq_some_iff.mp hi).1
    have := hD.1 i (w.length + k) (q.1, e9) q (by rw [List.getElem?_append_left hil]; exact hi) (hpl k q hk) rfl
    omega
  have hsub : ∀ q, wIn w q → va_A (w ++ pl) sz q := fun q ⟨i, e9, hi⟩ => Or.inl ⟨i, e9, by rw [List.getElem?_append_left (List.getElem?_eq_some_iff.mp hi).1]; exact hi⟩
  obtain ⟨n, o, a1, a2, a3, ⟨⟨⟨r, w1, b1, b2, b3, b4⟩, b5, b6⟩, L, b7, b8⟩⟩ := h p e h1 h2 h3 s m args below h4 h5 ⟨ha, hPw, hK, hDw⟩ h7
  have hPp := fun (k : Nat) (q : Nat × va_E) (hk : pl[k]? = some q) => (hP _ q (hpl k q hk)).kept (b6 q.1 ((hP _ q (hpl k q hk)).lt) (hap k q hk))
  refine ⟨n, o, a1, a2, a3, ⟨⟨⟨r, w1, [], b1, ⟨rfl, b2⟩, ?_, ?_⟩, b5, fun q hq hn => b6 q hq (fun h => hn (hsub q h))⟩, L, b7, fun q hq => hsub _ (b8 q hq)⟩⟩
  · rw [List.append_nil]; exact b3.app hPp
  · rw [List.append_nil]
    refine va_D.app (b4.weaken fun _ _ _ h => hsub _ h) ⟨fun i j p q hi hj he => ?_, fun k q hk => Or.inl ⟨_, q.2, hpl k q hk⟩⟩ (fun i j p q hi hj he => hap j q hj (he ▸ b4.2 i p hi))
    have := hD.1 _ _ p q (hpl i p hi) (hpl j q hj) he
    omega
theorem p2c {post : Value → Prop} (h : pMet l y ws rm G tys As w post) : cMet l y ws rm G tys As w pl sz 0 0 (fun o X1 nw => nw = [] ∧ X1 = w ∧ ∃ r, o = some r ∧ post r) := by
  intro p e h1 h2 h3 s m args below h4 h5 h6 h7
  obtain ⟨ha, hsz, hP, hK, hD, hZ⟩ := h6
  have hPw : va_P G vwCl w s.heap := fun k q hk => hP k q (by rw [List.getElem?_append_left (List.getElem?_eq_some_iff.mp hk).1]; exact hk)
  obtain ⟨n, o, a1, a2, a3, ⟨⟨r, b1, b2, b3⟩, L, b7, b8⟩⟩ := h p e h1 h2 h3 s m args below h4 h5 ⟨ha, hPw, hK⟩ h7
  exact ⟨n, o, a1, a2, a3, ⟨⟨⟨some r, w, [], b1, ⟨rfl, rfl, r, rfl, b2⟩, by rw [List.append_nil, b3]; exact hP, by rw [List.append_nil]; exact hD.self⟩, by rw [b3]; exact Nat.le_refl _, fun q _ _ => by rw [b3]⟩, L, b7, fun q hq => (b8 q hq).elim⟩⟩
end R2C
section XLH
variable {p : Program} {l : Launch} {e : Env} {R : Room} {s : State} {m : MethodId} {args : Array Value} {below : List Frame} {meth : Method} {c : Code} {H : Heap} {locs : List Loc} {cells slots : Nat} {Q : State → Prop} {cc : ByteArray} {pc : Nat} {ls : Array Slot} {rest st0 : List Value}
variable {G : va_G} {tys : List (ClassId × FieldType)} {A : Nat → Prop} {X cx wr pl : va_W} {H0 : Heap} {y : MethodName} {ws Ts : List Cond} {rm : Room} {As : List Value} {own C host : String} {index maxL nL n b mc ms : Nat} {bytes : ByteArray} {ret : Option FieldType} {post : Option Value → va_W → va_W → Prop} {xp : String → va_W → va_W → Prop} {hh : List (Nat × Nat × Nat × Nat)} {cJ : ClassId}
/-- a call of one of the law's helpers -/
theorem xl_callH (hM : hMet l y ws rm G tys cJ As cx pl H.size mc ms post) (S : CallFix p m c cc nL s args Ts own) (cw : vx_CSW R s args own index y bytes maxL ret hh ws rm mc ms n) (hK : va_K G vwCl tys s) (hZ : cT s) (hU : xU A s s.heap) (hJ : va_K G vwCl [(cJ, .long)] s) (hn1 : va_Nc ISE IAE s) (hn2 : va_Nc IAE ISE s) (hR : rR G A s.heap H locs ((cx ++ wr) ++ pl)) (hA : ∀ q, s.heap.size ≤ q → A q)
    (hn : As.length = n) (hl : ls.size = nL) (hst : st0 = As.reverse ++ rest) (hw : (rest.map fun v => v.category).sum ≤ 8) (hdg : decode cc pc = .ok (.invokestatic index, 3)) (hf : cells + mc ≤ R.cells ∧ slots + ms ≤ R.slots)
    (kk : ∀ (r : Option Value) (X1 nw : va_W) (H1 : Heap) (locs1 : List Loc), post r X1 nw → rR G A s.heap H1 locs1 ((X1 ++ wr) ++ (pl ++ nw)) → W p l e R s m args below meth c H1 locs1 (cells + mc) (slots + ms) Q (F0 m (pc + 3) ls (r.toList ++ rest))) : W p l e R s m args below meth c H locs cells slots Q (F0 m pc ls st0) := by
  have hC := rg_1 cx wr
  have hF := va_freeP hR.2.1 hR.2.2 hA (List.range' 0 cx.length) hC
  have hpre : ∀ U : State, U.heap = H → s.WarmedH U.vm → va_Pc As (lB9 G tys cJ (cx ++ pl) H.size) As.toArray U := fun U hU9 hW => ⟨rfl, ⟨(xc_pre (As := As) hK hZ hR (List.range' 0 cx.length) hC (nd_rg _ _) U hU9 hW).2, hU.at hR.2.2 hF hW hU9⟩, va_K.moved hW.alike hJ, hn1.moved hW.alike, hn2.moved hW.alike⟩
  have hr := vx_runSW (rest := rest) (locs := locs) (cells := cells) (slots := slots) (meth := meth) (e := e) (below := below) (H := H) (g := F0 m pc ls st0) S hM cw ⟨lB9_blind, hpre⟩ rfl hn hl hst (lv_room hw) hdg hf
  exact xc_go (As := As) hr hR hA (List.range' 0 cx.length) (List.range' cx.length wr.length) hC (rg_2 cx wr) (nd_rg _ _) (rg_d _ _) (fun r X1 nw H1 locs1 h1 h2 => kk r X1 nw H1 locs1 h1 (rR_swap h2))
end XLH
