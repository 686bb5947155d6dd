/-! Calls by blocks of cells; reference contracts as contracts of a pool; the law's helpers. -/
theorem nd_rg : ∀ (n k : Nat), va_nd (List.range' k n) = true
  | 0, _ => rfl
  | n + 1, k => by
    rw [List.range'_succ, va_nd, nd_rg n (k + 1), Bool.and_true, decide_eq_true_eq, List.mem_range'_1]
    omega
theorem rg_1 {α : Type} (a b : List α) : (List.range' 0 a.length).map (fun i => (a ++ b)[i]?) = a.map some := by
  apply List.ext_getElem (by simp)
  intro i h1 h2
  simp only [List.length_map] at h2
  simp [h2, List.getElem?_append_left]
theorem rg_2 {α : Type} (a b : List α) : (List.range' a.length b.length).map (fun i => (a ++ b)[i]?) = b.map some := by
  apply List.ext_getElem (by simp)
  intro i h1 h2
  simp only [List.length_map] at h2
  simp [h2, List.getElem?_append_right]
theorem rg_d (n k : Nat) : ∀ i ∈ List.range' n k, i ∉ List.range' 0 n := by
  intro i h1 h2
  rw [List.mem_range'_1] at h1 h2
  omega
section XLW
variable {p : Program} {l : Launch} {e : Env} {R : Room} {s : State} {m : MethodId} {args : Array Value} {below : List Frame} {meth : Method} {c : Code} {H : Heap} {locs : List Loc} {cells slots : Nat} {Q : State → Prop} {cc : ByteArray} {pc : Nat} {ls : Array Slot} {rest st0 : List Value}
variable {G : va_G} {tys : List (ClassId × FieldType)} {A : Nat → Prop} {X cx wr pl : va_W} {H0 : Heap} {y : MethodName} {ws Ts : List Cond} {rm : Room} {As : List Value} {own C host : String} {index maxL nL n b mc ms : Nat} {bytes : ByteArray} {ret : Option FieldType} {post : Option Value → va_W → va_W → Prop} {xp : String → va_W → va_W → Prop} {hh : List (Nat × Nat × Nat × Nat)}
theorem rR_swap {a b c : va_W} (h : rR G A H0 H locs ((a ++ b) ++ c)) : rR G A H0 H locs ((b ++ a) ++ c) := by
  have h1 : va_P G vwCl (([] ++ (a ++ c)) ++ b) H := h.1.swap
  have h2 : va_D A (([] ++ (a ++ c)) ++ b) := h.2.1.swap
  have h3 : va_P G vwCl (b ++ (a ++ c)) H := h1.swap
  have h4 : va_D A (b ++ (a ++ c)) := h2.swap
  exact ⟨by rw [List.append_assoc]; exact h3, by rw [List.append_assoc]; exact h4, h.2.2⟩
theorem xl_callV (hM : cMet l y ws rm G tys (.ref b :: As) cx pl H.size mc ms post) (S : CallFix p m c cc nL s args Ts own) (cw : CallW R s args own C index y bytes maxL ret ws rm mc ms n) (hK : va_K G vwCl tys s) (hZ : cT s) (hR : rR G A H0 H locs ((cx ++ wr) ++ pl)) (hA : ∀ q, H0.size ≤ q → A q)
    (hrc : ∃ cell : Cell, H[b]? = some cell ∧ cell.vm.isStatics = false ∧ s.vm.findClass C = some cell.cls) (hn : As.length = n) (hl : ls.size = nL) (hst : st0 = As.reverse ++ .ref b :: rest) (hw : (rest.map fun v => v.category).sum ≤ 8) (hdg : decode cc pc = .ok (.invokevirtual index, 3)) (hf : cells + mc ≤ R.cells ∧ slots + ms ≤ R.slots)
    (kk : ∀ (r : Option Value) (X1 nw : va_W) (H1 : Heap) (locs1 : List Loc), post r X1 nw → rR G A H0 H1 locs1 ((X1 ++ wr) ++ (pl ++ nw)) → W p l e R s m args below meth c H1 locs1 (cells + mc) (slots + ms) Q (F0 m (pc + 3) ls (r.toList ++ rest))) : W p l e R s m args below meth c H locs cells slots Q (F0 m pc ls st0) :=
  xc_callV hM S cw hK hZ hR hA hrc (List.range' 0 cx.length) (List.range' cx.length wr.length) (rg_1 cx wr) (rg_2 cx wr) (nd_rg _ _) (nd_rg _ _) (rg_d _ _) hn hl hst hw hdg hf (fun r X1 nw H1 locs1 h1 h2 => kk r X1 nw H1 locs1 h1 (rR_swap h2))
theorem xl_callI (hM : cMet l y ws rm G tys (.ref b :: As) cx pl H.size mc ms post) (S : CallFix p m c cc nL s args Ts own) (cw : CallB R s args own index y bytes maxL none ws rm mc ms n ∧ y.name = "<init>" ∧ (Cond.instanceMethod y).before args s = true) (hK : va_K G vwCl tys s) (hZ : cT s) (hR : rR G A H0 H locs ((cx ++ wr) ++ pl)) (hA : ∀ q, H0.size ≤ q → A q)
    (hn : As.length = n) (hl : ls.size = nL) (hst : st0 = As.reverse ++ .ref b :: rest) (hw : (rest.map fun v => v.category).sum ≤ 8) (hdg : decode cc pc = .ok (.invokespecial index, 3)) (hf : cells + mc ≤ R.cells ∧ slots + ms ≤ R.slots)
    (kk : ∀ (r : Option Value) (X1 nw : va_W) (H1 : Heap) (locs1 : List Loc), post r X1 nw → rR G A H0 H1 locs1 ((X1 ++ wr) ++ (pl ++ nw)) → W p l e R s m args below meth c H1 locs1 (cells + mc) (slots + ms) Q (F0 m (pc + 3) ls (r.toList ++ rest))) : W p l e R s m args below meth c H locs cells slots Q (F0 m pc ls st0) :=
  xc_callI hM S cw hK hZ hR hA (List.range' 0 cx.length) (List.range' cx.length wr.length) (rg_1 cx wr) (rg_2 cx wr) (nd_rg _ _) (nd_rg _ _) (rg_d _ _) hn hl hst hw hdg hf (fun r X1 nw H1 locs1 h1 h2 => kk r X1 nw H1 locs1 h1 (rR_swap h2))
theorem xU.at {U : State} {B : Nat → Prop} (hU : xU A s s.heap) (hS : va_S A s.heap H locs) (hAB : ∀ q, B q → A q) (hW : s.WarmedH U.vm) (hH : U.heap = H) : xU B U U.heap := by
  rw [hH]
  exact ⟨vx_Zq.moved hW.alike ((hU.1.kept (fun a h1 h2 => hS.2.1 a h1 h2)).narrow hAB), vx_Zq.moved hW.alike ((hU.2.kept (fun a h1 h2 => hS.2.1 a h1 h2)).narrow hAB)⟩
/-- a call of a method that may throw -/
theorem xl_callX (hM : xMet l y ws rm G tys (.ref b :: As) cx pl H.size mc ms post xp) (S : CallFix p m c cc nL s args Ts own) (cw : CallW R s args own C index y bytes maxL ret ws rm mc ms n) (hK : va_K G vwCl tys s) (hZ : cT s) (hU : xU A s s.heap) (hR : rR G A s.heap H locs ((cx ++ wr) ++ pl)) (hA : ∀ q, s.heap.size ≤ q → A q)
    (hrc : ∃ cell : Cell, H[b]? = some cell ∧ cell.vm.isStatics = false ∧ s.vm.findClass C = some cell.cls) (hn : As.length = n) (hl : ls.size = nL) (hst : st0 = As.reverse ++ .ref b :: rest) (hw : (rest.map fun v => v.category).sum ≤ 8) (hdg : decode cc pc = .ok (.invokevirtual index, 3)) (hf : cells + mc ≤ R.cells ∧ slots + ms ≤ R.slots)
    (kk : ∀ (r : Option Value) (X1 nw : va_W) (H1 : Heap) (locs1 : List Loc), post r X1 nw → rR G A s.heap H1 locs1 ((X1 ++ wr) ++ (pl ++ nw)) → W p l e R s m args below meth c H1 locs1 (cells + mc) (slots + ms) Q (F0 m (pc + 3) ls (r.toList ++ rest)))
    (kx : ∀ (E : String) (q : Addr) (ce : Cell) (X1 nw : va_W) (H1 : Heap) (locs1 : List Loc), xp E X1 nw → rR G A s.heap H1 locs1 ((X1 ++ wr) ++ (pl ++ nw)) → H1[q]? = some ce → ce.vm = .none → s.vm.findClass E = some ce.cls → vx_W p l e R s m args below meth c H1 locs1 (cells + mc) (slots + ms) Q (F0 m pc ls rest) q) : W p l e R s m args below meth c H locs cells slots Q (F0 m pc ls st0) := by
  have hC := rg_1 cx wr
  have hRr := rg_2 cx wr
  have hF := va_freeP hR.2.1 hR.2.2 hA (List.range' 0 cx.length) hC
  have hpre : ∀ U : State, U.heap = H → s.WarmedH U.vm → va_Pc (.ref b :: As) (xB9 G tys (cx ++ pl) H.size) (Value.ref b :: As).toArray U := fun U hU9 hW => ⟨rfl, (xc_pre (As := .ref b :: As) hK hZ hR (List.range' 0 cx.length) hC (nd_rg _ _) U hU9 hW).2, hU.at hR.2.2 hF hW hU9⟩
  have hr := vx_runV (rest := rest) (locs := locs) (cells := cells) (slots := slots) (meth := meth) (e := e) (below := below) (g := F0 m pc ls st0) S hM cw ⟨xB9_blind, hrc, hpre⟩ rfl hn hl hst (lv_room hw) hdg hf
  intro T hT X9
  obtain ⟨hP, hD, hS⟩ := hR
  have go : ∀ (st₀ t T' : State) (L : List Loc) (X1 nw : va_W), st₀.heap = H → (∀ q ∈ L, va_A (cx ++ pl) H.size q.base) → T'.heap = t.heap → va_P G vwCl (X1 ++ (pl ++ nw)) t.heap → va_D (va_A (cx ++ pl) H.size) (X1 ++ (pl ++ nw)) → va_F (va_A (cx ++ pl) H.size) st₀ t → rR G A s.heap T'.heap (locs ++ L) ((X1 ++ wr) ++ (pl ++ nw)) := by
    intro st₀ t T' L X1 nw h0 hL e1 hP1 hD1 hFr
    obtain ⟨hz, hk⟩ := hFr
    rw [h0] at hz hk
    have hk1 : ∀ q : Nat, q < H.size → ¬ va_A (cx ++ pl) H.size q → T'.heap[q]? = H[q]? := fun q h1 h2 => by rw [e1]; exact hk q h1 h2
    obtain ⟨hP2, hD2⟩ := va_joinP hP hD (List.range' 0 cx.length) (List.range' cx.length wr.length) hC hRr (nd_rg _ _) (rg_d _ _) hk1 hF (by rw [e1]; exact hP1) hD1
    refine rR_swap ⟨hP2, hD2, Nat.le_trans hS.1 (by rw [e1]; exact hz), fun q h1 h2 => by rw [hk1 q (Nat.lt_of_lt_of_le h1 hS.1) (fun z => h2 (hF q z))]; exact hS.2.1 q h1 h2, fun q hq => ?_⟩
    rcases List.mem_append.mp hq with h | h
    · exact hS.2.2 q h
    · exact hF _ (hL q h)
  rcases hr T hT X9 with ⟨v, st₀, t, T', L, h0, X', hL, e1, e2, ⟨⟨r, X1, nw, hv, hp, hP1, hD1⟩, hFr⟩, st⟩ | ⟨q, st₀, t, T', L, E, ce, h0, X', hL, e1, e2, ⟨X1, nw, hp, hP1, hD1, hFr⟩, hce, hcv, hcl, st⟩
  · cases hv
    obtain ⟨t2, a1, b1⟩ := kk v X1 nw T'.heap (locs ++ L) hp (go st₀ t T' L X1 nw h0 hL e1 hP1 hD1 hFr) T' rfl X'
    exact ⟨t2, st t2 a1, b1⟩
  · obtain ⟨t2, a1, b1⟩ := kx E q ce X1 nw T'.heap (locs ++ L) hp (go st₀ t T' L X1 nw h0 hL e1 hP1 hD1 hFr) (by rw [e1]; exact hce) hcv hcl T' rfl X'
    exact ⟨t2, st.trans a1, b1⟩
/-- caught by the first row -/
theorem xl_catch1 {E name : String} {ce : Cell} {q : Addr} {x : ExceptionTableEntry} {suf : List ExceptionTableEntry} (hown : s.vm.findClass own = some m.cls) (htb : c.exceptionTable.toList = x :: suf) (hx : covers x pc = true) (h0 : x.catchType ≠ 0) (hlk : (Cond.classLink own x.catchType name).before args s = true) (hca : (Cond.castable E name).before args s = true)
    (hce : H[q]? = some ce) (hv : ce.vm = .none) (hcl : s.vm.findClass E = some ce.cls) (kk : W p l e R s m args below meth c H locs cells slots Q (F0 m x.handlerPc ls [.ref q])) : vx_W p l e R s m args below meth c H locs cells slots Q (F0 m pc ls rest) q := by
  intro T hT X9
  have hpl : e.platform.magicAccessors = ({} : Platform).magicAccessors := by rw [X9.admits.platform]
  obtain ⟨k3, k4, hk3, hk4, hasg⟩ := Cond.castable_spec hca
  cases Option.some.inj (hk3.symm.trans hcl)
  obtain ⟨k5, hk5, hln⟩ := Cond.classLink_spec hown hlk e.platform hpl
  cases Option.some.inj (hk4.symm.trans hk5)
  have hal := X9.warmed.alike
  obtain ⟨dk, _, _, kt, hd, _, _, _, _, hkt, _, hopen⟩ := hln.here
  obtain ⟨kt2, hkt2, -⟩ := hal.2.2 _ _ hkt
  obtain ⟨kz, hkz⟩ := Vm.classAt_of_assignable hasg ⟨kt, hkt⟩
  obtain ⟨kz2, hkz2, -⟩ := hal.2.2 _ _ hkz
  have hasT : T.vm.assignable ce.cls k4 = true := by rw [hal.assignable]; exact hasg
  have hW2 := X9.warmed.noted hd hopen (State.rightAt_cls hln)
  have hst : Steps p.tables e below ((T.setTop (F0 m pc ls rest)).pushFrame (.throwing q)) ((T.setVm (T.vm.noted m.cls x.catchType (.cls k4))).setTop (F0 m x.handlerPc ls [.ref q])) := by
    refine xcaught X9 (g := F0 m pc ls rest) rfl (hp := x.handlerPc) (fun Qh E2 dd acts => ?_)
    rw [W.findHandler_eq (f := F0 m pc ls rest) (s := (T.setTop (F0 m pc ls rest)).pushFrame (.throwing q)) (meth := meth) (code := c) X9.method' X9.code, htb]
    rw [xrow (S := (T.setTop (F0 m pc ls rest)).pushFrame (.throwing q)) (k := k4) (ce := ce) hx h0 (X9.warmed.classLinks hln) (by show T.heap[q]? = _; rw [hT]; exact hce) (fun z => by rw [hv]; exact fun h => by cases h) ⟨kz2, hkz2⟩ ⟨kt2, hkt2⟩, if_pos (show ((T.setTop (F0 m pc ls rest)).pushFrame (.throwing q)).vm.assignable ce.cls k4 = true from hasT)]
    exact Iff.rfl
  obtain ⟨t, a1, b1⟩ := kk (T.setVm (T.vm.noted m.cls x.catchType (.cls k4))) hT (X9.noted hW2)
  exact ⟨t, hst.trans a1, b1⟩
/-- caught by the second row: the first one names another class -/
theorem xl_catch2 {E name1 name2 : String} {ce : Cell} {q : Addr} {x1 x2 : ExceptionTableEntry} {suf : List ExceptionTableEntry} (hown : s.vm.findClass own = some m.cls) (htb : c.exceptionTable.toList = x1 :: x2 :: suf) (hx1 : covers x1 pc = true) (h01 : x1.catchType ≠ 0) (hlk1 : (Cond.classLink own x1.catchType name1).before args s = true) (hno : va_Nc E name1 s)
    (hx2 : covers x2 pc = true) (h02 : x2.catchType ≠ 0) (hlk2 : (Cond.classLink own x2.catchType name2).before args s = true) (hca : (Cond.castable E name2).before args s = true)
    (hce : H[q]? = some ce) (hv : ce.vm = .none) (hcl : s.vm.findClass E = some ce.cls) (kk : W p l e R s m args below meth c H locs cells slots Q (F0 m x2.handlerPc ls [.ref q])) : vx_W p l e R s m args below meth c H locs cells slots Q (F0 m pc ls rest) q := by
  intro T hT X9
  have hpl : e.platform.magicAccessors = ({} : Platform).magicAccessors := by rw [X9.admits.platform]
  obtain ⟨k3, k4, hk3, hk4, hasg⟩ := Cond.castable_spec hca
  cases Option.some.inj (hk3.symm.trans hcl)
  obtain ⟨k5, hk5, hln2⟩ := Cond.classLink_spec hown hlk2 e.platform hpl
  cases Option.some.inj (hk4.symm.trans hk5)
  obtain ⟨k6, hk6, hln1⟩ := Cond.classLink_spec hown hlk1 e.platform hpl
  obtain ⟨k7, k8, hk7, hk8, hnas⟩ := hno
  cases Option.some.inj (hk7.symm.trans hcl)
  cases Option.some.inj (hk8.symm.trans hk6)
  obtain ⟨dk1, _, _, kt1, hd1, _, _, _, _, hkt1, _, hopen1⟩ := hln1.here
  obtain ⟨dk2, _, _, kt2, hd2, _, _, _, _, hkt2, _, hopen2⟩ := hln2.here
  obtain ⟨kz, hkz⟩ := Vm.classAt_of_assignable hasg ⟨kt2, hkt2⟩
  have hW1 := X9.warmed.noted hd1 hopen1 (State.rightAt_cls hln1)
  have hW2 := hW1.noted hd2 hopen2 (State.rightAt_cls hln2)
  have hal := X9.warmed.alike
  have hal1 := hW1.alike
  obtain ⟨u1, hu1, -⟩ := hal.2.2 _ _ hkt1
  obtain ⟨u2, hu2, -⟩ := hal1.2.2 _ _ hkt2
  obtain ⟨v1, hv1, -⟩ := hal.2.2 _ _ hkz
  obtain ⟨v2, hv2, -⟩ := hal1.2.2 _ _ hkz
  have hasT : ¬ T.vm.assignable ce.cls k6 = true := by rw [hal.assignable, hnas]; decide
  have hasT2 : (T.vm.noted m.cls x1.catchType (.cls k6)).assignable ce.cls k4 = true := by rw [hal1.assignable]; exact hasg
  have hce2 : T.heap[q]? = some ce := by rw [hT]; exact hce
  have hst : Steps p.tables e below ((T.setTop (F0 m pc ls rest)).pushFrame (.throwing q)) ((T.setVm ((T.vm.noted m.cls x1.catchType (.cls k6)).noted m.cls x2.catchType (.cls k4))).setTop (F0 m x2.handlerPc ls [.ref q])) := by
    refine xcaught X9 (g := F0 m pc ls rest) rfl (hp := x2.handlerPc) (fun Qh E2 dd acts => ?_)
    rw [W.findHandler_eq (f := F0 m pc ls rest) (s := (T.setTop (F0 m pc ls rest)).pushFrame (.throwing q)) (meth := meth) (code := c) X9.method' X9.code, htb]
    rw [xrow (S := (T.setTop (F0 m pc ls rest)).pushFrame (.throwing q)) (k := k6) (ce := ce) hx1 h01 (X9.warmed.classLinks hln1) hce2 (fun z => by rw [hv]; exact fun h => by cases h) ⟨v1, hv1⟩ ⟨u1, hu1⟩, if_neg (show ¬ ((T.setTop (F0 m pc ls rest)).pushFrame (.throwing q)).vm.assignable ce.cls k6 = true from hasT)]
    have h9 := xrow (Qh := Qh) (E := E2) (dd := dd) (acts := acts) (e := e) (f := F0 m pc ls rest) (a := q) (tb := suf) (S := ((T.setTop (F0 m pc ls rest)).pushFrame (.throwing q)).setVm (T.vm.noted m.cls x1.catchType (.cls k6))) (k := k4) (ce := ce) hx2 h02 (hW1.classLinks hln2) hce2 (fun z => by rw [hv]; exact fun h => by cases h) ⟨v2, hv2⟩ ⟨u2, hu2⟩
    rw [if_pos (show (((T.setTop (F0 m pc ls rest)).pushFrame (.throwing q)).setVm (T.vm.noted m.cls x1.catchType (.cls k6))).vm.assignable ce.cls k4 = true from hasT2)] at h9
    exact h9
  obtain ⟨t, a1, b1⟩ := kk (T.setVm ((T.vm.noted m.cls x1.catchType (.cls k6)).noted m.cls x2.catchType (.cls k4))) hT (X9.noted hW2)
  exact ⟨t, hst.trans a1, b1⟩
end XLW
