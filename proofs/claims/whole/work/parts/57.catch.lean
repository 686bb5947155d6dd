/-! What a method of the class throws is caught in the law's helpers: a handler's row names a class, cold or warm. -/
section XCT
variable {p : Program} {l : Launch} {e : Env} {R : Room} {s : State} {m : MethodId} {args : Array Value} {below : List Frame} {meth : Method} {c : Code} {H : Heap} {locs : List Loc} {cells slots : Nat} {Q : State → Prop}
/-- one row of the table: its class is linked, then it takes the object or passes it on -/
theorem xrow {Qh : Handler → Pre} {E : CtlPost} {dd : Bool} {acts : List Action} {S : State} {f : JFrame} {a : Addr} {x : ExceptionTableEntry} {tb : List ExceptionTableEntry} {k : ClassId} {ce : Cell} (hx : covers x f.pc = true) (h0 : x.catchType ≠ 0) (hl : S.vm.ClassLinks e.platform f.method.cls x.catchType k) (hce : S.heap[a]? = some ce) (hv : ∀ z, ce.vm ≠ .statics z) (h1 : ∃ z, S.vm.classes[ce.cls]? = some z) (h2 : ∃ z, S.vm.classes[k]? = some z) :
    (findHandler.go f a (x :: tb)).wp Qh E e dd acts S ↔ if S.vm.assignable ce.cls k = true then Qh (.found x.handlerPc) dd acts (S.setVm (S.vm.noted f.method.cls x.catchType (.cls k))) else (findHandler.go f a tb).wp Qh E e dd acts (S.setVm (S.vm.noted f.method.cls x.catchType (.cls k))) := by
  have hal : S.vm.Alike (S.vm.noted f.method.cls x.catchType (.cls k)) := (Vm.Alike.refl S.vm).noted _ _ _
  obtain ⟨g1, g2⟩ := (resolveClass_links e.toSetting hl).op (op := VmOp.resolveClass f.method.cls x.catchType) rfl
  obtain ⟨z1, hz1⟩ := h1
  obtain ⟨z2, hz2⟩ := h2
  obtain ⟨y1, hy1, -⟩ := hal.2.2 _ _ hz1
  obtain ⟨y2, hy2, -⟩ := hal.2.2 _ _ hz2
  have has := hal.assignable ce.cls k
  simp only [covers] at hx
  cases hb : S.vm.assignable ce.cls k <;> rw [hb] at has <;> simp [findHandler.go, hx, h0, g1, g2, hce, hv, hy1, hy2, has, VmOp.dirties, VmOp.acts]
theorem xcaught {T : State} (X : Stand p l e R s m args below meth c T locs cells slots) {g : JFrame} (hg : g.method = m) {a : Addr} {hp : Nat} {vm' : Vm} (hf : ∀ (Qh : Handler → Pre) (E : CtlPost) (dd : Bool) (acts : List Action), (findHandler g a).wp Qh E e dd acts ((T.setTop g).pushFrame (.throwing a)) ↔ Qh (.found hp) dd acts (((T.setTop g).pushFrame (.throwing a)).setVm vm')) :
    Steps p.tables e below ((T.setTop g).pushFrame (.throwing a)) ((T.setVm vm').setTop { g with pc := hp, stack := [.ref a] }) := by
  have h : At T g.method c below := by rw [hg]; exact X.here
  obtain ⟨h1, h2⟩ := h.throwing a
  refine Steps.head h1 h2 ?_
  obtain ⟨g0, hfr⟩ := X.frames_eq
  have hs : (stepThrowing e ((T.setTop g).pushFrame (.throwing a)) a (.java g :: below)).1 = (((T.setTop g).pushFrame (.throwing a)).setVm vm').setFrames (.java { g with pc := hp, stack := [.ref a] } :: below) := by
    simp only [stepThrowing, searchFrame, vmDo]
    generalize hr : Sem.go _ e false [] ((T.setTop g).pushFrame (.throwing a)) = res
    obtain ⟨as, rfl, -⟩ := Sem.eq_ok_of hr (a := Handler.found hp) (s' := ((T.setTop g).pushFrame (.throwing a)).setVm vm') (acts' := []) (by simp [hf _ _ _ _])
    rfl
  have hF : ((T.setTop g).pushFrame (.throwing a)).frames = .throwing a :: .java g :: below := by rw [frames_entered h.top, X.tail]
  rw [stepThread_throwing hF, hs]
  have hfr' : (T.setVm vm').frames = .java g0 :: below := hfr
  rw [State.setTop_of_frames _ hfr', State.pushFrame, State.setTop_of_frames _ hfr, State.setFrames_setFrames]
  rw [show ∀ F G : List Frame, ((T.setFrames F).setVm vm').setFrames G = ((T.setVm vm').setFrames F).setFrames G from fun _ _ => rfl, State.setFrames_setFrames]
  exact Steps.refl _
end XCT
