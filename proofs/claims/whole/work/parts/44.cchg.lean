/-! Contracts of methods that change cells and make new ones: fixed cells X, and a pool pl that only grows. -/
/-- words of the tables that no method's list has -/
def cSt : List (Nat × String) := [(67, "a session is under way"), (94, "no such kind, mode, time or path"), (108, "the entry is there, or has no directory, or the source is full"), (126, "nothing with content is chosen"), (146, "the content would be too long"), (148, "no place of the content"), (162, "a session is under way, or nothing with content is chosen"), (164, "no length within the content"), (172, "a session is under way, or nothing is chosen"), (174, "no such mode or time"), (191, "not at rest, or too many sessions"), (196, "the time is not above the latest one"), (205, "no session is under way"), (210, "no such number of operations"), (226, "no session is broken"), (237, "not at rest, or no session of that time or ahead of it"), (247, "not at rest")]
def cNw : List Cond := [.castable "[B" "java/lang/Cloneable", .castable "java/lang/IllegalStateException" "java/lang/IllegalStateException", .castable "java/lang/IllegalArgumentException" "java/lang/IllegalArgumentException", .declares ⟨"java/lang/RuntimeException", "<init>", "(Ljava/lang/String;)V"⟩, .declares ⟨"java/lang/Exception", "<init>", "(Ljava/lang/String;)V"⟩, .declares ⟨"java/lang/Throwable", "<init>", "(Ljava/lang/String;)V"⟩, .methodLinkNest RX8 9 yX5_init "MirrorKeep", .methodLinkNest RX8 18 yX6_init "MirrorKeep", .methodLinkNest RX8 31 yX2_init "MirrorKeep", .methodLinkNest RX8 38 yX7_init "MirrorKeep", .methodLinkNest RX7 9 yX0_init "MirrorKeep", .methodLinkNest RX8 45 yX0_init "MirrorKeep", .methodLinkNest RX4 18 yX6_init "MirrorKeep"]
def cT (U : State) : Prop := va_AO RX1 U ∧ va_AO RX4 U ∧ (∀ w ∈ cNw, va_Nw w U) ∧ ∀ q ∈ cSt, ∃ a, vk_R RX8 q.1 q.2 a U
theorem cNw_on : ∀ w ∈ cNw, w.onTables = true := by decide +kernel
theorem cT.same {u U : State} (h : u.vm = U.vm) (z : cT u) : cT U := by
  obtain ⟨h1, h2, h3, h4⟩ := z
  exact ⟨va_AO.moved (by rw [h]; exact Vm.Alike.refl _) h1, va_AO.moved (by rw [h]; exact Vm.Alike.refl _) h2, fun w hw => va_Nw.same (cNw_on w hw) h (h3 w hw), fun q hq => by obtain ⟨a, ha⟩ := h4 q hq; exact ⟨a, vk_R.same h.symm ha⟩⟩
theorem cT.warm {u U : State} (hW : u.WarmedH U.vm) (z : cT u) : cT U := by
  obtain ⟨h1, h2, h3, h4⟩ := z
  refine ⟨va_AO.moved hW.alike h1, va_AO.moved hW.alike h2, fun w hw => ?_, fun q hq => by obtain ⟨a, ha⟩ := h4 q hq; exact ⟨a, vk_R.warm hW ha⟩⟩
  have h9 := h3 w hw
  simp only [cNw, List.mem_cons, List.not_mem_nil, or_false] at hw
  rcases hw with rfl | rfl | rfl | rfl | rfl | rfl | rfl | rfl | rfl | rfl | rfl | rfl | rfl <;> first | exact va_Nw.warmC hW h9 | exact va_Nw.warmD hW h9 | exact va_Nw.warmM hW h9
def cB9 (G : va_G) (tys : List (ClassId × FieldType)) (w : va_W) (sz : Nat) : State → Prop := fun U => U.heap.size = sz ∧ va_P G vwCl w U.heap ∧ va_K G vwCl tys U ∧ va_D (fun _ => True) w ∧ cT U
def cQ (G : va_G) (A : Nat → Prop) (pl : va_W) (post : Option Value → va_W → va_W → Prop) : Array Value → State → Outcome → State → Prop := fun _ st o t => (∃ (r : Option Value) (X1 nw : va_W), o = .returned r ∧ post r X1 nw ∧ va_P G vwCl (X1 ++ (pl ++ nw)) t.heap ∧ va_D A (X1 ++ (pl ++ nw))) ∧ va_F A st t
def cMet (l : Launch) (y : MethodName) (ws : List Cond) (rm : Room) (G : va_G) (tys : List (ClassId × FieldType)) (As : List Value) (X pl : va_W) (sz mc ms : Nat) (post : Option Value → va_W → va_W → Prop) : Prop := Met l y ws rm (va_Pc As (cB9 G tys (X ++ pl) sz)) (cQ G (va_A (X ++ pl) sz) pl post) mc ms (va_A (X ++ pl) sz)
theorem cMet.mono {l : Launch} {y : MethodName} {ws : List Cond} {rm : Room} {G : va_G} {tys : List (ClassId × FieldType)} {As : List Value} {X pl : va_W} {sz mc ms : Nat} {post post' : Option Value → va_W → va_W → Prop} (h : cMet l y ws rm G tys As X pl sz mc ms post) (hi : ∀ r X1 nw, post r X1 nw → post' r X1 nw) : cMet l y ws rm G tys As X pl sz mc ms post' := by
  intro p e h1 h2 h3 s m args below h4 h5 h6 h7
  obtain ⟨n, o, a1, a2, a3, ⟨⟨⟨r, w1, nw, b1, b2, b3⟩, b4⟩, b5⟩⟩ := h p e h1 h2 h3 s m args below h4 h5 h6 h7
  exact ⟨n, o, a1, a2, a3, ⟨⟨⟨r, w1, nw, b1, hi _ _ _ b2, b3⟩, b4⟩, b5⟩⟩
theorem cB9_blind {G : va_G} {tys : List (ClassId × FieldType)} {w : va_W} {sz : Nat} {As : List Value} : FrameBlind (va_Pc As (cB9 G tys w sz)) := fun a U g mk q => ⟨q.1, q.2.1, q.2.2.1, va_K.moved (u := U) (U := U.calling g mk a) (Vm.Alike.refl U.vm) q.2.2.2.1, q.2.2.2.2.1, cT.same (u := U) (U := U.calling g mk a) rfl q.2.2.2.2.2⟩
section XCG
variable {p : Program} {l : Launch} {e : Env} {R : Room} {s : State} {m : MethodId} {args : Array Value} {below : List Frame} {meth : Method} {c : Code} {H : Heap} {locs : List Loc} {cells slots : Nat} {Q : State → Prop} {cc : ByteArray} {pc : Nat} {ls : Array Slot} {rest st0 : List Value}
variable {G : va_G} {tys : List (ClassId × FieldType)} {A : Nat → Prop} {X cx wr pl : va_W} {H0 : Heap} {y : MethodName} {ws Ts : List Cond} {rm : Room} {As : List Value} {own C host : String} {index maxL nL n b mc ms : Nat} {bytes : ByteArray} {ret : Option FieldType} {post : Option Value → va_W → va_W → Prop}
theorem xc_go (hr : va_Run p l e R s m args below meth c H locs cells slots mc ms (F0 m pc ls st0) rest (cQ G (va_A (cx ++ pl) H.size) pl post As.toArray) (va_A (cx ++ pl) H.size)) (hR : rR G A H0 H locs (X ++ pl)) (hA : ∀ q, H0.size ≤ q → A q) (isC isR : List Nat) (hC : isC.map (fun i => X[i]?) = cx.map some) (hRr : isR.map (fun i => X[i]?) = wr.map some) (hn : va_nd isR = true) (hdis : ∀ i ∈ isR, i ∉ isC)
    (kk : ∀ (r : Option Value) (X1 nw : va_W) (H1 : Heap) (locs1 : List Loc), post r X1 nw → rR G A H0 H1 locs1 ((wr ++ X1) ++ (pl ++ nw)) → W p l e R s m args below meth c H1 locs1 (cells + mc) (slots + ms) Q (F0 m (pc + 3) ls (r.toList ++ rest))) : W p l e R s m args below meth c H locs cells slots Q (F0 m pc ls st0) := by
  intro T hT X9
  obtain ⟨v, st₀, t, T', L, h0, X', hL, e1, e2, ⟨⟨r, X1, nw, hv, hp, hP1, hD1⟩, hz, hk⟩, st⟩ := hr T hT X9
  cases hv
  rw [h0] at hz hk
  obtain ⟨hP, hD, hS⟩ := hR
  have hF := va_freeP hD hS hA isC hC
  have hk1 : ∀ q : Nat, q < H.size → ¬ va_A (cx ++ pl) H.size q → T'.heap[q]? = H[q]? := fun q h1 h2 => by rw [e1]; exact hk q h1 h2
  obtain ⟨hP2, hD2⟩ := va_joinP hP hD isC isR hC hRr hn hdis hk1 hF (by rw [e1]; exact hP1) hD1
  obtain ⟨t2, a1, b1⟩ := kk v X1 nw T'.heap (locs ++ L) hp ⟨hP2, hD2, Nat.le_trans hS.1 (by rw [e1]; exact hz), fun q h1 h2 => by rw [hk1 q (Nat.lt_of_lt_of_le h1 hS.1) (fun z => h2 (hF q z))]; exact hS.2.1 q h1 h2, fun q hq => by
      rcases List.mem_append.mp hq with h | h
      · exact hS.2.2 q h
      · exact hF _ (hL q h)⟩ T' rfl X'
  exact ⟨t2, st t2 a1, b1⟩
theorem xc_pre (hK : va_K G vwCl tys s) (hZ : cT s) (hR : rR G A H0 H locs (X ++ pl)) (isC : List Nat) (hC : isC.map (fun i => X[i]?) = cx.map some) (hn : va_nd isC = true) : ∀ U : State, U.heap = H → s.WarmedH U.vm → va_Pc As (cB9 G tys (cx ++ pl) H.size) As.toArray U := fun U hU hW => ⟨rfl, by rw [hU], by rw [hU]; exact hR.1.part isC hC, va_K.moved hW.alike hK, (hR.2.1.part isC hn hC).weaken (fun _ _ _ _ => trivial), cT.warm hW hZ⟩
theorem xc_callV (hM : cMet l y ws rm G tys (.ref b :: As) cx pl H.size mc ms post) (S : CallFix p m c cc nL s args Ts own) (cw : CallW R s args own C index y bytes maxL ret ws rm mc ms n) (hK : va_K G vwCl tys s) (hZ : cT s) (hR : rR G A H0 H locs (X ++ pl)) (hA : ∀ q, H0.size ≤ q → A q)
    (hrc : ∃ cell : Cell, H[b]? = some cell ∧ cell.vm.isStatics = false ∧ s.vm.findClass C = some cell.cls) (isC isR : List Nat) (hC : isC.map (fun i => X[i]?) = cx.map some) (hRr : isR.map (fun i => X[i]?) = wr.map some) (hnC : va_nd isC = true) (hnR : va_nd isR = true) (hdis : ∀ i ∈ isR, i ∉ isC) (hn : As.length = n) (hl : ls.size = nL) (hst : st0 = As.reverse ++ .ref b :: rest) (hw : (rest.map fun v => v.category).sum ≤ 8) (hdg : decode cc pc = .ok (.invokevirtual index, 3)) (hf : cells + mc ≤ R.cells ∧ slots + ms ≤ R.slots)
    (kk : ∀ (r : Option Value) (X1 nw : va_W) (H1 : Heap) (locs1 : List Loc), post r X1 nw → rR G A H0 H1 locs1 ((wr ++ X1) ++ (pl ++ nw)) → W p l e R s m args below meth c H1 locs1 (cells + mc) (slots + ms) Q (F0 m (pc + 3) ls (r.toList ++ rest))) : W p l e R s m args below meth c H locs cells slots Q (F0 m pc ls st0) :=
  xc_go (va_runV (rest := rest) S hM cw ⟨cB9_blind, hrc, xc_pre hK hZ hR isC hC hnC⟩ rfl hn hl hst (lv_room hw) hdg hf) hR hA isC isR hC hRr hnR hdis kk
theorem xc_callS (hM : cMet l y ws rm G tys As cx pl H.size mc ms post) (S : CallFix p m c cc nL s args Ts own) (cw : CallB R s args own index y bytes maxL ret ws rm mc ms n ∧ (Cond.static y).before args s = true) (hK : va_K G vwCl tys s) (hZ : cT s) (hR : rR G A H0 H locs (X ++ pl)) (hA : ∀ q, H0.size ≤ q → A q)
    (isC isR : List Nat) (hC : isC.map (fun i => X[i]?) = cx.map some) (hRr : isR.map (fun i => X[i]?) = wr.map some) (hnC : va_nd isC = true) (hnR : va_nd isR = true) (hdis : ∀ i ∈ isR, i ∉ isC) (hn : As.length = n) (hl : ls.size = nL) (hst : st0 = As.reverse ++ rest) (hw : (rest.map fun v => v.category).sum ≤ 8) (hdg : decode cc pc = .ok (.invokestatic index, 3)) (hf : cells + mc ≤ R.cells ∧ slots + ms ≤ R.slots)
    (kk : ∀ (r : Option Value) (X1 nw : va_W) (H1 : Heap) (locs1 : List Loc), post r X1 nw → rR G A H0 H1 locs1 ((wr ++ X1) ++ (pl ++ nw)) → W p l e R s m args below meth c H1 locs1 (cells + mc) (slots + ms) Q (F0 m (pc + 3) ls (r.toList ++ rest))) : W p l e R s m args below meth c H locs cells slots Q (F0 m pc ls st0) :=
  xc_go (va_runS (rest := rest) S hM cw ⟨cB9_blind, xc_pre hK hZ hR isC hC hnC⟩ rfl hn hl hst (lv_room hw) hdg hf) hR hA isC isR hC hRr hnR hdis kk
theorem xc_callI (hM : cMet l y ws rm G tys (.ref b :: As) cx pl H.size mc ms post) (S : CallFix p m c cc nL s args Ts own) (cw : CallB R s args own index y bytes maxL none ws rm mc ms n ∧ y.name = "<init>" ∧ (Cond.instanceMethod y).before args s = true) (hK : va_K G vwCl tys s) (hZ : cT s) (hR : rR G A H0 H locs (X ++ pl)) (hA : ∀ q, H0.size ≤ q → A q)
    (isC isR : List Nat) (hC : isC.map (fun i => X[i]?) = cx.map some) (hRr : isR.map (fun i => X[i]?) = wr.map some) (hnC : va_nd isC = true) (hnR : va_nd isR = true) (hdis : ∀ i ∈ isR, i ∉ isC) (hn : As.length = n) (hl : ls.size = nL) (hst : st0 = As.reverse ++ .ref b :: rest) (hw : (rest.map fun v => v.category).sum ≤ 8) (hdg : decode cc pc = .ok (.invokespecial index, 3)) (hf : cells + mc ≤ R.cells ∧ slots + ms ≤ R.slots)
    (kk : ∀ (r : Option Value) (X1 nw : va_W) (H1 : Heap) (locs1 : List Loc), post r X1 nw → rR G A H0 H1 locs1 ((wr ++ X1) ++ (pl ++ nw)) → W p l e R s m args below meth c H1 locs1 (cells + mc) (slots + ms) Q (F0 m (pc + 3) ls (r.toList ++ rest))) : W p l e R s m args below meth c H locs cells slots Q (F0 m pc ls st0) :=
  xc_go (As := .ref b :: As) (va_runI (rest := rest) S hM cw ⟨cB9_blind, xc_pre (As := .ref b :: As) hK hZ hR isC hC hnC⟩ rfl hn hl hst (lv_room hw) hdg hf) hR hA isC isR hC hRr hnR hdis kk
theorem xc_callIN (hM : cMet l y ws rm G tys (.ref b :: As) cx pl H.size mc ms post) (S : CallFix p m c cc nL s args Ts own) (cw : va_CN R s args own index y host bytes maxL none ws rm mc ms n ∧ y.name = "<init>" ∧ (Cond.instanceMethod y).before args s = true) (hK : va_K G vwCl tys s) (hZ : cT s) (hR : rR G A H0 H locs (X ++ pl)) (hA : ∀ q, H0.size ≤ q → A q)
    (isC isR : List Nat) (hC : isC.map (fun i => X[i]?) = cx.map some) (hRr : isR.map (fun i => X[i]?) = wr.map some) (hnC : va_nd isC = true) (hnR : va_nd isR = true) (hdis : ∀ i ∈ isR, i ∉ isC) (hn : As.length = n) (hl : ls.size = nL) (hst : st0 = As.reverse ++ .ref b :: rest) (hw : (rest.map fun v => v.category).sum ≤ 8) (hdg : decode cc pc = .ok (.invokespecial index, 3)) (hf : cells + mc ≤ R.cells ∧ slots + ms ≤ R.slots)
    (kk : ∀ (r : Option Value) (X1 nw : va_W) (H1 : Heap) (locs1 : List Loc), post r X1 nw → rR G A H0 H1 locs1 ((wr ++ X1) ++ (pl ++ nw)) → W p l e R s m args below meth c H1 locs1 (cells + mc) (slots + ms) Q (F0 m (pc + 3) ls (r.toList ++ rest))) : W p l e R s m args below meth c H locs cells slots Q (F0 m pc ls st0) :=
  xc_go (As := .ref b :: As) (va_runIN (rest := rest) S hM cw ⟨cB9_blind, xc_pre (As := .ref b :: As) hK hZ hR isC hC hnC⟩ rfl hn hl hst (lv_room hw) hdg hf) hR hA isC isR hC hRr hnR hdis kk
theorem xc_vret {X1 nw : va_W} (hx : p.tables.exec = Jvm.exec) (hb : c.code = cc) (hr : meth.sig.returnType = none) (hlocks : meth.locks = false) (hR : rR G A s.heap H locs (X1 ++ (pl ++ nw))) (hp : post none X1 nw) (hdg : decode cc pc = .ok (.return_, 1)) : W p l e R s m args below meth c H locs cells slots (MQ below (cQ G A pl post) args s cells slots A) (F0 m pc ls []) :=
  W.vret hx hb hr (fun t ht hW => ⟨⟨none, X1, nw, rfl, hp, by rw [ht]; exact hR.1, hR.2.1⟩, hR.2.2.F ht⟩) hR.2.2.2.2 hdg hlocks
theorem xc_iret {X1 nw : va_W} {v : Int32} (hx : p.tables.exec = Jvm.exec) (hb : c.code = cc) (hr : meth.sig.returnType = some .int) (hlocks : meth.locks = false) (hR : rR G A s.heap H locs (X1 ++ (pl ++ nw))) (hp : post (some (.int v)) X1 nw) (hdg : decode cc pc = .ok (.ireturn, 1)) : W p l e R s m args below meth c H locs cells slots (MQ below (cQ G A pl post) args s cells slots A) (F0 m pc ls [.int v]) :=
  W.iret hx hb hr (fun t ht hW => ⟨⟨_, X1, nw, rfl, hp, by rw [ht]; exact hR.1, hR.2.1⟩, hR.2.2.F ht⟩) hR.2.2.2.2 hdg hlocks
theorem xc_zret {X1 nw : va_W} {v : Int32} (hx : p.tables.exec = Jvm.exec) (hb : c.code = cc) (hr : meth.sig.returnType = some .boolean) (hz : v = 0 ∨ v = 1) (hlocks : meth.locks = false) (hR : rR G A s.heap H locs (X1 ++ (pl ++ nw))) (hp : post (some (.int v)) X1 nw) (hdg : decode cc pc = .ok (.ireturn, 1)) : W p l e R s m args below meth c H locs cells slots (MQ below (cQ G A pl post) args s cells slots A) (F0 m pc ls [.int v]) :=
  W.zret hx hb hr (by rcases hz with rfl | rfl <;> rfl) (fun t ht hW => ⟨⟨_, X1, nw, rfl, hp, by rw [ht]; exact hR.1, hR.2.1⟩, hR.2.2.F ht⟩) hR.2.2.2.2 hdg hlocks
theorem xc_aret {X1 nw : va_W} {v : Value} {rt : FieldType} (hx : p.tables.exec = Jvm.exec) (hb : c.code = cc) (hr : meth.sig.returnType = some rt) (hrt : (∃ n, rt = .object n) ∨ ∃ t, rt = .array t) (hv : v = .null ∨ ∃ a, v = .ref a) (hlocks : meth.locks = false) (hR : rR G A s.heap H locs (X1 ++ (pl ++ nw))) (hp : post (some v) X1 nw) (hdg : decode cc pc = .ok (.areturn, 1)) : W p l e R s m args below meth c H locs cells slots (MQ below (cQ G A pl post) args s cells slots A) (F0 m pc ls [v]) :=
  W.aret hx hb hr hrt hv (fun t ht hW => ⟨⟨_, X1, nw, rfl, hp, by rw [ht]; exact hR.1, hR.2.1⟩, hR.2.2.F ht⟩) hR.2.2.2.2 hdg hlocks
/-- a new byte array: its class is the one that the tables know -/
theorem xc_newb {cB : ClassId} (hx : p.tables.exec = Jvm.exec) (hb : c.code = cc) (harr : (Cond.arrayClass (newarray.typeOf .byte)).before args s = true) (hK : va_K G vwCl tys s) (hT0 : tys[0]? = some (cB, .byte)) (hR : rR G A H0 H locs (X ++ pl)) (hA : ∀ q, H0.size ≤ q → A q) (hn : n < 2 ^ 28) (hcells : cells + 1 ≤ R.cells) (hslots : slots + n ≤ R.slots) (hdg : decode cc pc = .ok (.newarray .byte, 2))
    (kk : ∀ (q : Nat) (H1 : Heap), rR G A H0 H1 locs ((X ++ [(q, .inl (cB, n, .inl (fun _ => 0)))]) ++ pl) → W p l e R s m args below meth c H1 locs (cells + 1) (slots + n) Q (F0 m (pc + 2) ls (.ref q :: rest))) : W p l e R s m args below meth c H locs cells slots Q (F0 m pc ls (.int (nI n) :: rest)) := by
  refine va_newa (ty := .byte) (a0 := (n, .inl (fun _ => 0))) (N' := n) hx hb harr rfl hK hR.1 hR.2.1 hR.2.2 hA (fun cA => rfl) (nI_pos (by omega)) (nI_clamp (by omega)) (by simp [componentBytes]; omega) hcells hslots hdg (fun q cA H1 hK1 hP hD hS => ?_)
  have e1 := (hK1.2 tys.length (cA, .byte) (by simp)).2
  have e2 := (hK.2 0 (cB, .byte) hT0).2
  have e3 : cA = cB := Option.some.inj ((show s.vm.findClass _ = some cA from e1).symm.trans (show s.vm.findClass _ = some cB from e2))
  subst e3
  exact kk q H1 ⟨hP.swap, hD.swap, hS⟩
theorem xc_pool {q : Nat × va_E} (hR : rR G A H0 H locs ((X ++ [q]) ++ pl)) : rR G A H0 H locs (X ++ (pl ++ [q])) := ⟨by rw [← List.append_assoc]; exact hR.1.swap, by rw [← List.append_assoc]; exact hR.2.1.swap, hR.2.2⟩
theorem xc_ast {w : va_W} {cE : ClassId} {r : vw_C} {a i N t0 ci v : Nat} {vs : List Value} {f : Nat → Option Nat} (hx : p.tables.exec = Jvm.exec) (hb : c.code = cc) (hK : va_K G vwCl tys s) (hT2 : tys[t0]? = some (cE, .object r.1)) (hc : vwCl[ci]? = some r) (hR : rR G A H0 H locs w) (q0 : Nat) (ha : w[q0]? = some (a, .inl (cE, N, rfs f))) (hm : (v, .inr (ci, vs)) ∈ w) (hi : i < N) (hN : N < 2 ^ 31) (hdg : decode cc pc = .ok (.aastore, 1))
    (kk : ∀ (H1 : Heap) (locs1 : List Loc), rR G A H0 H1 locs1 (w.set q0 (a, .inl (cE, N, rfs (va_up f i (some v))))) → W p l e R s m args below meth c H1 locs1 cells slots Q (F0 m (pc + 1) ls rest)) : W p l e R s m args below meth c H locs cells slots Q (F0 m pc ls (.ref v :: .int (nI i) :: .ref a :: rest)) := by
  obtain ⟨qk, he⟩ := List.getElem?_of_mem hm
  refine va_astq hx hb hK hR.1 hR.2.1 hR.2.2 q0 t0 qk ci ha hT2 he hc (vp_in_nI hi hN) hdg ?_
  rw [nI_clamp (Nat.lt_trans hi hN)]
  exact fun H1 locs1 h1 h2 h3 => kk H1 locs1 ⟨h1, h2, h3⟩
theorem xc_nil (hR : rR G A H0 H locs (X ++ (pl ++ []))) : rR G A H0 H locs (X ++ pl) := by rw [List.append_nil] at hR; exact hR
theorem xc_unpool {q : Nat × va_E} (hR : rR G A H0 H locs (X ++ (pl ++ [q]))) : rR G A H0 H locs ((X ++ [q]) ++ pl) := by
  rw [← List.append_assoc] at hR
  exact ⟨hR.1.swap, hR.2.1.swap, hR.2.2⟩
theorem xc_perm (hR : rR G A H0 H locs (X ++ pl)) (is : List Nat) (hs : is.map (fun i => X[i]?) = cx.map some) (hn : va_nd is = true) : rR G A H0 H locs (cx ++ pl) := ⟨hR.1.part is hs, hR.2.1.part is hn hs, hR.2.2⟩
theorem xc_ist {w : va_W} {cI : ClassId} {a i N : Nat} {v : Int32} {f : Nat → Int32} (hx : p.tables.exec = Jvm.exec) (hb : c.code = cc) (hK : va_K G vwCl tys s) (hT1 : tys[1]? = some (cI, .int)) (hR : rR G A H0 H locs w) (q0 : Nat) (ha : w[q0]? = some (a, .inl (cI, N, .inl f))) (hi : i < N) (hN : N < 2 ^ 31) (hdg : decode cc pc = .ok (.iastore, 1))
    (kk : ∀ (H1 : Heap) (locs1 : List Loc), rR G A H0 H1 locs1 (w.set q0 (a, .inl (cI, N, .inl (upd f i v)))) → W p l e R s m args below meth c H1 locs1 cells slots Q (F0 m (pc + 1) ls rest)) : W p l e R s m args below meth c H locs cells slots Q (F0 m pc ls (.int v :: .int (nI i) :: .ref a :: rest)) := by
  refine va_iast hx hb hK hR.1 hR.2.1 hR.2.2 q0 1 ha hT1 (vp_in_nI hi hN) hdg ?_
  rw [nI_clamp (Nat.lt_trans hi hN)]
  exact fun H1 locs1 h1 h2 h3 => kk H1 locs1 ⟨h1, h2, h3⟩
theorem xc_bst {w : va_W} {cB : ClassId} {a i N : Nat} {v : Int32} {f : Nat → Int32} (hx : p.tables.exec = Jvm.exec) (hb : c.code = cc) (hK : va_K G vwCl tys s) (hT0 : tys[0]? = some (cB, .byte)) (hR : rR G A H0 H locs w) (q0 : Nat) (ha : w[q0]? = some (a, .inl (cB, N, .inl f))) (hi : i < N) (hN : N < 2 ^ 31) (hv : vp_nar .byte v = v) (hdg : decode cc pc = .ok (.bastore, 1))
    (kk : ∀ (H1 : Heap) (locs1 : List Loc), rR G A H0 H1 locs1 (w.set q0 (a, .inl (cB, N, .inl (upd f i v)))) → W p l e R s m args below meth c H1 locs1 cells slots Q (F0 m (pc + 1) ls rest)) : W p l e R s m args below meth c H locs cells slots Q (F0 m pc ls (.int v :: .int (nI i) :: .ref a :: rest)) := by
  refine va_bast hx hb hK hR.1 hR.2.1 hR.2.2 q0 0 ha hT0 (vp_in_nI hi hN) hdg ?_
  rw [nI_clamp (Nat.lt_trans hi hN), hv]
  exact fun H1 locs1 h1 h2 h3 => kk H1 locs1 ⟨h1, h2, h3⟩
theorem xc_astN {w : va_W} {cE : ClassId} {C : String} {a i N t0 : Nat} {f : Nat → Option Nat} (hx : p.tables.exec = Jvm.exec) (hb : c.code = cc) (hK : va_K G vwCl tys s) (hT2 : tys[t0]? = some (cE, .object C)) (hR : rR G A H0 H locs w) (q0 : Nat) (ha : w[q0]? = some (a, .inl (cE, N, rfs f))) (hi : i < N) (hN : N < 2 ^ 31) (hdg : decode cc pc = .ok (.aastore, 1))
    (kk : ∀ (H1 : Heap) (locs1 : List Loc), rR G A H0 H1 locs1 (w.set q0 (a, .inl (cE, N, rfs (va_up f i none)))) → W p l e R s m args below meth c H1 locs1 cells slots Q (F0 m (pc + 1) ls rest)) : W p l e R s m args below meth c H locs cells slots Q (F0 m pc ls (.null :: .int (nI i) :: .ref a :: rest)) := by
  refine va_astqN hx hb hK hR.1 hR.2.1 hR.2.2 q0 t0 ha hT2 (vp_in_nI hi hN) hdg ?_
  rw [nI_clamp (Nat.lt_trans hi hN)]
  exact fun H1 locs1 h1 h2 h3 => kk H1 locs1 ⟨h1, h2, h3⟩
theorem xc_newi {cI : ClassId} (hx : p.tables.exec = Jvm.exec) (hb : c.code = cc) (harr : (Cond.arrayClass (newarray.typeOf .int)).before args s = true) (hK : va_K G vwCl tys s) (hT1 : tys[1]? = some (cI, .int)) (hR : rR G A H0 H locs (X ++ pl)) (hA : ∀ q, H0.size ≤ q → A q) (hn : n < 2 ^ 26) (hcells : cells + 1 ≤ R.cells) (hslots : slots + n ≤ R.slots) (hdg : decode cc pc = .ok (.newarray .int, 2))
    (kk : ∀ (q : Nat) (H1 : Heap), rR G A H0 H1 locs ((X ++ [(q, .inl (cI, n, .inl (fun _ => 0)))]) ++ pl) → W p l e R s m args below meth c H1 locs (cells + 1) (slots + n) Q (F0 m (pc + 2) ls (.ref q :: rest))) : W p l e R s m args below meth c H locs cells slots Q (F0 m pc ls (.int (nI n) :: rest)) := by
  refine va_newa (ty := .int) (a0 := (n, .inl (fun _ => 0))) (N' := n) hx hb harr rfl hK hR.1 hR.2.1 hR.2.2 hA (fun cA => rfl) (nI_pos (by omega)) (nI_clamp (by omega)) (by simp [componentBytes]; omega) hcells hslots hdg (fun q cA H1 hK1 hP hD hS => ?_)
  have e1 := (hK1.2 tys.length (cA, .int) (by simp)).2
  have e2 := (hK.2 1 (cI, .int) hT1).2
  have e3 : cA = cI := Option.some.inj ((show s.vm.findClass _ = some cA from e1).symm.trans (show s.vm.findClass _ = some cI from e2))
  subst e3
  exact kk q H1 ⟨hP.swap, hD.swap, hS⟩
theorem xc_newq {cE : ClassId} {C : String} {t0 : Nat} (hx : p.tables.exec = Jvm.exec) (hb : c.code = cc) (hown : s.vm.findClass own = some m.cls) (hclink : (Cond.classLink own index C).before args s = true) (hover : va_AO C s) (hK : va_K G vwCl tys s) (hT2 : tys[t0]? = some (cE, .object C)) (hR : rR G A H0 H locs (X ++ pl)) (hA : ∀ q, H0.size ≤ q → A q) (hn : n < 2 ^ 26) (hcells : cells + 1 ≤ R.cells) (hslots : slots + n ≤ R.slots) (hdg : decode cc pc = .ok (.anewarray index, 3))
    (kk : ∀ (q : Nat) (H1 : Heap), rR G A H0 H1 locs ((X ++ [(q, .inl (cE, n, rfs (fun _ => none)))]) ++ pl) → W p l e R s m args below meth c H1 locs (cells + 1) (slots + n) Q (F0 m (pc + 3) ls (.ref q :: rest))) : W p l e R s m args below meth c H locs cells slots Q (F0 m pc ls (.int (nI n) :: rest)) := by
  refine va_newq (N' := n) hx hb hown hclink hover hK hR.1 hR.2.1 hR.2.2 hA (nI_pos (by omega)) (nI_clamp (by omega)) (by omega) hcells hslots hdg (fun q cA H1 hK1 hP hD hS => ?_)
  have e1 := (hK1.2 tys.length (cA, .object C) (by simp)).2
  have e2 := (hK.2 t0 (cE, .object C) hT2).2
  obtain ⟨-, -, -, -, -, e1⟩ := e1
  obtain ⟨-, -, -, -, -, e2⟩ := e2
  have e3 : cA = cE := Option.some.inj (e1.symm.trans e2)
  subst e3
  exact kk q H1 ⟨hP.swap, hD.swap, hS⟩
end XCG
theorem plm {pl nw : va_W} : ∀ q, q ∈ pl → q ∈ pl ++ nw := fun _ h => List.mem_append_left _ h
theorem xpm {X pl : va_W} : ∀ q, q ∈ pl → q ∈ X ++ pl := fun _ h => List.mem_append_right _ h
/-- rows moved one place on from a place on, and one put there -/
def insF (f : Nat → Option Nat) (k : Nat) (v : Option Nat) : Nat → Option Nat := fun j => if j < k then f j else if j = k then v else f (j - 1)
def insL {α : Type} (L : List α) (k : Nat) (u : α) : List α := L.take k ++ [u] ++ L.drop k
theorem insL_len {α : Type} {L : List α} {k : Nat} {u : α} (h : k ≤ L.length) : (insL L k u).length = L.length + 1 := by
  unfold insL
  rw [List.length_append, List.length_append, List.length_take, List.length_drop]
  simp only [List.length_cons, List.length_nil]
  omega
theorem insL_get {α : Type} {L : List α} {k j : Nat} {u d : α} (h : k ≤ L.length) : (insL L k u).getD j d = if j < k then L.getD j d else if j = k then u else L.getD (j - 1) d := by
  have hl : (L.take k).length = k := by rw [List.length_take]; omega
  unfold insL
  simp only [List.getD_eq_getElem?_getD]
  by_cases h1 : j < k
  · rw [if_pos h1, List.append_assoc, List.getElem?_append_left (by omega), List.getElem?_take, if_pos h1]
  · rw [if_neg h1, List.append_assoc, List.getElem?_append_right (by omega), hl]
    by_cases h2 : j = k
    · rw [if_pos h2, h2, Nat.sub_self]; rfl
    · rw [if_neg h2, List.singleton_append, show j - k = (j - 1 - k) + 1 by omega, List.getElem?_cons_succ, List.getElem?_drop]
      congr 2; omega
theorem insL_csum {L : List En} {k : Nat} {u : En} : csum (insL L k u) = csum L + (ct u).length := by
  unfold insL
  rw [csum_app, csum_a1]
  have h : csum (L.take k) + csum (L.drop k) = csum L := by rw [← csum_app, List.take_append_drop]
  omega
theorem insF_rows {pl : va_W} {cB : ClassId} {f g : Nat → Option Nat} {L : List En} {k v : Nat} {u : En} (h : tRows pl cB f L) (hk : k ≤ L.length) (hl : L.length < 120) (hp : pEnt pl cB v u) (hpl : u.1.length ≤ 150) (hcs : csum L + (ct u).length ≤ 8000) (hg : ∀ j, j < L.length + 1 → g j = insF f k (some v) j) : tRows pl cB g (insL L k u) := by
  obtain ⟨h1, h2, h3, h4⟩ := h
  refine ⟨by rw [insL_len hk]; omega, fun i hi => ?_, fun i hi => ?_, by rw [insL_csum]; exact hcs⟩
  · rw [insL_len hk] at hi
    rw [hg i hi, insL_get hk]
    unfold insF
    by_cases e1 : i < k
    · rw [if_pos e1, if_pos e1]; exact h2 i (by omega)
    · rw [if_neg e1, if_neg e1]
      by_cases e2 : i = k
      · rw [if_pos e2, if_pos e2]; exact ⟨v, rfl, hp⟩
      · rw [if_neg e2, if_neg e2]; exact h2 (i - 1) (by omega)
  · rw [insL_len hk] at hi
    rw [insL_get hk]
    by_cases e1 : i < k
    · rw [if_pos e1]; exact h3 i (by omega)
    · rw [if_neg e1]
      by_cases e2 : i = k
      · rw [if_pos e2]; exact hpl
      · rw [if_neg e2]; exact h3 (i - 1) (by omega)
/-- some rows out from a place on -/
def drpL {α : Type} (L : List α) (k n : Nat) : List α := L.take k ++ L.drop (k + n)
theorem drpL_len {α : Type} {L : List α} {k n : Nat} (h : k + n ≤ L.length) : (drpL L k n).length = L.length - n := by
  unfold drpL
  rw [List.length_append, List.length_take, List.length_drop]
  omega
theorem drpL_get {α : Type} {L : List α} {k n j : Nat} {d : α} (h : k + n ≤ L.length) : (drpL L k n).getD j d = if j < k then L.getD j d else L.getD (j + n) d := by
  have hl : (L.take k).length = k := by rw [List.length_take]; omega
  unfold drpL
  simp only [List.getD_eq_getElem?_getD]
  by_cases h1 : j < k
  · rw [if_pos h1, List.getElem?_append_left (by omega), List.getElem?_take, if_pos h1]
  · rw [if_neg h1, List.getElem?_append_right (by omega), hl, List.getElem?_drop]
    congr 2; omega
theorem drpL_csum {L : List En} {k n : Nat} : csum (drpL L k n) ≤ csum L := by
  unfold drpL
  rw [csum_app]
  have h : csum (L.take k) + csum (L.drop k) = csum L := by rw [← csum_app, List.take_append_drop]
  have h2 : csum ((L.drop k).take n) + csum ((L.drop k).drop n) = csum (L.drop k) := by rw [← csum_app, List.take_append_drop]
  rw [List.drop_drop] at h2
  omega
theorem drpF_rows {pl : va_W} {cB : ClassId} {f g : Nat → Option Nat} {L : List En} {k n : Nat} (h : tRows pl cB f L) (hk : k + n ≤ L.length) (hg1 : ∀ j, j < k → g j = f j) (hg2 : ∀ j, k ≤ j → j + n < L.length → g j = f (j + n)) : tRows pl cB g (drpL L k n) := by
  obtain ⟨h1, h2, h3, h4⟩ := h
  refine ⟨by rw [drpL_len hk]; omega, fun i hi => ?_, fun i hi => ?_, Nat.le_trans drpL_csum h4⟩
  · rw [drpL_len hk] at hi
    rw [drpL_get hk]
    by_cases e1 : i < k
    · rw [if_pos e1, hg1 i e1]; exact h2 i (by omega)
    · rw [if_neg e1, hg2 i (by omega) (by omega)]; exact h2 (i + n) (by omega)
  · rw [drpL_len hk] at hi
    rw [drpL_get hk]
    by_cases e1 : i < k
    · rw [if_pos e1]; exact h3 i (by omega)
    · rw [if_neg e1]; exact h3 (i + n) (by omega)
theorem repF_rows {pl : va_W} {cB : ClassId} {f : Nat → Option Nat} {L : List En} {k v : Nat} {u : En} (h : tRows pl cB f L) (hk : k < L.length) (hp : pEnt pl cB v u) (hpl : u.1.length ≤ 150) (hcs : csum (L.set k u) ≤ 8000) : tRows pl cB (va_up f k (some v)) (L.set k u) := by
  obtain ⟨h1, h2, h3, h4⟩ := h
  refine ⟨by rw [List.length_set]; exact h1, fun i hi => ?_, fun i hi => ?_, hcs⟩
  · rw [List.length_set] at hi
    by_cases e1 : k = i
    · subst e1; rw [gd_set_self hk, va_up_self]; exact ⟨v, rfl, hp⟩
    · rw [gd_set_ne e1, va_up_ne _ _ (Ne.symm e1)]; exact h2 i hi
  · rw [List.length_set] at hi
    by_cases e1 : k = i
    · subst e1; rw [gd_set_self hk]; exact hpl
    · rw [gd_set_ne e1]; exact h3 i hi
def putL (L : List En) (u : En) : List En := if insI u.1 L < L.length ∧ (L.getD (insI u.1 L) e0).1 = u.1 then L.set (insI u.1 L) u else insL L (insI u.1 L) u
theorem fnd2_or (L : List En) (P : List Nat) : (fnd2 L P = -1 ∧ ¬ (insI P L < L.length ∧ (L.getD (insI P L) e0).1 = P)) ∨ (fnd2 L P = nI (insI P L) ∧ insI P L < L.length ∧ (L.getD (insI P L) e0).1 = P) := by
  unfold fnd2
  by_cases h : insI P L < L.length ∧ (L.getD (insI P L) e0).1 = P
  · rw [if_pos h]; exact Or.inr ⟨rfl, h⟩
  · rw [if_neg h]; exact Or.inl ⟨rfl, h⟩
theorem put_none {L : List En} {P : List Nat} (h : (fnd2 L P).toInt = -1) (hl : L.length ≤ 120) : ¬ (insI P L < L.length ∧ (L.getD (insI P L) e0).1 = P) := by
  rcases fnd2_or L P with ⟨-, h1⟩ | ⟨h1, h2, -⟩
  · exact h1
  · rw [h1, nI_toInt (by omega)] at h; omega
theorem put_some {L : List En} {P : List Nat} (h : (fnd2 L P).toInt ≠ -1) : insI P L < L.length ∧ (L.getD (insI P L) e0).1 = P ∧ fnd2 L P = nI (insI P L) := by
  rcases fnd2_or L P with ⟨h1, -⟩ | ⟨h1, h2, h3⟩
  · rw [h1] at h; exact absurd rfl h
  · exact ⟨h2, h3, h1⟩
theorem set_le {L : List En} {u : En} {k : Nat} (hk : k < L.length) (h : csum L + (ct u).length ≤ 8000) : csum (L.set k u) ≤ 8000 := by
  have h1 := set_csum (u := u) hk L.length (Nat.le_refl _)
  rw [if_pos hk, if_pos hk, List.take_length, List.take_of_length_le (by rw [List.length_set]; exact Nat.le_refl _)] at h1
  omega
theorem rows_eq {pl : va_W} {cB : ClassId} {f g : Nat → Option Nat} {L : List En} (h : tRows pl cB f L) (hg : ∀ j, j < L.length → g j = f j) : tRows pl cB g L := by
  obtain ⟨h1, h2, h3, h4⟩ := h
  exact ⟨h1, fun i hi => by rw [hg i hi]; exact h2 i hi, h3, h4⟩
