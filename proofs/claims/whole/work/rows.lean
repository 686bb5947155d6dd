section
-- ===== PART A: goes FIRST, ahead of the names: the tables' words, and 'selects' of the private methods out of them =====
/-- a private method of a class that the tables say can be made, by its rows of tables_1 -/
def lw_okq (q : MethodName × Nat) : Prop := (q.1.cls ≠ "java/lang/invoke/MethodHandle" ∧ q.1.cls ≠ "java/lang/invoke/VarHandle") ∧ Cond.instantiable q.1.cls q.2 ∈ tables_1 ∧ Cond.privateMethod q.1 ∈ tables_1 ∧ Cond.instanceMethod q.1 ∈ tables_1
theorem lw_p0 : lw_okq (⟨"MirrorKeep$Tape", "readyByte", "(I)B"⟩, 3) := ⟨⟨by decide +kernel, by decide +kernel⟩, List.mem_of_getElem? (i := 28) (by decide +kernel), List.mem_of_getElem? (i := 158) (by decide +kernel), List.mem_of_getElem? (i := 159) (by decide +kernel)⟩
theorem lw_p1 : lw_okq (⟨"MirrorKeep$Tree", "placeOf", "([B)I"⟩, 2) := ⟨⟨by decide +kernel, by decide +kernel⟩, List.mem_of_getElem? (i := 46) (by decide +kernel), List.mem_of_getElem? (i := 193) (by decide +kernel), List.mem_of_getElem? (i := 194) (by decide +kernel)⟩
theorem lw_p2 : lw_okq (⟨"MirrorKeep$Changes", "add", "(LMirrorKeep$Entry;LMirrorKeep$Entry;)V"⟩, 3) := ⟨⟨by decide +kernel, by decide +kernel⟩, List.mem_of_getElem? (i := 82) (by decide +kernel), List.mem_of_getElem? (i := 226) (by decide +kernel), List.mem_of_getElem? (i := 227) (by decide +kernel)⟩
theorem lw_p3 : lw_okq (⟨"MirrorKeep$Entry", "hasContent", "([B)Z"⟩, 5) := ⟨⟨by decide +kernel, by decide +kernel⟩, List.mem_of_getElem? (i := 236) (by decide +kernel), List.mem_of_getElem? (i := 234) (by decide +kernel), List.mem_of_getElem? (i := 235) (by decide +kernel)⟩
theorem lw_p4 : lw_okq (⟨"MirrorKeep", "entryOf", "(II)LMirrorKeep$Entry;"⟩, 9) := ⟨⟨by decide +kernel, by decide +kernel⟩, List.mem_of_getElem? (i := 20) (by decide +kernel), List.mem_of_getElem? (i := 247) (by decide +kernel), List.mem_of_getElem? (i := 248) (by decide +kernel)⟩
theorem lw_p5 : lw_okq (⟨"java/lang/Throwable", "fillInStackTrace", "(I)Ljava/lang/Throwable;"⟩, 6) := ⟨⟨by decide +kernel, by decide +kernel⟩, List.mem_of_getElem? (i := 336) (by decide +kernel), List.mem_of_getElem? (i := 334) (by decide +kernel), List.mem_of_getElem? (i := 335) (by decide +kernel)⟩
theorem lw_p6 : lw_okq (⟨"MirrorKeep", "hasDirectory", "([B)Z"⟩, 9) := ⟨⟨by decide +kernel, by decide +kernel⟩, List.mem_of_getElem? (i := 20) (by decide +kernel), List.mem_of_getElem? (i := 396) (by decide +kernel), List.mem_of_getElem? (i := 397) (by decide +kernel)⟩
theorem lw_p7 : lw_okq (⟨"MirrorKeep$Tree", "insert", "(ILMirrorKeep$Entry;)V"⟩, 2) := ⟨⟨by decide +kernel, by decide +kernel⟩, List.mem_of_getElem? (i := 46) (by decide +kernel), List.mem_of_getElem? (i := 439) (by decide +kernel), List.mem_of_getElem? (i := 440) (by decide +kernel)⟩
theorem lw_p8 : lw_okq (⟨"MirrorKeep$Work", "isUpdate", "(I)Z"⟩, 3) := ⟨⟨by decide +kernel, by decide +kernel⟩, List.mem_of_getElem? (i := 76) (by decide +kernel), List.mem_of_getElem? (i := 561) (by decide +kernel), List.mem_of_getElem? (i := 562) (by decide +kernel)⟩
theorem lw_p9 : lw_okq (⟨"MirrorKeep", "commit", "()V"⟩, 9) := ⟨⟨by decide +kernel, by decide +kernel⟩, List.mem_of_getElem? (i := 20) (by decide +kernel), List.mem_of_getElem? (i := 578) (by decide +kernel), List.mem_of_getElem? (i := 579) (by decide +kernel)⟩
theorem lw_p10 : lw_okq (⟨"MirrorKeepModel", "isPath", "(I)Z"⟩, 24) := ⟨⟨by decide +kernel, by decide +kernel⟩, List.mem_of_getElem? (i := 661) (by decide +kernel), List.mem_of_getElem? (i := 758) (by decide +kernel), List.mem_of_getElem? (i := 759) (by decide +kernel)⟩
theorem lw_p11 : lw_okq (⟨"MirrorKeepModel", "find", "(I[II)I"⟩, 24) := ⟨⟨by decide +kernel, by decide +kernel⟩, List.mem_of_getElem? (i := 661) (by decide +kernel), List.mem_of_getElem? (i := 765) (by decide +kernel), List.mem_of_getElem? (i := 766) (by decide +kernel)⟩
theorem lw_p12 : lw_okq (⟨"MirrorKeepModel", "hasDirectory", "(I)Z"⟩, 24) := ⟨⟨by decide +kernel, by decide +kernel⟩, List.mem_of_getElem? (i := 661) (by decide +kernel), List.mem_of_getElem? (i := 778) (by decide +kernel), List.mem_of_getElem? (i := 779) (by decide +kernel)⟩
theorem lw_p13 : lw_okq (⟨"MirrorKeepModel", "empty", "(I)V"⟩, 24) := ⟨⟨by decide +kernel, by decide +kernel⟩, List.mem_of_getElem? (i := 661) (by decide +kernel), List.mem_of_getElem? (i := 782) (by decide +kernel), List.mem_of_getElem? (i := 783) (by decide +kernel)⟩
theorem lw_p14 : lw_okq (⟨"MirrorKeepModel", "append", "(III)V"⟩, 24) := ⟨⟨by decide +kernel, by decide +kernel⟩, List.mem_of_getElem? (i := 661) (by decide +kernel), List.mem_of_getElem? (i := 786) (by decide +kernel), List.mem_of_getElem? (i := 787) (by decide +kernel)⟩
theorem lw_p15 : lw_okq (⟨"MirrorKeepModel", "copy", "(II)V"⟩, 24) := ⟨⟨by decide +kernel, by decide +kernel⟩, List.mem_of_getElem? (i := 661) (by decide +kernel), List.mem_of_getElem? (i := 790) (by decide +kernel), List.mem_of_getElem? (i := 791) (by decide +kernel)⟩
def lw_privs_1 : List (MethodName × Nat) := [(⟨"MirrorKeep$Tape", "readyByte", "(I)B"⟩, 3), (⟨"MirrorKeep$Tree", "placeOf", "([B)I"⟩, 2), (⟨"MirrorKeep$Changes", "add", "(LMirrorKeep$Entry;LMirrorKeep$Entry;)V"⟩, 3), (⟨"MirrorKeep$Entry", "hasContent", "([B)Z"⟩, 5), (⟨"MirrorKeep", "entryOf", "(II)LMirrorKeep$Entry;"⟩, 9), (⟨"java/lang/Throwable", "fillInStackTrace", "(I)Ljava/lang/Throwable;"⟩, 6), (⟨"MirrorKeep", "hasDirectory", "([B)Z"⟩, 9), (⟨"MirrorKeep$Tree", "insert", "(ILMirrorKeep$Entry;)V"⟩, 2), (⟨"MirrorKeep$Work", "isUpdate", "(I)Z"⟩, 3), (⟨"MirrorKeep", "commit", "()V"⟩, 9), (⟨"MirrorKeepModel", "isPath", "(I)Z"⟩, 24), (⟨"MirrorKeepModel", "find", "(I[II)I"⟩, 24), (⟨"MirrorKeepModel", "hasDirectory", "(I)Z"⟩, 24), (⟨"MirrorKeepModel", "empty", "(I)V"⟩, 24), (⟨"MirrorKeepModel", "append", "(III)V"⟩, 24), (⟨"MirrorKeepModel", "copy", "(II)V"⟩, 24)]
theorem lw_r1 : ∀ q ∈ lw_privs_1, lw_okq q := List.forall_mem_cons.mpr ⟨lw_p0, List.forall_mem_cons.mpr ⟨lw_p1, List.forall_mem_cons.mpr ⟨lw_p2, List.forall_mem_cons.mpr ⟨lw_p3, List.forall_mem_cons.mpr ⟨lw_p4, List.forall_mem_cons.mpr ⟨lw_p5, List.forall_mem_cons.mpr ⟨lw_p6, List.forall_mem_cons.mpr ⟨lw_p7, List.forall_mem_cons.mpr ⟨lw_p8, List.forall_mem_cons.mpr ⟨lw_p9, List.forall_mem_cons.mpr ⟨lw_p10, List.forall_mem_cons.mpr ⟨lw_p11, List.forall_mem_cons.mpr ⟨lw_p12, List.forall_mem_cons.mpr ⟨lw_p13, List.forall_mem_cons.mpr ⟨lw_p14, List.forall_mem_cons.mpr ⟨lw_p15, fun _ h => absurd h List.not_mem_nil⟩⟩⟩⟩⟩⟩⟩⟩⟩⟩⟩⟩⟩⟩⟩⟩
theorem lw_p16 : lw_okq (⟨"MirrorKeepModel", "chooseTape", "(I)V"⟩, 24) := ⟨⟨by decide +kernel, by decide +kernel⟩, List.mem_of_getElem? (i := 661) (by decide +kernel), List.mem_of_getElem? (i := 794) (by decide +kernel), List.mem_of_getElem? (i := 795) (by decide +kernel)⟩
theorem lw_p17 : lw_okq (⟨"MirrorKeepModel", "chosenAt", "()I"⟩, 24) := ⟨⟨by decide +kernel, by decide +kernel⟩, List.mem_of_getElem? (i := 661) (by decide +kernel), List.mem_of_getElem? (i := 806) (by decide +kernel), List.mem_of_getElem? (i := 807) (by decide +kernel)⟩
theorem lw_p18 : lw_okq (⟨"MirrorKeepModel", "change", "(IIII)V"⟩, 24) := ⟨⟨by decide +kernel, by decide +kernel⟩, List.mem_of_getElem? (i := 661) (by decide +kernel), List.mem_of_getElem? (i := 811) (by decide +kernel), List.mem_of_getElem? (i := 812) (by decide +kernel)⟩
theorem lw_p19 : lw_okq (⟨"MirrorKeepModel", "isBelow", "(I)Z"⟩, 24) := ⟨⟨by decide +kernel, by decide +kernel⟩, List.mem_of_getElem? (i := 661) (by decide +kernel), List.mem_of_getElem? (i := 828) (by decide +kernel), List.mem_of_getElem? (i := 829) (by decide +kernel)⟩
theorem lw_p20 : lw_okq (⟨"MirrorKeepModel", "join", "(IIII)I"⟩, 24) := ⟨⟨by decide +kernel, by decide +kernel⟩, List.mem_of_getElem? (i := 661) (by decide +kernel), List.mem_of_getElem? (i := 836) (by decide +kernel), List.mem_of_getElem? (i := 837) (by decide +kernel)⟩
theorem lw_p21 : lw_okq (⟨"MirrorKeepModel", "orderOf", "(IIII)I"⟩, 24) := ⟨⟨by decide +kernel, by decide +kernel⟩, List.mem_of_getElem? (i := 661) (by decide +kernel), List.mem_of_getElem? (i := 840) (by decide +kernel), List.mem_of_getElem? (i := 841) (by decide +kernel)⟩
theorem lw_p22 : lw_okq (⟨"MirrorKeepModel", "isSame", "(IIII)Z"⟩, 24) := ⟨⟨by decide +kernel, by decide +kernel⟩, List.mem_of_getElem? (i := 661) (by decide +kernel), List.mem_of_getElem? (i := 844) (by decide +kernel), List.mem_of_getElem? (i := 845) (by decide +kernel)⟩
theorem lw_p23 : lw_okq (⟨"MirrorKeepModel", "mirror", "()V"⟩, 24) := ⟨⟨by decide +kernel, by decide +kernel⟩, List.mem_of_getElem? (i := 661) (by decide +kernel), List.mem_of_getElem? (i := 852) (by decide +kernel), List.mem_of_getElem? (i := 853) (by decide +kernel)⟩
theorem lw_p24 : lw_okq (⟨"MirrorKeepModel", "updates", "()I"⟩, 24) := ⟨⟨by decide +kernel, by decide +kernel⟩, List.mem_of_getElem? (i := 661) (by decide +kernel), List.mem_of_getElem? (i := 856) (by decide +kernel), List.mem_of_getElem? (i := 857) (by decide +kernel)⟩
theorem lw_p25 : lw_okq (⟨"MirrorKeepModel", "latest", "(I)I"⟩, 24) := ⟨⟨by decide +kernel, by decide +kernel⟩, List.mem_of_getElem? (i := 661) (by decide +kernel), List.mem_of_getElem? (i := 872) (by decide +kernel), List.mem_of_getElem? (i := 873) (by decide +kernel)⟩
theorem lw_p26 : lw_okq (⟨"MirrorKeepModel", "isEntry", "(II)Z"⟩, 24) := ⟨⟨by decide +kernel, by decide +kernel⟩, List.mem_of_getElem? (i := 661) (by decide +kernel), List.mem_of_getElem? (i := 888) (by decide +kernel), List.mem_of_getElem? (i := 889) (by decide +kernel)⟩
theorem lw_p27 : lw_okq (⟨"MirrorKeepModel", "increments", "()I"⟩, 24) := ⟨⟨by decide +kernel, by decide +kernel⟩, List.mem_of_getElem? (i := 661) (by decide +kernel), List.mem_of_getElem? (i := 900) (by decide +kernel), List.mem_of_getElem? (i := 901) (by decide +kernel)⟩
def lw_privs_2 : List (MethodName × Nat) := [(⟨"MirrorKeepModel", "chooseTape", "(I)V"⟩, 24), (⟨"MirrorKeepModel", "chosenAt", "()I"⟩, 24), (⟨"MirrorKeepModel", "change", "(IIII)V"⟩, 24), (⟨"MirrorKeepModel", "isBelow", "(I)Z"⟩, 24), (⟨"MirrorKeepModel", "join", "(IIII)I"⟩, 24), (⟨"MirrorKeepModel", "orderOf", "(IIII)I"⟩, 24), (⟨"MirrorKeepModel", "isSame", "(IIII)Z"⟩, 24), (⟨"MirrorKeepModel", "mirror", "()V"⟩, 24), (⟨"MirrorKeepModel", "updates", "()I"⟩, 24), (⟨"MirrorKeepModel", "latest", "(I)I"⟩, 24), (⟨"MirrorKeepModel", "isEntry", "(II)Z"⟩, 24), (⟨"MirrorKeepModel", "increments", "()I"⟩, 24)]
theorem lw_r2 : ∀ q ∈ lw_privs_2, lw_okq q := List.forall_mem_cons.mpr ⟨lw_p16, List.forall_mem_cons.mpr ⟨lw_p17, List.forall_mem_cons.mpr ⟨lw_p18, List.forall_mem_cons.mpr ⟨lw_p19, List.forall_mem_cons.mpr ⟨lw_p20, List.forall_mem_cons.mpr ⟨lw_p21, List.forall_mem_cons.mpr ⟨lw_p22, List.forall_mem_cons.mpr ⟨lw_p23, List.forall_mem_cons.mpr ⟨lw_p24, List.forall_mem_cons.mpr ⟨lw_p25, List.forall_mem_cons.mpr ⟨lw_p26, List.forall_mem_cons.mpr ⟨lw_p27, fun _ h => absurd h List.not_mem_nil⟩⟩⟩⟩⟩⟩⟩⟩⟩⟩⟩⟩
def lw_privs : List (MethodName × Nat) := lw_privs_1 ++ (lw_privs_2)
def lw_tbl : List Cond := k2_sels lw_privs ++ tables_1
theorem lw_privs_ok : ∀ q ∈ lw_privs, lw_okq q := by
  show ∀ q ∈ lw_privs_1 ++ (lw_privs_2), lw_okq q
  exact List.forall_mem_append.mpr ⟨lw_r1, lw_r2⟩
end
section
/-! ===== BEGIN words of one list among another's, by their places ===== -/
theorem goodIn_r {big : List Cond} (ws : List Cond) (ps : List Nat) (hp : ws = ps.filterMap (fun i => big[i]?)) (h : ws.all goodWord = true) : GoodIn big ws := by
  intro w hw
  have h1 := List.all_eq_true.mp h w hw
  rw [hp] at hw
  obtain ⟨i, -, hi⟩ := List.mem_filterMap.mp hw
  have hm : w ∈ big := by first | exact List.mem_of_getElem? hi | exact List.getElem?_mem hi
  exact ⟨hm, good_of_word h1⟩
theorem goodIn_app {big a b : List Cond} (ha : GoodIn big a) (hb : GoodIn big b) : GoodIn big (a ++ b) := fun w h => (List.mem_append.mp h).elim (ha w) (hb w)
theorem goodIn_ca {big a b : List Cond} {c : Cond} (ha : GoodIn big (c :: a)) (hb : GoodIn big b) : GoodIn big (c :: (a ++ b)) := fun w h => (List.mem_cons.mp h).elim (fun e => ha w (List.mem_cons.mpr (Or.inl e))) (fun h => (List.mem_append.mp h).elim (fun h => ha w (List.mem_cons.mpr (Or.inr h))) (hb w))
theorem goodIn_sub {big ws : List Cond} (hm : ∀ w ∈ ws, w ∈ big) (h : ws.all goodWord = true) : GoodIn big ws := fun w hw => ⟨hm w hw, good_of_word (List.all_eq_true.mp h w hw)⟩
/-! ===== END ===== -/

/-! ===== BEGIN exceptions that leave a method, and their catching by the caller (launches without stack traces) ===== -/
section VXA
/-! The laws vx_back, vx_callV, vx_callS, vx_callSW, vx_throw0, vx_throwS follow proofs of the library, with one case more: JvmDerived/Free/Laws.lean (Back.of_free), Shelf42/LK1.lean (callV, callS), Shelf/KitTraced.lean (throwNew0V, throwNewS). -/
/-- where a method has thrown q: the class by its name, the cell, what was written, the world -/
def vx_T (XC : String → State → State → Prop) (st : State) (q : Addr) (t : State) (mc ms : Nat) (free : Addr → Prop) : Prop :=
  ∃ (E : String) (ce : Cell) (L : List Loc), XC E st t ∧ t.heap[q]? = some ce ∧ ce.vm = .none ∧ st.vm.findClass E = some ce.cls ∧ st.WarmedH t.vm ∧ st.sameButNew ({ t with vm := st.vm } : State) L mc ms ∧ ∀ z ∈ L, free z.base
def vx_Q (Qc : Array Value → State → Outcome → State → Prop) (XC : String → State → State → Prop) (mc ms : Nat) (free : Addr → Prop) : Array Value → State → Outcome → State → Prop := fun a st o t =>
  (Qc a st o t ∧ ∃ L, FrameEnd st o t L mc ms ∧ ∀ q ∈ L, free q.base) ∨ ∃ q, o = .threw q ∧ vx_T XC st q t mc ms free
/-- a callee that returns or throws -/
def vx_Met (l : Launch) (y : MethodName) (ws : List Cond) (rm : Room) (Pc : Array Value → State → Prop) (Qc : Array Value → State → Outcome → State → Prop) (XC : String → State → State → Prop) (mc ms : Nat) (free : Addr → Prop) : Prop :=
  MetFree l y (headSpec ws rm) Pc (fun _ _ _ _ _ => True) (vx_Q Qc XC mc ms free)
def vx_Post (XC : String → State → State → Prop) (mc ms : Nat) (free : Addr → Prop) : Pt → Array Value → Addr → Pt → Prop := fun A a q B =>
  ∃ (g : JFrame) (mk : MethodId) (t : State) (L : List Loc) (E : String) (ce : Cell), B.U.heap = t.heap ∧ B.U.vm = t.vm ∧ XC E (A.U.calling g mk a) t ∧ t.heap[q]? = some ce ∧ ce.vm = .none ∧ A.U.vm.findClass E = some ce.cls ∧ B.locs = A.locs ++ L ∧ (∀ z ∈ L, free z.base) ∧ B.cells = A.cells + mc ∧ B.slots = A.slots + ms
def vx_Back (l : Launch) (R : Room) (p : Program) (e : Env) (below : List Frame) (s : State) (sargs : Array Value) (y : MethodName) (len W9 : Nat)
    (Pre : Pt → Array Value → Prop) (Post : Pt → Array Value → Option Value → Pt → Prop) (PostX : Pt → Array Value → Addr → Pt → Prop) : Prop :=
  ∀ (m : MethodId) (meth : Method) (c : Code) (A : Pt) (g : JFrame) (ig : Instr) (mk : MethodId) (a : Array Value),
    Stand p l e R s m sargs below meth c A.U A.locs A.cells A.slots → g.method = m → g.locals.size = c.maxLocals → decode c.code g.pc = .ok (ig, len) →
    2 * g.monitorRoom + (g.stack.map fun v => v.category).sum ≤ W9 → A.U.methodNamed? y = some mk → Pre A a →
    (∃ (v : Option Value) (B : Pt), Stand p l e R s m sargs below meth c B.U B.locs B.cells B.slots ∧ Post A a v B ∧
      Steps p.tables e below (doInvoke e (A.U.setTop g) [] mk a).1 (B.U.setTop { g with pc := g.pc + len, stack := v.toList ++ g.stack })) ∨
    (∃ (q : Addr) (B : Pt), Stand p l e R s m sargs below meth c B.U B.locs B.cells B.slots ∧ PostX A a q B ∧
      Steps p.tables e below (doInvoke e (A.U.setTop g) [] mk a).1 ((B.U.setTop g).pushFrame (.throwing q)))
section Payer
variable {l : Launch} {R : Room} {p : Program} {e : Env} {below : List Frame} {s : State} {sargs : Array Value} {y : MethodName} {len W9 : Nat}
theorem vx_back {ws : List Cond} {rm : Room} {Pc : Array Value → State → Prop} {Qc : Array Value → State → Outcome → State → Prop} {XC : String → State → State → Prop} {mc ms : Nat} {free : Addr → Prop} {bytes : ByteArray} {maxL : Nat} {ret : Option FieldType}
    (hM : vx_Met l y ws rm Pc Qc XC mc ms free) (hblind : FrameBlind Pc) (hrc : rm.cells = mc) (hrs : rm.slots = ms)
    (hframes : rm.frames + 1 ≤ R.frames) (hlocals : W9 + (maxL + 11) + rm.locals ≤ R.locals)
    (hws : ∀ w ∈ ws, ∀ a' U, s.WarmedH U.vm → w.before a' U = true) (hcode : Cond.code y bytes maxL ret ∈ ws) (hinit : ∀ a' U, s.WarmedH U.vm → (Cond.initialized y.cls).before a' U = true) :
    vx_Back l R p e below s sargs y len W9 (PreOf R mc ms Pc) (PostOf Qc mc ms free) (vx_Post XC mc ms free) := by
  intro m meth c A g ig mk a X hg hsize hdg hW hn hp
  have h1 : (headSpec ws rm).pre.before a A.U = true := atoms_intro fun w hw => hws w hw _ _ X.warmed
  have h2 : (Cond.code y bytes maxL ret).before a A.U = true := hws _ hcode _ _ X.warmed
  have h3 : (Cond.initialized y.cls).before a A.U = true := hinit _ _ X.warmed
  have h4 : A.cells + (headSpec ws rm).room.cells ≤ R.cells := by rw [show (headSpec ws rm).room.cells = mc from hrc]; exact hp.1
  have h5 : A.slots + (headSpec ws rm).room.slots ≤ R.slots := by rw [show (headSpec ws rm).room.slots = ms from hrs]; exact hp.2.1
  have hPc : Pc a (A.U.calling g mk a) := hblind _ _ _ _ hp.2.2
  obtain ⟨U, Ls, c0, s0⟩ := A
  dsimp only [Pt.U, Pt.locs, Pt.cells, Pt.slots] at h1 h2 h3 h4 h5 X hn hPc ⊢
  obtain ⟨methY, cY, hmY, hcY, -, hlY, -, -, -, -⟩ := Cond.code_spec hn h2
  obtain ⟨kY, hkY, -⟩ := className_of_methodNamed hn
  have hinitY : kY.init = .initialized := Cond.initialized_spec (findClass_of_methodNamed hn) hkY h3
  have h : At U g.method c below := by rw [hg]; exact X.here
  have hlocals9 : W9 + (maxL + 11) + (headSpec ws rm).room.locals ≤ R.locals := hlocals
  have happ : (headSpec ws rm).appliesLoose y e.platform (U.calling g mk a) = true :=
    Spec.appliesLoose_calling (g := g) h hdg hn hkY hinitY
      (X.room_calling (g := g) (R' := (headSpec ws rm).room) hsize hmY hcY hframes (by rw [hlY]; omega) h4 h5) h1
  obtain ⟨mid, hmid⟩ := h.above
  have hfr : (U.setTop g).frames = (.java g :: mid) ++ below := by rw [State.frames_setTop' g h.top, hmid]; rfl
  obtain ⟨o, s₂, hsteps, -, hend, hq⟩ := Steps.callFree hM p X.admits X.cas X.clock (acts := []) hfr happ hPc trivial
  have hq' : vx_Q Qc XC mc ms free a (U.calling g mk a) o s₂ := hq
  rw [State.frames_setTop' g h.top] at hend
  obtain ⟨g₀, hg0⟩ := Option.isSome_iff_exists.mp h.top
  obtain ⟨r, hr⟩ := State.topJava?_eq_some.mp hg0
  have hr' : (({ U with heap := s₂.heap, slotsUsed := s₂.slotsUsed } : State).setVm s₂.vm).frames = .java g₀ :: r := hr
  rcases hq' with ⟨hqc, L, hfe, hL⟩ | ⟨q, rfl, E, ce, L, hx, hce, hcv, hcl, hW₂, hsm, hL⟩
  · obtain ⟨⟨v, rfl⟩, hW₂, e2, q2, q3, q4, q5, q6⟩ := id hfe
    have e3 : s₂ = ({ (U.calling g mk a).setFrames s₂.frames with heap := s₂.heap, slotsUsed := s₂.slotsUsed } : State).setVm s₂.vm := by
      have : s₂ = ({ s₂ with vm := (U.calling g mk a).vm } : State).setVm s₂.vm := rfl
      rw [e2] at this
      exact this
    obtain ⟨c₂, i₂, len₂, hc₂, hd₂, hf₂⟩ := hend
    have hW' : U.WarmedH s₂.vm := hW₂
    have hcc : c₂ = c := by
      have h1 : s₂.code? g.method = U.code? g.method := by
        rw [State.code?_eq, State.code?_eq, hW'.alike.method?]
      exact Option.some.inj (hc₂.symm.trans (h1.trans h.code))
    subst hcc
    have hlen : len₂ = len := by rw [hdg] at hd₂; cases hd₂; rfl
    subst hlen
    have hs₂ : s₂ = (({ U with heap := s₂.heap, slotsUsed := s₂.slotsUsed } : State).setVm s₂.vm).setTop { g with pc := g.pc + len₂, stack := v.toList ++ g.stack } := by
      refine e3.trans ?_
      rw [hf₂, State.calling_eq h.top, State.setFrames_setFrames, State.setTop_of_frames _ hr', hr]
      rfl
    have hsame : U.sameButNew ({ U with heap := s₂.heap, slotsUsed := s₂.slotsUsed } : State) L mc ms := by
      refine ⟨?_, q2, q3, q4, q5, q6⟩
      obtain ⟨t, ht, -⟩ := State.frames_cons hr
      show ({ U with heap := s₂.heap, slotsUsed := s₂.slotsUsed } : State) = { U.setFrames U.frames with heap := s₂.heap, slotsUsed := s₂.slotsUsed }
      rw [State.setFrames_self ht]
    subst hg
    refine Or.inl ⟨v, ⟨(({ U with heap := s₂.heap, slotsUsed := s₂.slotsUsed } : State).setVm s₂.vm), Ls ++ L, c0 + mc, s0 + ms⟩,
      ⟨X.admits, X.cas, X.clock, X.frames, X.room, X.hears, X.method, X.code, (X.here.setHeapUsed s₂.heap s₂.slotsUsed).setVm hW'.alike, X.tail, State.WarmedH.trans X.warmed hW', X.limits, X.bytes, X.same.trans (hsame.setVm s.vm)⟩,
      ⟨g, mk, s₂, L, rfl, rfl, hqc, rfl, hL, rfl, rfl⟩, ?_⟩
    show Steps p.tables e below _ ((({ U with heap := s₂.heap, slotsUsed := s₂.slotsUsed } : State).setVm s₂.vm).setTop { g with pc := g.pc + len₂, stack := v.toList ++ g.stack })
    rw [← hs₂]
    exact hsteps
  · obtain ⟨e2, q2, q3, q4, q5, q6⟩ := id hsm
    have e3 : s₂ = ({ (U.calling g mk a).setFrames s₂.frames with heap := s₂.heap, slotsUsed := s₂.slotsUsed } : State).setVm s₂.vm := by
      have : s₂ = ({ s₂ with vm := (U.calling g mk a).vm } : State).setVm s₂.vm := rfl
      rw [e2] at this
      exact this
    have hf₂ : s₂.frames = .throwing q :: .java g :: U.frames.tail := hend
    have hW' : U.WarmedH s₂.vm := hW₂
    have hs₂ : s₂ = ((({ U with heap := s₂.heap, slotsUsed := s₂.slotsUsed } : State).setVm s₂.vm).setTop g).pushFrame (.throwing q) := by
      refine e3.trans ?_
      rw [hf₂, State.calling_eq h.top, State.setFrames_setFrames, State.pushFrame, State.frames_setTop _ hr', State.setTop_of_frames _ hr', State.setFrames_setFrames, hr]
      rfl
    have hsame : U.sameButNew ({ U with heap := s₂.heap, slotsUsed := s₂.slotsUsed } : State) L mc ms := by
      refine ⟨?_, q2, q3, q4, q5, q6⟩
      obtain ⟨t, ht, -⟩ := State.frames_cons hr
      show ({ U with heap := s₂.heap, slotsUsed := s₂.slotsUsed } : State) = { U.setFrames U.frames with heap := s₂.heap, slotsUsed := s₂.slotsUsed }
      rw [State.setFrames_self ht]
    subst hg
    refine Or.inr ⟨q, ⟨(({ U with heap := s₂.heap, slotsUsed := s₂.slotsUsed } : State).setVm s₂.vm), Ls ++ L, c0 + mc, s0 + ms⟩,
      ⟨X.admits, X.cas, X.clock, X.frames, X.room, X.hears, X.method, X.code, (X.here.setHeapUsed s₂.heap s₂.slotsUsed).setVm hW'.alike, X.tail, State.WarmedH.trans X.warmed hW', X.limits, X.bytes, X.same.trans (hsame.setVm s.vm)⟩,
      ⟨g, mk, s₂, L, E, ce, rfl, rfl, hx, hce, hcv, hcl, rfl, hL, rfl, rfl⟩, ?_⟩
    show Steps p.tables e below _ (((({ U with heap := s₂.heap, slotsUsed := s₂.slotsUsed } : State).setVm s₂.vm).setTop g).pushFrame (.throwing q))
    rw [← hs₂]
    exact hsteps
end Payer
section Calls
variable {p : Program} {l : Launch} {e : Env} {R : Room} {s : State} {m : MethodId} {args : Array Value} {below : List Frame} {meth : Method} {c : Code} {T : State} {locs : List Loc} {cells slots : Nat}
theorem vx_callV (X : Stand p l e R s m args below meth c T locs cells slots) (hexec : p.tables.exec = Jvm.exec) {own C : String} {index : Nat} {y : MethodName} {bytes : ByteArray} {maxL : Nat} {ret : Option FieldType}
    (hown : s.vm.findClass own = some m.cls) (hlink : (Cond.methodLink own index y).before args s = true) (hinst : (Cond.instanceMethod y).before args s = true) (hsel : (Cond.selects C y y).before args s = true)
    (hcode : (Cond.code y bytes maxL ret).before args s = true) (hy : y.cls ≠ "java/lang/invoke/MethodHandle" ∧ y.cls ≠ "java/lang/invoke/VarHandle")
    {W9 : Nat} {Pre : Pt → Array Value → Prop} {Post : Pt → Array Value → Option Value → Pt → Prop} {PostX : Pt → Array Value → Addr → Pt → Prop} (hK : vx_Back l R p e below s args y 3 W9 Pre Post PostX)
    {b : Addr} {cellB : Cell} (hcell : T.heap[b]? = some cellB) (hobj : cellB.vm.isStatics = false) (hcls : s.vm.findClass C = some cellB.cls)
    {g : JFrame} (hg : g.method = m) (hsize : g.locals.size = c.maxLocals) {argsL rest : List Value} (hlen : ∀ sig, parseMethodDescriptor y.desc = some sig → argsL.length = sig.parameters.length)
    (hstack : g.stack = argsL.reverse ++ .ref b :: rest) (hW : 2 * g.monitorRoom + (rest.map fun v => v.category).sum ≤ W9) (hdg : decode c.code g.pc = .ok (.invokevirtual index, 3))
    (hpre : ∀ vm₁, s.WarmedH vm₁ → Pre ⟨T.setVm vm₁, locs, cells, slots⟩ (Value.ref b :: argsL).toArray) :
    (∃ (v : Option Value) (vm₁ : Vm) (B : Pt), s.WarmedH vm₁ ∧ Stand p l e R s m args below meth c B.U B.locs B.cells B.slots ∧ Post ⟨T.setVm vm₁, locs, cells, slots⟩ (Value.ref b :: argsL).toArray v B ∧
      ∀ target, Steps p.tables e below (B.U.setTop { g with pc := g.pc + 3, stack := v.toList ++ rest }) target → Steps p.tables e below (T.setTop g) target) ∨
    (∃ (q : Addr) (vm₁ : Vm) (B : Pt), s.WarmedH vm₁ ∧ Stand p l e R s m args below meth c B.U B.locs B.cells B.slots ∧ PostX ⟨T.setVm vm₁, locs, cells, slots⟩ (Value.ref b :: argsL).toArray q B ∧
      Steps p.tables e below (T.setTop g) ((B.U.setTop { g with stack := rest }).pushFrame (.throwing q))) := by
  obtain ⟨mk, methM, hnamed, hmethM, hstM, habM⟩ := Cond.instanceMethod_spec hinst
  obtain ⟨methM', cM, hmethM', -, -, -, -, -, -, hsigM⟩ := Cond.code_spec hnamed hcode
  cases hmethM.symm.trans hmethM'
  obtain ⟨c2, r2, m2, q1, q2, q3, q4, kP, hkP, hkPi⟩ := Cond.selects_spec hsel
  cases hcls.symm.trans q1
  cases (State.methodFound?_of_named hnamed hy).symm.trans q2
  cases hnamed.symm.trans q3
  have hselP : selectMethod e.platform s.vm cellB.cls mk = .method mk := by rw [Launch.admits_selectMethod X.admits]; exact q4
  obtain ⟨vm₁, X₁, hstep₁⟩ := X.invokevirtual hexec hown hlink hnamed hmethM hstM hkP hkPi hy (a := b) (cell := cellB) hcell
    (fun z h => by rw [h] at hobj; cases hobj) hselP hmethM habM hkP hkPi (g := g) hg (argsL := argsL) (rest := rest) (hlen _ hsigM) hstack hdg
  rcases hK m meth c ⟨T.setVm vm₁, locs, cells, slots⟩ { g with stack := rest } (.invokevirtual index) mk (Value.ref b :: argsL).toArray X₁ hg hsize hdg hW (X₁.named hnamed) (hpre vm₁ X₁.warmed) with ⟨v, B, X', hpost, hsteps⟩ | ⟨q, B, X', hpost, hsteps⟩
  · exact Or.inl ⟨v, vm₁, B, X₁.warmed, X', hpost, fun target h => hstep₁ _ fun acts => by rw [doInvoke_state]; exact hsteps.trans h⟩
  · exact Or.inr ⟨q, vm₁, B, X₁.warmed, X', hpost, hstep₁ _ fun acts => by rw [doInvoke_state]; exact hsteps⟩
theorem vx_callS (X : Stand p l e R s m args below meth c T locs cells slots) (hexec : p.tables.exec = Jvm.exec) {own : String} {index : Nat} {y : MethodName} {bytes : ByteArray} {maxL : Nat} {ret : Option FieldType}
    (hown : s.vm.findClass own = some m.cls) (hlink : (Cond.methodLink own index y).before args s = true) (hstat : (Cond.static y).before args s = true) (hinit : (Cond.initialized y.cls).before args s = true)
    (hcode : (Cond.code y bytes maxL ret).before args s = true) (hy : y.cls ≠ "java/lang/invoke/MethodHandle" ∧ y.cls ≠ "java/lang/invoke/VarHandle")
    {W9 : Nat} {Pre : Pt → Array Value → Prop} {Post : Pt → Array Value → Option Value → Pt → Prop} {PostX : Pt → Array Value → Addr → Pt → Prop} (hK : vx_Back l R p e below s args y 3 W9 Pre Post PostX)
    {g : JFrame} (hg : g.method = m) (hsize : g.locals.size = c.maxLocals) {argsL rest : List Value} (hlen : ∀ sig, parseMethodDescriptor y.desc = some sig → argsL.length = sig.parameters.length)
    (hstack : g.stack = argsL.reverse ++ rest) (hW : 2 * g.monitorRoom + (rest.map fun v => v.category).sum ≤ W9) (hdg : decode c.code g.pc = .ok (.invokestatic index, 3))
    (hpre : ∀ vm₁, s.WarmedH vm₁ → Pre ⟨T.setVm vm₁, locs, cells, slots⟩ argsL.toArray) :
    (∃ (v : Option Value) (vm₁ : Vm) (B : Pt), s.WarmedH vm₁ ∧ Stand p l e R s m args below meth c B.U B.locs B.cells B.slots ∧ Post ⟨T.setVm vm₁, locs, cells, slots⟩ argsL.toArray v B ∧
      ∀ target, Steps p.tables e below (B.U.setTop { g with pc := g.pc + 3, stack := v.toList ++ rest }) target → Steps p.tables e below (T.setTop g) target) ∨
    (∃ (q : Addr) (vm₁ : Vm) (B : Pt), s.WarmedH vm₁ ∧ Stand p l e R s m args below meth c B.U B.locs B.cells B.slots ∧ PostX ⟨T.setVm vm₁, locs, cells, slots⟩ argsL.toArray q B ∧
      Steps p.tables e below (T.setTop g) ((B.U.setTop { g with stack := rest }).pushFrame (.throwing q))) := by
  obtain ⟨mk, hnamed⟩ := Cond.code_named hcode
  obtain ⟨methM, cM, hmethM, -, -, -, -, -, -, hsigM⟩ := Cond.code_spec hnamed hcode
  have hstatic : methM.isStatic = true := Cond.static_spec hnamed hmethM hstat
  obtain ⟨kP, hkP, -⟩ := className_of_methodNamed hnamed
  have hinitP : kP.init = .initialized := Cond.initialized_spec (findClass_of_methodNamed hnamed) hkP hinit
  obtain ⟨vm₁, X₁, hstep₁⟩ := X.invokestatic hexec hown hlink hnamed hmethM hstatic hkP hinitP hy (g := g) hg (argsL := argsL) (rest := rest) (hlen _ hsigM) hstack hdg
  rcases hK m meth c ⟨T.setVm vm₁, locs, cells, slots⟩ { g with stack := rest } (.invokestatic index) mk argsL.toArray X₁ hg hsize hdg hW (X₁.named hnamed) (hpre vm₁ X₁.warmed) with ⟨v, B, X', hpost, hsteps⟩ | ⟨q, B, X', hpost, hsteps⟩
  · exact Or.inl ⟨v, vm₁, B, X₁.warmed, X', hpost, fun target h => hstep₁ _ fun acts => by rw [doInvoke_state]; exact hsteps.trans h⟩
  · exact Or.inr ⟨q, vm₁, B, X₁.warmed, X', hpost, hstep₁ _ fun acts => by rw [doInvoke_state]; exact hsteps⟩
end Calls
theorem vx_cls {s : State} {T : State} {vm₁ : Vm} {E : String} {k : ClassId} (hW : s.WarmedH vm₁) (h : (T.setVm vm₁).vm.findClass E = some k) : s.vm.findClass E = some k := by
  have h1 : vm₁.findClass E = some k := h
  rw [hW.alike.findClass] at h1
  exact h1
/-- the method's frame g, with q thrown over it -/
def vx_W (p : Program) (l : Launch) (e : Env) (R : Room) (s : State) (m : MethodId) (args : Array Value) (below : List Frame) (meth : Method) (c : Code) (H : Heap) (locs : List Loc) (cells slots : Nat) (Q : State → Prop) (g : JFrame) (q : Addr) : Prop :=
  ∀ T : State, T.heap = H → Stand p l e R s m args below meth c T locs cells slots → ∃ t, Steps p.tables e below ((T.setTop g).pushFrame (.throwing q)) t ∧ Q t
def vx_Run (p : Program) (l : Launch) (e : Env) (R : Room) (s : State) (m : MethodId) (args : Array Value) (below : List Frame) (meth : Method) (c : Code) (H : Heap) (locs : List Loc) (cells slots mc ms : Nat) (g : JFrame) (rest : List Value) (Qa : State → Outcome → State → Prop) (XC : String → State → State → Prop) (free : Addr → Prop) : Prop :=
  ∀ T : State, T.heap = H → Stand p l e R s m args below meth c T locs cells slots →
    (∃ (v : Option Value) (st₀ t T' : State) (L : List Loc), st₀.heap = H ∧ Stand p l e R s m args below meth c T' (locs ++ L) (cells + mc) (slots + ms) ∧ (∀ q ∈ L, free q.base) ∧ T'.heap = t.heap ∧ T'.vm = t.vm ∧ Qa st₀ (.returned v) t ∧
      Goes p e below T g T' { g with pc := g.pc + 3, stack := v.toList ++ rest }) ∨
    (∃ (q : Addr) (st₀ t T' : State) (L : List Loc) (E : String) (ce : Cell), st₀.heap = H ∧ Stand p l e R s m args below meth c T' (locs ++ L) (cells + mc) (slots + ms) ∧ (∀ z ∈ L, free z.base) ∧ T'.heap = t.heap ∧ T'.vm = t.vm ∧ XC E st₀ t ∧ t.heap[q]? = some ce ∧ ce.vm = .none ∧ s.vm.findClass E = some ce.cls ∧
      Steps p.tables e below (T.setTop g) ((T'.setTop { g with stack := rest }).pushFrame (.throwing q)))
def vx_X {S : Type} (px : S → Prop) (B : String → S → State → Prop) (A : Nat → Prop) : String → State → State → Prop := fun E st t => ∃ u : S, px u ∧ B E u t ∧ va_F A st t
section Runs
variable {p : Program} {l : Launch} {e : Env} {R : Room} {s : State} {m : MethodId} {args : Array Value} {below : List Frame} {meth : Method} {c : Code} {H : Heap} {locs : List Loc} {cells slots : Nat}
variable {y : MethodName} {bytes cc : ByteArray} {maxL nL mc ms n index : Nat} {ret : Option FieldType} {ws : List Cond} {rm : Room} {Pc : Array Value → State → Prop} {Qc : Array Value → State → Outcome → State → Prop} {XC : String → State → State → Prop} {free : Addr → Prop} {Ts : List Cond} {own C : String} {b : Addr} {As rest : List Value} {g : JFrame}
theorem vx_callBack (cb : CallB R s args own index y bytes maxL ret ws rm mc ms n) (hM : vx_Met l y ws rm Pc Qc XC mc ms free) (hbl : FrameBlind Pc) : vx_Back l R p e below s args y 3 8 (PreOf R mc ms Pc) (PostOf Qc mc ms free) (vx_Post XC mc ms free) := by
  obtain ⟨hrc, hrs, hfr, hlo, hws, hcw, -, hini, -⟩ := cb
  exact vx_back (bytes := bytes) (maxL := maxL) (ret := ret) hM hbl hrc hrs hfr hlo hws hcw (fun a' U hW => word_at hW (Or.inl (by first | rfl | simp [Cond.onTables, Cond.keeps, Cond.steady])) hini)
theorem vx_runV (S : CallFix p m c cc nL s args Ts own) (hM : vx_Met l y ws rm Pc Qc XC mc ms free) (cw : CallW R s args own C index y bytes maxL ret ws rm mc ms n) (hp : PreV s H C b Pc As)
    (hg : g.method = m) (hn : As.length = n) (hsize : g.locals.size = nL) (hstack : g.stack = As.reverse ++ .ref b :: rest) (hW : 2 * g.monitorRoom + (rest.map fun v => v.category).sum ≤ 8) (hdg : decode cc g.pc = .ok (.invokevirtual index, 3)) (hf : cells + mc ≤ R.cells ∧ slots + ms ≤ R.slots) :
    vx_Run p l e R s m args below meth c H locs cells slots mc ms g rest (Qc (Value.ref b :: As).toArray) XC free := by
  have hK : vx_Back l R p e below s args y 3 8 (PreOf R mc ms Pc) (PostOf Qc mc ms free) (vx_Post XC mc ms free) := vx_callBack cw.1 hM hp.1
  obtain ⟨⟨-, -, -, -, -, -, hcode, -, hy, hlen, hl⟩, hin, hse⟩ := cw
  obtain ⟨hx, hb, hml, ho, -⟩ := S
  obtain ⟨-, ⟨cellB, hcB, hoB, hclB⟩, hPc⟩ := hp
  intro T hT X
  rcases vx_callV X hx (C := C) (bytes := bytes) (maxL := maxL) (ret := ret) ho hl hin hse hcode hy hK (by rw [hT]; exact hcB) hoB hclB hg (hsize.trans hml.symm) (argsL := As) (rest := rest) (fun sig h => hn.trans (hlen sig h)) hstack hW (by rw [hb]; exact hdg)
    (fun vm₁ hW₁ => ⟨hf.1, hf.2, hPc (T.setVm vm₁) hT hW₁⟩) with ⟨v, vm₁, ⟨U', l2, c2, s2⟩, hW₁, X', ⟨g', mk, t, L, e1, e2, hq, h1, hL, h2, h3⟩, st⟩ | ⟨q, vm₁, ⟨U', l2, c2, s2⟩, hW₁, X', ⟨g', mk, t, L, E, ce, e1, e2, hq, hce, hcv, hcl, h1, hL, h2, h3⟩, st⟩
  · dsimp only [Pt.U, Pt.locs, Pt.cells, Pt.slots] at X' e1 e2 h1 h2 h3 st
    subst h1; subst h2; subst h3
    exact Or.inl ⟨v, (T.setVm vm₁).calling g' mk (Value.ref b :: As).toArray, t, U', L, hT, X', hL, e1, e2, hq, st⟩
  · dsimp only [Pt.U, Pt.locs, Pt.cells, Pt.slots] at X' e1 e2 h1 h2 h3 st hcl
    subst h1; subst h2; subst h3
    exact Or.inr ⟨q, (T.setVm vm₁).calling g' mk (Value.ref b :: As).toArray, t, U', L, E, ce, hT, X', hL, e1, e2, hq, hce, hcv, vx_cls hW₁ hcl, st⟩
theorem vx_runS (S : CallFix p m c cc nL s args Ts own) (hM : vx_Met l y ws rm Pc Qc XC mc ms free) (cw : CallB R s args own index y bytes maxL ret ws rm mc ms n ∧ (Cond.static y).before args s = true) (hp : PreS s H Pc As)
    (hg : g.method = m) (hn : As.length = n) (hsize : g.locals.size = nL) (hstack : g.stack = As.reverse ++ rest) (hW : 2 * g.monitorRoom + (rest.map fun v => v.category).sum ≤ 8) (hdg : decode cc g.pc = .ok (.invokestatic index, 3)) (hf : cells + mc ≤ R.cells ∧ slots + ms ≤ R.slots) :
    vx_Run p l e R s m args below meth c H locs cells slots mc ms g rest (Qc As.toArray) XC free := by
  have hK : vx_Back l R p e below s args y 3 8 (PreOf R mc ms Pc) (PostOf Qc mc ms free) (vx_Post XC mc ms free) := vx_callBack cw.1 hM hp.1
  obtain ⟨⟨-, -, -, -, -, -, hcode, hini, hy, hlen, hl⟩, hstt⟩ := cw
  obtain ⟨hx, hb, hml, ho, -⟩ := S
  intro T hT X
  rcases vx_callS X hx (bytes := bytes) (maxL := maxL) (ret := ret) ho hl hstt hini hcode hy hK hg (hsize.trans hml.symm) (argsL := As) (rest := rest) (fun sig h => hn.trans (hlen sig h)) hstack hW (by rw [hb]; exact hdg)
    (fun vm₁ hW₁ => ⟨hf.1, hf.2, hp.2 (T.setVm vm₁) hT hW₁⟩) with ⟨v, vm₁, ⟨U', l2, c2, s2⟩, hW₁, X', ⟨g', mk, t, L, e1, e2, hq, h1, hL, h2, h3⟩, st⟩ | ⟨q, vm₁, ⟨U', l2, c2, s2⟩, hW₁, X', ⟨g', mk, t, L, E, ce, e1, e2, hq, hce, hcv, hcl, h1, hL, h2, h3⟩, st⟩
  · dsimp only [Pt.U, Pt.locs, Pt.cells, Pt.slots] at X' e1 e2 h1 h2 h3 st
    subst h1; subst h2; subst h3
    exact Or.inl ⟨v, (T.setVm vm₁).calling g' mk As.toArray, t, U', L, hT, X', hL, e1, e2, hq, st⟩
  · dsimp only [Pt.U, Pt.locs, Pt.cells, Pt.slots] at X' e1 e2 h1 h2 h3 st hcl
    subst h1; subst h2; subst h3
    exact Or.inr ⟨q, (T.setVm vm₁).calling g' mk As.toArray, t, U', L, E, ce, hT, X', hL, e1, e2, hq, hce, hcv, vx_cls hW₁ hcl, st⟩
end Runs
section Rows
variable {p : Program} {l : Launch} {e : Env} {R : Room} {s : State} {m : MethodId} {args : Array Value} {below : List Frame} {meth : Method} {c : Code} {H : Heap} {locs : List Loc} {cells slots : Nat} {Q : State → Prop}
variable {mc ms : Nat} {free : Addr → Prop} {A0 A1 : Nat → Prop} {H0 : Heap} {a : Array Value} {pc : Nat} {ls : Array Slot} {st0 rest : List Value}
theorem vx_keep {st₀ t T' : State} {L : List Loc} (h0 : st₀.heap = H) (e1 : T'.heap = t.heap) (hS : va_S A0 H0 H locs) (hA : ∀ q, q < H.size → A1 q → A0 q) (hf : ∀ q, free q → A0 q) (hL : ∀ q ∈ L, free q.base) (hF : va_F A1 st₀ t) :
    H.size ≤ T'.heap.size ∧ (∀ q : Nat, q < H.size → ¬ A1 q → T'.heap[q]? = H[q]?) ∧ va_S A0 H0 T'.heap (locs ++ L) := by
  obtain ⟨hz, hk⟩ := hF
  rw [h0] at hz hk
  exact ⟨by rw [e1]; exact hz, fun q h1 h2 => by rw [e1]; exact hk q h1 h2,
    ⟨Nat.le_trans hS.1 (by rw [e1]; exact hz), fun q h1 h2 => by rw [e1, hk q (Nat.lt_of_lt_of_le h1 hS.1) (fun z => h2 (hA q (Nat.lt_of_lt_of_le h1 hS.1) z))]; exact hS.2.1 q h1 h2, fun q hq => by
      rcases List.mem_append.mp hq with h | h
      · exact hS.2.2 q h
      · exact hf _ (hL q h)⟩⟩
theorem vx_calli {S SX : Type} {post : Int32 → S → Prop} {px : SX → Prop} {B : S → State → Prop} {BX : String → SX → State → Prop} {AX : Nat → Prop} (hr : vx_Run p l e R s m args below meth c H locs cells slots mc ms (F0 m pc ls st0) rest (va_Qi post B A1 a) (vx_X px BX AX) free) (hS : va_S A0 H0 H locs) (hA : ∀ q, q < H.size → A1 q → A0 q) (hf : ∀ q, free q → A0 q) (hAX : ∀ q, q < H.size → AX q → A0 q)
    (kx : ∀ (E : String) (ce : Cell) (q9 : Addr) (u : SX) (t : State) (H1 : Heap) (locs1 : List Loc), t.heap = H1 → s.vm.Alike t.vm → px u → BX E u t → H.size ≤ H1.size → (∀ q : Nat, q < H.size → ¬ AX q → H1[q]? = H[q]?) → va_S A0 H0 H1 locs1 → H1[q9]? = some ce → ce.vm = .none → s.vm.findClass E = some ce.cls → vx_W p l e R s m args below meth c H1 locs1 (cells + mc) (slots + ms) Q (F0 m pc ls rest) q9)
    (kk : ∀ (r : Int32) (u : S) (t : State) (H1 : Heap) (locs1 : List Loc), t.heap = H1 → s.vm.Alike t.vm → post r u → B u t → H.size ≤ H1.size → (∀ q : Nat, q < H.size → ¬ A1 q → H1[q]? = H[q]?) → va_S A0 H0 H1 locs1 → W p l e R s m args below meth c H1 locs1 (cells + mc) (slots + ms) Q (F0 m (pc + 3) ls (.int r :: rest))) : W p l e R s m args below meth c H locs cells slots Q (F0 m pc ls st0) := by
  intro T hT X
  rcases hr T hT X with ⟨v, st₀, t, T', L, h0, X', hL, e1, e2, ⟨⟨r, u, hv, hp, hb⟩, hF⟩, st⟩ | ⟨q, st₀, t, T', L, E, ce, h0, X', hL, e1, e2, ⟨u, hp, hb, hF⟩, hce, hcv, hcl, st⟩
  · cases hv
    obtain ⟨k1, k2, k3⟩ := vx_keep h0 e1 hS hA hf hL hF
    obtain ⟨t2, a1, b1⟩ := kk r u t T'.heap (locs ++ L) e1.symm (by rw [← e2]; exact X'.warmed.alike) hp hb k1 k2 k3 T' rfl X'
    exact ⟨t2, st t2 a1, b1⟩
  · obtain ⟨k1, k2, k3⟩ := vx_keep h0 e1 hS hAX hf hL hF
    obtain ⟨t2, a1, b1⟩ := kx E ce q u t T'.heap (locs ++ L) e1.symm (by rw [← e2]; exact X'.warmed.alike) hp hb k1 k2 k3 (by rw [e1]; exact hce) hcv hcl T' rfl X'
    exact ⟨t2, st.trans a1, b1⟩
theorem vx_calll {S SX : Type} {post : Int64 → S → Prop} {px : SX → Prop} {B : S → State → Prop} {BX : String → SX → State → Prop} {AX : Nat → Prop} (hr : vx_Run p l e R s m args below meth c H locs cells slots mc ms (F0 m pc ls st0) rest (va_Ql post B A1 a) (vx_X px BX AX) free) (hS : va_S A0 H0 H locs) (hA : ∀ q, q < H.size → A1 q → A0 q) (hf : ∀ q, free q → A0 q) (hAX : ∀ q, q < H.size → AX q → A0 q)
    (kx : ∀ (E : String) (ce : Cell) (q9 : Addr) (u : SX) (t : State) (H1 : Heap) (locs1 : List Loc), t.heap = H1 → s.vm.Alike t.vm → px u → BX E u t → H.size ≤ H1.size → (∀ q : Nat, q < H.size → ¬ AX q → H1[q]? = H[q]?) → va_S A0 H0 H1 locs1 → H1[q9]? = some ce → ce.vm = .none → s.vm.findClass E = some ce.cls → vx_W p l e R s m args below meth c H1 locs1 (cells + mc) (slots + ms) Q (F0 m pc ls rest) q9)
    (kk : ∀ (r : Int64) (u : S) (t : State) (H1 : Heap) (locs1 : List Loc), t.heap = H1 → s.vm.Alike t.vm → post r u → B u t → H.size ≤ H1.size → (∀ q : Nat, q < H.size → ¬ A1 q → H1[q]? = H[q]?) → va_S A0 H0 H1 locs1 → W p l e R s m args below meth c H1 locs1 (cells + mc) (slots + ms) Q (F0 m (pc + 3) ls (.long r :: rest))) : W p l e R s m args below meth c H locs cells slots Q (F0 m pc ls st0) := by
  intro T hT X
  rcases hr T hT X with ⟨v, st₀, t, T', L, h0, X', hL, e1, e2, ⟨⟨r, u, hv, hp, hb⟩, hF⟩, st⟩ | ⟨q, st₀, t, T', L, E, ce, h0, X', hL, e1, e2, ⟨u, hp, hb, hF⟩, hce, hcv, hcl, st⟩
  · cases hv
    obtain ⟨k1, k2, k3⟩ := vx_keep h0 e1 hS hA hf hL hF
    obtain ⟨t2, a1, b1⟩ := kk r u t T'.heap (locs ++ L) e1.symm (by rw [← e2]; exact X'.warmed.alike) hp hb k1 k2 k3 T' rfl X'
    exact ⟨t2, st t2 a1, b1⟩
  · obtain ⟨k1, k2, k3⟩ := vx_keep h0 e1 hS hAX hf hL hF
    obtain ⟨t2, a1, b1⟩ := kx E ce q u t T'.heap (locs ++ L) e1.symm (by rw [← e2]; exact X'.warmed.alike) hp hb k1 k2 k3 (by rw [e1]; exact hce) hcv hcl T' rfl X'
    exact ⟨t2, st.trans a1, b1⟩
theorem vx_callf {S SX : Type} {post : UInt32 → S → Prop} {px : SX → Prop} {B : S → State → Prop} {BX : String → SX → State → Prop} {AX : Nat → Prop} (hr : vx_Run p l e R s m args below meth c H locs cells slots mc ms (F0 m pc ls st0) rest (va_Qf post B A1 a) (vx_X px BX AX) free) (hS : va_S A0 H0 H locs) (hA : ∀ q, q < H.size → A1 q → A0 q) (hf : ∀ q, free q → A0 q) (hAX : ∀ q, q < H.size → AX q → A0 q)
    (kx : ∀ (E : String) (ce : Cell) (q9 : Addr) (u : SX) (t : State) (H1 : Heap) (locs1 : List Loc), t.heap = H1 → s.vm.Alike t.vm → px u → BX E u t → H.size ≤ H1.size → (∀ q : Nat, q < H.size → ¬ AX q → H1[q]? = H[q]?) → va_S A0 H0 H1 locs1 → H1[q9]? = some ce → ce.vm = .none → s.vm.findClass E = some ce.cls → vx_W p l e R s m args below meth c H1 locs1 (cells + mc) (slots + ms) Q (F0 m pc ls rest) q9)
    (kk : ∀ (r : UInt32) (u : S) (t : State) (H1 : Heap) (locs1 : List Loc), t.heap = H1 → s.vm.Alike t.vm → post r u → B u t → H.size ≤ H1.size → (∀ q : Nat, q < H.size → ¬ A1 q → H1[q]? = H[q]?) → va_S A0 H0 H1 locs1 → W p l e R s m args below meth c H1 locs1 (cells + mc) (slots + ms) Q (F0 m (pc + 3) ls (.float r :: rest))) : W p l e R s m args below meth c H locs cells slots Q (F0 m pc ls st0) := by
  intro T hT X
  rcases hr T hT X with ⟨v, st₀, t, T', L, h0, X', hL, e1, e2, ⟨⟨r, u, hv, hp, hb⟩, hF⟩, st⟩ | ⟨q, st₀, t, T', L, E, ce, h0, X', hL, e1, e2, ⟨u, hp, hb, hF⟩, hce, hcv, hcl, st⟩
  · cases hv
    obtain ⟨k1, k2, k3⟩ := vx_keep h0 e1 hS hA hf hL hF
    obtain ⟨t2, a1, b1⟩ := kk r u t T'.heap (locs ++ L) e1.symm (by rw [← e2]; exact X'.warmed.alike) hp hb k1 k2 k3 T' rfl X'
    exact ⟨t2, st t2 a1, b1⟩
  · obtain ⟨k1, k2, k3⟩ := vx_keep h0 e1 hS hAX hf hL hF
    obtain ⟨t2, a1, b1⟩ := kx E ce q u t T'.heap (locs ++ L) e1.symm (by rw [← e2]; exact X'.warmed.alike) hp hb k1 k2 k3 (by rw [e1]; exact hce) hcv hcl T' rfl X'
    exact ⟨t2, st.trans a1, b1⟩
theorem vx_calld {S SX : Type} {post : UInt64 → S → Prop} {px : SX → Prop} {B : S → State → Prop} {BX : String → SX → State → Prop} {AX : Nat → Prop} (hr : vx_Run p l e R s m args below meth c H locs cells slots mc ms (F0 m pc ls st0) rest (va_Qd post B A1 a) (vx_X px BX AX) free) (hS : va_S A0 H0 H locs) (hA : ∀ q, q < H.size → A1 q → A0 q) (hf : ∀ q, free q → A0 q) (hAX : ∀ q, q < H.size → AX q → A0 q)
    (kx : ∀ (E : String) (ce : Cell) (q9 : Addr) (u : SX) (t : State) (H1 : Heap) (locs1 : List Loc), t.heap = H1 → s.vm.Alike t.vm → px u → BX E u t → H.size ≤ H1.size → (∀ q : Nat, q < H.size → ¬ AX q → H1[q]? = H[q]?) → va_S A0 H0 H1 locs1 → H1[q9]? = some ce → ce.vm = .none → s.vm.findClass E = some ce.cls → vx_W p l e R s m args below meth c H1 locs1 (cells + mc) (slots + ms) Q (F0 m pc ls rest) q9)
    (kk : ∀ (r : UInt64) (u : S) (t : State) (H1 : Heap) (locs1 : List Loc), t.heap = H1 → s.vm.Alike t.vm → post r u → B u t → H.size ≤ H1.size → (∀ q : Nat, q < H.size → ¬ A1 q → H1[q]? = H[q]?) → va_S A0 H0 H1 locs1 → W p l e R s m args below meth c H1 locs1 (cells + mc) (slots + ms) Q (F0 m (pc + 3) ls (.double r :: rest))) : W p l e R s m args below meth c H locs cells slots Q (F0 m pc ls st0) := by
  intro T hT X
  rcases hr T hT X with ⟨v, st₀, t, T', L, h0, X', hL, e1, e2, ⟨⟨r, u, hv, hp, hb⟩, hF⟩, st⟩ | ⟨q, st₀, t, T', L, E, ce, h0, X', hL, e1, e2, ⟨u, hp, hb, hF⟩, hce, hcv, hcl, st⟩
  · cases hv
    obtain ⟨k1, k2, k3⟩ := vx_keep h0 e1 hS hA hf hL hF
    obtain ⟨t2, a1, b1⟩ := kk r u t T'.heap (locs ++ L) e1.symm (by rw [← e2]; exact X'.warmed.alike) hp hb k1 k2 k3 T' rfl X'
    exact ⟨t2, st t2 a1, b1⟩
  · obtain ⟨k1, k2, k3⟩ := vx_keep h0 e1 hS hAX hf hL hF
    obtain ⟨t2, a1, b1⟩ := kx E ce q u t T'.heap (locs ++ L) e1.symm (by rw [← e2]; exact X'.warmed.alike) hp hb k1 k2 k3 (by rw [e1]; exact hce) hcv hcl T' rfl X'
    exact ⟨t2, st.trans a1, b1⟩
theorem vx_callv {S SX : Type} {post : S → Prop} {px : SX → Prop} {B : S → State → Prop} {BX : String → SX → State → Prop} {AX : Nat → Prop} (hr : vx_Run p l e R s m args below meth c H locs cells slots mc ms (F0 m pc ls st0) rest (va_Qv post B A1 a) (vx_X px BX AX) free) (hS : va_S A0 H0 H locs) (hA : ∀ q, q < H.size → A1 q → A0 q) (hf : ∀ q, free q → A0 q) (hAX : ∀ q, q < H.size → AX q → A0 q)
    (kx : ∀ (E : String) (ce : Cell) (q9 : Addr) (u : SX) (t : State) (H1 : Heap) (locs1 : List Loc), t.heap = H1 → s.vm.Alike t.vm → px u → BX E u t → H.size ≤ H1.size → (∀ q : Nat, q < H.size → ¬ AX q → H1[q]? = H[q]?) → va_S A0 H0 H1 locs1 → H1[q9]? = some ce → ce.vm = .none → s.vm.findClass E = some ce.cls → vx_W p l e R s m args below meth c H1 locs1 (cells + mc) (slots + ms) Q (F0 m pc ls rest) q9)
    (kk : ∀ (u : S) (t : State) (H1 : Heap) (locs1 : List Loc), t.heap = H1 → s.vm.Alike t.vm → post u → B u t → H.size ≤ H1.size → (∀ q : Nat, q < H.size → ¬ A1 q → H1[q]? = H[q]?) → va_S A0 H0 H1 locs1 → W p l e R s m args below meth c H1 locs1 (cells + mc) (slots + ms) Q (F0 m (pc + 3) ls (rest))) : W p l e R s m args below meth c H locs cells slots Q (F0 m pc ls st0) := by
  intro T hT X
  rcases hr T hT X with ⟨v, st₀, t, T', L, h0, X', hL, e1, e2, ⟨⟨u, hv, hp, hb⟩, hF⟩, st⟩ | ⟨q, st₀, t, T', L, E, ce, h0, X', hL, e1, e2, ⟨u, hp, hb, hF⟩, hce, hcv, hcl, st⟩
  · cases hv
    obtain ⟨k1, k2, k3⟩ := vx_keep h0 e1 hS hA hf hL hF
    obtain ⟨t2, a1, b1⟩ := kk u t T'.heap (locs ++ L) e1.symm (by rw [← e2]; exact X'.warmed.alike) hp hb k1 k2 k3 T' rfl X'
    exact ⟨t2, st t2 a1, b1⟩
  · obtain ⟨k1, k2, k3⟩ := vx_keep h0 e1 hS hAX hf hL hF
    obtain ⟨t2, a1, b1⟩ := kx E ce q u t T'.heap (locs ++ L) e1.symm (by rw [← e2]; exact X'.warmed.alike) hp hb k1 k2 k3 (by rw [e1]; exact hce) hcv hcl T' rfl X'
    exact ⟨t2, st.trans a1, b1⟩
end Rows
section Ends
variable {p : Program} {l : Launch} {e : Env} {R : Room} {s : State} {m : MethodId} {args : Array Value} {below : List Frame} {meth : Method} {c : Code} {H : Heap} {locs : List Loc} {cells slots : Nat} {Q : State → Prop}
variable {mc ms : Nat} {free : Addr → Prop} {A0 A1 : Nat → Prop} {H0 : Heap} {a : Array Value} {ls : Array Slot} {st0 rest : List Value}
variable {Qc : Array Value → State → Outcome → State → Prop} {XC : String → State → State → Prop}
/-- what a body that may throw owes at its end -/
def vx_MQ (below : List Frame) (Qc : Array Value → State → Outcome → State → Prop) (XC : String → State → State → Prop) (a : Array Value) (s : State) (mc ms : Nat) (free : Addr → Prop) : State → Prop := fun t =>
  ∃ o, t.status = .running ∧ Ended t below o ∧ vx_Q Qc XC mc ms free a s o t
theorem vx_ret {g : JFrame} {mc ms : Nat} (k : W p l e R s m args below meth c H locs cells slots (MQ below Qc args s mc ms free) g) : W p l e R s m args below meth c H locs cells slots (vx_MQ below Qc XC args s mc ms free) g := by
  intro T hT X
  obtain ⟨t, a1, o, b1, b2, b3, b4⟩ := k T hT X
  exact ⟨t, a1, o, b1, b2, Or.inl ⟨b3, b4⟩⟩
/-- not caught here: it goes on to the caller -/
theorem vx_widen {g : JFrame} {q : Addr} {k n : Nat} (h1 : cells ≤ k) (h2 : slots ≤ n) (kk : vx_W p l e R s m args below meth c H locs k n Q g q) : vx_W p l e R s m args below meth c H locs cells slots Q g q := fun T hT X => kk T hT (stand_widen X h1 h2)
theorem vx_out {pc : Nat} {E : String} {ce : Cell} {q : Addr} {mc ms : Nat} (hout : ∀ x ∈ c.exceptionTable.toList, covers x pc = false) (hlocks : meth.locks = false) (hcell : H[q]? = some ce) (hv : ce.vm = .none) (hcl : s.vm.findClass E = some ce.cls)
    (hx : ∀ t : State, t.heap = H → s.vm.Alike t.vm → XC E s t) (hf : ∀ z ∈ locs, free z.base) (hc : cells ≤ mc) (hs : slots ≤ ms) :
    vx_W p l e R s m args below meth c H locs cells slots (vx_MQ below Qc XC args s mc ms free) (F0 m pc ls rest) q := by
  intro T hT X
  obtain ⟨st1, hrun, hend, hW, hsm⟩ := X.leaveThrown q (g := F0 m pc ls rest) rfl rfl rfl hout hlocks
  have hcell9 : (T.setFrames (.throwing q :: below)).heap[q]? = some ce := by
    show T.heap[q]? = some ce
    rw [hT]; exact hcell
  exact ⟨_, st1, .threw q, hrun, hend, Or.inr ⟨q, rfl, E, ce, locs, hx _ hT hW.alike, hcell9, hv, hcl, hW, hsm.mono hc hs, hf⟩⟩
theorem vx_frame {U : State} {k n : Nat} (h : s.sameButNew ({ U with vm := s.vm } : State) locs k n) : s.heap.size ≤ U.heap.size ∧ ∀ q : Nat, q < s.heap.size → (∀ z ∈ locs, z.base ≠ q) → U.heap[q]? = s.heap[q]? := by
  obtain ⟨-, h2, -, -, -, h6⟩ := h
  refine ⟨h2, fun q hq hz => ?_⟩
  obtain ⟨c9, e1, e2, e3, e4⟩ := h6 q _ (Array.getElem?_eq_getElem hq)
  have hs : c9.slots = (s.heap[q]).slots := Array.ext_getElem? fun i => e4 i fun hm => hz _ hm rfl
  have h9 : c9 = s.heap[q] := by
    rw [hs] at e2
    exact e2
  have e5 : U.heap[q]? = some c9 := e1
  rw [e5, h9, Array.getElem?_eq_getElem hq]
/-- the words of a throw but the four that speak of the heap -/
def vx_no (w : Cond) : Bool := decide (w ≠ .isRef (.static Bundle.tN "UNASSIGNED_STACK" Bundle.steD)) && decide (w ≠ .isRef (.static Bundle.tN "SUPPRESSED_SENTINEL" Bundle.listD)) && decide (w ≠ .laysStatic Bundle.tN "UNASSIGNED_STACK" Bundle.steD) && decide (w ≠ .laysStatic Bundle.tN "SUPPRESSED_SENTINEL" Bundle.listD)
def vx_at0 (own : String) (ic : Nat) (X : String) (names : List String) : List Cond := (Bundle.ownAtoms0 own ic X names).filter vx_no
def vx_atS (own : String) (ic : Nat) (X : String) (names : List String) : List Cond := (Bundle.ownAtoms own ic X names).filter vx_no
/-- a word that the tables alone decide, or a good one -/
def vx_ot (w : Cond) : Bool := w.onTables || goodWord w
theorem vx_ot_at {args a' : Array Value} {s U : State} {w : Cond} (hW : s.WarmedH U.vm) (hvm : s.vm = U.vm) (hg : vx_ot w = true) (h : w.before args s = true) : w.before a' U = true := by
  simp only [vx_ot, Bool.or_eq_true] at hg
  rcases hg with hg | hg
  · exact va_tabs hg hvm h
  · exact word_at hW (good_of_word hg) h
/-- a list's words: the good ones out of the method's own list, the others by premises of their own -/
theorem vx_hat {args : Array Value} {s : State} {L B : List Cond} (h1 : ∀ w ∈ L.filter goodWord, w.before args s = true) (h2 : ∀ w ∈ L.filter (fun w => !goodWord w), w ∈ B) (h3 : ∀ w ∈ B, w.before args s = true) : ∀ w ∈ L, w.before args s = true := by
  intro w hw
  by_cases g : goodWord w = true
  · exact h1 w (List.mem_filter.mpr ⟨hw, g⟩)
  · refine h3 w (h2 w (List.mem_filter.mpr ⟨hw, ?_⟩))
    show (!goodWord w) = true
    cases hgw : goodWord w
    · rfl
    · exact absurd hgw g
theorem vx_c {args : Array Value} {s : State} {w : Cond} {B : List Cond} (h : w.before args s = true) (t : ∀ w ∈ B, w.before args s = true) : ∀ w' ∈ w :: B, w'.before args s = true := fun w' h' => (List.mem_cons.mp h').elim (fun e => by rw [e]; exact h) (t w')
theorem vx_n {args : Array Value} {s : State} : ∀ w ∈ ([] : List Cond), w.before args s = true := fun _ h => nomatch h
theorem vx_own {args : Array Value} {s : State} {L : List Cond} (h1 : ∀ w ∈ L.filter vx_no, w.before args s = true)
    (hU : (Cond.isRef (.static Bundle.tN "UNASSIGNED_STACK" Bundle.steD)).before args s = true) (hN : (Cond.isRef (.static Bundle.tN "SUPPRESSED_SENTINEL" Bundle.listD)).before args s = true)
    (lU : (Cond.laysStatic Bundle.tN "UNASSIGNED_STACK" Bundle.steD).before args s = true) (lN : (Cond.laysStatic Bundle.tN "SUPPRESSED_SENTINEL" Bundle.listD).before args s = true) : ∀ w ∈ L, w.before args s = true := by
  intro w hw
  by_cases e1 : w = .isRef (.static Bundle.tN "UNASSIGNED_STACK" Bundle.steD)
  · rw [e1]; exact hU
  · by_cases e2 : w = .isRef (.static Bundle.tN "SUPPRESSED_SENTINEL" Bundle.listD)
    · rw [e2]; exact hN
    · by_cases e3 : w = .laysStatic Bundle.tN "UNASSIGNED_STACK" Bundle.steD
      · rw [e3]; exact lU
      · by_cases e4 : w = .laysStatic Bundle.tN "SUPPRESSED_SENTINEL" Bundle.listD
        · rw [e4]; exact lN
        · exact h1 w (List.mem_filter.mpr ⟨hw, by unfold vx_no; rw [decide_eq_true e1, decide_eq_true e2, decide_eq_true e3, decide_eq_true e4]; rfl⟩)
/-- where a static field lies, its class's statics cell in H -/
def vx_L (C n d : String) (A : Nat → Prop) (U : State) (H : Heap) : Prop := ∃ (c : ClassId) (k : Class) (i : Nat) (f : Field) (a : Nat) (cell : Cell), U.vm.findClass C = some c ∧ U.fieldFound? C n d = some (c, k, i, f) ∧ f.isStatic = true ∧ k.statics = some a ∧ H[a]? = some cell ∧ cell.vm.isStatics = true ∧ cell.cls = c ∧ f.slot < cell.slots.size ∧ k.staticTypes[f.slot]? = some f.type ∧ ¬ A a
theorem vx_L.moved {C n d : String} {A : Nat → Prop} {u U : State} {H : Heap} (hvm : u.vm.Alike U.vm) (h : vx_L C n d A u H) : vx_L C n d A U H := by
  obtain ⟨c, k, i, f, a, cell, h1, h2, h3, h4, h5, h6, h7, h8, h9, h10⟩ := h
  obtain ⟨k', hi', he⟩ := State.fieldFound?_setVm hvm h2
  exact ⟨c, k', i, f, a, cell, by rw [hvm.findClass]; exact h1, hi', h3, by rw [he]; exact h4, h5, h6, h7, h8, by rw [he]; exact h9, h10⟩
theorem vx_L.kept {C n d : String} {A : Nat → Prop} {U : State} {H H1 : Heap} (h : vx_L C n d A U H) (hq : ∀ a : Nat, a < H.size → ¬ A a → H1[a]? = H[a]?) : vx_L C n d A U H1 := by
  obtain ⟨c, k, i, f, a, cell, h1, h2, h3, h4, h5, h6, h7, h8, h9, h10⟩ := h
  exact ⟨c, k, i, f, a, cell, h1, h2, h3, h4, by rw [hq a (Array.getElem?_eq_some_iff.mp h5).1 h10]; exact h5, h6, h7, h8, h9, h10⟩
theorem vx_L.narrow {C n d : String} {A B : Nat → Prop} {U : State} {H : Heap} (h : vx_L C n d A U H) (hAB : ∀ q, B q → A q) : vx_L C n d B U H := by
  obtain ⟨c, k, i, f, a, cell, h1, h2, h3, h4, h5, h6, h7, h8, h9, h10⟩ := h
  exact ⟨c, k, i, f, a, cell, h1, h2, h3, h4, h5, h6, h7, h8, h9, fun z => h10 (hAB _ z)⟩
theorem vx_L.word {C n d : String} {A : Nat → Prop} {s : State} {args : Array Value} (h : vx_L C n d A s s.heap) : (Cond.laysStatic C n d).before args s = true := by
  obtain ⟨c, k, i, f, a, cell, h1, h2, h3, h4, h5, h6, h7, h8, h9, -⟩ := h
  show (Cond.laysStatic C n d).holds args s none s [] = true
  exact Cond.laysStatic_of h1 h2 h3 h4 h5 h6 h7 h8 h9
/-- .. and what it holds: null or some reference -/
def vx_Zq (C n d : String) (A : Nat → Prop) (U : State) (H : Heap) : Prop := va_Zq C n d A U H ∧ vx_L C n d A U H
theorem vx_Zq.moved {C n d : String} {A : Nat → Prop} {u U : State} {H : Heap} (hvm : u.vm.Alike U.vm) (h : vx_Zq C n d A u H) : vx_Zq C n d A U H := ⟨va_Zq.moved hvm h.1, vx_L.moved hvm h.2⟩
theorem vx_Zq.kept {C n d : String} {A : Nat → Prop} {U : State} {H H1 : Heap} (h : vx_Zq C n d A U H) (hq : ∀ a : Nat, a < H.size → ¬ A a → H1[a]? = H[a]?) : vx_Zq C n d A U H1 := ⟨va_Zq.kept h.1 hq, vx_L.kept h.2 hq⟩
theorem vx_Zq.narrow {C n d : String} {A B : Nat → Prop} {U : State} {H : Heap} (h : vx_Zq C n d A U H) (hAB : ∀ q, B q → A q) : vx_Zq C n d B U H := ⟨va_Zq.narrow h.1 hAB, vx_L.narrow h.2 hAB⟩
theorem vx_Zqof {args : Array Value} {s : State} {C n d : String} {A : Nat → Prop} (hl : (Cond.laysStatic C n d).before args s = true) (hini : (Cond.initialized C).before args s = true) (h : (Cond.isRef (.static C n d)).before args s = true) (hA : ∀ a : Nat, a < s.heap.size → ¬ A a) : vx_Zq C n d A s s.heap := by
  refine ⟨va_Zqof hl hini h hA, ?_⟩
  obtain ⟨c, k, i, f, a, cell, h1, h2, h3, h4, h5, h6, h7, h8, h9⟩ := Cond.laysStatic_spec hl
  exact ⟨c, k, i, f, a, cell, h1, h2, h3, h4, h5, h6, h7, h8, h9, hA a (Array.getElem?_eq_some_iff.mp h5).1⟩
theorem vx_isRef {C n d : String} {v : Value} {A : Nat → Prop} {s : State} {args : Array Value} (h : va_Z C n d v A s s.heap) (hv : v.isRef = true) : (Cond.isRef (.static C n d)).before args s = true := by
  obtain ⟨cf, kf, fi, f, a, cell, h1, h2, h3, h4, h5, h6, h7, -⟩ := h
  have he : (Term.static C n d).eval args s none [] s = some v := by
    simp [Term.eval, State.fieldNamed?, h1, h2, h4, h5, h6, h7]
  simp only [Cond.before, Cond.holds, Cond.value, he]
  cases v <;> simp_all [Value.isRef]
theorem vx_isRefq {C n d : String} {A : Nat → Prop} {s : State} {args : Array Value} (h : va_Zq C n d A s s.heap) : (Cond.isRef (.static C n d)).before args s = true := by
  rcases h with h | ⟨t, h⟩
  · exact vx_isRef h rfl
  · exact vx_isRef h rfl
/-- the same frame, seen from here: as if the method were called anew in this heap -/
theorem vx_rebase {T : State} (X : Stand p l e R s m args below meth c T locs cells slots) {R' : Room} (hf : R'.frames ≤ R.frames) (hl : R'.locals ≤ R.locals) (hc : cells + R'.cells ≤ R.cells) (hs : slots + R'.slots ≤ R.slots) :
    Stand p l e R' ((T.setVm s.vm).setFrames (.invoking m args :: below)) m args below meth c T [] 0 0 := by
  have htop : (T.setVm s.vm).topJava?.isSome := X.here.top
  have hF : ((T.setVm s.vm).setFrames (.invoking m args :: below)).frames = .invoking m args :: below := State.frames_setFrames _ (State.cur_lt_of_top htop)
  obtain ⟨g₀, hg0⟩ := Option.isSome_iff_exists.mp htop
  obtain ⟨r, hr⟩ := State.topJava?_eq_some.mp hg0
  have hl9 : e.platform.stackLimits (T.setVm s.vm).me = e.platform.stackLimits s.me := X.limits
  have hb9 : (T.setVm s.vm).me.stackBytes = s.me.stackBytes := X.bytes
  refine ⟨X.admits, X.cas, X.clock, hF, ?_, X.hears, X.method, X.code, X.here, X.tail, X.warmed, ?_, ?_, ?_⟩
  · have h := X.room
    have hU : ((T.setVm s.vm).setFrames (.invoking m args :: below)).localsInUse = s.localsInUse := by
      rw [State.localsInUse_invoking hF (meth := meth) (c := c) X.method X.code, State.localsInUse_invoking X.frames X.method X.code]
    simp only [State.hasRoom, Bool.and_eq_true, decide_eq_true_eq] at h ⊢
    obtain ⟨⟨⟨⟨h1, h2, h3, h4, h5, h6⟩, h7⟩, h8⟩, h9⟩ := h
    rw [X.frames, List.length_cons] at h2 h3
    have q1 := X.heapSize
    have q2 := X.used
    simp only [hF, hU, List.length_cons, State.stackLimits_setFrames, State.stackBytes_setFrames, hl9, hb9]
    refine ⟨⟨⟨⟨by omega, by omega, by omega, by omega, by omega, h6⟩, ?_⟩, ?_⟩, X.book⟩
    · show T.heap.size + R'.cells ≤ e.platform.maxCells
      omega
    · show T.slotsUsed + R'.slots ≤ e.platform.maxSlots
      omega
  · rw [State.stackLimits_setFrames]; rfl
  · rw [State.stackBytes_setFrames]; rfl
  · refine ⟨?_, Nat.le_refl _, Nat.le_refl _, ?_, ?_, fun a c9 h9 => ⟨c9, h9, rfl, rfl, fun _ _ => rfl⟩⟩
    · obtain ⟨t, ht, -⟩ := State.frames_cons hr
      show T.setVm s.vm = { ((T.setVm s.vm).setFrames (.invoking m args :: below)).setFrames (T.setVm s.vm).frames with heap := T.heap, slotsUsed := T.slotsUsed }
      rw [State.setFrames_setFrames, State.setFrames_self ht]
      rfl
    · show T.slotsUsed = T.slotsUsed + ((T.heap.toList.drop T.heap.size).map (·.slots.size)).sum
      rw [List.drop_eq_nil_of_le (Nat.le_of_eq Array.length_toList)]
      rfl
    · show ((T.heap.toList.drop T.heap.size).map (·.slots.size)).sum ≤ 0
      rw [List.drop_eq_nil_of_le (Nat.le_of_eq Array.length_toList)]
      exact Nat.le_refl _
/-- 'throw new E()': new; dup; invokespecial; athrow -/
theorem vx_throw0 {cc : ByteArray} {pc : Nat} (hexec : p.tables.exec = Jvm.exec) (hb : c.code = cc) (hl : l.stackTraces = false) {own cls : String} {names : List String} {ik ic mc ms : Nat} {A : Nat → Prop}
    (hown : s.vm.findClass own = some m.cls) (hcls : Bundle.fit cls = true) (hnames : ∀ n ∈ names, Bundle.fit n = true)
    (hk : (Cond.classLink own ik cls).before args s = true) (hini : (Cond.initialized cls).before args s = true) (hat : ∀ w ∈ vx_at0 own ic cls names, w.before args s = true)
    (hgood : ∀ w ∈ Cond.classLink own ik cls :: Cond.initialized cls :: vx_at0 own ic cls names, vx_ot w = true)
    (hU : vx_Zq Bundle.tN "UNASSIGNED_STACK" Bundle.steD A s s.heap) (hN : vx_Zq Bundle.tN "SUPPRESSED_SENTINEL" Bundle.listD A s s.heap) (hS : va_S A s.heap H locs) (hsize : ls.size = c.maxLocals)
    (d0 : decode cc pc = .ok (.new ik, 3)) (d3 : decode cc (pc + 3) = .ok (.dup, 1)) (d4 : decode cc (pc + 4) = .ok (.invokespecial ic, 3)) (d7 : decode cc (pc + 7) = .ok (.athrow, 1))
    (hout : ∀ x ∈ c.exceptionTable.toList, covers x (pc + 7) = false)
    (hRframes : names.length + 3 < R.frames) (hRlocals : (rest.map fun v => v.category).sum + (13 * (names.length + 1) + 42) ≤ R.locals) (hRcells : cells + 1 ≤ R.cells) (hRslots : slots + 6 ≤ R.slots) (hlocks : meth.locks = false)
    (hx : ∀ t : State, s.vm.Alike t.vm → H.size ≤ t.heap.size → (∀ q : Nat, q < H.size → t.heap[q]? = H[q]?) → XC cls s t)
    (hf : ∀ z ∈ locs, free z.base) (hc : cells + 1 ≤ mc) (hs : slots + 6 ≤ ms) :
    W p l e R s m args below meth c H locs cells slots (vx_MQ below Qc XC args s mc ms free) (F0 m pc ls rest) := by
  intro T hT X
  have htr : e.platform.stackTraces = false := (show e.platform.stackTraces = l.stackTraces by rw [X.admits.platform]).trans hl
  have Y := vx_rebase X (R' := { frames := R.frames, locals := R.locals, cells := 1, slots := 6 }) (Nat.le_refl _) (Nat.le_refl _) hRcells hRslots
  obtain ⟨s', hA⟩ : ∃ z, z = (T.setVm s.vm).setFrames (.invoking m args :: below) := ⟨_, rfl⟩
  rw [← hA] at Y
  have hvm : s'.vm = s.vm := by rw [hA]; rfl
  have hhp : s'.heap = H := by rw [hA]; exact hT
  have hW0 : s.WarmedH s'.vm := by rw [hvm]; exact State.WarmedH.refl s
  have hat' : ∀ w ∈ vx_at0 own ic cls names, w.before args s' = true := fun w hw => vx_ot_at hW0 hvm.symm (hgood w (List.mem_cons_of_mem _ (List.mem_cons_of_mem _ hw))) (hat w hw)
  have hk' : (Cond.classLink own ik cls).before args s' = true := vx_ot_at hW0 hvm.symm (hgood _ List.mem_cons_self) hk
  have hini' : (Cond.initialized cls).before args s' = true := vx_ot_at hW0 hvm.symm (hgood _ (List.mem_cons_of_mem _ List.mem_cons_self)) hini
  have hU' : vx_Zq Bundle.tN "UNASSIGNED_STACK" Bundle.steD A s' s'.heap := by rw [hhp]; exact vx_Zq.moved hW0.alike (hU.kept hS.2.1)
  have hN' : vx_Zq Bundle.tN "SUPPRESSED_SENTINEL" Bundle.listD A s' s'.heap := by rw [hhp]; exact vx_Zq.moved hW0.alike (hN.kept hS.2.1)
  have h : ∀ w ∈ Bundle.ownAtoms0 own ic cls names, w.before args s' = true := vx_own hat' (vx_isRefq hU'.1) (vx_isRefq hN'.1) hU'.2.word hN'.2.word
  have hown' : s'.vm.findClass own = some m.cls := by rw [hvm]; exact hown
  have hins : (Cond.instantiable cls 6).before args s' = true := h _ (by simp [Bundle.ownAtoms0])
  obtain ⟨vm₁, cX, kX, hfX, hkX, -, -, X₁, st1⟩ := Y.newCold hexec (own := own) (C := cls) (index := ik) (n := 6) hown' hk' hins hini'
    (g := F0 m pc ls rest) rfl (by rw [hb]; exact d0) (Nat.le_refl _) (Nat.le_refl _)
  generalize hT1 : (T.setVm vm₁).pushCell { cls := cX, slots := kX.instanceTypes.map defaultValue, vm := .none } = T1 at X₁ st1
  have hcat : (Value.ref T.heap.size).category = 1 := rfl
  have hcellA : T1.heap[T.heap.size]? = some (freshCell cX kX) := by rw [← hT1]; exact State.heap_pushCell_size _ _
  have d3' : decode c.code (pc + 3) = .ok (.dup, 1) := by rw [hb]; exact d3
  obtain ⟨U, hsteps, hrun, hend, hW, hsame, ce, hce, hO⟩ := X₁.ctorThrow0 hexec htr (own := own) (cls := cls) (names := names) (ic := ic) hown' hcls hnames h (fun x hx => nomatch hx) hfX hkX hcellA (by rw [hhp, hT]; exact Nat.le_refl _)
    (g := { method := m, pc := pc + 4, locals := ls, stack := .ref T.heap.size :: .ref T.heap.size :: rest, locked := none }) rfl hsize rfl rfl (rest := rest) rfl
    (by rw [hb]; exact d4) (by rw [hb]; exact d7) hout hRframes (by simp only [List.map_cons, List.sum_cons, hcat]; omega) hlocks
  obtain ⟨f1, f2⟩ := vx_frame hsame
  rw [hhp] at f1 f2
  have hWs : s.WarmedH U.vm := State.WarmedH.trans hW0 hW
  have hcl : s.vm.findClass cls = some ce.cls := by
    have h9 := hO.cls
    rw [hvm] at h9
    exact h9
  have hall : s.sameButNew ({ U with vm := s.vm } : State) locs mc ms := by
    subst hA
    obtain ⟨e1, e2⟩ := hsame
    rw [State.setFrames_setFrames] at e1
    have h2 : (T.setVm s.vm).sameButNew ({ U with vm := s.vm } : State) [] (0 + 1) (0 + 6) := ⟨e1, e2⟩
    have h3 := X.same.trans h2
    rw [List.append_nil] at h3
    exact h3.mono hc hs
  refine ⟨U, ?_, .threw T.heap.size, hrun, hend, Or.inr ⟨T.heap.size, rfl, cls, ce, locs, hx U hWs.alike f1 (fun q hq => f2 q hq (fun z hz => nomatch hz)), hce, hO.vm, hcl, hWs, hall, hf⟩⟩
  refine st1 _ ?_
  show Steps p.tables e below (T1.setTop { method := m, pc := pc + 3, locals := ls, stack := .ref T.heap.size :: rest, locked := none }) _
  jvm_step X₁.here [X₁.here.top, hexec, d3', Value.category]
  exact hsteps
/-- 'throw new E("text")': new; dup; ldc; invokespecial; athrow -/
theorem vx_throwS {cc : ByteArray} {pc : Nat} (hexec : p.tables.exec = Jvm.exec) (hb : c.code = cc) (hl : l.stackTraces = false) {own cls text : String} {names : List String} {ik is ic mc ms sa : Nat} {A : Nat → Prop}
    (hown : s.vm.findClass own = some m.cls) (hcls : Bundle.fit cls = true) (hnames : ∀ n ∈ names, Bundle.fit n = true)
    (hk : (Cond.classLink own ik cls).before args s = true) (hini : (Cond.initialized cls).before args s = true) (hstr : vk_R own is text sa s) (hat : ∀ w ∈ vx_atS own ic cls names, w.before args s = true)
    (hgood : ∀ w ∈ Cond.classLink own ik cls :: Cond.initialized cls :: vx_atS own ic cls names, vx_ot w = true)
    (hU : vx_Zq Bundle.tN "UNASSIGNED_STACK" Bundle.steD A s s.heap) (hN : vx_Zq Bundle.tN "SUPPRESSED_SENTINEL" Bundle.listD A s s.heap) (hS : va_S A s.heap H locs) (hsize : ls.size = c.maxLocals)
    (d0 : decode cc pc = .ok (.new ik, 3)) (d3 : decode cc (pc + 3) = .ok (.dup, 1)) (d4 : decode cc (pc + 4) = .ok (.ldc is, 2)) (d6 : decode cc (pc + 6) = .ok (.invokespecial ic, 3)) (d9 : decode cc (pc + 9) = .ok (.athrow, 1))
    (hout : ∀ x ∈ c.exceptionTable.toList, covers x (pc + 9) = false)
    (hRframes : names.length + 3 < R.frames) (hRlocals : (rest.map fun v => v.category).sum + (13 * (names.length + 1) + 43) ≤ R.locals) (hRcells : cells + 1 ≤ R.cells) (hRslots : slots + 6 ≤ R.slots) (hlocks : meth.locks = false)
    (hx : ∀ t : State, s.vm.Alike t.vm → H.size ≤ t.heap.size → (∀ q : Nat, q < H.size → t.heap[q]? = H[q]?) → XC cls s t)
    (hf : ∀ z ∈ locs, free z.base) (hc : cells + 1 ≤ mc) (hs : slots + 6 ≤ ms) :
    W p l e R s m args below meth c H locs cells slots (vx_MQ below Qc XC args s mc ms free) (F0 m pc ls rest) := by
  intro T hT X
  have htr : e.platform.stackTraces = false := (show e.platform.stackTraces = l.stackTraces by rw [X.admits.platform]).trans hl
  have Y := vx_rebase X (R' := { frames := R.frames, locals := R.locals, cells := 1, slots := 6 }) (Nat.le_refl _) (Nat.le_refl _) hRcells hRslots
  obtain ⟨s', hA⟩ : ∃ z, z = (T.setVm s.vm).setFrames (.invoking m args :: below) := ⟨_, rfl⟩
  rw [← hA] at Y
  have hvm : s'.vm = s.vm := by rw [hA]; rfl
  have hhp : s'.heap = H := by rw [hA]; exact hT
  have hW0 : s.WarmedH s'.vm := by rw [hvm]; exact State.WarmedH.refl s
  have hat' : ∀ w ∈ vx_atS own ic cls names, w.before args s' = true := fun w hw => vx_ot_at hW0 hvm.symm (hgood w (List.mem_cons_of_mem _ (List.mem_cons_of_mem _ hw))) (hat w hw)
  have hk' : (Cond.classLink own ik cls).before args s' = true := vx_ot_at hW0 hvm.symm (hgood _ List.mem_cons_self) hk
  have hini' : (Cond.initialized cls).before args s' = true := vx_ot_at hW0 hvm.symm (hgood _ (List.mem_cons_of_mem _ List.mem_cons_self)) hini
  have hU' : vx_Zq Bundle.tN "UNASSIGNED_STACK" Bundle.steD A s' s'.heap := by rw [hhp]; exact vx_Zq.moved hW0.alike (hU.kept hS.2.1)
  have hN' : vx_Zq Bundle.tN "SUPPRESSED_SENTINEL" Bundle.listD A s' s'.heap := by rw [hhp]; exact vx_Zq.moved hW0.alike (hN.kept hS.2.1)
  have h : ∀ w ∈ Bundle.ownAtoms own ic cls names, w.before args s' = true := vx_own hat' (vx_isRefq hU'.1) (vx_isRefq hN'.1) hU'.2.word hN'.2.word
  have hown' : s'.vm.findClass own = some m.cls := by rw [hvm]; exact hown
  have hins : (Cond.instantiable cls 6).before args s' = true := h _ (by simp [Bundle.ownAtoms])
  obtain ⟨vm₁, cX, kX, hfX, hkX, -, -, X₁, st1⟩ := Y.newCold hexec (own := own) (C := cls) (index := ik) (n := 6) hown' hk' hins hini'
    (g := F0 m pc ls rest) rfl (by rw [hb]; exact d0) (Nat.le_refl _) (Nat.le_refl _)
  generalize hT1 : (T.setVm vm₁).pushCell { cls := cX, slots := kX.instanceTypes.map defaultValue, vm := .none } = T1 at X₁ st1
  have hcat : (Value.ref T.heap.size).category = 1 := rfl
  have hcellA : T1.heap[T.heap.size]? = some (freshCell cX kX) := by rw [← hT1]; exact State.heap_pushCell_size _ _
  have d3' : decode c.code (pc + 3) = .ok (.dup, 1) := by rw [hb]; exact d3
  have d4' : decode c.code (pc + 4) = .ok (.ldc is, 2) := by rw [hb]; exact d4
  have hstr' : vk_R own is text sa s' := vk_R.warm hW0 hstr
  obtain ⟨U, hsteps, hrun, hend, hW, hsame, ce, hce, hO⟩ := X₁.ctorThrowS hexec htr (own := own) (cls := cls) (names := names) (ic := ic) hown' hcls hnames h (fun x hx => nomatch hx) hfX hkX hcellA (by rw [hhp, hT]; exact Nat.le_refl _) (msg := .ref sa) rfl
    (g := { method := m, pc := pc + 6, locals := ls, stack := .ref sa :: .ref T.heap.size :: .ref T.heap.size :: rest, locked := none }) rfl hsize rfl rfl (rest := rest) rfl
    (by rw [hb]; exact d6) (by rw [hb]; exact d9) hout hRframes (by simp only [List.map_cons, List.sum_cons, hcat]; omega) hlocks
  obtain ⟨f1, f2⟩ := vx_frame hsame
  rw [hhp] at f1 f2
  have hWs : s.WarmedH U.vm := State.WarmedH.trans hW0 hW
  have hcl : s.vm.findClass cls = some ce.cls := by
    have h9 := hO.cls
    rw [hvm] at h9
    exact h9
  have hall : s.sameButNew ({ U with vm := s.vm } : State) locs mc ms := by
    subst hA
    obtain ⟨e1, e2⟩ := hsame
    rw [State.setFrames_setFrames] at e1
    have h2 : (T.setVm s.vm).sameButNew ({ U with vm := s.vm } : State) [] (0 + 1) (0 + 6) := ⟨e1, e2⟩
    have h3 := X.same.trans h2
    rw [List.append_nil] at h3
    exact h3.mono hc hs
  refine ⟨U, ?_, .threw T.heap.size, hrun, hend, Or.inr ⟨T.heap.size, rfl, cls, ce, locs, hx U hWs.alike f1 (fun q hq => f2 q hq (fun z hz => nomatch hz)), hce, hO.vm, hcl, hWs, hall, hf⟩⟩
  refine st1 _ ?_
  show Steps p.tables e below (T1.setTop { method := m, pc := pc + 3, locals := ls, stack := .ref T.heap.size :: rest, locked := none }) _
  jvm_step X₁.here [X₁.here.top, hexec, d3', Value.category]
  exact X₁.ldcString hexec (own := own) (text := text) (index := is) (a := sa) hown' hstr'.1 hstr'.2
    (g := { method := m, pc := pc + 4, locals := ls, stack := .ref T.heap.size :: .ref T.heap.size :: rest, locked := none }) rfl d4' _ hsteps
/-- 'throw new E("text")', the text by a wide index -/
theorem vx_throwSW {cc : ByteArray} {pc : Nat} (hexec : p.tables.exec = Jvm.exec) (hb : c.code = cc) (hl : l.stackTraces = false) {own cls text : String} {names : List String} {ik is ic mc ms sa : Nat} {A : Nat → Prop}
    (hown : s.vm.findClass own = some m.cls) (hcls : Bundle.fit cls = true) (hnames : ∀ n ∈ names, Bundle.fit n = true)
    (hk : (Cond.classLink own ik cls).before args s = true) (hini : (Cond.initialized cls).before args s = true) (hstr : vk_R own is text sa s) (hat : ∀ w ∈ vx_atS own ic cls names, w.before args s = true)
    (hgood : ∀ w ∈ Cond.classLink own ik cls :: Cond.initialized cls :: vx_atS own ic cls names, vx_ot w = true)
    (hU : vx_Zq Bundle.tN "UNASSIGNED_STACK" Bundle.steD A s s.heap) (hN : vx_Zq Bundle.tN "SUPPRESSED_SENTINEL" Bundle.listD A s s.heap) (hS : va_S A s.heap H locs) (hsize : ls.size = c.maxLocals)
    (d0 : decode cc pc = .ok (.new ik, 3)) (d3 : decode cc (pc + 3) = .ok (.dup, 1)) (d4 : decode cc (pc + 4) = .ok (.ldc_w is, 3)) (d7 : decode cc (pc + 7) = .ok (.invokespecial ic, 3)) (d10 : decode cc (pc + 10) = .ok (.athrow, 1))
    (hout : ∀ x ∈ c.exceptionTable.toList, covers x (pc + 10) = false)
    (hRframes : names.length + 3 < R.frames) (hRlocals : (rest.map fun v => v.category).sum + (13 * (names.length + 1) + 43) ≤ R.locals) (hRcells : cells + 1 ≤ R.cells) (hRslots : slots + 6 ≤ R.slots) (hlocks : meth.locks = false)
    (hx : ∀ t : State, s.vm.Alike t.vm → H.size ≤ t.heap.size → (∀ q : Nat, q < H.size → t.heap[q]? = H[q]?) → XC cls s t)
    (hf : ∀ z ∈ locs, free z.base) (hc : cells + 1 ≤ mc) (hs : slots + 6 ≤ ms) :
    W p l e R s m args below meth c H locs cells slots (vx_MQ below Qc XC args s mc ms free) (F0 m pc ls rest) := by
  intro T hT X
  have htr : e.platform.stackTraces = false := (show e.platform.stackTraces = l.stackTraces by rw [X.admits.platform]).trans hl
  have Y := vx_rebase X (R' := { frames := R.frames, locals := R.locals, cells := 1, slots := 6 }) (Nat.le_refl _) (Nat.le_refl _) hRcells hRslots
  obtain ⟨s', hA⟩ : ∃ z, z = (T.setVm s.vm).setFrames (.invoking m args :: below) := ⟨_, rfl⟩
  rw [← hA] at Y
  have hvm : s'.vm = s.vm := by rw [hA]; rfl
  have hhp : s'.heap = H := by rw [hA]; exact hT
  have hW0 : s.WarmedH s'.vm := by rw [hvm]; exact State.WarmedH.refl s
  have hat' : ∀ w ∈ vx_atS own ic cls names, w.before args s' = true := fun w hw => vx_ot_at hW0 hvm.symm (hgood w (List.mem_cons_of_mem _ (List.mem_cons_of_mem _ hw))) (hat w hw)
  have hk' : (Cond.classLink own ik cls).before args s' = true := vx_ot_at hW0 hvm.symm (hgood _ List.mem_cons_self) hk
  have hini' : (Cond.initialized cls).before args s' = true := vx_ot_at hW0 hvm.symm (hgood _ (List.mem_cons_of_mem _ List.mem_cons_self)) hini
  have hU' : vx_Zq Bundle.tN "UNASSIGNED_STACK" Bundle.steD A s' s'.heap := by rw [hhp]; exact vx_Zq.moved hW0.alike (hU.kept hS.2.1)
  have hN' : vx_Zq Bundle.tN "SUPPRESSED_SENTINEL" Bundle.listD A s' s'.heap := by rw [hhp]; exact vx_Zq.moved hW0.alike (hN.kept hS.2.1)
  have h : ∀ w ∈ Bundle.ownAtoms own ic cls names, w.before args s' = true := vx_own hat' (vx_isRefq hU'.1) (vx_isRefq hN'.1) hU'.2.word hN'.2.word
  have hown' : s'.vm.findClass own = some m.cls := by rw [hvm]; exact hown
  have hins : (Cond.instantiable cls 6).before args s' = true := h _ (by simp [Bundle.ownAtoms])
  obtain ⟨vm₁, cX, kX, hfX, hkX, -, -, X₁, st1⟩ := Y.newCold hexec (own := own) (C := cls) (index := ik) (n := 6) hown' hk' hins hini'
    (g := F0 m pc ls rest) rfl (by rw [hb]; exact d0) (Nat.le_refl _) (Nat.le_refl _)
  generalize hT1 : (T.setVm vm₁).pushCell { cls := cX, slots := kX.instanceTypes.map defaultValue, vm := .none } = T1 at X₁ st1
  have hcat : (Value.ref T.heap.size).category = 1 := rfl
  have hcellA : T1.heap[T.heap.size]? = some (freshCell cX kX) := by rw [← hT1]; exact State.heap_pushCell_size _ _
  have d3' : decode c.code (pc + 3) = .ok (.dup, 1) := by rw [hb]; exact d3
  have d4' : decode c.code (pc + 4) = .ok (.ldc_w is, 3) := by rw [hb]; exact d4
  have hstr' : vk_R own is text sa s' := vk_R.warm hW0 hstr
  obtain ⟨U, hsteps, hrun, hend, hW, hsame, ce, hce, hO⟩ := X₁.ctorThrowS hexec htr (own := own) (cls := cls) (names := names) (ic := ic) hown' hcls hnames h (fun x hx => nomatch hx) hfX hkX hcellA (by rw [hhp, hT]; exact Nat.le_refl _) (msg := .ref sa) rfl
    (g := { method := m, pc := pc + 7, locals := ls, stack := .ref sa :: .ref T.heap.size :: .ref T.heap.size :: rest, locked := none }) rfl hsize rfl rfl (rest := rest) rfl
    (by rw [hb]; exact d7) (by rw [hb]; exact d10) hout hRframes (by simp only [List.map_cons, List.sum_cons, hcat]; omega) hlocks
  obtain ⟨f1, f2⟩ := vx_frame hsame
  rw [hhp] at f1 f2
  have hWs : s.WarmedH U.vm := State.WarmedH.trans hW0 hW
  have hcl : s.vm.findClass cls = some ce.cls := by
    have h9 := hO.cls
    rw [hvm] at h9
    exact h9
  have hall : s.sameButNew ({ U with vm := s.vm } : State) locs mc ms := by
    subst hA
    obtain ⟨e1, e2⟩ := hsame
    rw [State.setFrames_setFrames] at e1
    have h2 : (T.setVm s.vm).sameButNew ({ U with vm := s.vm } : State) [] (0 + 1) (0 + 6) := ⟨e1, e2⟩
    have h3 := X.same.trans h2
    rw [List.append_nil] at h3
    exact h3.mono hc hs
  refine ⟨U, ?_, .threw T.heap.size, hrun, hend, Or.inr ⟨T.heap.size, rfl, cls, ce, locs, hx U hWs.alike f1 (fun q hq => f2 q hq (fun z hz => nomatch hz)), hce, hO.vm, hcl, hWs, hall, hf⟩⟩
  refine st1 _ ?_
  show Steps p.tables e below (T1.setTop { method := m, pc := pc + 3, locals := ls, stack := .ref T.heap.size :: rest, locked := none }) _
  jvm_step X₁.here [X₁.here.top, hexec, d3', Value.category]
  exact X₁.ldcStringW hexec (own := own) (text := text) (index := is) (a := sa) hown' hstr'.1 hstr'.2
    (g := { method := m, pc := pc + 4, locals := ls, stack := .ref T.heap.size :: .ref T.heap.size :: rest, locked := none }) rfl d4' _ hsteps
end Ends
section Bodies
variable {l : Launch}
theorem vx_ofW {y : MethodName} {ws ws' : List Cond} {rm : Room} {Pc : Array Value → State → Prop} {Qc : Array Value → State → Outcome → State → Prop} {XC : String → State → State → Prop} {mc ms : Nat} {free : Addr → Prop} {cc : ByteArray} {maxL : Nat} {ret : Option FieldType}
    (hy : plainName y.cls = true) (hw : ws = Cond.code y cc maxL ret :: ws')
    (body : ∀ p e s m args below meth c s₁, BodyLoose p l y (headSpec ws rm) cc maxL ret e s m args below meth c s₁ → c.maxLocals = maxL → (∀ x ∈ c.exceptionTable.toList, False) → Pc args s →
      W p l e (headSpec ws rm).room s m args below meth c s.heap [] 0 0 (vx_MQ below Qc XC args s mc ms free) (entryFrame m args maxL)) : vx_Met l y ws rm Pc Qc XC mc ms free := by
  refine MetFree.of_bodyS (code := cc) (maxLocals := maxL) (ret := ret) hy ?_ ?_
  · intro args s m h hn
    obtain ⟨meth, c, h1, h2, h3, h4, h5, h6, -, -⟩ := Cond.code_spec hn (atoms_spec (ws := ws) h _ (by rw [hw]; exact List.mem_cons_self))
    exact ⟨meth, c, h1, h2, h3, h4, h5, h6⟩
  · intro p e s m args below meth c s₁ B hml hP _
    have hh0 : s₁.heap = s.heap := by rw [B.state]; rfl
    have ht : ∀ x ∈ c.exceptionTable.toList, False := by
      obtain ⟨meth9, c9, h1, h2, -, -, -, -, h7, -⟩ := Cond.code_spec B.named (atoms_spec (ws := ws) B.pre _ (by rw [hw]; exact List.mem_cons_self))
      cases Option.some.inj (h1.symm.trans B.method)
      cases Option.some.inj (h2.symm.trans (Stand.of_body B).code)
      intro x hx
      rw [Array.isEmpty_iff.mp h7] at hx
      cases hx
    obtain ⟨t, a1, o, b1, b2, b3⟩ := body p e s m args below meth c s₁ B hml ht hP s₁ hh0 (Stand.of_body B)
    exact ⟨t, o, a1, b1, b2, b3⟩
/-- the table of a body with handlers -/
theorem vx_table {p : Program} {x y : MethodName} {S : Spec} {cc bytes : ByteArray} {maxL maxL' : Nat} {ret ret' : Option FieldType} {e : Env} {s s₁ : State} {m : MethodId} {args : Array Value} {below : List Frame} {meth : Method} {c : Code} {hh : List (Nat × Nat × Nat × Nat)}
    (B : BodyLoose p l y S cc maxL ret e s m args below meth c s₁) (h : (Cond.codeWith y bytes maxL' ret' hh).before args s = true) : c.exceptionTable.toList = tableOf hh := by
  obtain ⟨m9, meth9, c9, hn9, h1, h2, -, -, h6, -⟩ := Cond.codeWith_spec h
  cases Option.some.inj (hn9.symm.trans B.named)
  cases Option.some.inj (h1.symm.trans B.method)
  cases Option.some.inj (h2.symm.trans (Stand.of_body B).code)
  rw [← h6, table_eq]
end Bodies
end VXA
/-! ===== END ===== -/
/-! ===== BEGIN a static call of a method with an exception table ===== -/
section VXS
variable {p : Program} {l : Launch} {e : Env} {R : Room} {s : State} {m : MethodId} {args : Array Value} {below : List Frame} {meth : Method} {c : Code} {T : State} {H : Heap} {locs : List Loc} {cells slots : Nat}
abbrev vx_CSW (R : Room) (s : State) (args : Array Value) (own : String) (index : Nat) (y : MethodName) (bytes : ByteArray) (maxL : Nat) (ret : Option FieldType) (hh : List (Nat × Nat × Nat × Nat)) (ws : List Cond) (rm : Room) (mc ms n : Nat) : Prop :=
  (rm.cells = mc ∧ rm.slots = ms ∧ rm.frames + 1 ≤ R.frames ∧ 8 + (maxL + 11) + rm.locals ≤ R.locals ∧ (∀ w ∈ ws, ∀ (a' : Array Value) (U : State), s.WarmedH U.vm → w.before a' U = true) ∧ Cond.codeWith y bytes maxL ret hh ∈ ws) ∧
  (Cond.codeWith y bytes maxL ret hh).before args s = true ∧ (Cond.initialized y.cls).before args s = true ∧ (y.cls ≠ "java/lang/invoke/MethodHandle" ∧ y.cls ≠ "java/lang/invoke/VarHandle") ∧
  (∀ sig, parseMethodDescriptor y.desc = some sig → n = sig.parameters.length) ∧ (Cond.methodLink own index y).before args s = true ∧ (Cond.static y).before args s = true
theorem vx_cwSW {own : String} {index maxL mc ms : Nat} {y : MethodName} {bytes : ByteArray} {ret : Option FieldType} {hh : List (Nat × Nat × Nat × Nat)} {Ts ws ws' : List Cond} {rm : Room} (n : Nat) (ht : ∀ w ∈ Ts, w.before args s = true) (hT : GoodIn Ts (va_wsS own index y ws)) (hw : ws = Cond.codeWith y bytes maxL ret hh :: ws') (hrc : rm.cells = mc) (hrs : rm.slots = ms)
    (hd : y.cls ≠ "java/lang/invoke/MethodHandle" ∧ y.cls ≠ "java/lang/invoke/VarHandle" ∧ (parseMethodDescriptor y.desc).map (fun d => d.parameters.length) = some n) (hR : rm.frames + 1 ≤ R.frames ∧ 8 + (maxL + 11) + rm.locals ≤ R.locals) :
    vx_CSW R s args own index y bytes maxL ret hh ws rm mc ms n := by
  have ok : ∀ w ∈ va_wsS own index y ws, w.before args s = true := fun w h => ht w (hT w h).1
  have hG : GoodIn Ts ws := fun w h => hT w (by unfold va_wsS; exact List.mem_append_right _ h)
  have hc : Cond.codeWith y bytes maxL ret hh ∈ ws := by rw [hw]; exact List.mem_cons_self
  refine ⟨⟨hrc, hrs, hR.1, hR.2, pay_in ht hG, hc⟩, ht _ (hG _ hc).1, ok _ (by simp [va_wsS]), ⟨hd.1, hd.2.1⟩, fun sig h => ?_, ok _ (by simp [va_wsS]), ok _ (by simp [va_wsS])⟩
  have h2 := hd.2.2
  rw [h] at h2
  exact (Option.some.inj h2).symm
theorem vx_callSW (X : Stand p l e R s m args below meth c T locs cells slots) (hexec : p.tables.exec = Jvm.exec) {own : String} {index : Nat} {y : MethodName} {bytes : ByteArray} {maxL : Nat} {ret : Option FieldType} {hh : List (Nat × Nat × Nat × Nat)}
    (hown : s.vm.findClass own = some m.cls) (hlink : (Cond.methodLink own index y).before args s = true) (hstat : (Cond.static y).before args s = true) (hinit : (Cond.initialized y.cls).before args s = true)
    (hcode : (Cond.codeWith y bytes maxL ret hh).before args s = true) (hy : y.cls ≠ "java/lang/invoke/MethodHandle" ∧ y.cls ≠ "java/lang/invoke/VarHandle")
    {W9 : Nat} {Pre : Pt → Array Value → Prop} {Post : Pt → Array Value → Option Value → Pt → Prop} (hK : Back l R p e below s args y 3 W9 Pre Post)
    {g : JFrame} (hg : g.method = m) (hsize : g.locals.size = c.maxLocals) {argsL rest : List Value} (hlen : ∀ sig, parseMethodDescriptor y.desc = some sig → argsL.length = sig.parameters.length)
    (hstack : g.stack = argsL.reverse ++ rest) (hW : 2 * g.monitorRoom + (rest.map fun v => v.category).sum ≤ W9) (hdg : decode c.code g.pc = .ok (.invokestatic index, 3))
    (hpre : ∀ vm₁, s.WarmedH vm₁ → Pre ⟨T.setVm vm₁, locs, cells, slots⟩ argsL.toArray) :
    ∃ (v : Option Value) (vm₁ : Vm) (B : Pt), s.WarmedH vm₁ ∧ Stand p l e R s m args below meth c B.U B.locs B.cells B.slots ∧ Post ⟨T.setVm vm₁, locs, cells, slots⟩ argsL.toArray v B ∧
      ∀ target, Steps p.tables e below (B.U.setTop { g with pc := g.pc + 3, stack := v.toList ++ rest }) target → Steps p.tables e below (T.setTop g) target := by
  obtain ⟨mk, methM, cM, hnamed, hmethM, -, -, -, -, -, -, hsigM⟩ := Cond.codeWith_spec hcode
  have hstatic : methM.isStatic = true := Cond.static_spec hnamed hmethM hstat
  obtain ⟨kP, hkP, -⟩ := className_of_methodNamed hnamed
  have hinitP : kP.init = .initialized := Cond.initialized_spec (findClass_of_methodNamed hnamed) hkP hinit
  obtain ⟨vm₁, X₁, hstep₁⟩ := X.invokestatic hexec hown hlink hnamed hmethM hstatic hkP hinitP hy (g := g) hg (argsL := argsL) (rest := rest) (hlen _ hsigM) hstack hdg
  obtain ⟨v, B, X', hpost, hsteps⟩ := hK m meth c ⟨T.setVm vm₁, locs, cells, slots⟩ { g with stack := rest } (.invokestatic index) mk argsL.toArray X₁ hg hsize hdg hW (X₁.named hnamed) (hpre vm₁ X₁.warmed)
  exact ⟨v, vm₁, B, X₁.warmed, X', hpost, fun target h => hstep₁ _ fun acts => by rw [doInvoke_state]; exact hsteps.trans h⟩
theorem vx_runSW {y : MethodName} {bytes cc : ByteArray} {maxL nL mc ms n index : Nat} {ret : Option FieldType} {hh : List (Nat × Nat × Nat × Nat)} {ws : List Cond} {rm : Room} {Pc : Array Value → State → Prop} {Qc : Array Value → State → Outcome → State → Prop} {free : Addr → Prop} {Ts : List Cond} {own : String} {As rest : List Value} {g : JFrame}
    (S : CallFix p m c cc nL s args Ts own) (hM : Met l y ws rm Pc Qc mc ms free) (cw : vx_CSW R s args own index y bytes maxL ret hh ws rm mc ms n) (hp : PreS s H Pc As)
    (hg : g.method = m) (hn : As.length = n) (hsize : g.locals.size = nL) (hstack : g.stack = As.reverse ++ rest) (hW : 2 * g.monitorRoom + (rest.map fun v => v.category).sum ≤ 8) (hdg : decode cc g.pc = .ok (.invokestatic index, 3)) (hf : cells + mc ≤ R.cells ∧ slots + ms ≤ R.slots) :
    va_Run p l e R s m args below meth c H locs cells slots mc ms g rest (Qc As.toArray) (free) := by
  obtain ⟨⟨hrc, hrs, hfr, hlo, hws, hcw⟩, hcode, hini, hy, hlen, hl, hstt⟩ := cw
  have hK : Back l R p e below s args y 3 8 (PreOf R mc ms Pc) (PostOf Qc mc ms free) := va_backW (hh := hh) (bytes := bytes) (maxL := maxL) (ret := ret) hM hp.1 hrc hrs hfr hlo hws hcw (fun a' U hW => word_at hW (Or.inl (by first | rfl | simp [Cond.onTables, Cond.keeps, Cond.steady])) hini)
  obtain ⟨hx, hb, hml, ho, -⟩ := S
  intro T hT X
  obtain ⟨v, vm₁, ⟨U', l2, c2, s2⟩, hW₁, X', ⟨g', mk, t, L, e1, e2, hq, h1, hL, h2, h3⟩, st⟩ := vx_callSW X hx (hh := hh) (bytes := bytes) (maxL := maxL) (ret := ret) ho hl hstt hini hcode hy hK hg (hsize.trans hml.symm) (argsL := As) (rest := rest) (fun sig h => hn.trans (hlen sig h)) hstack hW (by rw [hb]; exact hdg)
    (fun vm₁ hW₁ => ⟨hf.1, hf.2, hp.2 (T.setVm vm₁) hT hW₁⟩)
  dsimp only [Pt.U, Pt.locs, Pt.cells, Pt.slots] at X' e1 e2 h1 h2 h3 st
  subst h1; subst h2; subst h3
  exact ⟨v, (T.setVm vm₁).calling g' mk As.toArray, t, U', L, hT, X', hL, e1, e2, hq, st⟩
/-- a thing of a world lies in the heap -/
theorem vx_lt {D : va_G} {cl : List vw_C} {ws : va_W} {H1 : Heap} (h : va_P D cl ws H1) {k : Nat} {q : Nat × va_E} (hk : ws[k]? = some q) : q.1 < H1.size := (h k q hk).lt
end VXS
/-! ===== END ===== -/
/-! ===== BEGIN methods with a table of their own: called by a name, returning or throwing ===== -/
section VXH
/-! vx_backW, vx_callVX, vx_callSX, vx_callVW, vx_runVW, vx_runVX, vx_runSX, vx_ofWH follow the same proofs as their sisters above (Free/Laws.lean, Shelf42/LK1.lean); vx_outP calls Shelf42/NT130.lean (outThrough). -/
section
variable {l : Launch} {R : Room} {p : Program} {e : Env} {below : List Frame} {s : State} {sargs : Array Value} {y : MethodName} {len W9 : Nat}
theorem vx_backW {ws : List Cond} {rm : Room} {Pc : Array Value → State → Prop} {Qc : Array Value → State → Outcome → State → Prop} {XC : String → State → State → Prop} {mc ms : Nat} {free : Addr → Prop} {bytes : ByteArray} {maxL : Nat} {ret : Option FieldType} {hh : List (Nat × Nat × Nat × Nat)}
    (hM : vx_Met l y ws rm Pc Qc XC mc ms free) (hblind : FrameBlind Pc) (hrc : rm.cells = mc) (hrs : rm.slots = ms)
    (hframes : rm.frames + 1 ≤ R.frames) (hlocals : W9 + (maxL + 11) + rm.locals ≤ R.locals)
    (hws : ∀ w ∈ ws, ∀ a' U, s.WarmedH U.vm → w.before a' U = true) (hcode : Cond.codeWith y bytes maxL ret hh ∈ ws) (hinit : ∀ a' U, s.WarmedH U.vm → (Cond.initialized y.cls).before a' U = true) :
    vx_Back l R p e below s sargs y len W9 (PreOf R mc ms Pc) (PostOf Qc mc ms free) (vx_Post XC mc ms free) := by
  intro m meth c A g ig mk a X hg hsize hdg hW hn hp
  have h1 : (headSpec ws rm).pre.before a A.U = true := atoms_intro fun w hw => hws w hw _ _ X.warmed
  have h2 : (Cond.codeWith y bytes maxL ret hh).before a A.U = true := hws _ hcode _ _ X.warmed
  have h3 : (Cond.initialized y.cls).before a A.U = true := hinit _ _ X.warmed
  have h4 : A.cells + (headSpec ws rm).room.cells ≤ R.cells := by rw [show (headSpec ws rm).room.cells = mc from hrc]; exact hp.1
  have h5 : A.slots + (headSpec ws rm).room.slots ≤ R.slots := by rw [show (headSpec ws rm).room.slots = ms from hrs]; exact hp.2.1
  have hPc : Pc a (A.U.calling g mk a) := hblind _ _ _ _ hp.2.2
  obtain ⟨U, Ls, c0, s0⟩ := A
  dsimp only [Pt.U, Pt.locs, Pt.cells, Pt.slots] at h1 h2 h3 h4 h5 X hn hPc ⊢
  obtain ⟨m9, methY, cY, hn9, hmY, hcY, -, hlY, -⟩ := Cond.codeWith_spec h2
  cases Option.some.inj (hn9.symm.trans hn)
  obtain ⟨kY, hkY, -⟩ := className_of_methodNamed hn
  have hinitY : kY.init = .initialized := Cond.initialized_spec (findClass_of_methodNamed hn) hkY h3
  have h : At U g.method c below := by rw [hg]; exact X.here
  have hlocals9 : W9 + (maxL + 11) + (headSpec ws rm).room.locals ≤ R.locals := hlocals
  have happ : (headSpec ws rm).appliesLoose y e.platform (U.calling g mk a) = true :=
    Spec.appliesLoose_calling (g := g) h hdg hn hkY hinitY
      (X.room_calling (g := g) (R' := (headSpec ws rm).room) hsize hmY hcY hframes (by rw [hlY]; omega) h4 h5) h1
  obtain ⟨mid, hmid⟩ := h.above
  have hfr : (U.setTop g).frames = (.java g :: mid) ++ below := by rw [State.frames_setTop' g h.top, hmid]; rfl
  obtain ⟨o, s₂, hsteps, -, hend, hq⟩ := Steps.callFree hM p X.admits X.cas X.clock (acts := []) hfr happ hPc trivial
  have hq' : vx_Q Qc XC mc ms free a (U.calling g mk a) o s₂ := hq
  rw [State.frames_setTop' g h.top] at hend
  obtain ⟨g₀, hg0⟩ := Option.isSome_iff_exists.mp h.top
  obtain ⟨r, hr⟩ := State.topJava?_eq_some.mp hg0
  have hr' : (({ U with heap := s₂.heap, slotsUsed := s₂.slotsUsed } : State).setVm s₂.vm).frames = .java g₀ :: r := hr
  rcases hq' with ⟨hqc, L, hfe, hL⟩ | ⟨q, rfl, E, ce, L, hx, hce, hcv, hcl, hW₂, hsm, hL⟩
  · obtain ⟨⟨v, rfl⟩, hW₂, e2, q2, q3, q4, q5, q6⟩ := id hfe
    have e3 : s₂ = ({ (U.calling g mk a).setFrames s₂.frames with heap := s₂.heap, slotsUsed := s₂.slotsUsed } : State).setVm s₂.vm := by
      have : s₂ = ({ s₂ with vm := (U.calling g mk a).vm } : State).setVm s₂.vm := rfl
      rw [e2] at this
      exact this
    obtain ⟨c₂, i₂, len₂, hc₂, hd₂, hf₂⟩ := hend
    have hW' : U.WarmedH s₂.vm := hW₂
    have hcc : c₂ = c := by
      have h1 : s₂.code? g.method = U.code? g.method := by
        rw [State.code?_eq, State.code?_eq, hW'.alike.method?]
      exact Option.some.inj (hc₂.symm.trans (h1.trans h.code))
    subst hcc
    have hlen : len₂ = len := by rw [hdg] at hd₂; cases hd₂; rfl
    subst hlen
    have hs₂ : s₂ = (({ U with heap := s₂.heap, slotsUsed := s₂.slotsUsed } : State).setVm s₂.vm).setTop { g with pc := g.pc + len₂, stack := v.toList ++ g.stack } := by
      refine e3.trans ?_
      rw [hf₂, State.calling_eq h.top, State.setFrames_setFrames, State.setTop_of_frames _ hr', hr]
      rfl
    have hsame : U.sameButNew ({ U with heap := s₂.heap, slotsUsed := s₂.slotsUsed } : State) L mc ms := by
      refine ⟨?_, q2, q3, q4, q5, q6⟩
      obtain ⟨t, ht, -⟩ := State.frames_cons hr
      show ({ U with heap := s₂.heap, slotsUsed := s₂.slotsUsed } : State) = { U.setFrames U.frames with heap := s₂.heap, slotsUsed := s₂.slotsUsed }
      rw [State.setFrames_self ht]
    subst hg
    refine Or.inl ⟨v, ⟨(({ U with heap := s₂.heap, slotsUsed := s₂.slotsUsed } : State).setVm s₂.vm), Ls ++ L, c0 + mc, s0 + ms⟩,
      ⟨X.admits, X.cas, X.clock, X.frames, X.room, X.hears, X.method, X.code, (X.here.setHeapUsed s₂.heap s₂.slotsUsed).setVm hW'.alike, X.tail, State.WarmedH.trans X.warmed hW', X.limits, X.bytes, X.same.trans (hsame.setVm s.vm)⟩,
      ⟨g, mk, s₂, L, rfl, rfl, hqc, rfl, hL, rfl, rfl⟩, ?_⟩
    show Steps p.tables e below _ ((({ U with heap := s₂.heap, slotsUsed := s₂.slotsUsed } : State).setVm s₂.vm).setTop { g with pc := g.pc + len₂, stack := v.toList ++ g.stack })
    rw [← hs₂]
    exact hsteps
  · obtain ⟨e2, q2, q3, q4, q5, q6⟩ := id hsm
    have e3 : s₂ = ({ (U.calling g mk a).setFrames s₂.frames with heap := s₂.heap, slotsUsed := s₂.slotsUsed } : State).setVm s₂.vm := by
      have : s₂ = ({ s₂ with vm := (U.calling g mk a).vm } : State).setVm s₂.vm := rfl
      rw [e2] at this
      exact this
    have hf₂ : s₂.frames = .throwing q :: .java g :: U.frames.tail := hend
    have hW' : U.WarmedH s₂.vm := hW₂
    have hs₂ : s₂ = ((({ U with heap := s₂.heap, slotsUsed := s₂.slotsUsed } : State).setVm s₂.vm).setTop g).pushFrame (.throwing q) := by
      refine e3.trans ?_
      rw [hf₂, State.calling_eq h.top, State.setFrames_setFrames, State.pushFrame, State.frames_setTop _ hr', State.setTop_of_frames _ hr', State.setFrames_setFrames, hr]
      rfl
    have hsame : U.sameButNew ({ U with heap := s₂.heap, slotsUsed := s₂.slotsUsed } : State) L mc ms := by
      refine ⟨?_, q2, q3, q4, q5, q6⟩
      obtain ⟨t, ht, -⟩ := State.frames_cons hr
      show ({ U with heap := s₂.heap, slotsUsed := s₂.slotsUsed } : State) = { U.setFrames U.frames with heap := s₂.heap, slotsUsed := s₂.slotsUsed }
      rw [State.setFrames_self ht]
    subst hg
    refine Or.inr ⟨q, ⟨(({ U with heap := s₂.heap, slotsUsed := s₂.slotsUsed } : State).setVm s₂.vm), Ls ++ L, c0 + mc, s0 + ms⟩,
      ⟨X.admits, X.cas, X.clock, X.frames, X.room, X.hears, X.method, X.code, (X.here.setHeapUsed s₂.heap s₂.slotsUsed).setVm hW'.alike, X.tail, State.WarmedH.trans X.warmed hW', X.limits, X.bytes, X.same.trans (hsame.setVm s.vm)⟩,
      ⟨g, mk, s₂, L, E, ce, rfl, rfl, hx, hce, hcv, hcl, rfl, hL, rfl, rfl⟩, ?_⟩
    show Steps p.tables e below _ (((({ U with heap := s₂.heap, slotsUsed := s₂.slotsUsed } : State).setVm s₂.vm).setTop g).pushFrame (.throwing q))
    rw [← hs₂]
    exact hsteps
end
variable {p : Program} {l : Launch} {e : Env} {R : Room} {s : State} {m : MethodId} {args : Array Value} {below : List Frame} {meth : Method} {c : Code} {T : State} {H : Heap} {locs : List Loc} {cells slots : Nat}
theorem vx_callVX (X : Stand p l e R s m args below meth c T locs cells slots) (hexec : p.tables.exec = Jvm.exec) {own C : String} {index : Nat} {y : MethodName} {bytes : ByteArray} {maxL : Nat} {ret : Option FieldType} {hh : List (Nat × Nat × Nat × Nat)}
    (hown : s.vm.findClass own = some m.cls) (hlink : (Cond.methodLink own index y).before args s = true) (hinst : (Cond.instanceMethod y).before args s = true) (hsel : (Cond.selects C y y).before args s = true)
    (hcode : (Cond.codeWith y bytes maxL ret hh).before args s = true) (hy : y.cls ≠ "java/lang/invoke/MethodHandle" ∧ y.cls ≠ "java/lang/invoke/VarHandle")
    {W9 : Nat} {Pre : Pt → Array Value → Prop} {Post : Pt → Array Value → Option Value → Pt → Prop} {PostX : Pt → Array Value → Addr → Pt → Prop} (hK : vx_Back l R p e below s args y 3 W9 Pre Post PostX)
    {b : Addr} {cellB : Cell} (hcell : T.heap[b]? = some cellB) (hobj : cellB.vm.isStatics = false) (hcls : s.vm.findClass C = some cellB.cls)
    {g : JFrame} (hg : g.method = m) (hsize : g.locals.size = c.maxLocals) {argsL rest : List Value} (hlen : ∀ sig, parseMethodDescriptor y.desc = some sig → argsL.length = sig.parameters.length)
    (hstack : g.stack = argsL.reverse ++ .ref b :: rest) (hW : 2 * g.monitorRoom + (rest.map fun v => v.category).sum ≤ W9) (hdg : decode c.code g.pc = .ok (.invokevirtual index, 3))
    (hpre : ∀ vm₁, s.WarmedH vm₁ → Pre ⟨T.setVm vm₁, locs, cells, slots⟩ (Value.ref b :: argsL).toArray) :
    (∃ (v : Option Value) (vm₁ : Vm) (B : Pt), s.WarmedH vm₁ ∧ Stand p l e R s m args below meth c B.U B.locs B.cells B.slots ∧ Post ⟨T.setVm vm₁, locs, cells, slots⟩ (Value.ref b :: argsL).toArray v B ∧
      ∀ target, Steps p.tables e below (B.U.setTop { g with pc := g.pc + 3, stack := v.toList ++ rest }) target → Steps p.tables e below (T.setTop g) target) ∨
    (∃ (q : Addr) (vm₁ : Vm) (B : Pt), s.WarmedH vm₁ ∧ Stand p l e R s m args below meth c B.U B.locs B.cells B.slots ∧ PostX ⟨T.setVm vm₁, locs, cells, slots⟩ (Value.ref b :: argsL).toArray q B ∧
      Steps p.tables e below (T.setTop g) ((B.U.setTop { g with stack := rest }).pushFrame (.throwing q))) := by
  obtain ⟨mk, methM, hnamed, hmethM, hstM, habM⟩ := Cond.instanceMethod_spec hinst
  obtain ⟨m8, methM', cM, hn8, hmethM', -, -, -, -, -, -, hsigM⟩ := Cond.codeWith_spec hcode
  cases Option.some.inj (hn8.symm.trans hnamed)
  cases hmethM.symm.trans hmethM'
  obtain ⟨c2, r2, m2, q1, q2, q3, q4, kP, hkP, hkPi⟩ := Cond.selects_spec hsel
  cases hcls.symm.trans q1
  cases (State.methodFound?_of_named hnamed hy).symm.trans q2
  cases hnamed.symm.trans q3
  have hselP : selectMethod e.platform s.vm cellB.cls mk = .method mk := by rw [Launch.admits_selectMethod X.admits]; exact q4
  obtain ⟨vm₁, X₁, hstep₁⟩ := X.invokevirtual hexec hown hlink hnamed hmethM hstM hkP hkPi hy (a := b) (cell := cellB) hcell
    (fun z h => by rw [h] at hobj; cases hobj) hselP hmethM habM hkP hkPi (g := g) hg (argsL := argsL) (rest := rest) (hlen _ hsigM) hstack hdg
  rcases hK m meth c ⟨T.setVm vm₁, locs, cells, slots⟩ { g with stack := rest } (.invokevirtual index) mk (Value.ref b :: argsL).toArray X₁ hg hsize hdg hW (X₁.named hnamed) (hpre vm₁ X₁.warmed) with ⟨v, B, X', hpost, hsteps⟩ | ⟨q, B, X', hpost, hsteps⟩
  · exact Or.inl ⟨v, vm₁, B, X₁.warmed, X', hpost, fun target h => hstep₁ _ fun acts => by rw [doInvoke_state]; exact hsteps.trans h⟩
  · exact Or.inr ⟨q, vm₁, B, X₁.warmed, X', hpost, hstep₁ _ fun acts => by rw [doInvoke_state]; exact hsteps⟩
theorem vx_callSX (X : Stand p l e R s m args below meth c T locs cells slots) (hexec : p.tables.exec = Jvm.exec) {own : String} {index : Nat} {y : MethodName} {bytes : ByteArray} {maxL : Nat} {ret : Option FieldType} {hh : List (Nat × Nat × Nat × Nat)}
    (hown : s.vm.findClass own = some m.cls) (hlink : (Cond.methodLink own index y).before args s = true) (hstat : (Cond.static y).before args s = true) (hinit : (Cond.initialized y.cls).before args s = true)
    (hcode : (Cond.codeWith y bytes maxL ret hh).before args s = true) (hy : y.cls ≠ "java/lang/invoke/MethodHandle" ∧ y.cls ≠ "java/lang/invoke/VarHandle")
    {W9 : Nat} {Pre : Pt → Array Value → Prop} {Post : Pt → Array Value → Option Value → Pt → Prop} {PostX : Pt → Array Value → Addr → Pt → Prop} (hK : vx_Back l R p e below s args y 3 W9 Pre Post PostX)
    {g : JFrame} (hg : g.method = m) (hsize : g.locals.size = c.maxLocals) {argsL rest : List Value} (hlen : ∀ sig, parseMethodDescriptor y.desc = some sig → argsL.length = sig.parameters.length)
    (hstack : g.stack = argsL.reverse ++ rest) (hW : 2 * g.monitorRoom + (rest.map fun v => v.category).sum ≤ W9) (hdg : decode c.code g.pc = .ok (.invokestatic index, 3))
    (hpre : ∀ vm₁, s.WarmedH vm₁ → Pre ⟨T.setVm vm₁, locs, cells, slots⟩ argsL.toArray) :
    (∃ (v : Option Value) (vm₁ : Vm) (B : Pt), s.WarmedH vm₁ ∧ Stand p l e R s m args below meth c B.U B.locs B.cells B.slots ∧ Post ⟨T.setVm vm₁, locs, cells, slots⟩ argsL.toArray v B ∧
      ∀ target, Steps p.tables e below (B.U.setTop { g with pc := g.pc + 3, stack := v.toList ++ rest }) target → Steps p.tables e below (T.setTop g) target) ∨
    (∃ (q : Addr) (vm₁ : Vm) (B : Pt), s.WarmedH vm₁ ∧ Stand p l e R s m args below meth c B.U B.locs B.cells B.slots ∧ PostX ⟨T.setVm vm₁, locs, cells, slots⟩ argsL.toArray q B ∧
      Steps p.tables e below (T.setTop g) ((B.U.setTop { g with stack := rest }).pushFrame (.throwing q))) := by
  obtain ⟨mk, methM, cM, hnamed, hmethM, -, -, -, -, -, -, hsigM⟩ := Cond.codeWith_spec hcode
  have hstatic : methM.isStatic = true := Cond.static_spec hnamed hmethM hstat
  obtain ⟨kP, hkP, -⟩ := className_of_methodNamed hnamed
  have hinitP : kP.init = .initialized := Cond.initialized_spec (findClass_of_methodNamed hnamed) hkP hinit
  obtain ⟨vm₁, X₁, hstep₁⟩ := X.invokestatic hexec hown hlink hnamed hmethM hstatic hkP hinitP hy (g := g) hg (argsL := argsL) (rest := rest) (hlen _ hsigM) hstack hdg
  rcases hK m meth c ⟨T.setVm vm₁, locs, cells, slots⟩ { g with stack := rest } (.invokestatic index) mk argsL.toArray X₁ hg hsize hdg hW (X₁.named hnamed) (hpre vm₁ X₁.warmed) with ⟨v, B, X', hpost, hsteps⟩ | ⟨q, B, X', hpost, hsteps⟩
  · exact Or.inl ⟨v, vm₁, B, X₁.warmed, X', hpost, fun target h => hstep₁ _ fun acts => by rw [doInvoke_state]; exact hsteps.trans h⟩
  · exact Or.inr ⟨q, vm₁, B, X₁.warmed, X', hpost, hstep₁ _ fun acts => by rw [doInvoke_state]; exact hsteps⟩
theorem vx_callVW (X : Stand p l e R s m args below meth c T locs cells slots) (hexec : p.tables.exec = Jvm.exec) {own C : String} {index : Nat} {y : MethodName} {bytes : ByteArray} {maxL : Nat} {ret : Option FieldType} {hh : List (Nat × Nat × Nat × Nat)}
    (hown : s.vm.findClass own = some m.cls) (hlink : (Cond.methodLink own index y).before args s = true) (hinst : (Cond.instanceMethod y).before args s = true) (hsel : (Cond.selects C y y).before args s = true)
    (hcode : (Cond.codeWith y bytes maxL ret hh).before args s = true) (hy : y.cls ≠ "java/lang/invoke/MethodHandle" ∧ y.cls ≠ "java/lang/invoke/VarHandle")
    {W9 : Nat} {Pre : Pt → Array Value → Prop} {Post : Pt → Array Value → Option Value → Pt → Prop} (hK : Back l R p e below s args y 3 W9 Pre Post)
    {b : Addr} {cellB : Cell} (hcell : T.heap[b]? = some cellB) (hobj : cellB.vm.isStatics = false) (hcls : s.vm.findClass C = some cellB.cls)
    {g : JFrame} (hg : g.method = m) (hsize : g.locals.size = c.maxLocals) {argsL rest : List Value} (hlen : ∀ sig, parseMethodDescriptor y.desc = some sig → argsL.length = sig.parameters.length)
    (hstack : g.stack = argsL.reverse ++ .ref b :: rest) (hW : 2 * g.monitorRoom + (rest.map fun v => v.category).sum ≤ W9) (hdg : decode c.code g.pc = .ok (.invokevirtual index, 3))
    (hpre : ∀ vm₁, s.WarmedH vm₁ → Pre ⟨T.setVm vm₁, locs, cells, slots⟩ (Value.ref b :: argsL).toArray) :
    ∃ (v : Option Value) (vm₁ : Vm) (B : Pt), s.WarmedH vm₁ ∧ Stand p l e R s m args below meth c B.U B.locs B.cells B.slots ∧ Post ⟨T.setVm vm₁, locs, cells, slots⟩ (Value.ref b :: argsL).toArray v B ∧
      ∀ target, Steps p.tables e below (B.U.setTop { g with pc := g.pc + 3, stack := v.toList ++ rest }) target → Steps p.tables e below (T.setTop g) target := by
  obtain ⟨mk, methM, hnamed, hmethM, hstM, habM⟩ := Cond.instanceMethod_spec hinst
  obtain ⟨m8, methM', cM, hn8, hmethM', -, -, -, -, -, -, hsigM⟩ := Cond.codeWith_spec hcode
  cases Option.some.inj (hn8.symm.trans hnamed)
  cases hmethM.symm.trans hmethM'
  obtain ⟨c2, r2, m2, q1, q2, q3, q4, kP, hkP, hkPi⟩ := Cond.selects_spec hsel
  cases hcls.symm.trans q1
  cases (State.methodFound?_of_named hnamed hy).symm.trans q2
  cases hnamed.symm.trans q3
  have hselP : selectMethod e.platform s.vm cellB.cls mk = .method mk := by rw [Launch.admits_selectMethod X.admits]; exact q4
  obtain ⟨vm₁, X₁, hstep₁⟩ := X.invokevirtual hexec hown hlink hnamed hmethM hstM hkP hkPi hy (a := b) (cell := cellB) hcell
    (fun z h => by rw [h] at hobj; cases hobj) hselP hmethM habM hkP hkPi (g := g) hg (argsL := argsL) (rest := rest) (hlen _ hsigM) hstack hdg
  obtain ⟨v, B, X', hpost, hsteps⟩ := hK m meth c ⟨T.setVm vm₁, locs, cells, slots⟩ { g with stack := rest } (.invokevirtual index) mk (Value.ref b :: argsL).toArray X₁ hg hsize hdg hW (X₁.named hnamed) (hpre vm₁ X₁.warmed)
  exact ⟨v, vm₁, B, X₁.warmed, X', hpost, fun target h => hstep₁ _ fun acts => by rw [doInvoke_state]; exact hsteps.trans h⟩
abbrev vx_CVW (R : Room) (s : State) (args : Array Value) (own C : String) (index : Nat) (y : MethodName) (bytes : ByteArray) (maxL : Nat) (ret : Option FieldType) (hh : List (Nat × Nat × Nat × Nat)) (ws : List Cond) (rm : Room) (mc ms n : Nat) : Prop :=
  (rm.cells = mc ∧ rm.slots = ms ∧ rm.frames + 1 ≤ R.frames ∧ 8 + (maxL + 11) + rm.locals ≤ R.locals ∧ (∀ w ∈ ws, ∀ (a' : Array Value) (U : State), s.WarmedH U.vm → w.before a' U = true) ∧ Cond.codeWith y bytes maxL ret hh ∈ ws) ∧
  (Cond.codeWith y bytes maxL ret hh).before args s = true ∧ (Cond.initialized y.cls).before args s = true ∧ (y.cls ≠ "java/lang/invoke/MethodHandle" ∧ y.cls ≠ "java/lang/invoke/VarHandle") ∧
  (∀ sig, parseMethodDescriptor y.desc = some sig → n = sig.parameters.length) ∧ (Cond.methodLink own index y).before args s = true ∧ (Cond.instanceMethod y).before args s = true ∧ (Cond.selects C y y).before args s = true
theorem vx_cwVW {own C : String} {index maxL mc ms : Nat} {y : MethodName} {bytes : ByteArray} {ret : Option FieldType} {hh : List (Nat × Nat × Nat × Nat)} {Ts ws ws' : List Cond} {rm : Room} (n : Nat) (ht : ∀ w ∈ Ts, w.before args s = true) (hT : GoodIn Ts (wsV own index C y ws)) (hw : ws = Cond.codeWith y bytes maxL ret hh :: ws') (hrc : rm.cells = mc) (hrs : rm.slots = ms)
    (hd : y.cls = C ∧ y.cls ≠ "java/lang/invoke/MethodHandle" ∧ y.cls ≠ "java/lang/invoke/VarHandle" ∧ (parseMethodDescriptor y.desc).map (fun d => d.parameters.length) = some n) (hR : rm.frames + 1 ≤ R.frames ∧ 8 + (maxL + 11) + rm.locals ≤ R.locals) :
    vx_CVW R s args own C index y bytes maxL ret hh ws rm mc ms n := by
  obtain ⟨hC, hd⟩ := hd
  subst hC
  have ok : ∀ w ∈ wsV own index y.cls y ws, w.before args s = true := fun w h => ht w (hT w h).1
  have hG : GoodIn Ts ws := fun w h => hT w (by unfold wsV; exact List.mem_append_right _ h)
  have hc : Cond.codeWith y bytes maxL ret hh ∈ ws := by rw [hw]; exact List.mem_cons_self
  refine ⟨⟨hrc, hrs, hR.1, hR.2, pay_in ht hG, hc⟩, ht _ (hG _ hc).1, ok _ (by simp [wsV]), ⟨hd.1, hd.2.1⟩, fun sig h => ?_, ok _ (by simp [wsV]), ok _ (by simp [wsV]), ok _ (by simp [wsV])⟩
  have h2 := hd.2.2
  rw [h] at h2
  exact (Option.some.inj h2).symm
theorem vx_runVW {y : MethodName} {bytes cc : ByteArray} {maxL nL mc ms n index : Nat} {ret : Option FieldType} {hh : List (Nat × Nat × Nat × Nat)} {ws : List Cond} {rm : Room} {Pc : Array Value → State → Prop} {Qc : Array Value → State → Outcome → State → Prop} {free : Addr → Prop} {Ts : List Cond} {own C : String} {b : Addr} {As rest : List Value} {g : JFrame}
    (S : CallFix p m c cc nL s args Ts own) (hM : Met l y ws rm Pc Qc mc ms free) (cw : vx_CVW R s args own C index y bytes maxL ret hh ws rm mc ms n) (hp : PreV s H C b Pc As)
    (hg : g.method = m) (hn : As.length = n) (hsize : g.locals.size = nL) (hstack : g.stack = As.reverse ++ .ref b :: rest) (hW : 2 * g.monitorRoom + (rest.map fun v => v.category).sum ≤ 8) (hdg : decode cc g.pc = .ok (.invokevirtual index, 3)) (hf : cells + mc ≤ R.cells ∧ slots + ms ≤ R.slots) :
    va_Run p l e R s m args below meth c H locs cells slots mc ms g rest (Qc (Value.ref b :: As).toArray) free := by
  obtain ⟨⟨hrc, hrs, hfr, hlo, hws, hcw⟩, hcode, hini, hy, hlen, hl, hin, hse⟩ := cw
  have hK : Back l R p e below s args y 3 8 (PreOf R mc ms Pc) (PostOf Qc mc ms free) := va_backW (hh := hh) (bytes := bytes) (maxL := maxL) (ret := ret) hM hp.1 hrc hrs hfr hlo hws hcw (fun a' U hW => word_at hW (Or.inl (by first | rfl | simp [Cond.onTables, Cond.keeps, Cond.steady])) hini)
  obtain ⟨hx, hb, hml, ho, -⟩ := S
  obtain ⟨-, ⟨cellB, hcB, hoB, hclB⟩, hPc⟩ := hp
  intro T hT X
  obtain ⟨v, vm₁, ⟨U', l2, c2, s2⟩, hW₁, X', ⟨g', mk, t, L, e1, e2, hq, h1, hL, h2, h3⟩, st⟩ := vx_callVW X hx (C := C) (hh := hh) (bytes := bytes) (maxL := maxL) (ret := ret) ho hl hin hse hcode hy hK (by rw [hT]; exact hcB) hoB hclB hg (hsize.trans hml.symm) (argsL := As) (rest := rest) (fun sig h => hn.trans (hlen sig h)) hstack hW (by rw [hb]; exact hdg)
    (fun vm₁ hW₁ => ⟨hf.1, hf.2, hPc (T.setVm vm₁) hT hW₁⟩)
  dsimp only [Pt.U, Pt.locs, Pt.cells, Pt.slots] at X' e1 e2 h1 h2 h3 st
  subst h1; subst h2; subst h3
  exact ⟨v, (T.setVm vm₁).calling g' mk (Value.ref b :: As).toArray, t, U', L, hT, X', hL, e1, e2, hq, st⟩
section
variable {y : MethodName} {bytes cc : ByteArray} {maxL nL mc ms n index : Nat} {ret : Option FieldType} {ws : List Cond} {rm : Room} {Pc : Array Value → State → Prop} {Qc : Array Value → State → Outcome → State → Prop} {XC : String → State → State → Prop} {free : Addr → Prop} {Ts : List Cond} {own C : String} {b : Addr} {As rest : List Value} {g : JFrame}
theorem vx_runVX {hh : List (Nat × Nat × Nat × Nat)} (S : CallFix p m c cc nL s args Ts own) (hM : vx_Met l y ws rm Pc Qc XC mc ms free) (cw : vx_CVW R s args own C index y bytes maxL ret hh ws rm mc ms n) (hp : PreV s H C b Pc As)
    (hg : g.method = m) (hn : As.length = n) (hsize : g.locals.size = nL) (hstack : g.stack = As.reverse ++ .ref b :: rest) (hW : 2 * g.monitorRoom + (rest.map fun v => v.category).sum ≤ 8) (hdg : decode cc g.pc = .ok (.invokevirtual index, 3)) (hf : cells + mc ≤ R.cells ∧ slots + ms ≤ R.slots) :
    vx_Run p l e R s m args below meth c H locs cells slots mc ms g rest (Qc (Value.ref b :: As).toArray) XC free := by
  obtain ⟨⟨hrc, hrs, hfr, hlo, hws, hcw⟩, hcode, hini, hy, hlen, hl, hin, hse⟩ := cw
  have hK : vx_Back l R p e below s args y 3 8 (PreOf R mc ms Pc) (PostOf Qc mc ms free) (vx_Post XC mc ms free) := vx_backW (hh := hh) (bytes := bytes) (maxL := maxL) (ret := ret) hM hp.1 hrc hrs hfr hlo hws hcw (fun a' U hW => word_at hW (Or.inl (by first | rfl | simp [Cond.onTables, Cond.keeps, Cond.steady])) hini)
  obtain ⟨hx, hb, hml, ho, -⟩ := S
  obtain ⟨-, ⟨cellB, hcB, hoB, hclB⟩, hPc⟩ := hp
  intro T hT X
  rcases vx_callVX X hx (C := C) (hh := hh) (bytes := bytes) (maxL := maxL) (ret := ret) ho hl hin hse hcode hy hK (by rw [hT]; exact hcB) hoB hclB hg (hsize.trans hml.symm) (argsL := As) (rest := rest) (fun sig h => hn.trans (hlen sig h)) hstack hW (by rw [hb]; exact hdg)
    (fun vm₁ hW₁ => ⟨hf.1, hf.2, hPc (T.setVm vm₁) hT hW₁⟩) with ⟨v, vm₁, ⟨U', l2, c2, s2⟩, hW₁, X', ⟨g', mk, t, L, e1, e2, hq, h1, hL, h2, h3⟩, st⟩ | ⟨q, vm₁, ⟨U', l2, c2, s2⟩, hW₁, X', ⟨g', mk, t, L, E, ce, e1, e2, hq, hce, hcv, hcl, h1, hL, h2, h3⟩, st⟩
  · dsimp only [Pt.U, Pt.locs, Pt.cells, Pt.slots] at X' e1 e2 h1 h2 h3 st
    subst h1; subst h2; subst h3
    exact Or.inl ⟨v, (T.setVm vm₁).calling g' mk (Value.ref b :: As).toArray, t, U', L, hT, X', hL, e1, e2, hq, st⟩
  · dsimp only [Pt.U, Pt.locs, Pt.cells, Pt.slots] at X' e1 e2 h1 h2 h3 st hcl
    subst h1; subst h2; subst h3
    exact Or.inr ⟨q, (T.setVm vm₁).calling g' mk (Value.ref b :: As).toArray, t, U', L, E, ce, hT, X', hL, e1, e2, hq, hce, hcv, vx_cls hW₁ hcl, st⟩
theorem vx_runSX {hh : List (Nat × Nat × Nat × Nat)} (S : CallFix p m c cc nL s args Ts own) (hM : vx_Met l y ws rm Pc Qc XC mc ms free) (cw : vx_CSW R s args own index y bytes maxL ret hh ws rm mc ms n) (hp : PreS s H Pc As)
    (hg : g.method = m) (hn : As.length = n) (hsize : g.locals.size = nL) (hstack : g.stack = As.reverse ++ rest) (hW : 2 * g.monitorRoom + (rest.map fun v => v.category).sum ≤ 8) (hdg : decode cc g.pc = .ok (.invokestatic index, 3)) (hf : cells + mc ≤ R.cells ∧ slots + ms ≤ R.slots) :
    vx_Run p l e R s m args below meth c H locs cells slots mc ms g rest (Qc As.toArray) XC free := by
  obtain ⟨⟨hrc, hrs, hfr, hlo, hws, hcw⟩, hcode, hini, hy, hlen, hl, hstt⟩ := cw
  have hK : vx_Back l R p e below s args y 3 8 (PreOf R mc ms Pc) (PostOf Qc mc ms free) (vx_Post XC mc ms free) := vx_backW (hh := hh) (bytes := bytes) (maxL := maxL) (ret := ret) hM hp.1 hrc hrs hfr hlo hws hcw (fun a' U hW => word_at hW (Or.inl (by first | rfl | simp [Cond.onTables, Cond.keeps, Cond.steady])) hini)
  obtain ⟨hx, hb, hml, ho, -⟩ := S
  intro T hT X
  rcases vx_callSX X hx (hh := hh) (bytes := bytes) (maxL := maxL) (ret := ret) ho hl hstt hini hcode hy hK hg (hsize.trans hml.symm) (argsL := As) (rest := rest) (fun sig h => hn.trans (hlen sig h)) hstack hW (by rw [hb]; exact hdg)
    (fun vm₁ hW₁ => ⟨hf.1, hf.2, hp.2 (T.setVm vm₁) hT hW₁⟩) with ⟨v, vm₁, ⟨U', l2, c2, s2⟩, hW₁, X', ⟨g', mk, t, L, e1, e2, hq, h1, hL, h2, h3⟩, st⟩ | ⟨q, vm₁, ⟨U', l2, c2, s2⟩, hW₁, X', ⟨g', mk, t, L, E, ce, e1, e2, hq, hce, hcv, hcl, h1, hL, h2, h3⟩, st⟩
  · dsimp only [Pt.U, Pt.locs, Pt.cells, Pt.slots] at X' e1 e2 h1 h2 h3 st
    subst h1; subst h2; subst h3
    exact Or.inl ⟨v, (T.setVm vm₁).calling g' mk As.toArray, t, U', L, hT, X', hL, e1, e2, hq, st⟩
  · dsimp only [Pt.U, Pt.locs, Pt.cells, Pt.slots] at X' e1 e2 h1 h2 h3 st hcl
    subst h1; subst h2; subst h3
    exact Or.inr ⟨q, (T.setVm vm₁).calling g' mk As.toArray, t, U', L, E, ce, hT, X', hL, e1, e2, hq, hce, hcv, vx_cls hW₁ hcl, st⟩
end
end VXH
theorem vx_ofWH {l : Launch} {y : MethodName} {ws ws' : List Cond} {rm : Room} {Pc : Array Value → State → Prop} {Qc : Array Value → State → Outcome → State → Prop} {XC : String → State → State → Prop} {mc ms : Nat} {free : Addr → Prop} {cc : ByteArray} {maxL : Nat} {ret : Option FieldType} {hh : List (Nat × Nat × Nat × Nat)}
    (hy : plainName y.cls = true) (hw : ws = Cond.codeWith y cc maxL ret hh :: ws')
    (body : ∀ p e s m args below meth c s₁, BodyLoose p l y (headSpec ws rm) cc maxL ret e s m args below meth c s₁ → c.maxLocals = maxL → Pc args s →
      W p l e (headSpec ws rm).room s m args below meth c s.heap [] 0 0 (vx_MQ below Qc XC args s mc ms free) (entryFrame m args maxL)) : vx_Met l y ws rm Pc Qc XC mc ms free := by
  refine MetFree.of_bodyS (code := cc) (maxLocals := maxL) (ret := ret) hy ?_ ?_
  · intro args s m h hn
    obtain ⟨m9, meth, c, hn9, h1, h2, h3, h4, -, h5, h6, -⟩ := Cond.codeWith_spec (atoms_spec (ws := ws) h _ (by rw [hw]; exact List.mem_cons_self))
    cases hn.symm.trans hn9
    exact ⟨meth, c, h1, h2, h3, h4, h5, h6⟩
  · intro p e s m args below meth c s₁ B hml hP _
    have hh0 : s₁.heap = s.heap := by rw [B.state]; rfl
    obtain ⟨t, a1, o, b1, b2, b3⟩ := body p e s m args below meth c s₁ B hml hP s₁ hh0 (Stand.of_body B)
    exact ⟨t, o, a1, b1, b2, b3⟩
/-! ===== END ===== -/
end
section
def RX0 : String := "MirrorKeep$Changes"
def TX0 : u_T := fun k => match k with
  | 0 => ("MirrorKeep$Changes", "before", "[LMirrorKeep$Entry;", true)
  | 1 => ("MirrorKeep$Changes", "after", "[LMirrorKeep$Entry;", true)
  | _ => ("MirrorKeep$Changes", "count", "I", false)
def tyX0 : Nat → FieldType := fun k => match k with
  | 0 => .array (.object "MirrorKeep$Entry")
  | 1 => .array (.object "MirrorKeep$Entry")
  | _ => .int
abbrev wsX00 : List Cond := u_ws RX0 TX0 3
theorem nmX0 : ∀ a, a < 3 → ∀ b, b < 3 → a ≠ b → (TX0 a).2.1 ≠ (TX0 b).2.1 := by decide +kernel
theorem tyX0_ok : ∀ k, k < 3 → parseFieldDescriptor (TX0 k).2.2.1 = some (tyX0 k) := by decide +kernel
abbrev cX0_init : ByteArray := prog_2_method_1_code
def yX0_init : MethodName := ⟨RX0, "<init>", "()V"⟩
abbrev cX0_size : ByteArray := prog_2_method_2_code
def yX0_size : MethodName := ⟨RX0, "size", "()I"⟩
abbrev cX0_find : ByteArray := prog_2_method_3_code
def yX0_find : MethodName := ⟨RX0, "find", "(LMirrorKeep$Tree;LMirrorKeep$Tree;)V"⟩
abbrev cX0_order : ByteArray := prog_2_method_4_code
def yX0_order : MethodName := ⟨RX0, "order", "(LMirrorKeep$Entry;LMirrorKeep$Entry;)I"⟩
abbrev cX0_add : ByteArray := prog_2_method_5_code
def yX0_add : MethodName := ⟨RX0, "add", "(LMirrorKeep$Entry;LMirrorKeep$Entry;)V"⟩
abbrev cX0_apply : ByteArray := prog_2_method_6_code
def yX0_apply : MethodName := ⟨RX0, "apply", "(ILMirrorKeep$Tree;)V"⟩
abbrev cX0_takeBack : ByteArray := prog_2_method_7_code
def yX0_takeBack : MethodName := ⟨RX0, "takeBack", "(ILMirrorKeep$Tree;)V"⟩
abbrev cX0_exchange : ByteArray := prog_2_method_8_code
def yX0_exchange : MethodName := ⟨RX0, "exchange", "(LMirrorKeep$Entry;LMirrorKeep$Entry;LMirrorKeep$Tree;)V"⟩
def RX1 : String := "MirrorKeep$Entry"
def TX1 : u_T := fun k => match k with
  | 0 => ("MirrorKeep$Entry", "path", "[B", true)
  | 1 => ("MirrorKeep$Entry", "kind", "I", true)
  | 2 => ("MirrorKeep$Entry", "mode", "I", true)
  | 3 => ("MirrorKeep$Entry", "time", "I", true)
  | _ => ("MirrorKeep$Entry", "content", "[B", true)
def tyX1 : Nat → FieldType := fun k => match k with
  | 0 => .array .byte
  | 1 => .int
  | 2 => .int
  | 3 => .int
  | _ => .array .byte
abbrev wsX10 : List Cond := u_ws RX1 TX1 5
theorem nmX1 : ∀ a, a < 5 → ∀ b, b < 5 → a ≠ b → (TX1 a).2.1 ≠ (TX1 b).2.1 := by decide +kernel
theorem tyX1_ok : ∀ k, k < 5 → parseFieldDescriptor (TX1 k).2.2.1 = some (tyX1 k) := by decide +kernel
abbrev cX1_init : ByteArray := prog_3_method_1_code
def yX1_init : MethodName := ⟨RX1, "<init>", "([BIII[B)V"⟩
abbrev cX1_withContent : ByteArray := prog_3_method_2_code
def yX1_withContent : MethodName := ⟨RX1, "withContent", "([B)LMirrorKeep$Entry;"⟩
abbrev cX1_withModeAndTime : ByteArray := prog_3_method_3_code
def yX1_withModeAndTime : MethodName := ⟨RX1, "withModeAndTime", "(II)LMirrorKeep$Entry;"⟩
abbrev cX1_isLike : ByteArray := prog_3_method_4_code
def yX1_isLike : MethodName := ⟨RX1, "isLike", "(LMirrorKeep$Entry;)Z"⟩
abbrev cX1_hasContent : ByteArray := prog_3_method_5_code
def yX1_hasContent : MethodName := ⟨RX1, "hasContent", "([B)Z"⟩
def RX2 : String := "MirrorKeep$History"
def TX2 : u_T := fun k => match k with
  | 0 => ("MirrorKeep$History", "rows", "[LMirrorKeep$Session;", true)
  | _ => ("MirrorKeep$History", "count", "I", false)
def tyX2 : Nat → FieldType := fun k => match k with
  | 0 => .array (.object "MirrorKeep$Session")
  | _ => .int
abbrev wsX20 : List Cond := u_ws RX2 TX2 2
theorem nmX2 : ∀ a, a < 2 → ∀ b, b < 2 → a ≠ b → (TX2 a).2.1 ≠ (TX2 b).2.1 := by decide +kernel
theorem tyX2_ok : ∀ k, k < 2 → parseFieldDescriptor (TX2 k).2.2.1 = some (tyX2 k) := by decide +kernel
abbrev cX2_init : ByteArray := prog_4_method_1_code
def yX2_init : MethodName := ⟨RX2, "<init>", "()V"⟩
abbrev cX2_size : ByteArray := prog_4_method_2_code
def yX2_size : MethodName := ⟨RX2, "size", "()I"⟩
abbrev cX2_isFull : ByteArray := prog_4_method_3_code
def yX2_isFull : MethodName := ⟨RX2, "isFull", "()Z"⟩
abbrev cX2_get : ByteArray := prog_4_method_4_code
def yX2_get : MethodName := ⟨RX2, "get", "(I)LMirrorKeep$Session;"⟩
abbrev cX2_latestTime : ByteArray := prog_4_method_5_code
def yX2_latestTime : MethodName := ⟨RX2, "latestTime", "()I"⟩
abbrev cX2_add : ByteArray := prog_4_method_6_code
def yX2_add : MethodName := ⟨RX2, "add", "(LMirrorKeep$Session;)V"⟩
abbrev cX2_findAsOf : ByteArray := prog_4_method_7_code
def yX2_findAsOf : MethodName := ⟨RX2, "findAsOf", "(I)I"⟩
abbrev cX2_forgetAheadOf : ByteArray := prog_4_method_8_code
def yX2_forgetAheadOf : MethodName := ⟨RX2, "forgetAheadOf", "(I)I"⟩
abbrev cX2_increments : ByteArray := prog_4_method_9_code
def yX2_increments : MethodName := ⟨RX2, "increments", "()I"⟩
def RX3 : String := "MirrorKeep$Paths"
def TX3 : u_T := fun k => match k with
  | _ => ("", "", "", false)
def tyX3 : Nat → FieldType := fun k => match k with
  | _ => .int
abbrev wsX30 : List Cond := u_ws RX3 TX3 0
theorem nmX3 : ∀ a, a < 0 → ∀ b, b < 0 → a ≠ b → (TX3 a).2.1 ≠ (TX3 b).2.1 := by decide +kernel
theorem tyX3_ok : ∀ k, k < 0 → parseFieldDescriptor (TX3 k).2.2.1 = some (tyX3 k) := by decide +kernel
abbrev cX3_isPath : ByteArray := prog_5_method_2_code
def yX3_isPath : MethodName := ⟨RX3, "isPath", "([B)Z"⟩
abbrev cX3_isName : ByteArray := prog_5_method_3_code
def yX3_isName : MethodName := ⟨RX3, "isName", "([BII)Z"⟩
abbrev cX3_lastSlash : ByteArray := prog_5_method_4_code
def yX3_lastSlash : MethodName := ⟨RX3, "lastSlash", "([B)I"⟩
abbrev cX3_isBelow : ByteArray := prog_5_method_5_code
def yX3_isBelow : MethodName := ⟨RX3, "isBelow", "([B[B)Z"⟩
abbrev cX3_compare : ByteArray := prog_5_method_6_code
def yX3_compare : MethodName := ⟨RX3, "compare", "([B[B)I"⟩
abbrev cX3_rank : ByteArray := prog_5_method_7_code
def yX3_rank : MethodName := ⟨RX3, "rank", "(B)I"⟩
def RX4 : String := "MirrorKeep$Session"
def TX4 : u_T := fun k => match k with
  | 0 => ("MirrorKeep$Session", "time", "I", true)
  | 1 => ("MirrorKeep$Session", "changes", "I", true)
  | _ => ("MirrorKeep$Session", "tree", "LMirrorKeep$Tree;", true)
def tyX4 : Nat → FieldType := fun k => match k with
  | 0 => .int
  | 1 => .int
  | _ => .object "MirrorKeep$Tree"
abbrev wsX40 : List Cond := u_ws RX4 TX4 3
theorem nmX4 : ∀ a, a < 3 → ∀ b, b < 3 → a ≠ b → (TX4 a).2.1 ≠ (TX4 b).2.1 := by decide +kernel
theorem tyX4_ok : ∀ k, k < 3 → parseFieldDescriptor (TX4 k).2.2.1 = some (tyX4 k) := by decide +kernel
abbrev cX4_init : ByteArray := prog_6_method_1_code
def yX4_init : MethodName := ⟨RX4, "<init>", "(IILMirrorKeep$Tree;)V"⟩
def RX5 : String := "MirrorKeep$Tape"
def TX5 : u_T := fun k => match k with
  | 0 => ("MirrorKeep$Tape", "words", "[I", true)
  | 1 => ("MirrorKeep$Tape", "bytes", "[B", true)
  | _ => ("MirrorKeep$Tape", "count", "I", false)
def tyX5 : Nat → FieldType := fun k => match k with
  | 0 => .array .int
  | 1 => .array .byte
  | _ => .int
abbrev wsX50 : List Cond := u_ws RX5 TX5 3
theorem nmX5 : ∀ a, a < 3 → ∀ b, b < 3 → a ≠ b → (TX5 a).2.1 ≠ (TX5 b).2.1 := by decide +kernel
theorem tyX5_ok : ∀ k, k < 3 → parseFieldDescriptor (TX5 k).2.2.1 = some (tyX5 k) := by decide +kernel
abbrev cX5_init : ByteArray := prog_7_method_1_code
def yX5_init : MethodName := ⟨RX5, "<init>", "()V"⟩
abbrev cX5_size : ByteArray := prog_7_method_2_code
def yX5_size : MethodName := ⟨RX5, "size", "()I"⟩
abbrev cX5_makeReady : ByteArray := prog_7_method_3_code
def yX5_makeReady : MethodName := ⟨RX5, "makeReady", "(IIIII)V"⟩
abbrev cX5_append : ByteArray := prog_7_method_4_code
def yX5_append : MethodName := ⟨RX5, "append", "(I)I"⟩
abbrev cX5_take : ByteArray := prog_7_method_5_code
def yX5_take : MethodName := ⟨RX5, "take", "()[B"⟩
abbrev cX5_readyByte : ByteArray := prog_7_method_6_code
def yX5_readyByte : MethodName := ⟨RX5, "readyByte", "(I)B"⟩
def RX6 : String := "MirrorKeep$Tree"
def TX6 : u_T := fun k => match k with
  | 0 => ("MirrorKeep$Tree", "rows", "[LMirrorKeep$Entry;", true)
  | _ => ("MirrorKeep$Tree", "count", "I", false)
def tyX6 : Nat → FieldType := fun k => match k with
  | 0 => .array (.object "MirrorKeep$Entry")
  | _ => .int
abbrev wsX60 : List Cond := u_ws RX6 TX6 2
theorem nmX6 : ∀ a, a < 2 → ∀ b, b < 2 → a ≠ b → (TX6 a).2.1 ≠ (TX6 b).2.1 := by decide +kernel
theorem tyX6_ok : ∀ k, k < 2 → parseFieldDescriptor (TX6 k).2.2.1 = some (tyX6 k) := by decide +kernel
abbrev cX6_init : ByteArray := prog_8_method_1_code
def yX6_init : MethodName := ⟨RX6, "<init>", "()V"⟩
abbrev cX6_size : ByteArray := prog_8_method_2_code
def yX6_size : MethodName := ⟨RX6, "size", "()I"⟩
abbrev cX6_get : ByteArray := prog_8_method_3_code
def yX6_get : MethodName := ⟨RX6, "get", "(I)LMirrorKeep$Entry;"⟩
abbrev cX6_find : ByteArray := prog_8_method_4_code
def yX6_find : MethodName := ⟨RX6, "find", "([B)I"⟩
abbrev cX6_placeOf : ByteArray := prog_8_method_5_code
def yX6_placeOf : MethodName := ⟨RX6, "placeOf", "([B)I"⟩
abbrev cX6_replace : ByteArray := prog_8_method_6_code
def yX6_replace : MethodName := ⟨RX6, "replace", "(ILMirrorKeep$Entry;)V"⟩
abbrev cX6_put : ByteArray := prog_8_method_7_code
def yX6_put : MethodName := ⟨RX6, "put", "(LMirrorKeep$Entry;)V"⟩
abbrev cX6_insert : ByteArray := prog_8_method_8_code
def yX6_insert : MethodName := ⟨RX6, "insert", "(ILMirrorKeep$Entry;)V"⟩
abbrev cX6_drop : ByteArray := prog_8_method_9_code
def yX6_drop : MethodName := ⟨RX6, "drop", "(II)V"⟩
abbrev cX6_countBelow : ByteArray := prog_8_method_10_code
def yX6_countBelow : MethodName := ⟨RX6, "countBelow", "(I)I"⟩
abbrev cX6_contentBytes : ByteArray := prog_8_method_11_code
def yX6_contentBytes : MethodName := ⟨RX6, "contentBytes", "()I"⟩
abbrev cX6_copyFrom : ByteArray := prog_8_method_12_code
def yX6_copyFrom : MethodName := ⟨RX6, "copyFrom", "(LMirrorKeep$Tree;)V"⟩
def RX7 : String := "MirrorKeep$Work"
def TX7 : u_T := fun k => match k with
  | 0 => ("MirrorKeep$Work", "changes", "LMirrorKeep$Changes;", true)
  | 1 => ("MirrorKeep$Work", "time", "I", false)
  | _ => ("MirrorKeep$Work", "done", "I", false)
def tyX7 : Nat → FieldType := fun k => match k with
  | 0 => .object "MirrorKeep$Changes"
  | 1 => .int
  | _ => .int
abbrev wsX70 : List Cond := u_ws RX7 TX7 3
theorem nmX7 : ∀ a, a < 3 → ∀ b, b < 3 → a ≠ b → (TX7 a).2.1 ≠ (TX7 b).2.1 := by decide +kernel
theorem tyX7_ok : ∀ k, k < 3 → parseFieldDescriptor (TX7 k).2.2.1 = some (tyX7 k) := by decide +kernel
abbrev cX7_init : ByteArray := prog_9_method_1_code
def yX7_init : MethodName := ⟨RX7, "<init>", "()V"⟩
abbrev cX7_start : ByteArray := prog_9_method_2_code
def yX7_start : MethodName := ⟨RX7, "start", "(ILMirrorKeep$Tree;LMirrorKeep$Tree;)V"⟩
abbrev cX7_operations : ByteArray := prog_9_method_3_code
def yX7_operations : MethodName := ⟨RX7, "operations", "()I"⟩
abbrev cX7_increments : ByteArray := prog_9_method_4_code
def yX7_increments : MethodName := ⟨RX7, "increments", "()I"⟩
abbrev cX7_doNext : ByteArray := prog_9_method_5_code
def yX7_doNext : MethodName := ⟨RX7, "doNext", "(LMirrorKeep$Tree;)V"⟩
abbrev cX7_takeBackLast : ByteArray := prog_9_method_6_code
def yX7_takeBackLast : MethodName := ⟨RX7, "takeBackLast", "(LMirrorKeep$Tree;)V"⟩
abbrev cX7_isUpdate : ByteArray := prog_9_method_7_code
def yX7_isUpdate : MethodName := ⟨RX7, "isUpdate", "(I)Z"⟩
abbrev cX7_changeOf : ByteArray := prog_9_method_8_code
def yX7_changeOf : MethodName := ⟨RX7, "changeOf", "(I)I"⟩
def RX8 : String := "MirrorKeep"
def TX8 : u_T := fun k => match k with
  | 0 => ("MirrorKeep", "tape", "LMirrorKeep$Tape;", true)
  | 1 => ("MirrorKeep", "source", "LMirrorKeep$Tree;", true)
  | 2 => ("MirrorKeep", "mirror", "LMirrorKeep$Tree;", true)
  | 3 => ("MirrorKeep", "result", "LMirrorKeep$Tree;", true)
  | 4 => ("MirrorKeep", "history", "LMirrorKeep$History;", true)
  | 5 => ("MirrorKeep", "work", "LMirrorKeep$Work;", true)
  | 6 => ("MirrorKeep", "compared", "LMirrorKeep$Changes;", true)
  | 7 => ("MirrorKeep", "chosen", "I", false)
  | _ => ("MirrorKeep", "state", "I", false)
def tyX8 : Nat → FieldType := fun k => match k with
  | 0 => .object "MirrorKeep$Tape"
  | 1 => .object "MirrorKeep$Tree"
  | 2 => .object "MirrorKeep$Tree"
  | 3 => .object "MirrorKeep$Tree"
  | 4 => .object "MirrorKeep$History"
  | 5 => .object "MirrorKeep$Work"
  | 6 => .object "MirrorKeep$Changes"
  | 7 => .int
  | _ => .int
abbrev wsX80 : List Cond := u_ws RX8 TX8 9
theorem nmX8 : ∀ a, a < 9 → ∀ b, b < 9 → a ≠ b → (TX8 a).2.1 ≠ (TX8 b).2.1 := by decide +kernel
theorem tyX8_ok : ∀ k, k < 9 → parseFieldDescriptor (TX8 k).2.2.1 = some (tyX8 k) := by decide +kernel
abbrev cX8_init : ByteArray := prog_1_method_1_code
def yX8_init : MethodName := ⟨RX8, "<init>", "()V"⟩
abbrev cX8_feed : ByteArray := prog_1_method_2_code
def yX8_feed : MethodName := ⟨RX8, "feed", "(IIIII)V"⟩
abbrev cX8_end : ByteArray := prog_1_method_3_code
def yX8_end : MethodName := ⟨RX8, "end", "(I)I"⟩
abbrev cX8_make : ByteArray := prog_1_method_4_code
def yX8_make : MethodName := ⟨RX8, "make", "(III)I"⟩
abbrev cX8_choose : ByteArray := prog_1_method_5_code
def yX8_choose : MethodName := ⟨RX8, "choose", "()I"⟩
abbrev cX8_write : ByteArray := prog_1_method_6_code
def yX8_write : MethodName := ⟨RX8, "write", "(I)I"⟩
abbrev cX8_cut : ByteArray := prog_1_method_7_code
def yX8_cut : MethodName := ⟨RX8, "cut", "(I)V"⟩
abbrev cX8_set : ByteArray := prog_1_method_8_code
def yX8_set : MethodName := ⟨RX8, "set", "(II)V"⟩
abbrev cX8_remove : ByteArray := prog_1_method_9_code
def yX8_remove : MethodName := ⟨RX8, "remove", "()I"⟩
abbrev cX8_begin : ByteArray := prog_1_method_10_code
def yX8_begin : MethodName := ⟨RX8, "begin", "(I)I"⟩
abbrev cX8_step : ByteArray := prog_1_method_11_code
def yX8_step : MethodName := ⟨RX8, "step", "(I)I"⟩
abbrev cX8_crash : ByteArray := prog_1_method_12_code
def yX8_crash : MethodName := ⟨RX8, "crash", "()V"⟩
abbrev cX8_regress : ByteArray := prog_1_method_13_code
def yX8_regress : MethodName := ⟨RX8, "regress", "(I)I"⟩
abbrev cX8_restore : ByteArray := prog_1_method_14_code
def yX8_restore : MethodName := ⟨RX8, "restore", "(I)I"⟩
abbrev cX8_prune : ByteArray := prog_1_method_15_code
def yX8_prune : MethodName := ⟨RX8, "prune", "(I)I"⟩
abbrev cX8_differ : ByteArray := prog_1_method_16_code
def yX8_differ : MethodName := ⟨RX8, "differ", "()I"⟩
abbrev cX8_entry : ByteArray := prog_1_method_17_code
def yX8_entry : MethodName := ⟨RX8, "entry", "(III)I"⟩
abbrev cX8_at : ByteArray := prog_1_method_18_code
def yX8_at : MethodName := ⟨RX8, "at", "(IIZI)I"⟩
abbrev cX8_about : ByteArray := prog_1_method_19_code
def yX8_about : MethodName := ⟨RX8, "about", "(I)I"⟩
abbrev cX8_session : ByteArray := prog_1_method_20_code
def yX8_session : MethodName := ⟨RX8, "session", "(II)I"⟩
abbrev cX8_commit : ByteArray := prog_1_method_21_code
def yX8_commit : MethodName := ⟨RX8, "commit", "()V"⟩
abbrev cX8_hasDirectory : ByteArray := prog_1_method_22_code
def yX8_hasDirectory : MethodName := ⟨RX8, "hasDirectory", "([B)Z"⟩
abbrev cX8_entryOf : ByteArray := prog_1_method_23_code
def yX8_entryOf : MethodName := ⟨RX8, "entryOf", "(II)LMirrorKeep$Entry;"⟩
abbrev cX8_isKind : ByteArray := prog_1_method_24_code
def yX8_isKind : MethodName := ⟨RX8, "isKind", "(I)Z"⟩
abbrev cX8_isMode : ByteArray := prog_1_method_25_code
def yX8_isMode : MethodName := ⟨RX8, "isMode", "(I)Z"⟩
abbrev cX8_isTime : ByteArray := prog_1_method_26_code
def yX8_isTime : MethodName := ⟨RX8, "isTime", "(I)Z"⟩
abbrev cX8_isOperationCount : ByteArray := prog_1_method_27_code
def yX8_isOperationCount : MethodName := ⟨RX8, "isOperationCount", "(I)Z"⟩
abbrev cX8_mostBytes : ByteArray := prog_1_method_28_code
def yX8_mostBytes : MethodName := ⟨RX8, "mostBytes", "(I)I"⟩
abbrev cX8_overlaid : ByteArray := prog_1_method_29_code
def yX8_overlaid : MethodName := ⟨RX8, "overlaid", "([BI[B)[B"⟩
def RX9 : String := "MirrorKeepModel"
def TX9 : u_T := fun k => match k with
  | 0 => ("MirrorKeepModel", "thrown", "I", false)
  | 1 => ("MirrorKeepModel", "many", "[I", true)
  | 2 => ("MirrorKeepModel", "bytes", "[I", true)
  | 3 => ("MirrorKeepModel", "kinds", "[I", true)
  | 4 => ("MirrorKeepModel", "modes", "[I", true)
  | 5 => ("MirrorKeepModel", "times", "[I", true)
  | 6 => ("MirrorKeepModel", "paths", "[I", true)
  | 7 => ("MirrorKeepModel", "contentAt", "[I", true)
  | 8 => ("MirrorKeepModel", "contents", "[I", true)
  | 9 => ("MirrorKeepModel", "path", "[I", true)
  | 10 => ("MirrorKeepModel", "content", "[I", true)
  | 11 => ("MirrorKeepModel", "ready", "[I", true)
  | 12 => ("MirrorKeepModel", "tape", "[I", true)
  | 13 => ("MirrorKeepModel", "taped", "I", false)
  | 14 => ("MirrorKeepModel", "state", "I", false)
  | 15 => ("MirrorKeepModel", "operations", "I", false)
  | 16 => ("MirrorKeepModel", "changes", "I", false)
  | 17 => ("MirrorKeepModel", "sessions", "I", false)
  | 18 => ("MirrorKeepModel", "begun", "I", false)
  | 19 => ("MirrorKeepModel", "sessionTime", "[I", true)
  | 20 => ("MirrorKeepModel", "sessionChanges", "[I", true)
  | 21 => ("MirrorKeepModel", "isChosen", "Z", false)
  | 22 => ("MirrorKeepModel", "chosenMany", "I", false)
  | _ => ("MirrorKeepModel", "chosen", "[I", true)
def tyX9 : Nat → FieldType := fun k => match k with
  | 0 => .int
  | 1 => .array .int
  | 2 => .array .int
  | 3 => .array .int
  | 4 => .array .int
  | 5 => .array .int
  | 6 => .array .int
  | 7 => .array .int
  | 8 => .array .int
  | 9 => .array .int
  | 10 => .array .int
  | 11 => .array .int
  | 12 => .array .int
  | 13 => .int
  | 14 => .int
  | 15 => .int
  | 16 => .int
  | 17 => .int
  | 18 => .int
  | 19 => .array .int
  | 20 => .array .int
  | 21 => .boolean
  | 22 => .int
  | _ => .array .int
abbrev wsX90 : List Cond := u_ws RX9 TX9 24
theorem nmX9 : ∀ a, a < 24 → ∀ b, b < 24 → a ≠ b → (TX9 a).2.1 ≠ (TX9 b).2.1 := by decide +kernel
theorem tyX9_ok : ∀ k, k < 24 → parseFieldDescriptor (TX9 k).2.2.1 = some (tyX9 k) := by decide +kernel
abbrev cX9_init : ByteArray := prog_11_method_1_code
def yX9_init : MethodName := ⟨RX9, "<init>", "()V"⟩
abbrev cX9_thrown : ByteArray := prog_11_method_2_code
def yX9_thrown : MethodName := ⟨RX9, "thrown", "()I"⟩
abbrev cX9_feed : ByteArray := prog_11_method_3_code
def yX9_feed : MethodName := ⟨RX9, "feed", "(IIIII)V"⟩
abbrev cX9_end : ByteArray := prog_11_method_4_code
def yX9_end : MethodName := ⟨RX9, "end", "(I)I"⟩
abbrev cX9_place : ByteArray := prog_11_method_5_code
def yX9_place : MethodName := ⟨RX9, "place", "(II)I"⟩
abbrev cX9_append : ByteArray := prog_11_method_6_code
def yX9_append : MethodName := ⟨RX9, "append", "(III)V"⟩
abbrev cX9_empty : ByteArray := prog_11_method_7_code
def yX9_empty : MethodName := ⟨RX9, "empty", "(I)V"⟩
abbrev cX9_copy : ByteArray := prog_11_method_8_code
def yX9_copy : MethodName := ⟨RX9, "copy", "(II)V"⟩
abbrev cX9_rank : ByteArray := prog_11_method_9_code
def yX9_rank : MethodName := ⟨RX9, "rank", "([IIII)I"⟩
abbrev cX9_order : ByteArray := prog_11_method_10_code
def yX9_order : MethodName := ⟨RX9, "order", "([III[III)I"⟩
abbrev cX9_orderOf : ByteArray := prog_11_method_11_code
def yX9_orderOf : MethodName := ⟨RX9, "orderOf", "(IIII)I"⟩
abbrev cX9_find : ByteArray := prog_11_method_12_code
def yX9_find : MethodName := ⟨RX9, "find", "(I[II)I"⟩
abbrev cX9_isSame : ByteArray := prog_11_method_13_code
def yX9_isSame : MethodName := ⟨RX9, "isSame", "(IIII)Z"⟩
abbrev cX9_join : ByteArray := prog_11_method_14_code
def yX9_join : MethodName := ⟨RX9, "join", "(IIII)I"⟩
abbrev cX9_isName : ByteArray := prog_11_method_15_code
def yX9_isName : MethodName := ⟨RX9, "isName", "([III)Z"⟩
abbrev cX9_isPath : ByteArray := prog_11_method_16_code
def yX9_isPath : MethodName := ⟨RX9, "isPath", "(I)Z"⟩
abbrev cX9_chooseTape : ByteArray := prog_11_method_17_code
def yX9_chooseTape : MethodName := ⟨RX9, "chooseTape", "(I)V"⟩
abbrev cX9_hasDirectory : ByteArray := prog_11_method_18_code
def yX9_hasDirectory : MethodName := ⟨RX9, "hasDirectory", "(I)Z"⟩
abbrev cX9_make : ByteArray := prog_11_method_19_code
def yX9_make : MethodName := ⟨RX9, "make", "(III)I"⟩
abbrev cX9_choose : ByteArray := prog_11_method_20_code
def yX9_choose : MethodName := ⟨RX9, "choose", "()I"⟩
abbrev cX9_chosenAt : ByteArray := prog_11_method_21_code
def yX9_chosenAt : MethodName := ⟨RX9, "chosenAt", "()I"⟩
abbrev cX9_change : ByteArray := prog_11_method_22_code
def yX9_change : MethodName := ⟨RX9, "change", "(IIII)V"⟩
abbrev cX9_write : ByteArray := prog_11_method_23_code
def yX9_write : MethodName := ⟨RX9, "write", "(I)I"⟩
abbrev cX9_cut : ByteArray := prog_11_method_24_code
def yX9_cut : MethodName := ⟨RX9, "cut", "(I)V"⟩
abbrev cX9_set : ByteArray := prog_11_method_25_code
def yX9_set : MethodName := ⟨RX9, "set", "(II)V"⟩
abbrev cX9_isBelow : ByteArray := prog_11_method_26_code
def yX9_isBelow : MethodName := ⟨RX9, "isBelow", "(I)Z"⟩
abbrev cX9_remove : ByteArray := prog_11_method_27_code
def yX9_remove : MethodName := ⟨RX9, "remove", "()I"⟩
abbrev cX9_begin : ByteArray := prog_11_method_28_code
def yX9_begin : MethodName := ⟨RX9, "begin", "(I)I"⟩
abbrev cX9_updates : ByteArray := prog_11_method_29_code
def yX9_updates : MethodName := ⟨RX9, "updates", "()I"⟩
abbrev cX9_increments : ByteArray := prog_11_method_30_code
def yX9_increments : MethodName := ⟨RX9, "increments", "()I"⟩
abbrev cX9_mirror : ByteArray := prog_11_method_31_code
def yX9_mirror : MethodName := ⟨RX9, "mirror", "()V"⟩
abbrev cX9_step : ByteArray := prog_11_method_32_code
def yX9_step : MethodName := ⟨RX9, "step", "(I)I"⟩
abbrev cX9_crash : ByteArray := prog_11_method_33_code
def yX9_crash : MethodName := ⟨RX9, "crash", "()V"⟩
abbrev cX9_regress : ByteArray := prog_11_method_34_code
def yX9_regress : MethodName := ⟨RX9, "regress", "(I)I"⟩
abbrev cX9_latest : ByteArray := prog_11_method_35_code
def yX9_latest : MethodName := ⟨RX9, "latest", "(I)I"⟩
abbrev cX9_restore : ByteArray := prog_11_method_36_code
def yX9_restore : MethodName := ⟨RX9, "restore", "(I)I"⟩
abbrev cX9_prune : ByteArray := prog_11_method_37_code
def yX9_prune : MethodName := ⟨RX9, "prune", "(I)I"⟩
abbrev cX9_differ : ByteArray := prog_11_method_38_code
def yX9_differ : MethodName := ⟨RX9, "differ", "()I"⟩
abbrev cX9_isEntry : ByteArray := prog_11_method_39_code
def yX9_isEntry : MethodName := ⟨RX9, "isEntry", "(II)Z"⟩
abbrev cX9_entry : ByteArray := prog_11_method_40_code
def yX9_entry : MethodName := ⟨RX9, "entry", "(III)I"⟩
abbrev cX9_at : ByteArray := prog_11_method_41_code
def yX9_at : MethodName := ⟨RX9, "at", "(IIZI)I"⟩
abbrev cX9_about : ByteArray := prog_11_method_42_code
def yX9_about : MethodName := ⟨RX9, "about", "(I)I"⟩
abbrev cX9_session : ByteArray := prog_11_method_43_code
def yX9_session : MethodName := ⟨RX9, "session", "(II)I"⟩
def RJx8e188 : String := "java/lang/Cloneable"
def TJx8e188 : u_T := fun k => match k with
  | _ => ("", "", "", false)
def tyJx8e188 : Nat → FieldType := fun k => match k with
  | _ => .int
abbrev wsJx8e1880 : List Cond := u_ws RJx8e188 TJx8e188 0
theorem nmJx8e188 : ∀ a, a < 0 → ∀ b, b < 0 → a ≠ b → (TJx8e188 a).2.1 ≠ (TJx8e188 b).2.1 := by decide +kernel
theorem tyJx8e188_ok : ∀ k, k < 0 → parseFieldDescriptor (TJx8e188 k).2.2.1 = some (tyJx8e188 k) := by decide +kernel
def RJ9 : String := "java/lang/Math"
def TJ9 : u_T := fun k => match k with
  | _ => ("", "", "", false)
def tyJ9 : Nat → FieldType := fun k => match k with
  | _ => .int
abbrev wsJ90 : List Cond := u_ws RJ9 TJ9 0
theorem nmJ9 : ∀ a, a < 0 → ∀ b, b < 0 → a ≠ b → (TJ9 a).2.1 ≠ (TJ9 b).2.1 := by decide +kernel
theorem tyJ9_ok : ∀ k, k < 0 → parseFieldDescriptor (TJ9 k).2.2.1 = some (tyJ9 k) := by decide +kernel
abbrev cJ9_max_7cf53 : ByteArray := prog_16_method_65_code
def yJ9_max_7cf53 : MethodName := ⟨RJ9, "max", "(II)I"⟩
abbrev cJ9_max_f86c9 : ByteArray := prog_16_method_66_code
def yJ9_max_f86c9 : MethodName := ⟨RJ9, "max", "(JJ)J"⟩
abbrev cJ9_min_7cf53 : ByteArray := prog_16_method_69_code
def yJ9_min_7cf53 : MethodName := ⟨RJ9, "min", "(II)I"⟩
def RJ0 : String := "java/lang/String"
def TJ0 : u_T := fun k => match k with
  | _ => ("", "", "", false)
def tyJ0 : Nat → FieldType := fun k => match k with
  | _ => .int
abbrev wsJ00 : List Cond := u_ws RJ0 TJ0 0
theorem nmJ0 : ∀ a, a < 0 → ∀ b, b < 0 → a ≠ b → (TJ0 a).2.1 ≠ (TJ0 b).2.1 := by decide +kernel
theorem tyJ0_ok : ∀ k, k < 0 → parseFieldDescriptor (TJ0 k).2.2.1 = some (tyJ0 k) := by decide +kernel
def RJ10 : String := "java/lang/System"
def TJ10 : u_T := fun k => match k with
  | _ => ("", "", "", false)
def tyJ10 : Nat → FieldType := fun k => match k with
  | _ => .int
abbrev wsJ100 : List Cond := u_ws RJ10 TJ10 0
theorem nmJ10 : ∀ a, a < 0 → ∀ b, b < 0 → a ≠ b → (TJ10 a).2.1 ≠ (TJ10 b).2.1 := by decide +kernel
theorem tyJ10_ok : ∀ k, k < 0 → parseFieldDescriptor (TJ10 k).2.2.1 = some (tyJ10 k) := by decide +kernel
def RJ7 : String := "java/util/Arrays"
def TJ7 : u_T := fun k => match k with
  | _ => ("", "", "", false)
def tyJ7 : Nat → FieldType := fun k => match k with
  | _ => .int
abbrev wsJ70 : List Cond := u_ws RJ7 TJ7 0
theorem nmJ7 : ∀ a, a < 0 → ∀ b, b < 0 → a ≠ b → (TJ7 a).2.1 ≠ (TJ7 b).2.1 := by decide +kernel
theorem tyJ7_ok : ∀ k, k < 0 → parseFieldDescriptor (TJ7 k).2.2.1 = some (tyJ7 k) := by decide +kernel
abbrev cJ7_fill_53178 : ByteArray := prog_21_method_103_code
def yJ7_fill_53178 : MethodName := ⟨RJ7, "fill", "([II)V"⟩
abbrev cJ7_copyOf_9075b : ByteArray := prog_21_method_121_code
def yJ7_copyOf_9075b : MethodName := ⟨RJ7, "copyOf", "([BI)[B"⟩
def RL : String := "MirrorKeepLaw"
abbrev cL_make : ByteArray := method_3_code
def yL_make : MethodName := ⟨RL, "make", "(LMirrorKeep;III[J)I"⟩
abbrev cL_write : ByteArray := method_4_code
def yL_write : MethodName := ⟨RL, "write", "(LMirrorKeep;I[J)I"⟩
abbrev cL_cut : ByteArray := method_5_code
def yL_cut : MethodName := ⟨RL, "cut", "(LMirrorKeep;I)I"⟩
abbrev cL_set : ByteArray := method_6_code
def yL_set : MethodName := ⟨RL, "set", "(LMirrorKeep;II)I"⟩
abbrev cL_remove : ByteArray := method_7_code
def yL_remove : MethodName := ⟨RL, "remove", "(LMirrorKeep;[J)I"⟩
abbrev cL_begin : ByteArray := method_8_code
def yL_begin : MethodName := ⟨RL, "begin", "(LMirrorKeep;I[J)I"⟩
abbrev cL_step : ByteArray := method_9_code
def yL_step : MethodName := ⟨RL, "step", "(LMirrorKeep;I[J)I"⟩
abbrev cL_crash : ByteArray := method_10_code
def yL_crash : MethodName := ⟨RL, "crash", "(LMirrorKeep;)I"⟩
abbrev cL_regress : ByteArray := method_11_code
def yL_regress : MethodName := ⟨RL, "regress", "(LMirrorKeep;I[J)I"⟩
abbrev cL_restore : ByteArray := method_12_code
def yL_restore : MethodName := ⟨RL, "restore", "(LMirrorKeep;I[J)I"⟩
abbrev cL_prune : ByteArray := method_13_code
def yL_prune : MethodName := ⟨RL, "prune", "(LMirrorKeep;I[J)I"⟩
abbrev cL_law : ByteArray := code
def yL_law : MethodName := ⟨RL, "law", "([I)Z"⟩
def wsX0_init : List Cond := .code yX0_init cX0_init 1 none :: ([.methodLink RX0 3 objectInit, .instanceMethod objectInit, .code objectInit ⟨#[0xb1]⟩ 1 none, .classLink RX0 11 RX1, .fieldLink RX0 13 "MirrorKeep$Changes" "before" "[LMirrorKeep$Entry;", .fieldLink RX0 17 "MirrorKeep$Changes" "after" "[LMirrorKeep$Entry;", .fieldLink RX0 20 "MirrorKeep$Changes" "count" "I"] ++ wsX00)
def wsX0_size : List Cond := .code yX0_size cX0_size 1 (some .int) :: ([.fieldLink RX0 20 "MirrorKeep$Changes" "count" "I"] ++ wsX00)
def wsX6_size : List Cond := .code yX6_size cX6_size 1 (some .int) :: ([.fieldLink RX6 17 "MirrorKeep$Tree" "count" "I"] ++ wsX60)
def wsX6_get : List Cond := .code yX6_get cX6_get 2 (some (.object "MirrorKeep$Entry")) :: ([.fieldLink RX6 17 "MirrorKeep$Tree" "count" "I", .fieldLink RX6 13 "MirrorKeep$Tree" "rows" "[LMirrorKeep$Entry;"] ++ wsX60)
def wsX3_rank : List Cond := .code yX3_rank cX3_rank 1 (some .int) :: ([])
def wsX3_compare : List Cond := .code yX3_compare cX3_compare 4 (some .int) :: ([.methodLink RX3 15 Lib.Math.min.name, .static Lib.Math.min.name, .initialized "java/lang/Math", .code Lib.Math.min.name Lib.Math.min.code 2 (some .int), .methodLink RX3 21 yX3_rank, .static yX3_rank, .initialized RX3, .code yX3_rank cX3_rank 1 (some .int)])
def wsX0_order : List Cond := .code yX0_order cX0_order 2 (some .int) :: ([.fieldLink RX0 46 "MirrorKeep$Entry" "path" "[B", .methodLink RX0 50 yX3_compare, .static yX3_compare, .initialized RX3, .code yX3_compare cX3_compare 4 (some .int), .methodLink RX3 15 Lib.Math.min.name, .static Lib.Math.min.name, .initialized "java/lang/Math", .code Lib.Math.min.name Lib.Math.min.code 2 (some .int), .methodLink RX3 21 yX3_rank, .static yX3_rank, .code yX3_rank cX3_rank 1 (some .int)] ++ wsX10)
def wsX0_add : List Cond := .code yX0_add cX0_add 3 none :: ([.fieldLink RX0 20 "MirrorKeep$Changes" "count" "I", .fieldLink RX0 13 "MirrorKeep$Changes" "before" "[LMirrorKeep$Entry;", .fieldLink RX0 17 "MirrorKeep$Changes" "after" "[LMirrorKeep$Entry;"] ++ wsX00)
def wsX1_hasContent : List Cond := .code yX1_hasContent cX1_hasContent 3 (some .boolean) :: ([.fieldLink RX1 23 "MirrorKeep$Entry" "content" "[B"] ++ wsX10)
def wsX1_isLike : List Cond := .code yX1_isLike cX1_isLike 2 (some .boolean) :: ([.fieldLink RX1 13 "MirrorKeep$Entry" "kind" "I", .fieldLink RX1 17 "MirrorKeep$Entry" "mode" "I", .fieldLink RX1 20 "MirrorKeep$Entry" "time" "I", .fieldLink RX1 23 "MirrorKeep$Entry" "content" "[B", .methodLink RX1 29 yX1_hasContent, .instanceMethod yX1_hasContent, .selects RX1 yX1_hasContent yX1_hasContent, .initialized RX1, .code yX1_hasContent cX1_hasContent 3 (some .boolean)] ++ wsX10)
def wsX0_find_r1 : List Cond := [Cond.fieldLink RX0 20 "MirrorKeep$Changes" "count" "I", Cond.methodLink RX0 24 yX6_size, Cond.instanceMethod yX6_size, Cond.selects RX6 yX6_size yX6_size, Cond.initialized RX6, Cond.code yX6_size cX6_size 1 (some .int), Cond.fieldLink RX6 17 "MirrorKeep$Tree" "count" "I", Cond.methodLink RX0 30 yX6_get, Cond.instanceMethod yX6_get, Cond.selects RX6 yX6_get yX6_get, Cond.code yX6_get cX6_get 2 (some (.object "MirrorKeep$Entry")), Cond.fieldLink RX6 13 "MirrorKeep$Tree" "rows" "[LMirrorKeep$Entry;", Cond.methodLink RX0 34 yX0_order, Cond.static yX0_order, Cond.initialized RX0, Cond.code yX0_order cX0_order 2 (some .int), Cond.fieldLink RX0 46 "MirrorKeep$Entry" "path" "[B", Cond.methodLink RX0 50 yX3_compare, Cond.static yX3_compare, Cond.initialized RX3, Cond.code yX3_compare cX3_compare 4 (some .int), Cond.methodLink RX3 15 Lib.Math.min.name, Cond.static Lib.Math.min.name, Cond.initialized "java/lang/Math"]
def wsX0_find_r2 : List Cond := [Cond.code Lib.Math.min.name Lib.Math.min.code 2 (some .int), Cond.methodLink RX3 21 yX3_rank, Cond.static yX3_rank, Cond.code yX3_rank cX3_rank 1 (some .int), Cond.methodLink RX0 38 yX0_add, Cond.instanceMethod yX0_add, Cond.selects RX0 yX0_add yX0_add, Cond.code yX0_add cX0_add 3 none, Cond.fieldLink RX0 13 "MirrorKeep$Changes" "before" "[LMirrorKeep$Entry;", Cond.fieldLink RX0 17 "MirrorKeep$Changes" "after" "[LMirrorKeep$Entry;", Cond.methodLink RX0 42 yX1_isLike, Cond.instanceMethod yX1_isLike, Cond.selects RX1 yX1_isLike yX1_isLike, Cond.initialized RX1, Cond.code yX1_isLike cX1_isLike 2 (some .boolean), Cond.fieldLink RX1 13 "MirrorKeep$Entry" "kind" "I", Cond.fieldLink RX1 17 "MirrorKeep$Entry" "mode" "I", Cond.fieldLink RX1 20 "MirrorKeep$Entry" "time" "I", Cond.fieldLink RX1 23 "MirrorKeep$Entry" "content" "[B", Cond.methodLink RX1 29 yX1_hasContent, Cond.instanceMethod yX1_hasContent, Cond.selects RX1 yX1_hasContent yX1_hasContent, Cond.code yX1_hasContent cX1_hasContent 3 (some .boolean)]
def wsX0_find : List Cond := .code yX0_find cX0_find 10 none :: ((wsX0_find_r1 ++ wsX0_find_r2) ++ wsX00 ++ wsX60 ++ wsX10)
def wsX6_placeOf : List Cond := .code yX6_placeOf cX6_placeOf 7 (some .int) :: ([.fieldLink RX6 17 "MirrorKeep$Tree" "count" "I", .fieldLink RX6 29 "MirrorKeep$Entry" "path" "[B", .methodLink RX6 25 yX6_get, .instanceMethod yX6_get, .selects RX6 yX6_get yX6_get, .initialized RX6, .code yX6_get cX6_get 2 (some (.object "MirrorKeep$Entry")), .fieldLink RX6 13 "MirrorKeep$Tree" "rows" "[LMirrorKeep$Entry;", .methodLink RX6 33 yX3_compare, .static yX3_compare, .initialized RX3, .code yX3_compare cX3_compare 4 (some .int), .methodLink RX3 15 Lib.Math.min.name, .static Lib.Math.min.name, .initialized "java/lang/Math", .code Lib.Math.min.name Lib.Math.min.code 2 (some .int), .methodLink RX3 21 yX3_rank, .static yX3_rank, .code yX3_rank cX3_rank 1 (some .int)] ++ wsX60 ++ wsX10)
def wsX6_find : List Cond := .code yX6_find cX6_find 4 (some .int) :: ([.fieldLink RX6 29 "MirrorKeep$Entry" "path" "[B", .methodLink RX6 21 yX6_placeOf, .instanceMethod yX6_placeOf, .selects RX6 yX6_placeOf yX6_placeOf, .initialized RX6, .code yX6_placeOf cX6_placeOf 7 (some .int), .fieldLink RX6 17 "MirrorKeep$Tree" "count" "I", .methodLink RX6 25 yX6_get, .instanceMethod yX6_get, .selects RX6 yX6_get yX6_get, .code yX6_get cX6_get 2 (some (.object "MirrorKeep$Entry")), .fieldLink RX6 13 "MirrorKeep$Tree" "rows" "[LMirrorKeep$Entry;", .methodLink RX6 33 yX3_compare, .static yX3_compare, .initialized RX3, .code yX3_compare cX3_compare 4 (some .int), .methodLink RX3 15 Lib.Math.min.name, .static Lib.Math.min.name, .initialized "java/lang/Math", .code Lib.Math.min.name Lib.Math.min.code 2 (some .int), .methodLink RX3 21 yX3_rank, .static yX3_rank, .code yX3_rank cX3_rank 1 (some .int)] ++ wsX10 ++ wsX60)
def wsX6_insert : List Cond := .code yX6_insert cX6_insert 4 none :: ([.fieldLink RX6 17 "MirrorKeep$Tree" "count" "I", .fieldLink RX6 13 "MirrorKeep$Tree" "rows" "[LMirrorKeep$Entry;"] ++ wsX60)
def wsX6_replace : List Cond := .code yX6_replace cX6_replace 3 none :: ([.fieldLink RX6 17 "MirrorKeep$Tree" "count" "I", .fieldLink RX6 13 "MirrorKeep$Tree" "rows" "[LMirrorKeep$Entry;"] ++ wsX60)
def wsX6_put_r1 : List Cond := [Cond.fieldLink RX6 29 "MirrorKeep$Entry" "path" "[B", Cond.methodLink RX6 39 yX6_find, Cond.instanceMethod yX6_find, Cond.selects RX6 yX6_find yX6_find, Cond.initialized RX6, Cond.code yX6_find cX6_find 4 (some .int), Cond.methodLink RX6 21 yX6_placeOf, Cond.instanceMethod yX6_placeOf, Cond.selects RX6 yX6_placeOf yX6_placeOf, Cond.code yX6_placeOf cX6_placeOf 7 (some .int), Cond.fieldLink RX6 17 "MirrorKeep$Tree" "count" "I", Cond.methodLink RX6 25 yX6_get, Cond.instanceMethod yX6_get, Cond.selects RX6 yX6_get yX6_get, Cond.code yX6_get cX6_get 2 (some (.object "MirrorKeep$Entry")), Cond.fieldLink RX6 13 "MirrorKeep$Tree" "rows" "[LMirrorKeep$Entry;", Cond.methodLink RX6 33 yX3_compare, Cond.static yX3_compare, Cond.initialized RX3, Cond.code yX3_compare cX3_compare 4 (some .int), Cond.methodLink RX3 15 Lib.Math.min.name, Cond.static Lib.Math.min.name, Cond.initialized "java/lang/Math", Cond.code Lib.Math.min.name Lib.Math.min.code 2 (some .int)]
def wsX6_put_r2 : List Cond := [Cond.methodLink RX3 21 yX3_rank, Cond.static yX3_rank, Cond.code yX3_rank cX3_rank 1 (some .int), Cond.methodLink RX6 42 yX6_insert, Cond.instanceMethod yX6_insert, Cond.selects RX6 yX6_insert yX6_insert, Cond.code yX6_insert cX6_insert 4 none, Cond.methodLink RX6 46 yX6_replace, Cond.instanceMethod yX6_replace, Cond.selects RX6 yX6_replace yX6_replace, Cond.code yX6_replace cX6_replace 3 none]
def wsX6_put : List Cond := .code yX6_put cX6_put 3 none :: ((wsX6_put_r1 ++ wsX6_put_r2) ++ wsX10 ++ wsX60)
def wsX6_drop : List Cond := .code yX6_drop cX6_drop 4 none :: ([.fieldLink RX6 17 "MirrorKeep$Tree" "count" "I", .fieldLink RX6 13 "MirrorKeep$Tree" "rows" "[LMirrorKeep$Entry;"] ++ wsX60)
def wsX0_exchange_r1 : List Cond := [Cond.fieldLink RX0 46 "MirrorKeep$Entry" "path" "[B", Cond.methodLink RX0 60 yX6_put, Cond.instanceMethod yX6_put, Cond.selects RX6 yX6_put yX6_put, Cond.initialized RX6, Cond.code yX6_put cX6_put 3 none, Cond.fieldLink RX6 29 "MirrorKeep$Entry" "path" "[B", Cond.methodLink RX6 39 yX6_find, Cond.instanceMethod yX6_find, Cond.selects RX6 yX6_find yX6_find, Cond.code yX6_find cX6_find 4 (some .int), Cond.methodLink RX6 21 yX6_placeOf, Cond.instanceMethod yX6_placeOf, Cond.selects RX6 yX6_placeOf yX6_placeOf, Cond.code yX6_placeOf cX6_placeOf 7 (some .int), Cond.fieldLink RX6 17 "MirrorKeep$Tree" "count" "I", Cond.methodLink RX6 25 yX6_get, Cond.instanceMethod yX6_get, Cond.selects RX6 yX6_get yX6_get, Cond.code yX6_get cX6_get 2 (some (.object "MirrorKeep$Entry")), Cond.fieldLink RX6 13 "MirrorKeep$Tree" "rows" "[LMirrorKeep$Entry;", Cond.methodLink RX6 33 yX3_compare, Cond.static yX3_compare, Cond.initialized RX3]
def wsX0_exchange_r2 : List Cond := [Cond.code yX3_compare cX3_compare 4 (some .int), Cond.methodLink RX3 15 Lib.Math.min.name, Cond.static Lib.Math.min.name, Cond.initialized "java/lang/Math", Cond.code Lib.Math.min.name Lib.Math.min.code 2 (some .int), Cond.methodLink RX3 21 yX3_rank, Cond.static yX3_rank, Cond.code yX3_rank cX3_rank 1 (some .int), Cond.methodLink RX6 42 yX6_insert, Cond.instanceMethod yX6_insert, Cond.selects RX6 yX6_insert yX6_insert, Cond.code yX6_insert cX6_insert 4 none, Cond.methodLink RX6 46 yX6_replace, Cond.instanceMethod yX6_replace, Cond.selects RX6 yX6_replace yX6_replace, Cond.code yX6_replace cX6_replace 3 none, Cond.methodLink RX0 64 yX6_find, Cond.methodLink RX0 68 yX6_drop, Cond.instanceMethod yX6_drop, Cond.selects RX6 yX6_drop yX6_drop, Cond.code yX6_drop cX6_drop 4 none]
def wsX0_exchange : List Cond := .code yX0_exchange cX0_exchange 3 none :: ((wsX0_exchange_r1 ++ wsX0_exchange_r2) ++ wsX10 ++ wsX60)
def wsX0_apply_r1 : List Cond := [Cond.fieldLink RX0 20 "MirrorKeep$Changes" "count" "I", Cond.fieldLink RX0 13 "MirrorKeep$Changes" "before" "[LMirrorKeep$Entry;", Cond.fieldLink RX0 17 "MirrorKeep$Changes" "after" "[LMirrorKeep$Entry;", Cond.methodLink RX0 56 yX0_exchange, Cond.static yX0_exchange, Cond.initialized RX0, Cond.code yX0_exchange cX0_exchange 3 none, Cond.fieldLink RX0 46 "MirrorKeep$Entry" "path" "[B", Cond.methodLink RX0 60 yX6_put, Cond.instanceMethod yX6_put, Cond.selects RX6 yX6_put yX6_put, Cond.initialized RX6, Cond.code yX6_put cX6_put 3 none, Cond.fieldLink RX6 29 "MirrorKeep$Entry" "path" "[B", Cond.methodLink RX6 39 yX6_find, Cond.instanceMethod yX6_find, Cond.selects RX6 yX6_find yX6_find, Cond.code yX6_find cX6_find 4 (some .int), Cond.methodLink RX6 21 yX6_placeOf, Cond.instanceMethod yX6_placeOf, Cond.selects RX6 yX6_placeOf yX6_placeOf, Cond.code yX6_placeOf cX6_placeOf 7 (some .int), Cond.fieldLink RX6 17 "MirrorKeep$Tree" "count" "I", Cond.methodLink RX6 25 yX6_get]
def wsX0_apply_r2 : List Cond := [Cond.instanceMethod yX6_get, Cond.selects RX6 yX6_get yX6_get, Cond.code yX6_get cX6_get 2 (some (.object "MirrorKeep$Entry")), Cond.fieldLink RX6 13 "MirrorKeep$Tree" "rows" "[LMirrorKeep$Entry;", Cond.methodLink RX6 33 yX3_compare, Cond.static yX3_compare, Cond.initialized RX3, Cond.code yX3_compare cX3_compare 4 (some .int), Cond.methodLink RX3 15 Lib.Math.min.name, Cond.static Lib.Math.min.name, Cond.initialized "java/lang/Math", Cond.code Lib.Math.min.name Lib.Math.min.code 2 (some .int), Cond.methodLink RX3 21 yX3_rank, Cond.static yX3_rank, Cond.code yX3_rank cX3_rank 1 (some .int), Cond.methodLink RX6 42 yX6_insert, Cond.instanceMethod yX6_insert, Cond.selects RX6 yX6_insert yX6_insert, Cond.code yX6_insert cX6_insert 4 none, Cond.methodLink RX6 46 yX6_replace, Cond.instanceMethod yX6_replace, Cond.selects RX6 yX6_replace yX6_replace, Cond.code yX6_replace cX6_replace 3 none, Cond.methodLink RX0 64 yX6_find]
def wsX0_apply_r3 : List Cond := [Cond.methodLink RX0 68 yX6_drop, Cond.instanceMethod yX6_drop, Cond.selects RX6 yX6_drop yX6_drop, Cond.code yX6_drop cX6_drop 4 none]
def wsX0_apply : List Cond := .code yX0_apply cX0_apply 3 none :: ((wsX0_apply_r1 ++ (wsX0_apply_r2 ++ wsX0_apply_r3)) ++ wsX00 ++ wsX10 ++ wsX60)
def wsX0_takeBack_r1 : List Cond := [Cond.fieldLink RX0 20 "MirrorKeep$Changes" "count" "I", Cond.fieldLink RX0 17 "MirrorKeep$Changes" "after" "[LMirrorKeep$Entry;", Cond.fieldLink RX0 13 "MirrorKeep$Changes" "before" "[LMirrorKeep$Entry;", Cond.methodLink RX0 56 yX0_exchange, Cond.static yX0_exchange, Cond.initialized RX0, Cond.code yX0_exchange cX0_exchange 3 none, Cond.fieldLink RX0 46 "MirrorKeep$Entry" "path" "[B", Cond.methodLink RX0 60 yX6_put, Cond.instanceMethod yX6_put, Cond.selects RX6 yX6_put yX6_put, Cond.initialized RX6, Cond.code yX6_put cX6_put 3 none, Cond.fieldLink RX6 29 "MirrorKeep$Entry" "path" "[B", Cond.methodLink RX6 39 yX6_find, Cond.instanceMethod yX6_find, Cond.selects RX6 yX6_find yX6_find, Cond.code yX6_find cX6_find 4 (some .int), Cond.methodLink RX6 21 yX6_placeOf, Cond.instanceMethod yX6_placeOf, Cond.selects RX6 yX6_placeOf yX6_placeOf, Cond.code yX6_placeOf cX6_placeOf 7 (some .int), Cond.fieldLink RX6 17 "MirrorKeep$Tree" "count" "I", Cond.methodLink RX6 25 yX6_get]
def wsX0_takeBack_r2 : List Cond := [Cond.instanceMethod yX6_get, Cond.selects RX6 yX6_get yX6_get, Cond.code yX6_get cX6_get 2 (some (.object "MirrorKeep$Entry")), Cond.fieldLink RX6 13 "MirrorKeep$Tree" "rows" "[LMirrorKeep$Entry;", Cond.methodLink RX6 33 yX3_compare, Cond.static yX3_compare, Cond.initialized RX3, Cond.code yX3_compare cX3_compare 4 (some .int), Cond.methodLink RX3 15 Lib.Math.min.name, Cond.static Lib.Math.min.name, Cond.initialized "java/lang/Math", Cond.code Lib.Math.min.name Lib.Math.min.code 2 (some .int), Cond.methodLink RX3 21 yX3_rank, Cond.static yX3_rank, Cond.code yX3_rank cX3_rank 1 (some .int), Cond.methodLink RX6 42 yX6_insert, Cond.instanceMethod yX6_insert, Cond.selects RX6 yX6_insert yX6_insert, Cond.code yX6_insert cX6_insert 4 none, Cond.methodLink RX6 46 yX6_replace, Cond.instanceMethod yX6_replace, Cond.selects RX6 yX6_replace yX6_replace, Cond.code yX6_replace cX6_replace 3 none, Cond.methodLink RX0 64 yX6_find]
def wsX0_takeBack_r3 : List Cond := [Cond.methodLink RX0 68 yX6_drop, Cond.instanceMethod yX6_drop, Cond.selects RX6 yX6_drop yX6_drop, Cond.code yX6_drop cX6_drop 4 none]
def wsX0_takeBack : List Cond := .code yX0_takeBack cX0_takeBack 3 none :: ((wsX0_takeBack_r1 ++ (wsX0_takeBack_r2 ++ wsX0_takeBack_r3)) ++ wsX00 ++ wsX10 ++ wsX60)
def wsX1_init : List Cond := .code yX1_init cX1_init 6 none :: ([.methodLink RX1 1 objectInit, .instanceMethod objectInit, .code objectInit ⟨#[0xb1]⟩ 1 none, .fieldLink RX1 7 "MirrorKeep$Entry" "path" "[B", .fieldLink RX1 13 "MirrorKeep$Entry" "kind" "I", .fieldLink RX1 17 "MirrorKeep$Entry" "mode" "I", .fieldLink RX1 20 "MirrorKeep$Entry" "time" "I", .fieldLink RX1 23 "MirrorKeep$Entry" "content" "[B"] ++ wsX10)
def wsX1_withContent : List Cond := .code yX1_withContent cX1_withContent 2 (some (.object "MirrorKeep$Entry")) :: ([.classLink RX1 8 RX1, .instantiable RX1 5, .initialized RX1, .fieldLink RX1 7 "MirrorKeep$Entry" "path" "[B", .fieldLink RX1 13 "MirrorKeep$Entry" "kind" "I", .fieldLink RX1 17 "MirrorKeep$Entry" "mode" "I", .fieldLink RX1 20 "MirrorKeep$Entry" "time" "I", .methodLink RX1 26 yX1_init, .instanceMethod yX1_init, .code yX1_init cX1_init 6 none, .methodLink RX1 1 objectInit, .instanceMethod objectInit, .code objectInit ⟨#[0xb1]⟩ 1 none, .fieldLink RX1 23 "MirrorKeep$Entry" "content" "[B"] ++ wsX10)
def wsX1_withModeAndTime : List Cond := .code yX1_withModeAndTime cX1_withModeAndTime 3 (some (.object "MirrorKeep$Entry")) :: ([.classLink RX1 8 RX1, .instantiable RX1 5, .initialized RX1, .fieldLink RX1 7 "MirrorKeep$Entry" "path" "[B", .fieldLink RX1 13 "MirrorKeep$Entry" "kind" "I", .fieldLink RX1 23 "MirrorKeep$Entry" "content" "[B", .methodLink RX1 26 yX1_init, .instanceMethod yX1_init, .code yX1_init cX1_init 6 none, .methodLink RX1 1 objectInit, .instanceMethod objectInit, .code objectInit ⟨#[0xb1]⟩ 1 none, .fieldLink RX1 17 "MirrorKeep$Entry" "mode" "I", .fieldLink RX1 20 "MirrorKeep$Entry" "time" "I"] ++ wsX10)
def wsX2_init : List Cond := .code yX2_init cX2_init 1 none :: ([.methodLink RX2 3 objectInit, .instanceMethod objectInit, .code objectInit ⟨#[0xb1]⟩ 1 none, .classLink RX2 11 RX4, .fieldLink RX2 13 "MirrorKeep$History" "rows" "[LMirrorKeep$Session;", .fieldLink RX2 17 "MirrorKeep$History" "count" "I"] ++ wsX20)
def wsX2_size : List Cond := .code yX2_size cX2_size 1 (some .int) :: ([.fieldLink RX2 17 "MirrorKeep$History" "count" "I"] ++ wsX20)
def wsX2_isFull : List Cond := .code yX2_isFull cX2_isFull 1 (some .boolean) :: ([.fieldLink RX2 17 "MirrorKeep$History" "count" "I"] ++ wsX20)
def wsX2_get : List Cond := .code yX2_get cX2_get 2 (some (.object "MirrorKeep$Session")) :: ([.fieldLink RX2 17 "MirrorKeep$History" "count" "I", .fieldLink RX2 13 "MirrorKeep$History" "rows" "[LMirrorKeep$Session;"] ++ wsX20)
def wsX2_latestTime : List Cond := .code yX2_latestTime cX2_latestTime 2 (some .int) :: ([.fieldLink RX2 17 "MirrorKeep$History" "count" "I", .fieldLink RX2 25 "MirrorKeep$Session" "time" "I", .methodLink RX2 21 yX2_get, .instanceMethod yX2_get, .selects RX2 yX2_get yX2_get, .initialized RX2, .code yX2_get cX2_get 2 (some (.object "MirrorKeep$Session")), .fieldLink RX2 13 "MirrorKeep$History" "rows" "[LMirrorKeep$Session;"] ++ wsX20 ++ wsX40)
def wsX2_add : List Cond := .code yX2_add cX2_add 2 none :: ([.fieldLink RX2 17 "MirrorKeep$History" "count" "I", .fieldLink RX2 13 "MirrorKeep$History" "rows" "[LMirrorKeep$Session;"] ++ wsX20)
def wsX2_findAsOf : List Cond := .code yX2_findAsOf cX2_findAsOf 4 (some .int) :: ([.fieldLink RX2 17 "MirrorKeep$History" "count" "I", .fieldLink RX2 13 "MirrorKeep$History" "rows" "[LMirrorKeep$Session;", .fieldLink RX2 25 "MirrorKeep$Session" "time" "I"] ++ wsX20 ++ wsX40)
def wsX2_forgetAheadOf : List Cond := .code yX2_forgetAheadOf cX2_forgetAheadOf 3 (some .int) :: ([.fieldLink RX2 17 "MirrorKeep$History" "count" "I", .fieldLink RX2 13 "MirrorKeep$History" "rows" "[LMirrorKeep$Session;"] ++ wsX20)
def wsX2_increments : List Cond := .code yX2_increments cX2_increments 4 (some .int) :: ([.fieldLink RX2 17 "MirrorKeep$History" "count" "I", .fieldLink RX2 13 "MirrorKeep$History" "rows" "[LMirrorKeep$Session;", .fieldLink RX2 28 "MirrorKeep$Session" "changes" "I"] ++ wsX20 ++ wsX40)
def wsX3_isName : List Cond := .code yX3_isName cX3_isName 6 (some .boolean) :: ([])
def wsX3_isPath : List Cond := .code yX3_isPath cX3_isPath 4 (some .boolean) :: ([.methodLink RX3 11 yX3_isName, .static yX3_isName, .initialized RX3, .code yX3_isName cX3_isName 6 (some .boolean)])
def wsX3_lastSlash : List Cond := .code yX3_lastSlash cX3_lastSlash 2 (some .int) :: ([])
def wsX3_isBelow : List Cond := .code yX3_isBelow cX3_isBelow 3 (some .boolean) :: ([])
def wsX6_init : List Cond := .code yX6_init cX6_init 1 none :: ([.methodLink RX6 3 objectInit, .instanceMethod objectInit, .code objectInit ⟨#[0xb1]⟩ 1 none, .classLink RX6 11 RX1, .fieldLink RX6 13 "MirrorKeep$Tree" "rows" "[LMirrorKeep$Entry;", .fieldLink RX6 17 "MirrorKeep$Tree" "count" "I"] ++ wsX60)
def wsX6_copyFrom : List Cond := .code yX6_copyFrom cX6_copyFrom 3 none :: ([.fieldLink RX6 17 "MirrorKeep$Tree" "count" "I", .fieldLink RX6 13 "MirrorKeep$Tree" "rows" "[LMirrorKeep$Entry;"] ++ wsX60)
def wsX4_init : List Cond := .code yX4_init cX4_init 4 none :: ([.methodLink RX4 1 objectInit, .instanceMethod objectInit, .code objectInit ⟨#[0xb1]⟩ 1 none, .fieldLink RX4 7 "MirrorKeep$Session" "time" "I", .fieldLink RX4 13 "MirrorKeep$Session" "changes" "I", .classLink RX4 16 RX6, .instantiable RX6 2, .initialized RX6, .fieldLink RX4 19 "MirrorKeep$Session" "tree" "LMirrorKeep$Tree;", .instanceMethod yX6_init, .code yX6_init cX6_init 1 none, .methodLink RX6 3 objectInit, .classLink RX6 11 RX1, .fieldLink RX6 13 "MirrorKeep$Tree" "rows" "[LMirrorKeep$Entry;", .fieldLink RX6 17 "MirrorKeep$Tree" "count" "I", .methodLink RX4 23 yX6_copyFrom, .instanceMethod yX6_copyFrom, .selects RX6 yX6_copyFrom yX6_copyFrom, .code yX6_copyFrom cX6_copyFrom 3 none] ++ wsX40 ++ wsX60)
def wsX5_init : List Cond := .code yX5_init cX5_init 1 none :: ([.methodLink RX5 3 objectInit, .instanceMethod objectInit, .code objectInit ⟨#[0xb1]⟩ 1 none, .arrayClass .int, .fieldLink RX5 11 "MirrorKeep$Tape" "words" "[I", .arrayClass .byte, .fieldLink RX5 15 "MirrorKeep$Tape" "bytes" "[B", .fieldLink RX5 19 "MirrorKeep$Tape" "count" "I"] ++ wsX50)
def wsX5_size : List Cond := .code yX5_size cX5_size 1 (some .int) :: ([.fieldLink RX5 19 "MirrorKeep$Tape" "count" "I"] ++ wsX50)
def wsX5_makeReady : List Cond := .code yX5_makeReady cX5_makeReady 6 none :: ([.fieldLink RX5 11 "MirrorKeep$Tape" "words" "[I"] ++ wsX50)
def wsX5_readyByte : List Cond := .code yX5_readyByte cX5_readyByte 3 (some .byte) :: ([.fieldLink RX5 11 "MirrorKeep$Tape" "words" "[I"] ++ wsX50)
def wsJ7_fill_53178 : List Cond := .code yJ7_fill_53178 cJ7_fill_53178 4 none :: ([])
def wsX5_append : List Cond := .code yX5_append cX5_append 3 (some .int) :: ([.fieldLink RX5 19 "MirrorKeep$Tape" "count" "I", .fieldLink RX5 15 "MirrorKeep$Tape" "bytes" "[B", .fieldLink RX5 11 "MirrorKeep$Tape" "words" "[I", .methodLink RX5 23 yX5_readyByte, .instanceMethod yX5_readyByte, .selects RX5 yX5_readyByte yX5_readyByte, .initialized RX5, .code yX5_readyByte cX5_readyByte 3 (some .byte), .methodLink RX5 27 yJ7_fill_53178, .static yJ7_fill_53178, .initialized RJ7, .code yJ7_fill_53178 cJ7_fill_53178 4 none] ++ wsX50)
def wsJ7_copyOf_9075b : List Cond := .code yJ7_copyOf_9075b cJ7_copyOf_9075b 3 (some (.array .byte)) :: ([.methodLink RJ7 310 ⟨"[B", "clone", "()Ljava/lang/Object;"⟩, .sameMethod "[B" "java/lang/Object" "clone" "()Ljava/lang/Object;", .native ⟨"java/lang/Object", "clone", "()Ljava/lang/Object;"⟩, .instanceMethod ⟨"java/lang/Object", "clone", "()Ljava/lang/Object;"⟩, .selects "[B" ⟨"[B", "clone", "()Ljava/lang/Object;"⟩ ⟨"java/lang/Object", "clone", "()Ljava/lang/Object;"⟩, .classLink RJ7 311 "[B", .arrayClass .byte, .methodLink RJ7 304 Lib.Math.min.name, .static Lib.Math.min.name, .initialized "java/lang/Math", .code Lib.Math.min.name Lib.Math.min.code 2 (some .int), .methodLink RJ7 150 arraycopyName, .native arraycopyName, .static arraycopyName, .initialized "java/lang/System"])
def wsX5_take : List Cond := .code yX5_take cX5_take 2 (some (.array .byte)) :: ([.fieldLink RX5 15 "MirrorKeep$Tape" "bytes" "[B", .fieldLink RX5 19 "MirrorKeep$Tape" "count" "I", .methodLink RX5 33 yJ7_copyOf_9075b, .static yJ7_copyOf_9075b, .initialized RJ7, .code yJ7_copyOf_9075b cJ7_copyOf_9075b 3 (some (.array .byte)), .methodLink RJ7 310 ⟨"[B", "clone", "()Ljava/lang/Object;"⟩, .sameMethod "[B" "java/lang/Object" "clone" "()Ljava/lang/Object;", .native ⟨"java/lang/Object", "clone", "()Ljava/lang/Object;"⟩, .instanceMethod ⟨"java/lang/Object", "clone", "()Ljava/lang/Object;"⟩, .selects "[B" ⟨"[B", "clone", "()Ljava/lang/Object;"⟩ ⟨"java/lang/Object", "clone", "()Ljava/lang/Object;"⟩, .classLink RJ7 311 "[B", .arrayClass .byte, .methodLink RJ7 304 Lib.Math.min.name, .static Lib.Math.min.name, .initialized "java/lang/Math", .code Lib.Math.min.name Lib.Math.min.code 2 (some .int), .methodLink RJ7 150 arraycopyName, .native arraycopyName, .static arraycopyName, .initialized "java/lang/System"] ++ wsX50)
def wsX6_countBelow : List Cond := .code yX6_countBelow cX6_countBelow 6 (some .int) :: ([.fieldLink RX6 17 "MirrorKeep$Tree" "count" "I", .fieldLink RX6 13 "MirrorKeep$Tree" "rows" "[LMirrorKeep$Entry;", .fieldLink RX6 29 "MirrorKeep$Entry" "path" "[B", .methodLink RX6 25 yX6_get, .instanceMethod yX6_get, .selects RX6 yX6_get yX6_get, .initialized RX6, .code yX6_get cX6_get 2 (some (.object "MirrorKeep$Entry")), .methodLink RX6 49 yX3_isBelow, .static yX3_isBelow, .initialized RX3, .code yX3_isBelow cX3_isBelow 3 (some .boolean)] ++ wsX60 ++ wsX10)
def wsX6_contentBytes : List Cond := .code yX6_contentBytes cX6_contentBytes 4 (some .int) :: ([.fieldLink RX6 17 "MirrorKeep$Tree" "count" "I", .fieldLink RX6 13 "MirrorKeep$Tree" "rows" "[LMirrorKeep$Entry;", .fieldLink RX6 53 "MirrorKeep$Entry" "content" "[B"] ++ wsX60 ++ wsX10)
def wsX7_init : List Cond := .code yX7_init cX7_init 1 none :: ([.methodLink RX7 1 objectInit, .instanceMethod objectInit, .code objectInit ⟨#[0xb1]⟩ 1 none, .classLink RX7 7 RX0, .instantiable RX0 3, .initialized RX0, .fieldLink RX7 10 "MirrorKeep$Work" "changes" "LMirrorKeep$Changes;", .fieldLink RX7 16 "MirrorKeep$Work" "time" "I", .fieldLink RX7 20 "MirrorKeep$Work" "done" "I", .instanceMethod yX0_init, .code yX0_init cX0_init 1 none, .methodLink RX0 3 objectInit, .classLink RX0 11 RX1, .fieldLink RX0 13 "MirrorKeep$Changes" "before" "[LMirrorKeep$Entry;", .fieldLink RX0 17 "MirrorKeep$Changes" "after" "[LMirrorKeep$Entry;", .fieldLink RX0 20 "MirrorKeep$Changes" "count" "I"] ++ wsX00 ++ wsX70)
def wsX7_start_r1 : List Cond := [Cond.fieldLink RX7 10 "MirrorKeep$Work" "changes" "LMirrorKeep$Changes;", Cond.fieldLink RX7 16 "MirrorKeep$Work" "time" "I", Cond.fieldLink RX7 20 "MirrorKeep$Work" "done" "I", Cond.methodLink RX7 23 yX0_find, Cond.instanceMethod yX0_find, Cond.selects RX0 yX0_find yX0_find, Cond.initialized RX0, Cond.code yX0_find cX0_find 10 none, Cond.fieldLink RX0 20 "MirrorKeep$Changes" "count" "I", Cond.methodLink RX0 24 yX6_size, Cond.instanceMethod yX6_size, Cond.selects RX6 yX6_size yX6_size, Cond.initialized RX6, Cond.code yX6_size cX6_size 1 (some .int), Cond.fieldLink RX6 17 "MirrorKeep$Tree" "count" "I", Cond.methodLink RX0 30 yX6_get, Cond.instanceMethod yX6_get, Cond.selects RX6 yX6_get yX6_get, Cond.code yX6_get cX6_get 2 (some (.object "MirrorKeep$Entry")), Cond.fieldLink RX6 13 "MirrorKeep$Tree" "rows" "[LMirrorKeep$Entry;", Cond.methodLink RX0 34 yX0_order, Cond.static yX0_order, Cond.code yX0_order cX0_order 2 (some .int), Cond.fieldLink RX0 46 "MirrorKeep$Entry" "path" "[B"]
def wsX7_start_r2 : List Cond := [Cond.methodLink RX0 50 yX3_compare, Cond.static yX3_compare, Cond.initialized RX3, Cond.code yX3_compare cX3_compare 4 (some .int), Cond.methodLink RX3 15 Lib.Math.min.name, Cond.static Lib.Math.min.name, Cond.initialized "java/lang/Math", Cond.code Lib.Math.min.name Lib.Math.min.code 2 (some .int), Cond.methodLink RX3 21 yX3_rank, Cond.static yX3_rank, Cond.code yX3_rank cX3_rank 1 (some .int), Cond.methodLink RX0 38 yX0_add, Cond.instanceMethod yX0_add, Cond.selects RX0 yX0_add yX0_add, Cond.code yX0_add cX0_add 3 none, Cond.fieldLink RX0 13 "MirrorKeep$Changes" "before" "[LMirrorKeep$Entry;", Cond.fieldLink RX0 17 "MirrorKeep$Changes" "after" "[LMirrorKeep$Entry;", Cond.methodLink RX0 42 yX1_isLike, Cond.instanceMethod yX1_isLike, Cond.selects RX1 yX1_isLike yX1_isLike, Cond.initialized RX1, Cond.code yX1_isLike cX1_isLike 2 (some .boolean), Cond.fieldLink RX1 13 "MirrorKeep$Entry" "kind" "I", Cond.fieldLink RX1 17 "MirrorKeep$Entry" "mode" "I"]
def wsX7_start_r3 : List Cond := [Cond.fieldLink RX1 20 "MirrorKeep$Entry" "time" "I", Cond.fieldLink RX1 23 "MirrorKeep$Entry" "content" "[B", Cond.methodLink RX1 29 yX1_hasContent, Cond.instanceMethod yX1_hasContent, Cond.selects RX1 yX1_hasContent yX1_hasContent, Cond.code yX1_hasContent cX1_hasContent 3 (some .boolean)]
def wsX7_start : List Cond := .code yX7_start cX7_start 4 none :: ((wsX7_start_r1 ++ (wsX7_start_r2 ++ wsX7_start_r3)) ++ wsX70 ++ wsX00 ++ wsX60 ++ wsX10)
def wsX7_operations : List Cond := .code yX7_operations cX7_operations 1 (some .int) :: ([.fieldLink RX7 10 "MirrorKeep$Work" "changes" "LMirrorKeep$Changes;", .methodLink RX7 27 yX0_size, .instanceMethod yX0_size, .selects RX0 yX0_size yX0_size, .initialized RX0, .code yX0_size cX0_size 1 (some .int), .fieldLink RX0 20 "MirrorKeep$Changes" "count" "I"] ++ wsX70 ++ wsX00)
def wsX7_increments : List Cond := .code yX7_increments cX7_increments 1 (some .int) :: ([.fieldLink RX7 10 "MirrorKeep$Work" "changes" "LMirrorKeep$Changes;", .fieldLink RX7 20 "MirrorKeep$Work" "done" "I", .methodLink RX7 31 Lib.Math.min.name, .static Lib.Math.min.name, .initialized "java/lang/Math", .code Lib.Math.min.name Lib.Math.min.code 2 (some .int), .methodLink RX7 27 yX0_size, .instanceMethod yX0_size, .selects RX0 yX0_size yX0_size, .initialized RX0, .code yX0_size cX0_size 1 (some .int), .fieldLink RX0 20 "MirrorKeep$Changes" "count" "I"] ++ wsX70 ++ wsX00)
def wsX7_isUpdate : List Cond := .code yX7_isUpdate cX7_isUpdate 2 (some .boolean) :: ([.fieldLink RX7 10 "MirrorKeep$Work" "changes" "LMirrorKeep$Changes;", .methodLink RX7 27 yX0_size, .instanceMethod yX0_size, .selects RX0 yX0_size yX0_size, .initialized RX0, .code yX0_size cX0_size 1 (some .int), .fieldLink RX0 20 "MirrorKeep$Changes" "count" "I"] ++ wsX70 ++ wsX00)
def wsX7_changeOf : List Cond := .code yX7_changeOf cX7_changeOf 1 (some .int) :: ([])
def wsX7_doNext_r1 : List Cond := [Cond.fieldLink RX7 20 "MirrorKeep$Work" "done" "I", Cond.fieldLink RX7 10 "MirrorKeep$Work" "changes" "LMirrorKeep$Changes;", Cond.methodLink RX7 37 yX7_isUpdate, Cond.instanceMethod yX7_isUpdate, Cond.selects RX7 yX7_isUpdate yX7_isUpdate, Cond.initialized RX7, Cond.code yX7_isUpdate cX7_isUpdate 2 (some .boolean), Cond.methodLink RX7 27 yX0_size, Cond.instanceMethod yX0_size, Cond.selects RX0 yX0_size yX0_size, Cond.initialized RX0, Cond.code yX0_size cX0_size 1 (some .int), Cond.fieldLink RX0 20 "MirrorKeep$Changes" "count" "I", Cond.methodLink RX7 41 yX7_changeOf, Cond.static yX7_changeOf, Cond.code yX7_changeOf cX7_changeOf 1 (some .int), Cond.methodLink RX7 45 yX0_apply, Cond.instanceMethod yX0_apply, Cond.selects RX0 yX0_apply yX0_apply, Cond.code yX0_apply cX0_apply 3 none, Cond.fieldLink RX0 13 "MirrorKeep$Changes" "before" "[LMirrorKeep$Entry;", Cond.fieldLink RX0 17 "MirrorKeep$Changes" "after" "[LMirrorKeep$Entry;", Cond.methodLink RX0 56 yX0_exchange, Cond.static yX0_exchange]
def wsX7_doNext_r2 : List Cond := [Cond.code yX0_exchange cX0_exchange 3 none, Cond.fieldLink RX0 46 "MirrorKeep$Entry" "path" "[B", Cond.methodLink RX0 60 yX6_put, Cond.instanceMethod yX6_put, Cond.selects RX6 yX6_put yX6_put, Cond.initialized RX6, Cond.code yX6_put cX6_put 3 none, Cond.fieldLink RX6 29 "MirrorKeep$Entry" "path" "[B", Cond.methodLink RX6 39 yX6_find, Cond.instanceMethod yX6_find, Cond.selects RX6 yX6_find yX6_find, Cond.code yX6_find cX6_find 4 (some .int), Cond.methodLink RX6 21 yX6_placeOf, Cond.instanceMethod yX6_placeOf, Cond.selects RX6 yX6_placeOf yX6_placeOf, Cond.code yX6_placeOf cX6_placeOf 7 (some .int), Cond.fieldLink RX6 17 "MirrorKeep$Tree" "count" "I", Cond.methodLink RX6 25 yX6_get, Cond.instanceMethod yX6_get, Cond.selects RX6 yX6_get yX6_get, Cond.code yX6_get cX6_get 2 (some (.object "MirrorKeep$Entry")), Cond.fieldLink RX6 13 "MirrorKeep$Tree" "rows" "[LMirrorKeep$Entry;", Cond.methodLink RX6 33 yX3_compare, Cond.static yX3_compare]
def wsX7_doNext_r3 : List Cond := [Cond.initialized RX3, Cond.code yX3_compare cX3_compare 4 (some .int), Cond.methodLink RX3 15 Lib.Math.min.name, Cond.static Lib.Math.min.name, Cond.initialized "java/lang/Math", Cond.code Lib.Math.min.name Lib.Math.min.code 2 (some .int), Cond.methodLink RX3 21 yX3_rank, Cond.static yX3_rank, Cond.code yX3_rank cX3_rank 1 (some .int), Cond.methodLink RX6 42 yX6_insert, Cond.instanceMethod yX6_insert, Cond.selects RX6 yX6_insert yX6_insert, Cond.code yX6_insert cX6_insert 4 none, Cond.methodLink RX6 46 yX6_replace, Cond.instanceMethod yX6_replace, Cond.selects RX6 yX6_replace yX6_replace, Cond.code yX6_replace cX6_replace 3 none, Cond.methodLink RX0 64 yX6_find, Cond.methodLink RX0 68 yX6_drop, Cond.instanceMethod yX6_drop, Cond.selects RX6 yX6_drop yX6_drop, Cond.code yX6_drop cX6_drop 4 none]
def wsX7_doNext : List Cond := .code yX7_doNext cX7_doNext 2 none :: ((wsX7_doNext_r1 ++ (wsX7_doNext_r2 ++ wsX7_doNext_r3)) ++ wsX70 ++ wsX00 ++ wsX10 ++ wsX60)
def wsX7_takeBackLast_r1 : List Cond := [Cond.fieldLink RX7 20 "MirrorKeep$Work" "done" "I", Cond.fieldLink RX7 10 "MirrorKeep$Work" "changes" "LMirrorKeep$Changes;", Cond.methodLink RX7 37 yX7_isUpdate, Cond.instanceMethod yX7_isUpdate, Cond.selects RX7 yX7_isUpdate yX7_isUpdate, Cond.initialized RX7, Cond.code yX7_isUpdate cX7_isUpdate 2 (some .boolean), Cond.methodLink RX7 27 yX0_size, Cond.instanceMethod yX0_size, Cond.selects RX0 yX0_size yX0_size, Cond.initialized RX0, Cond.code yX0_size cX0_size 1 (some .int), Cond.fieldLink RX0 20 "MirrorKeep$Changes" "count" "I", Cond.methodLink RX7 41 yX7_changeOf, Cond.static yX7_changeOf, Cond.code yX7_changeOf cX7_changeOf 1 (some .int), Cond.methodLink RX7 49 yX0_takeBack, Cond.instanceMethod yX0_takeBack, Cond.selects RX0 yX0_takeBack yX0_takeBack, Cond.code yX0_takeBack cX0_takeBack 3 none, Cond.fieldLink RX0 17 "MirrorKeep$Changes" "after" "[LMirrorKeep$Entry;", Cond.fieldLink RX0 13 "MirrorKeep$Changes" "before" "[LMirrorKeep$Entry;", Cond.methodLink RX0 56 yX0_exchange, Cond.static yX0_exchange]
def wsX7_takeBackLast_r2 : List Cond := [Cond.code yX0_exchange cX0_exchange 3 none, Cond.fieldLink RX0 46 "MirrorKeep$Entry" "path" "[B", Cond.methodLink RX0 60 yX6_put, Cond.instanceMethod yX6_put, Cond.selects RX6 yX6_put yX6_put, Cond.initialized RX6, Cond.code yX6_put cX6_put 3 none, Cond.fieldLink RX6 29 "MirrorKeep$Entry" "path" "[B", Cond.methodLink RX6 39 yX6_find, Cond.instanceMethod yX6_find, Cond.selects RX6 yX6_find yX6_find, Cond.code yX6_find cX6_find 4 (some .int), Cond.methodLink RX6 21 yX6_placeOf, Cond.instanceMethod yX6_placeOf, Cond.selects RX6 yX6_placeOf yX6_placeOf, Cond.code yX6_placeOf cX6_placeOf 7 (some .int), Cond.fieldLink RX6 17 "MirrorKeep$Tree" "count" "I", Cond.methodLink RX6 25 yX6_get, Cond.instanceMethod yX6_get, Cond.selects RX6 yX6_get yX6_get, Cond.code yX6_get cX6_get 2 (some (.object "MirrorKeep$Entry")), Cond.fieldLink RX6 13 "MirrorKeep$Tree" "rows" "[LMirrorKeep$Entry;", Cond.methodLink RX6 33 yX3_compare, Cond.static yX3_compare]
def wsX7_takeBackLast_r3 : List Cond := [Cond.initialized RX3, Cond.code yX3_compare cX3_compare 4 (some .int), Cond.methodLink RX3 15 Lib.Math.min.name, Cond.static Lib.Math.min.name, Cond.initialized "java/lang/Math", Cond.code Lib.Math.min.name Lib.Math.min.code 2 (some .int), Cond.methodLink RX3 21 yX3_rank, Cond.static yX3_rank, Cond.code yX3_rank cX3_rank 1 (some .int), Cond.methodLink RX6 42 yX6_insert, Cond.instanceMethod yX6_insert, Cond.selects RX6 yX6_insert yX6_insert, Cond.code yX6_insert cX6_insert 4 none, Cond.methodLink RX6 46 yX6_replace, Cond.instanceMethod yX6_replace, Cond.selects RX6 yX6_replace yX6_replace, Cond.code yX6_replace cX6_replace 3 none, Cond.methodLink RX0 64 yX6_find, Cond.methodLink RX0 68 yX6_drop, Cond.instanceMethod yX6_drop, Cond.selects RX6 yX6_drop yX6_drop, Cond.code yX6_drop cX6_drop 4 none]
def wsX7_takeBackLast : List Cond := .code yX7_takeBackLast cX7_takeBackLast 2 none :: ((wsX7_takeBackLast_r1 ++ (wsX7_takeBackLast_r2 ++ wsX7_takeBackLast_r3)) ++ wsX70 ++ wsX00 ++ wsX10 ++ wsX60)
def wsX8_init_r1 : List Cond := [Cond.methodLink RX8 1 objectInit, Cond.instanceMethod objectInit, Cond.code objectInit ⟨#[0xb1]⟩ 1 none, Cond.classLink RX8 7 RX5, Cond.instantiable RX5 3, Cond.initialized RX5, Cond.fieldLink RX8 10 "MirrorKeep" "tape" "LMirrorKeep$Tape;", Cond.classLink RX8 16 RX6, Cond.instantiable RX6 2, Cond.initialized RX6, Cond.fieldLink RX8 19 "MirrorKeep" "source" "LMirrorKeep$Tree;", Cond.fieldLink RX8 23 "MirrorKeep" "mirror" "LMirrorKeep$Tree;", Cond.fieldLink RX8 26 "MirrorKeep" "result" "LMirrorKeep$Tree;", Cond.classLink RX8 29 RX2, Cond.instantiable RX2 2, Cond.initialized RX2, Cond.fieldLink RX8 32 "MirrorKeep" "history" "LMirrorKeep$History;", Cond.classLink RX8 36 RX7, Cond.instantiable RX7 3, Cond.initialized RX7, Cond.fieldLink RX8 39 "MirrorKeep" "work" "LMirrorKeep$Work;", Cond.classLink RX8 43 RX0, Cond.instantiable RX0 3, Cond.initialized RX0]
def wsX8_init_r2 : List Cond := [Cond.fieldLink RX8 46 "MirrorKeep" "compared" "LMirrorKeep$Changes;", Cond.fieldLink RX8 50 "MirrorKeep" "chosen" "I", Cond.fieldLink RX8 54 "MirrorKeep" "state" "I", Cond.instanceMethod yX5_init, Cond.code yX5_init cX5_init 1 none, Cond.methodLink RX5 3 objectInit, Cond.arrayClass .int, Cond.fieldLink RX5 11 "MirrorKeep$Tape" "words" "[I", Cond.arrayClass .byte, Cond.fieldLink RX5 15 "MirrorKeep$Tape" "bytes" "[B", Cond.fieldLink RX5 19 "MirrorKeep$Tape" "count" "I", Cond.instanceMethod yX6_init, Cond.code yX6_init cX6_init 1 none, Cond.methodLink RX6 3 objectInit, Cond.classLink RX6 11 RX1, Cond.fieldLink RX6 13 "MirrorKeep$Tree" "rows" "[LMirrorKeep$Entry;", Cond.fieldLink RX6 17 "MirrorKeep$Tree" "count" "I", Cond.instanceMethod yX2_init, Cond.code yX2_init cX2_init 1 none, Cond.methodLink RX2 3 objectInit, Cond.classLink RX2 11 RX4, Cond.fieldLink RX2 13 "MirrorKeep$History" "rows" "[LMirrorKeep$Session;", Cond.fieldLink RX2 17 "MirrorKeep$History" "count" "I", Cond.instanceMethod yX7_init]
def wsX8_init_r3 : List Cond := [Cond.code yX7_init cX7_init 1 none, Cond.methodLink RX7 1 objectInit, Cond.classLink RX7 7 RX0, Cond.fieldLink RX7 10 "MirrorKeep$Work" "changes" "LMirrorKeep$Changes;", Cond.fieldLink RX7 16 "MirrorKeep$Work" "time" "I", Cond.fieldLink RX7 20 "MirrorKeep$Work" "done" "I", Cond.instanceMethod yX0_init, Cond.code yX0_init cX0_init 1 none, Cond.methodLink RX0 3 objectInit, Cond.classLink RX0 11 RX1, Cond.fieldLink RX0 13 "MirrorKeep$Changes" "before" "[LMirrorKeep$Entry;", Cond.fieldLink RX0 17 "MirrorKeep$Changes" "after" "[LMirrorKeep$Entry;", Cond.fieldLink RX0 20 "MirrorKeep$Changes" "count" "I"]
def wsX8_init : List Cond := .code yX8_init cX8_init 1 none :: ((wsX8_init_r1 ++ (wsX8_init_r2 ++ wsX8_init_r3)) ++ wsX50 ++ wsX80 ++ wsX60 ++ wsX20 ++ wsX70 ++ wsX00)
def wsX8_feed : List Cond := .code yX8_feed cX8_feed 6 none :: ([.fieldLink RX8 10 "MirrorKeep" "tape" "LMirrorKeep$Tape;", .methodLink RX8 57 yX5_makeReady, .instanceMethod yX5_makeReady, .selects RX5 yX5_makeReady yX5_makeReady, .initialized RX5, .code yX5_makeReady cX5_makeReady 6 none, .fieldLink RX5 11 "MirrorKeep$Tape" "words" "[I"] ++ wsX80 ++ wsX50)
def wsX8_end : List Cond := .code yX8_end cX8_end 2 (some .int) :: ([.fieldLink RX8 10 "MirrorKeep" "tape" "LMirrorKeep$Tape;", .methodLink RX8 61 yX5_append, .instanceMethod yX5_append, .selects RX5 yX5_append yX5_append, .initialized RX5, .code yX5_append cX5_append 3 (some .int), .fieldLink RX5 19 "MirrorKeep$Tape" "count" "I", .fieldLink RX5 15 "MirrorKeep$Tape" "bytes" "[B", .fieldLink RX5 11 "MirrorKeep$Tape" "words" "[I", .methodLink RX5 23 yX5_readyByte, .instanceMethod yX5_readyByte, .selects RX5 yX5_readyByte yX5_readyByte, .code yX5_readyByte cX5_readyByte 3 (some .byte), .methodLink RX5 27 yJ7_fill_53178, .static yJ7_fill_53178, .initialized RJ7, .code yJ7_fill_53178 cJ7_fill_53178 4 none] ++ wsX80 ++ wsX50)
def wsX8_isKind : List Cond := .code yX8_isKind cX8_isKind 1 (some .boolean) :: ([])
def wsX8_isMode : List Cond := .code yX8_isMode cX8_isMode 1 (some .boolean) :: ([])
def wsX8_isTime : List Cond := .code yX8_isTime cX8_isTime 1 (some .boolean) :: ([])
def wsX8_hasDirectory_r1 : List Cond := [Cond.fieldLink RX8 19 "MirrorKeep" "source" "LMirrorKeep$Tree;", Cond.fieldLink RX8 123 "MirrorKeep$Entry" "kind" "I", Cond.methodLink RX8 288 yX3_lastSlash, Cond.static yX3_lastSlash, Cond.initialized RX3, Cond.code yX3_lastSlash cX3_lastSlash 2 (some .int), Cond.methodLink RX8 166 yJ7_copyOf_9075b, Cond.static yJ7_copyOf_9075b, Cond.initialized RJ7, Cond.code yJ7_copyOf_9075b cJ7_copyOf_9075b 3 (some (.array .byte)), Cond.methodLink RJ7 310 ⟨"[B", "clone", "()Ljava/lang/Object;"⟩, Cond.sameMethod "[B" "java/lang/Object" "clone" "()Ljava/lang/Object;", Cond.native ⟨"java/lang/Object", "clone", "()Ljava/lang/Object;"⟩, Cond.instanceMethod ⟨"java/lang/Object", "clone", "()Ljava/lang/Object;"⟩, Cond.selects "[B" ⟨"[B", "clone", "()Ljava/lang/Object;"⟩ ⟨"java/lang/Object", "clone", "()Ljava/lang/Object;"⟩, Cond.classLink RJ7 311 "[B", Cond.arrayClass .byte, Cond.methodLink RJ7 304 Lib.Math.min.name, Cond.static Lib.Math.min.name, Cond.initialized "java/lang/Math", Cond.code Lib.Math.min.name Lib.Math.min.code 2 (some .int), Cond.methodLink RJ7 150 arraycopyName, Cond.native arraycopyName, Cond.static arraycopyName]
def wsX8_hasDirectory_r2 : List Cond := [Cond.initialized "java/lang/System", Cond.methodLink RX8 97 yX6_find, Cond.instanceMethod yX6_find, Cond.selects RX6 yX6_find yX6_find, Cond.initialized RX6, Cond.code yX6_find cX6_find 4 (some .int), Cond.fieldLink RX6 29 "MirrorKeep$Entry" "path" "[B", Cond.methodLink RX6 21 yX6_placeOf, Cond.instanceMethod yX6_placeOf, Cond.selects RX6 yX6_placeOf yX6_placeOf, Cond.code yX6_placeOf cX6_placeOf 7 (some .int), Cond.fieldLink RX6 17 "MirrorKeep$Tree" "count" "I", Cond.methodLink RX6 25 yX6_get, Cond.instanceMethod yX6_get, Cond.selects RX6 yX6_get yX6_get, Cond.code yX6_get cX6_get 2 (some (.object "MirrorKeep$Entry")), Cond.fieldLink RX6 13 "MirrorKeep$Tree" "rows" "[LMirrorKeep$Entry;", Cond.methodLink RX6 33 yX3_compare, Cond.static yX3_compare, Cond.code yX3_compare cX3_compare 4 (some .int), Cond.methodLink RX3 15 Lib.Math.min.name, Cond.methodLink RX3 21 yX3_rank, Cond.static yX3_rank, Cond.code yX3_rank cX3_rank 1 (some .int)]
def wsX8_hasDirectory_r3 : List Cond := [Cond.methodLink RX8 119 yX6_get]
def wsX8_hasDirectory : List Cond := .code yX8_hasDirectory cX8_hasDirectory 4 (some .boolean) :: ((wsX8_hasDirectory_r1 ++ (wsX8_hasDirectory_r2 ++ wsX8_hasDirectory_r3)) ++ wsX80 ++ wsX10 ++ wsX60)
def wsX8_make_r1 : List Cond := [Cond.classLink RX8 65 "java/lang/IllegalStateException", Cond.initialized "java/lang/IllegalStateException", Cond.classLink RX8 92 "java/lang/IllegalArgumentException", Cond.initialized "java/lang/IllegalArgumentException", Cond.fieldLink RX8 54 "MirrorKeep" "state" "I", Cond.fieldLink RX8 10 "MirrorKeep" "tape" "LMirrorKeep$Tape;", Cond.fieldLink RX8 19 "MirrorKeep" "source" "LMirrorKeep$Tree;", Cond.classLink RX8 110 RX1, Cond.instantiable RX1 5, Cond.initialized RX1, Cond.arrayClass .byte, Cond.fieldLink RX8 50 "MirrorKeep" "chosen" "I", Cond.methodLink RX8 72 yX5_take, Cond.instanceMethod yX5_take, Cond.selects RX5 yX5_take yX5_take, Cond.initialized RX5, Cond.code yX5_take cX5_take 2 (some (.array .byte)), Cond.fieldLink RX5 15 "MirrorKeep$Tape" "bytes" "[B", Cond.fieldLink RX5 19 "MirrorKeep$Tape" "count" "I", Cond.methodLink RX5 33 yJ7_copyOf_9075b, Cond.static yJ7_copyOf_9075b, Cond.initialized RJ7, Cond.code yJ7_copyOf_9075b cJ7_copyOf_9075b 3 (some (.array .byte)), Cond.methodLink RJ7 310 ⟨"[B", "clone", "()Ljava/lang/Object;"⟩]
def wsX8_make_r2 : List Cond := [Cond.sameMethod "[B" "java/lang/Object" "clone" "()Ljava/lang/Object;", Cond.native ⟨"java/lang/Object", "clone", "()Ljava/lang/Object;"⟩, Cond.instanceMethod ⟨"java/lang/Object", "clone", "()Ljava/lang/Object;"⟩, Cond.selects "[B" ⟨"[B", "clone", "()Ljava/lang/Object;"⟩ ⟨"java/lang/Object", "clone", "()Ljava/lang/Object;"⟩, Cond.classLink RJ7 311 "[B", Cond.methodLink RJ7 304 Lib.Math.min.name, Cond.static Lib.Math.min.name, Cond.initialized "java/lang/Math", Cond.code Lib.Math.min.name Lib.Math.min.code 2 (some .int), Cond.methodLink RJ7 150 arraycopyName, Cond.native arraycopyName, Cond.static arraycopyName, Cond.initialized "java/lang/System", Cond.methodLink RX8 76 yX8_isKind, Cond.static yX8_isKind, Cond.initialized RX8, Cond.code yX8_isKind cX8_isKind 1 (some .boolean), Cond.methodLink RX8 80 yX8_isMode, Cond.static yX8_isMode, Cond.code yX8_isMode cX8_isMode 1 (some .boolean), Cond.methodLink RX8 83 yX8_isTime, Cond.static yX8_isTime, Cond.code yX8_isTime cX8_isTime 1 (some .boolean), Cond.methodLink RX8 86 yX3_isPath]
def wsX8_make_r3 : List Cond := [Cond.static yX3_isPath, Cond.initialized RX3, Cond.code yX3_isPath cX3_isPath 4 (some .boolean), Cond.methodLink RX3 11 yX3_isName, Cond.static yX3_isName, Cond.code yX3_isName cX3_isName 6 (some .boolean), Cond.methodLink RX8 97 yX6_find, Cond.instanceMethod yX6_find, Cond.selects RX6 yX6_find yX6_find, Cond.initialized RX6, Cond.code yX6_find cX6_find 4 (some .int), Cond.fieldLink RX6 29 "MirrorKeep$Entry" "path" "[B", Cond.methodLink RX6 21 yX6_placeOf, Cond.instanceMethod yX6_placeOf, Cond.selects RX6 yX6_placeOf yX6_placeOf, Cond.code yX6_placeOf cX6_placeOf 7 (some .int), Cond.fieldLink RX6 17 "MirrorKeep$Tree" "count" "I", Cond.methodLink RX6 25 yX6_get, Cond.instanceMethod yX6_get, Cond.selects RX6 yX6_get yX6_get, Cond.code yX6_get cX6_get 2 (some (.object "MirrorKeep$Entry")), Cond.fieldLink RX6 13 "MirrorKeep$Tree" "rows" "[LMirrorKeep$Entry;", Cond.methodLink RX6 33 yX3_compare, Cond.static yX3_compare]
def wsX8_make_r4 : List Cond := [Cond.code yX3_compare cX3_compare 4 (some .int), Cond.methodLink RX3 15 Lib.Math.min.name, Cond.methodLink RX3 21 yX3_rank, Cond.static yX3_rank, Cond.code yX3_rank cX3_rank 1 (some .int), Cond.methodLink RX8 101 yX8_hasDirectory, Cond.instanceMethod yX8_hasDirectory, Cond.selects RX8 yX8_hasDirectory yX8_hasDirectory, Cond.code yX8_hasDirectory cX8_hasDirectory 4 (some .boolean), Cond.fieldLink RX8 123 "MirrorKeep$Entry" "kind" "I", Cond.methodLink RX8 288 yX3_lastSlash, Cond.static yX3_lastSlash, Cond.code yX3_lastSlash cX3_lastSlash 2 (some .int), Cond.methodLink RX8 166 yJ7_copyOf_9075b, Cond.methodLink RX8 119 yX6_get, Cond.methodLink RX8 104 yX6_size, Cond.instanceMethod yX6_size, Cond.selects RX6 yX6_size yX6_size, Cond.code yX6_size cX6_size 1 (some .int), Cond.methodLink RX8 112 yX1_init, Cond.instanceMethod yX1_init, Cond.code yX1_init cX1_init 6 none, Cond.methodLink RX1 1 objectInit, Cond.instanceMethod objectInit]
def wsX8_make_r5 : List Cond := [Cond.code objectInit ⟨#[0xb1]⟩ 1 none, Cond.fieldLink RX1 7 "MirrorKeep$Entry" "path" "[B", Cond.fieldLink RX1 13 "MirrorKeep$Entry" "kind" "I", Cond.fieldLink RX1 17 "MirrorKeep$Entry" "mode" "I", Cond.fieldLink RX1 20 "MirrorKeep$Entry" "time" "I", Cond.fieldLink RX1 23 "MirrorKeep$Entry" "content" "[B", Cond.methodLink RX8 115 yX6_put, Cond.instanceMethod yX6_put, Cond.selects RX6 yX6_put yX6_put, Cond.code yX6_put cX6_put 3 none, Cond.methodLink RX6 39 yX6_find, Cond.methodLink RX6 42 yX6_insert, Cond.instanceMethod yX6_insert, Cond.selects RX6 yX6_insert yX6_insert, Cond.code yX6_insert cX6_insert 4 none, Cond.methodLink RX6 46 yX6_replace, Cond.instanceMethod yX6_replace, Cond.selects RX6 yX6_replace yX6_replace, Cond.code yX6_replace cX6_replace 3 none]
def wsX8_make : List Cond := .code yX8_make cX8_make 5 (some .int) :: ((wsX8_make_r1 ++ (wsX8_make_r2 ++ (wsX8_make_r3 ++ (wsX8_make_r4 ++ wsX8_make_r5)))) ++ wsX80 ++ wsX10 ++ wsX50 ++ wsX60 ++ (vx_atS RX8 69 "java/lang/IllegalStateException" ["java/lang/RuntimeException", "java/lang/Exception"]).filter goodWord ++ (vx_atS RX8 96 "java/lang/IllegalArgumentException" ["java/lang/RuntimeException", "java/lang/Exception"]).filter goodWord)
def wsX8_choose_r1 : List Cond := [Cond.fieldLink RX8 19 "MirrorKeep" "source" "LMirrorKeep$Tree;", Cond.fieldLink RX8 10 "MirrorKeep" "tape" "LMirrorKeep$Tape;", Cond.fieldLink RX8 50 "MirrorKeep" "chosen" "I", Cond.fieldLink RX8 123 "MirrorKeep$Entry" "kind" "I", Cond.methodLink RX8 72 yX5_take, Cond.instanceMethod yX5_take, Cond.selects RX5 yX5_take yX5_take, Cond.initialized RX5, Cond.code yX5_take cX5_take 2 (some (.array .byte)), Cond.fieldLink RX5 15 "MirrorKeep$Tape" "bytes" "[B", Cond.fieldLink RX5 19 "MirrorKeep$Tape" "count" "I", Cond.methodLink RX5 33 yJ7_copyOf_9075b, Cond.static yJ7_copyOf_9075b, Cond.initialized RJ7, Cond.code yJ7_copyOf_9075b cJ7_copyOf_9075b 3 (some (.array .byte)), Cond.methodLink RJ7 310 ⟨"[B", "clone", "()Ljava/lang/Object;"⟩, Cond.sameMethod "[B" "java/lang/Object" "clone" "()Ljava/lang/Object;", Cond.native ⟨"java/lang/Object", "clone", "()Ljava/lang/Object;"⟩, Cond.instanceMethod ⟨"java/lang/Object", "clone", "()Ljava/lang/Object;"⟩, Cond.selects "[B" ⟨"[B", "clone", "()Ljava/lang/Object;"⟩ ⟨"java/lang/Object", "clone", "()Ljava/lang/Object;"⟩, Cond.classLink RJ7 311 "[B", Cond.arrayClass .byte, Cond.methodLink RJ7 304 Lib.Math.min.name, Cond.static Lib.Math.min.name]
def wsX8_choose_r2 : List Cond := [Cond.initialized "java/lang/Math", Cond.code Lib.Math.min.name Lib.Math.min.code 2 (some .int), Cond.methodLink RJ7 150 arraycopyName, Cond.native arraycopyName, Cond.static arraycopyName, Cond.initialized "java/lang/System", Cond.methodLink RX8 97 yX6_find, Cond.instanceMethod yX6_find, Cond.selects RX6 yX6_find yX6_find, Cond.initialized RX6, Cond.code yX6_find cX6_find 4 (some .int), Cond.fieldLink RX6 29 "MirrorKeep$Entry" "path" "[B", Cond.methodLink RX6 21 yX6_placeOf, Cond.instanceMethod yX6_placeOf, Cond.selects RX6 yX6_placeOf yX6_placeOf, Cond.code yX6_placeOf cX6_placeOf 7 (some .int), Cond.fieldLink RX6 17 "MirrorKeep$Tree" "count" "I", Cond.methodLink RX6 25 yX6_get, Cond.instanceMethod yX6_get, Cond.selects RX6 yX6_get yX6_get, Cond.code yX6_get cX6_get 2 (some (.object "MirrorKeep$Entry")), Cond.fieldLink RX6 13 "MirrorKeep$Tree" "rows" "[LMirrorKeep$Entry;", Cond.methodLink RX6 33 yX3_compare, Cond.static yX3_compare]
def wsX8_choose_r3 : List Cond := [Cond.initialized RX3, Cond.code yX3_compare cX3_compare 4 (some .int), Cond.methodLink RX3 15 Lib.Math.min.name, Cond.methodLink RX3 21 yX3_rank, Cond.static yX3_rank, Cond.code yX3_rank cX3_rank 1 (some .int), Cond.methodLink RX8 119 yX6_get]
def wsX8_choose : List Cond := .code yX8_choose cX8_choose 2 (some .int) :: ((wsX8_choose_r1 ++ (wsX8_choose_r2 ++ wsX8_choose_r3)) ++ wsX80 ++ wsX10 ++ wsX50 ++ wsX60)
def wsX8_mostBytes : List Cond := .code yX8_mostBytes cX8_mostBytes 1 (some .int) :: ([])
def wsX8_overlaid : List Cond := .code yX8_overlaid cX8_overlaid 6 (some (.array .byte)) :: ([.methodLink RX8 291 Lib.Math.max.name, .static Lib.Math.max.name, .initialized "java/lang/Math", .code Lib.Math.max.name Lib.Math.max.code 2 (some .int), .methodLink RX8 166 yJ7_copyOf_9075b, .static yJ7_copyOf_9075b, .initialized RJ7, .code yJ7_copyOf_9075b cJ7_copyOf_9075b 3 (some (.array .byte)), .methodLink RJ7 310 ⟨"[B", "clone", "()Ljava/lang/Object;"⟩, .sameMethod "[B" "java/lang/Object" "clone" "()Ljava/lang/Object;", .native ⟨"java/lang/Object", "clone", "()Ljava/lang/Object;"⟩, .instanceMethod ⟨"java/lang/Object", "clone", "()Ljava/lang/Object;"⟩, .selects "[B" ⟨"[B", "clone", "()Ljava/lang/Object;"⟩ ⟨"java/lang/Object", "clone", "()Ljava/lang/Object;"⟩, .classLink RJ7 311 "[B", .arrayClass .byte, .methodLink RJ7 304 Lib.Math.min.name, .static Lib.Math.min.name, .code Lib.Math.min.name Lib.Math.min.code 2 (some .int), .methodLink RJ7 150 arraycopyName, .native arraycopyName, .static arraycopyName, .initialized "java/lang/System"])
def wsX8_write_r1 : List Cond := [Cond.classLink RX8 65 "java/lang/IllegalStateException", Cond.initialized "java/lang/IllegalStateException", Cond.classLink RX8 92 "java/lang/IllegalArgumentException", Cond.initialized "java/lang/IllegalArgumentException", Cond.fieldLink RX8 54 "MirrorKeep" "state" "I", Cond.fieldLink RX8 10 "MirrorKeep" "tape" "LMirrorKeep$Tape;", Cond.fieldLink RX8 19 "MirrorKeep" "source" "LMirrorKeep$Tree;", Cond.fieldLink RX8 50 "MirrorKeep" "chosen" "I", Cond.fieldLink RX8 123 "MirrorKeep$Entry" "kind" "I", Cond.fieldLink RX8 128 "MirrorKeep$Entry" "content" "[B", Cond.methodLink RX8 132 Lib.MathLoose.max_long.x, Cond.static Lib.MathLoose.max_long.x, Cond.initialized "java/lang/Math", Cond.code Lib.MathLoose.max_long.x Lib.MathLoose.max_long.code 4 (some .long), Cond.constantLong RX8 144 (4000), Cond.methodLink RX8 72 yX5_take, Cond.instanceMethod yX5_take, Cond.selects RX5 yX5_take yX5_take, Cond.initialized RX5, Cond.code yX5_take cX5_take 2 (some (.array .byte)), Cond.fieldLink RX5 15 "MirrorKeep$Tape" "bytes" "[B", Cond.fieldLink RX5 19 "MirrorKeep$Tape" "count" "I", Cond.methodLink RX5 33 yJ7_copyOf_9075b, Cond.static yJ7_copyOf_9075b]
def wsX8_write_r2 : List Cond := [Cond.initialized RJ7, Cond.code yJ7_copyOf_9075b cJ7_copyOf_9075b 3 (some (.array .byte)), Cond.methodLink RJ7 310 ⟨"[B", "clone", "()Ljava/lang/Object;"⟩, Cond.sameMethod "[B" "java/lang/Object" "clone" "()Ljava/lang/Object;", Cond.native ⟨"java/lang/Object", "clone", "()Ljava/lang/Object;"⟩, Cond.instanceMethod ⟨"java/lang/Object", "clone", "()Ljava/lang/Object;"⟩, Cond.selects "[B" ⟨"[B", "clone", "()Ljava/lang/Object;"⟩ ⟨"java/lang/Object", "clone", "()Ljava/lang/Object;"⟩, Cond.classLink RJ7 311 "[B", Cond.arrayClass .byte, Cond.methodLink RJ7 304 Lib.Math.min.name, Cond.static Lib.Math.min.name, Cond.code Lib.Math.min.name Lib.Math.min.code 2 (some .int), Cond.methodLink RJ7 150 arraycopyName, Cond.native arraycopyName, Cond.static arraycopyName, Cond.initialized "java/lang/System", Cond.methodLink RX8 119 yX6_get, Cond.instanceMethod yX6_get, Cond.selects RX6 yX6_get yX6_get, Cond.initialized RX6, Cond.code yX6_get cX6_get 2 (some (.object "MirrorKeep$Entry")), Cond.fieldLink RX6 17 "MirrorKeep$Tree" "count" "I", Cond.fieldLink RX6 13 "MirrorKeep$Tree" "rows" "[LMirrorKeep$Entry;", Cond.methodLink RX8 138 yX8_mostBytes]
def wsX8_write_r3 : List Cond := [Cond.static yX8_mostBytes, Cond.initialized RX8, Cond.code yX8_mostBytes cX8_mostBytes 1 (some .int), Cond.methodLink RX8 141 yX6_contentBytes, Cond.instanceMethod yX6_contentBytes, Cond.selects RX6 yX6_contentBytes yX6_contentBytes, Cond.code yX6_contentBytes cX6_contentBytes 4 (some .int), Cond.fieldLink RX6 53 "MirrorKeep$Entry" "content" "[B", Cond.methodLink RX8 150 yX8_overlaid, Cond.static yX8_overlaid, Cond.code yX8_overlaid cX8_overlaid 6 (some (.array .byte)), Cond.methodLink RX8 291 Lib.Math.max.name, Cond.static Lib.Math.max.name, Cond.code Lib.Math.max.name Lib.Math.max.code 2 (some .int), Cond.methodLink RX8 166 yJ7_copyOf_9075b, Cond.methodLink RX8 154 yX1_withContent, Cond.instanceMethod yX1_withContent, Cond.selects RX1 yX1_withContent yX1_withContent, Cond.initialized RX1, Cond.code yX1_withContent cX1_withContent 2 (some (.object "MirrorKeep$Entry")), Cond.classLink RX1 8 RX1, Cond.instantiable RX1 5, Cond.fieldLink RX1 7 "MirrorKeep$Entry" "path" "[B", Cond.fieldLink RX1 13 "MirrorKeep$Entry" "kind" "I"]
def wsX8_write_r4 : List Cond := [Cond.fieldLink RX1 17 "MirrorKeep$Entry" "mode" "I", Cond.fieldLink RX1 20 "MirrorKeep$Entry" "time" "I", Cond.methodLink RX1 26 yX1_init, Cond.instanceMethod yX1_init, Cond.code yX1_init cX1_init 6 none, Cond.methodLink RX1 1 objectInit, Cond.instanceMethod objectInit, Cond.code objectInit ⟨#[0xb1]⟩ 1 none, Cond.fieldLink RX1 23 "MirrorKeep$Entry" "content" "[B", Cond.methodLink RX8 158 yX6_replace, Cond.instanceMethod yX6_replace, Cond.selects RX6 yX6_replace yX6_replace, Cond.code yX6_replace cX6_replace 3 none]
def wsX8_write : List Cond := .code yX8_write cX8_write 7 (some .int) :: ((wsX8_write_r1 ++ (wsX8_write_r2 ++ (wsX8_write_r3 ++ wsX8_write_r4))) ++ wsX80 ++ wsX10 ++ wsX50 ++ wsX60 ++ (vx_atS RX8 69 "java/lang/IllegalStateException" ["java/lang/RuntimeException", "java/lang/Exception"]).filter goodWord ++ (vx_atS RX8 96 "java/lang/IllegalArgumentException" ["java/lang/RuntimeException", "java/lang/Exception"]).filter goodWord)
def wsX8_cut_r1 : List Cond := [Cond.classLink RX8 65 "java/lang/IllegalStateException", Cond.initialized "java/lang/IllegalStateException", Cond.classLink RX8 92 "java/lang/IllegalArgumentException", Cond.initialized "java/lang/IllegalArgumentException", Cond.fieldLink RX8 19 "MirrorKeep" "source" "LMirrorKeep$Tree;", Cond.fieldLink RX8 50 "MirrorKeep" "chosen" "I", Cond.fieldLink RX8 54 "MirrorKeep" "state" "I", Cond.fieldLink RX8 123 "MirrorKeep$Entry" "kind" "I", Cond.fieldLink RX8 128 "MirrorKeep$Entry" "content" "[B", Cond.methodLink RX8 119 yX6_get, Cond.instanceMethod yX6_get, Cond.selects RX6 yX6_get yX6_get, Cond.initialized RX6, Cond.code yX6_get cX6_get 2 (some (.object "MirrorKeep$Entry")), Cond.fieldLink RX6 17 "MirrorKeep$Tree" "count" "I", Cond.fieldLink RX6 13 "MirrorKeep$Tree" "rows" "[LMirrorKeep$Entry;", Cond.methodLink RX8 166 yJ7_copyOf_9075b, Cond.static yJ7_copyOf_9075b, Cond.initialized RJ7, Cond.code yJ7_copyOf_9075b cJ7_copyOf_9075b 3 (some (.array .byte)), Cond.methodLink RJ7 310 ⟨"[B", "clone", "()Ljava/lang/Object;"⟩, Cond.sameMethod "[B" "java/lang/Object" "clone" "()Ljava/lang/Object;", Cond.native ⟨"java/lang/Object", "clone", "()Ljava/lang/Object;"⟩, Cond.instanceMethod ⟨"java/lang/Object", "clone", "()Ljava/lang/Object;"⟩]
def wsX8_cut_r2 : List Cond := [Cond.selects "[B" ⟨"[B", "clone", "()Ljava/lang/Object;"⟩ ⟨"java/lang/Object", "clone", "()Ljava/lang/Object;"⟩, Cond.classLink RJ7 311 "[B", Cond.arrayClass .byte, Cond.methodLink RJ7 304 Lib.Math.min.name, Cond.static Lib.Math.min.name, Cond.initialized "java/lang/Math", Cond.code Lib.Math.min.name Lib.Math.min.code 2 (some .int), Cond.methodLink RJ7 150 arraycopyName, Cond.native arraycopyName, Cond.static arraycopyName, Cond.initialized "java/lang/System", Cond.methodLink RX8 154 yX1_withContent, Cond.instanceMethod yX1_withContent, Cond.selects RX1 yX1_withContent yX1_withContent, Cond.initialized RX1, Cond.code yX1_withContent cX1_withContent 2 (some (.object "MirrorKeep$Entry")), Cond.classLink RX1 8 RX1, Cond.instantiable RX1 5, Cond.fieldLink RX1 7 "MirrorKeep$Entry" "path" "[B", Cond.fieldLink RX1 13 "MirrorKeep$Entry" "kind" "I", Cond.fieldLink RX1 17 "MirrorKeep$Entry" "mode" "I", Cond.fieldLink RX1 20 "MirrorKeep$Entry" "time" "I", Cond.methodLink RX1 26 yX1_init, Cond.instanceMethod yX1_init]
def wsX8_cut_r3 : List Cond := [Cond.code yX1_init cX1_init 6 none, Cond.methodLink RX1 1 objectInit, Cond.instanceMethod objectInit, Cond.code objectInit ⟨#[0xb1]⟩ 1 none, Cond.fieldLink RX1 23 "MirrorKeep$Entry" "content" "[B", Cond.methodLink RX8 158 yX6_replace, Cond.instanceMethod yX6_replace, Cond.selects RX6 yX6_replace yX6_replace, Cond.code yX6_replace cX6_replace 3 none]
def wsX8_cut : List Cond := .code yX8_cut cX8_cut 3 none :: ((wsX8_cut_r1 ++ (wsX8_cut_r2 ++ wsX8_cut_r3)) ++ wsX80 ++ wsX10 ++ wsX60 ++ (vx_atS RX8 69 "java/lang/IllegalStateException" ["java/lang/RuntimeException", "java/lang/Exception"]).filter goodWord ++ (vx_atS RX8 96 "java/lang/IllegalArgumentException" ["java/lang/RuntimeException", "java/lang/Exception"]).filter goodWord)
def wsX8_set_r1 : List Cond := [Cond.classLink RX8 65 "java/lang/IllegalStateException", Cond.initialized "java/lang/IllegalStateException", Cond.classLink RX8 92 "java/lang/IllegalArgumentException", Cond.initialized "java/lang/IllegalArgumentException", Cond.fieldLink RX8 19 "MirrorKeep" "source" "LMirrorKeep$Tree;", Cond.fieldLink RX8 50 "MirrorKeep" "chosen" "I", Cond.fieldLink RX8 54 "MirrorKeep" "state" "I", Cond.methodLink RX8 119 yX6_get, Cond.instanceMethod yX6_get, Cond.selects RX6 yX6_get yX6_get, Cond.initialized RX6, Cond.code yX6_get cX6_get 2 (some (.object "MirrorKeep$Entry")), Cond.fieldLink RX6 17 "MirrorKeep$Tree" "count" "I", Cond.fieldLink RX6 13 "MirrorKeep$Tree" "rows" "[LMirrorKeep$Entry;", Cond.methodLink RX8 80 yX8_isMode, Cond.static yX8_isMode, Cond.initialized RX8, Cond.code yX8_isMode cX8_isMode 1 (some .boolean), Cond.methodLink RX8 83 yX8_isTime, Cond.static yX8_isTime, Cond.code yX8_isTime cX8_isTime 1 (some .boolean), Cond.methodLink RX8 176 yX1_withModeAndTime, Cond.instanceMethod yX1_withModeAndTime, Cond.selects RX1 yX1_withModeAndTime yX1_withModeAndTime]
def wsX8_set_r2 : List Cond := [Cond.initialized RX1, Cond.code yX1_withModeAndTime cX1_withModeAndTime 3 (some (.object "MirrorKeep$Entry")), Cond.classLink RX1 8 RX1, Cond.instantiable RX1 5, Cond.fieldLink RX1 7 "MirrorKeep$Entry" "path" "[B", Cond.fieldLink RX1 13 "MirrorKeep$Entry" "kind" "I", Cond.fieldLink RX1 23 "MirrorKeep$Entry" "content" "[B", Cond.methodLink RX1 26 yX1_init, Cond.instanceMethod yX1_init, Cond.code yX1_init cX1_init 6 none, Cond.methodLink RX1 1 objectInit, Cond.instanceMethod objectInit, Cond.code objectInit ⟨#[0xb1]⟩ 1 none, Cond.fieldLink RX1 17 "MirrorKeep$Entry" "mode" "I", Cond.fieldLink RX1 20 "MirrorKeep$Entry" "time" "I", Cond.methodLink RX8 158 yX6_replace, Cond.instanceMethod yX6_replace, Cond.selects RX6 yX6_replace yX6_replace, Cond.code yX6_replace cX6_replace 3 none]
def wsX8_set : List Cond := .code yX8_set cX8_set 4 none :: ((wsX8_set_r1 ++ wsX8_set_r2) ++ wsX80 ++ wsX60 ++ wsX10 ++ (vx_atS RX8 69 "java/lang/IllegalStateException" ["java/lang/RuntimeException", "java/lang/Exception"]).filter goodWord ++ (vx_atS RX8 96 "java/lang/IllegalArgumentException" ["java/lang/RuntimeException", "java/lang/Exception"]).filter goodWord)
def wsX8_remove_r1 : List Cond := [Cond.classLink RX8 65 "java/lang/IllegalStateException", Cond.initialized "java/lang/IllegalStateException", Cond.fieldLink RX8 19 "MirrorKeep" "source" "LMirrorKeep$Tree;", Cond.fieldLink RX8 50 "MirrorKeep" "chosen" "I", Cond.fieldLink RX8 54 "MirrorKeep" "state" "I", Cond.methodLink RX8 119 yX6_get, Cond.instanceMethod yX6_get, Cond.selects RX6 yX6_get yX6_get, Cond.initialized RX6, Cond.code yX6_get cX6_get 2 (some (.object "MirrorKeep$Entry")), Cond.fieldLink RX6 17 "MirrorKeep$Tree" "count" "I", Cond.fieldLink RX6 13 "MirrorKeep$Tree" "rows" "[LMirrorKeep$Entry;", Cond.methodLink RX8 180 yX6_countBelow, Cond.instanceMethod yX6_countBelow, Cond.selects RX6 yX6_countBelow yX6_countBelow, Cond.code yX6_countBelow cX6_countBelow 6 (some .int), Cond.fieldLink RX6 29 "MirrorKeep$Entry" "path" "[B", Cond.methodLink RX6 25 yX6_get, Cond.methodLink RX6 49 yX3_isBelow, Cond.static yX3_isBelow, Cond.initialized RX3, Cond.code yX3_isBelow cX3_isBelow 3 (some .boolean), Cond.methodLink RX8 183 yX6_drop, Cond.instanceMethod yX6_drop]
def wsX8_remove_r2 : List Cond := [Cond.selects RX6 yX6_drop yX6_drop, Cond.code yX6_drop cX6_drop 4 none]
def wsX8_remove : List Cond := .code yX8_remove cX8_remove 3 (some .int) :: ((wsX8_remove_r1 ++ wsX8_remove_r2) ++ wsX80 ++ wsX60 ++ wsX10 ++ (vx_atS RX8 69 "java/lang/IllegalStateException" ["java/lang/RuntimeException", "java/lang/Exception"]).filter goodWord)
def wsX8_begin_r1 : List Cond := [Cond.classLink RX8 65 "java/lang/IllegalStateException", Cond.initialized "java/lang/IllegalStateException", Cond.classLink RX8 92 "java/lang/IllegalArgumentException", Cond.initialized "java/lang/IllegalArgumentException", Cond.fieldLink RX8 54 "MirrorKeep" "state" "I", Cond.fieldLink RX8 32 "MirrorKeep" "history" "LMirrorKeep$History;", Cond.fieldLink RX8 39 "MirrorKeep" "work" "LMirrorKeep$Work;", Cond.fieldLink RX8 23 "MirrorKeep" "mirror" "LMirrorKeep$Tree;", Cond.fieldLink RX8 19 "MirrorKeep" "source" "LMirrorKeep$Tree;", Cond.methodLink RX8 187 yX2_isFull, Cond.instanceMethod yX2_isFull, Cond.selects RX2 yX2_isFull yX2_isFull, Cond.initialized RX2, Cond.code yX2_isFull cX2_isFull 1 (some .boolean), Cond.fieldLink RX2 17 "MirrorKeep$History" "count" "I", Cond.methodLink RX8 83 yX8_isTime, Cond.static yX8_isTime, Cond.initialized RX8, Cond.code yX8_isTime cX8_isTime 1 (some .boolean), Cond.methodLink RX8 193 yX2_latestTime, Cond.instanceMethod yX2_latestTime, Cond.selects RX2 yX2_latestTime yX2_latestTime, Cond.code yX2_latestTime cX2_latestTime 2 (some .int), Cond.fieldLink RX2 25 "MirrorKeep$Session" "time" "I"]
def wsX8_begin_r2 : List Cond := [Cond.methodLink RX2 21 yX2_get, Cond.instanceMethod yX2_get, Cond.selects RX2 yX2_get yX2_get, Cond.code yX2_get cX2_get 2 (some (.object "MirrorKeep$Session")), Cond.fieldLink RX2 13 "MirrorKeep$History" "rows" "[LMirrorKeep$Session;", Cond.methodLink RX8 198 yX7_start, Cond.instanceMethod yX7_start, Cond.selects RX7 yX7_start yX7_start, Cond.initialized RX7, Cond.code yX7_start cX7_start 4 none, Cond.fieldLink RX7 10 "MirrorKeep$Work" "changes" "LMirrorKeep$Changes;", Cond.fieldLink RX7 16 "MirrorKeep$Work" "time" "I", Cond.fieldLink RX7 20 "MirrorKeep$Work" "done" "I", Cond.methodLink RX7 23 yX0_find, Cond.instanceMethod yX0_find, Cond.selects RX0 yX0_find yX0_find, Cond.initialized RX0, Cond.code yX0_find cX0_find 10 none, Cond.fieldLink RX0 20 "MirrorKeep$Changes" "count" "I", Cond.methodLink RX0 24 yX6_size, Cond.instanceMethod yX6_size, Cond.selects RX6 yX6_size yX6_size, Cond.initialized RX6, Cond.code yX6_size cX6_size 1 (some .int)]
def wsX8_begin_r3 : List Cond := [Cond.fieldLink RX6 17 "MirrorKeep$Tree" "count" "I", Cond.methodLink RX0 30 yX6_get, Cond.instanceMethod yX6_get, Cond.selects RX6 yX6_get yX6_get, Cond.code yX6_get cX6_get 2 (some (.object "MirrorKeep$Entry")), Cond.fieldLink RX6 13 "MirrorKeep$Tree" "rows" "[LMirrorKeep$Entry;", Cond.methodLink RX0 34 yX0_order, Cond.static yX0_order, Cond.code yX0_order cX0_order 2 (some .int), Cond.fieldLink RX0 46 "MirrorKeep$Entry" "path" "[B", Cond.methodLink RX0 50 yX3_compare, Cond.static yX3_compare, Cond.initialized RX3, Cond.code yX3_compare cX3_compare 4 (some .int), Cond.methodLink RX3 15 Lib.Math.min.name, Cond.static Lib.Math.min.name, Cond.initialized "java/lang/Math", Cond.code Lib.Math.min.name Lib.Math.min.code 2 (some .int), Cond.methodLink RX3 21 yX3_rank, Cond.static yX3_rank, Cond.code yX3_rank cX3_rank 1 (some .int), Cond.methodLink RX0 38 yX0_add, Cond.instanceMethod yX0_add, Cond.selects RX0 yX0_add yX0_add]
def wsX8_begin_r4 : List Cond := [Cond.code yX0_add cX0_add 3 none, Cond.fieldLink RX0 13 "MirrorKeep$Changes" "before" "[LMirrorKeep$Entry;", Cond.fieldLink RX0 17 "MirrorKeep$Changes" "after" "[LMirrorKeep$Entry;", Cond.methodLink RX0 42 yX1_isLike, Cond.instanceMethod yX1_isLike, Cond.selects RX1 yX1_isLike yX1_isLike, Cond.initialized RX1, Cond.code yX1_isLike cX1_isLike 2 (some .boolean), Cond.fieldLink RX1 13 "MirrorKeep$Entry" "kind" "I", Cond.fieldLink RX1 17 "MirrorKeep$Entry" "mode" "I", Cond.fieldLink RX1 20 "MirrorKeep$Entry" "time" "I", Cond.fieldLink RX1 23 "MirrorKeep$Entry" "content" "[B", Cond.methodLink RX1 29 yX1_hasContent, Cond.instanceMethod yX1_hasContent, Cond.selects RX1 yX1_hasContent yX1_hasContent, Cond.code yX1_hasContent cX1_hasContent 3 (some .boolean), Cond.methodLink RX8 202 yX7_operations, Cond.instanceMethod yX7_operations, Cond.selects RX7 yX7_operations yX7_operations, Cond.code yX7_operations cX7_operations 1 (some .int), Cond.methodLink RX7 27 yX0_size, Cond.instanceMethod yX0_size, Cond.selects RX0 yX0_size yX0_size, Cond.code yX0_size cX0_size 1 (some .int)]
def wsX8_begin : List Cond := .code yX8_begin cX8_begin 2 (some .int) :: ((wsX8_begin_r1 ++ (wsX8_begin_r2 ++ (wsX8_begin_r3 ++ wsX8_begin_r4))) ++ wsX80 ++ wsX20 ++ wsX40 ++ wsX70 ++ wsX00 ++ wsX60 ++ wsX10 ++ (vx_atS RX8 69 "java/lang/IllegalStateException" ["java/lang/RuntimeException", "java/lang/Exception"]).filter goodWord ++ (vx_atS RX8 96 "java/lang/IllegalArgumentException" ["java/lang/RuntimeException", "java/lang/Exception"]).filter goodWord)
def wsX8_isOperationCount : List Cond := .code yX8_isOperationCount cX8_isOperationCount 1 (some .boolean) :: ([])
def wsX8_commit_r1 : List Cond := [Cond.fieldLink RX8 32 "MirrorKeep" "history" "LMirrorKeep$History;", Cond.classLink RX8 240 RX4, Cond.instantiable RX4 3, Cond.initialized RX4, Cond.fieldLink RX8 39 "MirrorKeep" "work" "LMirrorKeep$Work;", Cond.fieldLink RX8 278 "MirrorKeep$Work" "time" "I", Cond.fieldLink RX8 279 "MirrorKeep$Work" "changes" "LMirrorKeep$Changes;", Cond.fieldLink RX8 23 "MirrorKeep" "mirror" "LMirrorKeep$Tree;", Cond.fieldLink RX8 54 "MirrorKeep" "state" "I", Cond.methodLink RX8 255 yX0_size, Cond.instanceMethod yX0_size, Cond.selects RX0 yX0_size yX0_size, Cond.initialized RX0, Cond.code yX0_size cX0_size 1 (some .int), Cond.fieldLink RX0 20 "MirrorKeep$Changes" "count" "I", Cond.methodLink RX8 281 yX4_init, Cond.instanceMethod yX4_init, Cond.code yX4_init cX4_init 4 none, Cond.methodLink RX4 1 objectInit, Cond.instanceMethod objectInit, Cond.code objectInit ⟨#[0xb1]⟩ 1 none, Cond.fieldLink RX4 7 "MirrorKeep$Session" "time" "I", Cond.fieldLink RX4 13 "MirrorKeep$Session" "changes" "I", Cond.classLink RX4 16 RX6]
def wsX8_commit_r2 : List Cond := [Cond.instantiable RX6 2, Cond.initialized RX6, Cond.fieldLink RX4 19 "MirrorKeep$Session" "tree" "LMirrorKeep$Tree;", Cond.instanceMethod yX6_init, Cond.code yX6_init cX6_init 1 none, Cond.methodLink RX6 3 objectInit, Cond.classLink RX6 11 RX1, Cond.fieldLink RX6 13 "MirrorKeep$Tree" "rows" "[LMirrorKeep$Entry;", Cond.fieldLink RX6 17 "MirrorKeep$Tree" "count" "I", Cond.methodLink RX4 23 yX6_copyFrom, Cond.instanceMethod yX6_copyFrom, Cond.selects RX6 yX6_copyFrom yX6_copyFrom, Cond.code yX6_copyFrom cX6_copyFrom 3 none, Cond.methodLink RX8 284 yX2_add, Cond.instanceMethod yX2_add, Cond.selects RX2 yX2_add yX2_add, Cond.initialized RX2, Cond.code yX2_add cX2_add 2 none, Cond.fieldLink RX2 17 "MirrorKeep$History" "count" "I", Cond.fieldLink RX2 13 "MirrorKeep$History" "rows" "[LMirrorKeep$Session;"]
def wsX8_commit : List Cond := .code yX8_commit cX8_commit 1 none :: ((wsX8_commit_r1 ++ wsX8_commit_r2) ++ wsX80 ++ wsX40 ++ wsX70 ++ wsX00 ++ wsX60 ++ wsX20)
def wsX8_step_r1 : List Cond := [Cond.classLink RX8 65 "java/lang/IllegalStateException", Cond.initialized "java/lang/IllegalStateException", Cond.classLink RX8 92 "java/lang/IllegalArgumentException", Cond.initialized "java/lang/IllegalArgumentException", Cond.fieldLink RX8 54 "MirrorKeep" "state" "I", Cond.fieldLink RX8 39 "MirrorKeep" "work" "LMirrorKeep$Work;", Cond.fieldLink RX8 212 "MirrorKeep$Work" "done" "I", Cond.methodLink RX8 215 Lib.Math.min.name, Cond.static Lib.Math.min.name, Cond.initialized "java/lang/Math", Cond.code Lib.Math.min.name Lib.Math.min.code 2 (some .int), Cond.fieldLink RX8 23 "MirrorKeep" "mirror" "LMirrorKeep$Tree;", Cond.methodLink RX8 207 yX8_isOperationCount, Cond.static yX8_isOperationCount, Cond.initialized RX8, Cond.code yX8_isOperationCount cX8_isOperationCount 1 (some .boolean), Cond.methodLink RX8 202 yX7_operations, Cond.instanceMethod yX7_operations, Cond.selects RX7 yX7_operations yX7_operations, Cond.initialized RX7, Cond.code yX7_operations cX7_operations 1 (some .int), Cond.fieldLink RX7 10 "MirrorKeep$Work" "changes" "LMirrorKeep$Changes;", Cond.methodLink RX7 27 yX0_size, Cond.instanceMethod yX0_size]
def wsX8_step_r2 : List Cond := [Cond.selects RX0 yX0_size yX0_size, Cond.initialized RX0, Cond.code yX0_size cX0_size 1 (some .int), Cond.fieldLink RX0 20 "MirrorKeep$Changes" "count" "I", Cond.methodLink RX8 219 yX7_doNext, Cond.instanceMethod yX7_doNext, Cond.selects RX7 yX7_doNext yX7_doNext, Cond.code yX7_doNext cX7_doNext 2 none, Cond.fieldLink RX7 20 "MirrorKeep$Work" "done" "I", Cond.methodLink RX7 37 yX7_isUpdate, Cond.instanceMethod yX7_isUpdate, Cond.selects RX7 yX7_isUpdate yX7_isUpdate, Cond.code yX7_isUpdate cX7_isUpdate 2 (some .boolean), Cond.methodLink RX7 41 yX7_changeOf, Cond.static yX7_changeOf, Cond.code yX7_changeOf cX7_changeOf 1 (some .int), Cond.methodLink RX7 45 yX0_apply, Cond.instanceMethod yX0_apply, Cond.selects RX0 yX0_apply yX0_apply, Cond.code yX0_apply cX0_apply 3 none, Cond.fieldLink RX0 13 "MirrorKeep$Changes" "before" "[LMirrorKeep$Entry;", Cond.fieldLink RX0 17 "MirrorKeep$Changes" "after" "[LMirrorKeep$Entry;", Cond.methodLink RX0 56 yX0_exchange, Cond.static yX0_exchange]
def wsX8_step_r3 : List Cond := [Cond.code yX0_exchange cX0_exchange 3 none, Cond.fieldLink RX0 46 "MirrorKeep$Entry" "path" "[B", Cond.methodLink RX0 60 yX6_put, Cond.instanceMethod yX6_put, Cond.selects RX6 yX6_put yX6_put, Cond.initialized RX6, Cond.code yX6_put cX6_put 3 none, Cond.fieldLink RX6 29 "MirrorKeep$Entry" "path" "[B", Cond.methodLink RX6 39 yX6_find, Cond.instanceMethod yX6_find, Cond.selects RX6 yX6_find yX6_find, Cond.code yX6_find cX6_find 4 (some .int), Cond.methodLink RX6 21 yX6_placeOf, Cond.instanceMethod yX6_placeOf, Cond.selects RX6 yX6_placeOf yX6_placeOf, Cond.code yX6_placeOf cX6_placeOf 7 (some .int), Cond.fieldLink RX6 17 "MirrorKeep$Tree" "count" "I", Cond.methodLink RX6 25 yX6_get, Cond.instanceMethod yX6_get, Cond.selects RX6 yX6_get yX6_get, Cond.code yX6_get cX6_get 2 (some (.object "MirrorKeep$Entry")), Cond.fieldLink RX6 13 "MirrorKeep$Tree" "rows" "[LMirrorKeep$Entry;", Cond.methodLink RX6 33 yX3_compare, Cond.static yX3_compare]
def wsX8_step_r4 : List Cond := [Cond.initialized RX3, Cond.code yX3_compare cX3_compare 4 (some .int), Cond.methodLink RX3 15 Lib.Math.min.name, Cond.methodLink RX3 21 yX3_rank, Cond.static yX3_rank, Cond.code yX3_rank cX3_rank 1 (some .int), Cond.methodLink RX6 42 yX6_insert, Cond.instanceMethod yX6_insert, Cond.selects RX6 yX6_insert yX6_insert, Cond.code yX6_insert cX6_insert 4 none, Cond.methodLink RX6 46 yX6_replace, Cond.instanceMethod yX6_replace, Cond.selects RX6 yX6_replace yX6_replace, Cond.code yX6_replace cX6_replace 3 none, Cond.methodLink RX0 64 yX6_find, Cond.methodLink RX0 68 yX6_drop, Cond.instanceMethod yX6_drop, Cond.selects RX6 yX6_drop yX6_drop, Cond.code yX6_drop cX6_drop 4 none, Cond.methodLink RX8 223 yX8_commit, Cond.instanceMethod yX8_commit, Cond.selects RX8 yX8_commit yX8_commit, Cond.code yX8_commit cX8_commit 1 none, Cond.fieldLink RX8 32 "MirrorKeep" "history" "LMirrorKeep$History;"]
def wsX8_step_r5 : List Cond := [Cond.classLink RX8 240 RX4, Cond.instantiable RX4 3, Cond.initialized RX4, Cond.fieldLink RX8 278 "MirrorKeep$Work" "time" "I", Cond.fieldLink RX8 279 "MirrorKeep$Work" "changes" "LMirrorKeep$Changes;", Cond.methodLink RX8 255 yX0_size, Cond.methodLink RX8 281 yX4_init, Cond.instanceMethod yX4_init, Cond.code yX4_init cX4_init 4 none, Cond.methodLink RX4 1 objectInit, Cond.instanceMethod objectInit, Cond.code objectInit ⟨#[0xb1]⟩ 1 none, Cond.fieldLink RX4 7 "MirrorKeep$Session" "time" "I", Cond.fieldLink RX4 13 "MirrorKeep$Session" "changes" "I", Cond.classLink RX4 16 RX6, Cond.instantiable RX6 2, Cond.fieldLink RX4 19 "MirrorKeep$Session" "tree" "LMirrorKeep$Tree;", Cond.instanceMethod yX6_init, Cond.code yX6_init cX6_init 1 none, Cond.methodLink RX6 3 objectInit, Cond.classLink RX6 11 RX1, Cond.methodLink RX4 23 yX6_copyFrom, Cond.instanceMethod yX6_copyFrom, Cond.selects RX6 yX6_copyFrom yX6_copyFrom]
def wsX8_step_r6 : List Cond := [Cond.code yX6_copyFrom cX6_copyFrom 3 none, Cond.methodLink RX8 284 yX2_add, Cond.instanceMethod yX2_add, Cond.selects RX2 yX2_add yX2_add, Cond.initialized RX2, Cond.code yX2_add cX2_add 2 none, Cond.fieldLink RX2 17 "MirrorKeep$History" "count" "I", Cond.fieldLink RX2 13 "MirrorKeep$History" "rows" "[LMirrorKeep$Session;"]
def wsX8_step : List Cond := .code yX8_step cX8_step 4 (some .int) :: ((wsX8_step_r1 ++ (wsX8_step_r2 ++ (wsX8_step_r3 ++ (wsX8_step_r4 ++ (wsX8_step_r5 ++ wsX8_step_r6))))) ++ wsX80 ++ wsX70 ++ wsX00 ++ wsX10 ++ wsX60 ++ wsX40 ++ wsX20 ++ (vx_atS RX8 69 "java/lang/IllegalStateException" ["java/lang/RuntimeException", "java/lang/Exception"]).filter goodWord ++ (vx_atS RX8 96 "java/lang/IllegalArgumentException" ["java/lang/RuntimeException", "java/lang/Exception"]).filter goodWord)
def wsX8_crash : List Cond := .code yX8_crash cX8_crash 1 none :: ([.classLink RX8 65 "java/lang/IllegalStateException", .initialized "java/lang/IllegalStateException", .fieldLink RX8 54 "MirrorKeep" "state" "I"] ++ wsX80 ++ (vx_atS RX8 69 "java/lang/IllegalStateException" ["java/lang/RuntimeException", "java/lang/Exception"]).filter goodWord)
def wsX8_regress_r1 : List Cond := [Cond.classLink RX8 65 "java/lang/IllegalStateException", Cond.initialized "java/lang/IllegalStateException", Cond.classLink RX8 92 "java/lang/IllegalArgumentException", Cond.initialized "java/lang/IllegalArgumentException", Cond.fieldLink RX8 54 "MirrorKeep" "state" "I", Cond.fieldLink RX8 39 "MirrorKeep" "work" "LMirrorKeep$Work;", Cond.fieldLink RX8 212 "MirrorKeep$Work" "done" "I", Cond.methodLink RX8 215 Lib.Math.min.name, Cond.static Lib.Math.min.name, Cond.initialized "java/lang/Math", Cond.code Lib.Math.min.name Lib.Math.min.code 2 (some .int), Cond.fieldLink RX8 23 "MirrorKeep" "mirror" "LMirrorKeep$Tree;", Cond.methodLink RX8 207 yX8_isOperationCount, Cond.static yX8_isOperationCount, Cond.initialized RX8, Cond.code yX8_isOperationCount cX8_isOperationCount 1 (some .boolean), Cond.methodLink RX8 228 yX7_takeBackLast, Cond.instanceMethod yX7_takeBackLast, Cond.selects RX7 yX7_takeBackLast yX7_takeBackLast, Cond.initialized RX7, Cond.code yX7_takeBackLast cX7_takeBackLast 2 none, Cond.fieldLink RX7 20 "MirrorKeep$Work" "done" "I", Cond.fieldLink RX7 10 "MirrorKeep$Work" "changes" "LMirrorKeep$Changes;", Cond.methodLink RX7 37 yX7_isUpdate]
def wsX8_regress_r2 : List Cond := [Cond.instanceMethod yX7_isUpdate, Cond.selects RX7 yX7_isUpdate yX7_isUpdate, Cond.code yX7_isUpdate cX7_isUpdate 2 (some .boolean), Cond.methodLink RX7 27 yX0_size, Cond.instanceMethod yX0_size, Cond.selects RX0 yX0_size yX0_size, Cond.initialized RX0, Cond.code yX0_size cX0_size 1 (some .int), Cond.fieldLink RX0 20 "MirrorKeep$Changes" "count" "I", Cond.methodLink RX7 41 yX7_changeOf, Cond.static yX7_changeOf, Cond.code yX7_changeOf cX7_changeOf 1 (some .int), Cond.methodLink RX7 49 yX0_takeBack, Cond.instanceMethod yX0_takeBack, Cond.selects RX0 yX0_takeBack yX0_takeBack, Cond.code yX0_takeBack cX0_takeBack 3 none, Cond.fieldLink RX0 17 "MirrorKeep$Changes" "after" "[LMirrorKeep$Entry;", Cond.fieldLink RX0 13 "MirrorKeep$Changes" "before" "[LMirrorKeep$Entry;", Cond.methodLink RX0 56 yX0_exchange, Cond.static yX0_exchange, Cond.code yX0_exchange cX0_exchange 3 none, Cond.fieldLink RX0 46 "MirrorKeep$Entry" "path" "[B", Cond.methodLink RX0 60 yX6_put, Cond.instanceMethod yX6_put]
def wsX8_regress_r3 : List Cond := [Cond.selects RX6 yX6_put yX6_put, Cond.initialized RX6, Cond.code yX6_put cX6_put 3 none, Cond.fieldLink RX6 29 "MirrorKeep$Entry" "path" "[B", Cond.methodLink RX6 39 yX6_find, Cond.instanceMethod yX6_find, Cond.selects RX6 yX6_find yX6_find, Cond.code yX6_find cX6_find 4 (some .int), Cond.methodLink RX6 21 yX6_placeOf, Cond.instanceMethod yX6_placeOf, Cond.selects RX6 yX6_placeOf yX6_placeOf, Cond.code yX6_placeOf cX6_placeOf 7 (some .int), Cond.fieldLink RX6 17 "MirrorKeep$Tree" "count" "I", Cond.methodLink RX6 25 yX6_get, Cond.instanceMethod yX6_get, Cond.selects RX6 yX6_get yX6_get, Cond.code yX6_get cX6_get 2 (some (.object "MirrorKeep$Entry")), Cond.fieldLink RX6 13 "MirrorKeep$Tree" "rows" "[LMirrorKeep$Entry;", Cond.methodLink RX6 33 yX3_compare, Cond.static yX3_compare, Cond.initialized RX3, Cond.code yX3_compare cX3_compare 4 (some .int), Cond.methodLink RX3 15 Lib.Math.min.name, Cond.methodLink RX3 21 yX3_rank]
def wsX8_regress_r4 : List Cond := [Cond.static yX3_rank, Cond.code yX3_rank cX3_rank 1 (some .int), Cond.methodLink RX6 42 yX6_insert, Cond.instanceMethod yX6_insert, Cond.selects RX6 yX6_insert yX6_insert, Cond.code yX6_insert cX6_insert 4 none, Cond.methodLink RX6 46 yX6_replace, Cond.instanceMethod yX6_replace, Cond.selects RX6 yX6_replace yX6_replace, Cond.code yX6_replace cX6_replace 3 none, Cond.methodLink RX0 64 yX6_find, Cond.methodLink RX0 68 yX6_drop, Cond.instanceMethod yX6_drop, Cond.selects RX6 yX6_drop yX6_drop, Cond.code yX6_drop cX6_drop 4 none]
def wsX8_regress : List Cond := .code yX8_regress cX8_regress 4 (some .int) :: ((wsX8_regress_r1 ++ (wsX8_regress_r2 ++ (wsX8_regress_r3 ++ wsX8_regress_r4))) ++ wsX80 ++ wsX70 ++ wsX00 ++ wsX10 ++ wsX60 ++ (vx_atS RX8 69 "java/lang/IllegalStateException" ["java/lang/RuntimeException", "java/lang/Exception"]).filter goodWord ++ (vx_atS RX8 96 "java/lang/IllegalArgumentException" ["java/lang/RuntimeException", "java/lang/Exception"]).filter goodWord)
def wsX8_restore_r1 : List Cond := [Cond.classLink RX8 65 "java/lang/IllegalStateException", Cond.initialized "java/lang/IllegalStateException", Cond.fieldLink RX8 32 "MirrorKeep" "history" "LMirrorKeep$History;", Cond.fieldLink RX8 54 "MirrorKeep" "state" "I", Cond.fieldLink RX8 26 "MirrorKeep" "result" "LMirrorKeep$Tree;", Cond.fieldLink RX8 239 "MirrorKeep$Session" "tree" "LMirrorKeep$Tree;", Cond.methodLink RX8 231 yX2_findAsOf, Cond.instanceMethod yX2_findAsOf, Cond.selects RX2 yX2_findAsOf yX2_findAsOf, Cond.initialized RX2, Cond.code yX2_findAsOf cX2_findAsOf 4 (some .int), Cond.fieldLink RX2 17 "MirrorKeep$History" "count" "I", Cond.fieldLink RX2 13 "MirrorKeep$History" "rows" "[LMirrorKeep$Session;", Cond.fieldLink RX2 25 "MirrorKeep$Session" "time" "I", Cond.methodLink RX8 234 yX2_get, Cond.instanceMethod yX2_get, Cond.selects RX2 yX2_get yX2_get, Cond.code yX2_get cX2_get 2 (some (.object "MirrorKeep$Session")), Cond.methodLink RX8 244 yX6_copyFrom, Cond.instanceMethod yX6_copyFrom, Cond.selects RX6 yX6_copyFrom yX6_copyFrom, Cond.initialized RX6, Cond.code yX6_copyFrom cX6_copyFrom 3 none, Cond.fieldLink RX6 17 "MirrorKeep$Tree" "count" "I"]
def wsX8_restore_r2 : List Cond := [Cond.fieldLink RX6 13 "MirrorKeep$Tree" "rows" "[LMirrorKeep$Entry;", Cond.methodLink RX8 104 yX6_size, Cond.instanceMethod yX6_size, Cond.selects RX6 yX6_size yX6_size, Cond.code yX6_size cX6_size 1 (some .int)]
def wsX8_restore : List Cond := .code yX8_restore cX8_restore 3 (some .int) :: ((wsX8_restore_r1 ++ wsX8_restore_r2) ++ wsX80 ++ wsX40 ++ wsX20 ++ wsX60 ++ (vx_atS RX8 69 "java/lang/IllegalStateException" ["java/lang/RuntimeException", "java/lang/Exception"]).filter goodWord)
def wsX8_prune : List Cond := .code yX8_prune cX8_prune 2 (some .int) :: ([.classLink RX8 65 "java/lang/IllegalStateException", .initialized "java/lang/IllegalStateException", .fieldLink RX8 54 "MirrorKeep" "state" "I", .fieldLink RX8 32 "MirrorKeep" "history" "LMirrorKeep$History;", .methodLink RX8 231 yX2_findAsOf, .instanceMethod yX2_findAsOf, .selects RX2 yX2_findAsOf yX2_findAsOf, .initialized RX2, .code yX2_findAsOf cX2_findAsOf 4 (some .int), .fieldLink RX2 17 "MirrorKeep$History" "count" "I", .fieldLink RX2 13 "MirrorKeep$History" "rows" "[LMirrorKeep$Session;", .fieldLink RX2 25 "MirrorKeep$Session" "time" "I", .methodLink RX8 249 yX2_forgetAheadOf, .instanceMethod yX2_forgetAheadOf, .selects RX2 yX2_forgetAheadOf yX2_forgetAheadOf, .code yX2_forgetAheadOf cX2_forgetAheadOf 3 (some .int)] ++ wsX80 ++ wsX20 ++ wsX40 ++ (vx_atS RX8 69 "java/lang/IllegalStateException" ["java/lang/RuntimeException", "java/lang/Exception"]).filter goodWord)
def wsX8_differ_r1 : List Cond := [Cond.fieldLink RX8 46 "MirrorKeep" "compared" "LMirrorKeep$Changes;", Cond.fieldLink RX8 23 "MirrorKeep" "mirror" "LMirrorKeep$Tree;", Cond.fieldLink RX8 19 "MirrorKeep" "source" "LMirrorKeep$Tree;", Cond.methodLink RX8 252 yX0_find, Cond.instanceMethod yX0_find, Cond.selects RX0 yX0_find yX0_find, Cond.initialized RX0, Cond.code yX0_find cX0_find 10 none, Cond.fieldLink RX0 20 "MirrorKeep$Changes" "count" "I", Cond.methodLink RX0 24 yX6_size, Cond.instanceMethod yX6_size, Cond.selects RX6 yX6_size yX6_size, Cond.initialized RX6, Cond.code yX6_size cX6_size 1 (some .int), Cond.fieldLink RX6 17 "MirrorKeep$Tree" "count" "I", Cond.methodLink RX0 30 yX6_get, Cond.instanceMethod yX6_get, Cond.selects RX6 yX6_get yX6_get, Cond.code yX6_get cX6_get 2 (some (.object "MirrorKeep$Entry")), Cond.fieldLink RX6 13 "MirrorKeep$Tree" "rows" "[LMirrorKeep$Entry;", Cond.methodLink RX0 34 yX0_order, Cond.static yX0_order, Cond.code yX0_order cX0_order 2 (some .int), Cond.fieldLink RX0 46 "MirrorKeep$Entry" "path" "[B"]
def wsX8_differ_r2 : List Cond := [Cond.methodLink RX0 50 yX3_compare, Cond.static yX3_compare, Cond.initialized RX3, Cond.code yX3_compare cX3_compare 4 (some .int), Cond.methodLink RX3 15 Lib.Math.min.name, Cond.static Lib.Math.min.name, Cond.initialized "java/lang/Math", Cond.code Lib.Math.min.name Lib.Math.min.code 2 (some .int), Cond.methodLink RX3 21 yX3_rank, Cond.static yX3_rank, Cond.code yX3_rank cX3_rank 1 (some .int), Cond.methodLink RX0 38 yX0_add, Cond.instanceMethod yX0_add, Cond.selects RX0 yX0_add yX0_add, Cond.code yX0_add cX0_add 3 none, Cond.fieldLink RX0 13 "MirrorKeep$Changes" "before" "[LMirrorKeep$Entry;", Cond.fieldLink RX0 17 "MirrorKeep$Changes" "after" "[LMirrorKeep$Entry;", Cond.methodLink RX0 42 yX1_isLike, Cond.instanceMethod yX1_isLike, Cond.selects RX1 yX1_isLike yX1_isLike, Cond.initialized RX1, Cond.code yX1_isLike cX1_isLike 2 (some .boolean), Cond.fieldLink RX1 13 "MirrorKeep$Entry" "kind" "I", Cond.fieldLink RX1 17 "MirrorKeep$Entry" "mode" "I"]
def wsX8_differ_r3 : List Cond := [Cond.fieldLink RX1 20 "MirrorKeep$Entry" "time" "I", Cond.fieldLink RX1 23 "MirrorKeep$Entry" "content" "[B", Cond.methodLink RX1 29 yX1_hasContent, Cond.instanceMethod yX1_hasContent, Cond.selects RX1 yX1_hasContent yX1_hasContent, Cond.code yX1_hasContent cX1_hasContent 3 (some .boolean), Cond.methodLink RX8 255 yX0_size, Cond.instanceMethod yX0_size, Cond.selects RX0 yX0_size yX0_size, Cond.code yX0_size cX0_size 1 (some .int)]
def wsX8_differ : List Cond := .code yX8_differ cX8_differ 1 (some .int) :: ((wsX8_differ_r1 ++ (wsX8_differ_r2 ++ wsX8_differ_r3)) ++ wsX80 ++ wsX00 ++ wsX60 ++ wsX10)
def wsX8_entryOf : List Cond := .code yX8_entryOf cX8_entryOf 3 (some (.object "MirrorKeep$Entry")) :: ([.fieldLink RX8 19 "MirrorKeep" "source" "LMirrorKeep$Tree;", .fieldLink RX8 23 "MirrorKeep" "mirror" "LMirrorKeep$Tree;", .fieldLink RX8 26 "MirrorKeep" "result" "LMirrorKeep$Tree;", .methodLink RX8 119 yX6_get, .instanceMethod yX6_get, .selects RX6 yX6_get yX6_get, .initialized RX6, .code yX6_get cX6_get 2 (some (.object "MirrorKeep$Entry")), .fieldLink RX6 17 "MirrorKeep$Tree" "count" "I", .fieldLink RX6 13 "MirrorKeep$Tree" "rows" "[LMirrorKeep$Entry;"] ++ wsX80 ++ wsX60)
def wsX8_entry : List Cond := .code yX8_entry cX8_entry 5 (some .int) :: ([.fieldLink RX8 123 "MirrorKeep$Entry" "kind" "I", .fieldLink RX8 259 "MirrorKeep$Entry" "mode" "I", .fieldLink RX8 262 "MirrorKeep$Entry" "time" "I", .fieldLink RX8 128 "MirrorKeep$Entry" "content" "[B", .fieldLink RX8 265 "MirrorKeep$Entry" "path" "[B", .methodLink RX8 256 yX8_entryOf, .instanceMethod yX8_entryOf, .selects RX8 yX8_entryOf yX8_entryOf, .initialized RX8, .code yX8_entryOf cX8_entryOf 3 (some (.object "MirrorKeep$Entry")), .fieldLink RX8 19 "MirrorKeep" "source" "LMirrorKeep$Tree;", .fieldLink RX8 23 "MirrorKeep" "mirror" "LMirrorKeep$Tree;", .fieldLink RX8 26 "MirrorKeep" "result" "LMirrorKeep$Tree;", .methodLink RX8 119 yX6_get, .instanceMethod yX6_get, .selects RX6 yX6_get yX6_get, .initialized RX6, .code yX6_get cX6_get 2 (some (.object "MirrorKeep$Entry")), .fieldLink RX6 17 "MirrorKeep$Tree" "count" "I", .fieldLink RX6 13 "MirrorKeep$Tree" "rows" "[LMirrorKeep$Entry;"] ++ wsX10 ++ wsX80 ++ wsX60)
def wsX8_at : List Cond := .code yX8_at cX8_at 7 (some .int) :: ([.fieldLink RX8 265 "MirrorKeep$Entry" "path" "[B", .fieldLink RX8 128 "MirrorKeep$Entry" "content" "[B", .methodLink RX8 256 yX8_entryOf, .instanceMethod yX8_entryOf, .selects RX8 yX8_entryOf yX8_entryOf, .initialized RX8, .code yX8_entryOf cX8_entryOf 3 (some (.object "MirrorKeep$Entry")), .fieldLink RX8 19 "MirrorKeep" "source" "LMirrorKeep$Tree;", .fieldLink RX8 23 "MirrorKeep" "mirror" "LMirrorKeep$Tree;", .fieldLink RX8 26 "MirrorKeep" "result" "LMirrorKeep$Tree;", .methodLink RX8 119 yX6_get, .instanceMethod yX6_get, .selects RX6 yX6_get yX6_get, .initialized RX6, .code yX6_get cX6_get 2 (some (.object "MirrorKeep$Entry")), .fieldLink RX6 17 "MirrorKeep$Tree" "count" "I", .fieldLink RX6 13 "MirrorKeep$Tree" "rows" "[LMirrorKeep$Entry;"] ++ wsX10 ++ wsX80 ++ wsX60)
def wsX8_about_r1 : List Cond := [Cond.fieldLink RX8 54 "MirrorKeep" "state" "I", Cond.fieldLink RX8 32 "MirrorKeep" "history" "LMirrorKeep$History;", Cond.fieldLink RX8 39 "MirrorKeep" "work" "LMirrorKeep$Work;", Cond.fieldLink RX8 212 "MirrorKeep$Work" "done" "I", Cond.fieldLink RX8 19 "MirrorKeep" "source" "LMirrorKeep$Tree;", Cond.fieldLink RX8 23 "MirrorKeep" "mirror" "LMirrorKeep$Tree;", Cond.fieldLink RX8 26 "MirrorKeep" "result" "LMirrorKeep$Tree;", Cond.fieldLink RX8 10 "MirrorKeep" "tape" "LMirrorKeep$Tape;", Cond.methodLink RX8 268 yX2_size, Cond.instanceMethod yX2_size, Cond.selects RX2 yX2_size yX2_size, Cond.initialized RX2, Cond.code yX2_size cX2_size 1 (some .int), Cond.fieldLink RX2 17 "MirrorKeep$History" "count" "I", Cond.methodLink RX8 104 yX6_size, Cond.instanceMethod yX6_size, Cond.selects RX6 yX6_size yX6_size, Cond.initialized RX6, Cond.code yX6_size cX6_size 1 (some .int), Cond.fieldLink RX6 17 "MirrorKeep$Tree" "count" "I", Cond.methodLink RX8 141 yX6_contentBytes, Cond.instanceMethod yX6_contentBytes, Cond.selects RX6 yX6_contentBytes yX6_contentBytes, Cond.code yX6_contentBytes cX6_contentBytes 4 (some .int)]
def wsX8_about_r2 : List Cond := [Cond.fieldLink RX6 13 "MirrorKeep$Tree" "rows" "[LMirrorKeep$Entry;", Cond.fieldLink RX6 53 "MirrorKeep$Entry" "content" "[B", Cond.methodLink RX8 269 yX2_increments, Cond.instanceMethod yX2_increments, Cond.selects RX2 yX2_increments yX2_increments, Cond.code yX2_increments cX2_increments 4 (some .int), Cond.fieldLink RX2 13 "MirrorKeep$History" "rows" "[LMirrorKeep$Session;", Cond.fieldLink RX2 28 "MirrorKeep$Session" "changes" "I", Cond.methodLink RX8 272 yX7_increments, Cond.instanceMethod yX7_increments, Cond.selects RX7 yX7_increments yX7_increments, Cond.initialized RX7, Cond.code yX7_increments cX7_increments 1 (some .int), Cond.fieldLink RX7 10 "MirrorKeep$Work" "changes" "LMirrorKeep$Changes;", Cond.fieldLink RX7 20 "MirrorKeep$Work" "done" "I", Cond.methodLink RX7 31 Lib.Math.min.name, Cond.static Lib.Math.min.name, Cond.initialized "java/lang/Math", Cond.code Lib.Math.min.name Lib.Math.min.code 2 (some .int), Cond.methodLink RX7 27 yX0_size, Cond.instanceMethod yX0_size, Cond.selects RX0 yX0_size yX0_size, Cond.initialized RX0, Cond.code yX0_size cX0_size 1 (some .int)]
def wsX8_about_r3 : List Cond := [Cond.fieldLink RX0 20 "MirrorKeep$Changes" "count" "I", Cond.methodLink RX8 273 yX5_size, Cond.instanceMethod yX5_size, Cond.selects RX5 yX5_size yX5_size, Cond.initialized RX5, Cond.code yX5_size cX5_size 1 (some .int), Cond.fieldLink RX5 19 "MirrorKeep$Tape" "count" "I"]
def wsX8_about : List Cond := .code yX8_about cX8_about 2 (some .int) :: ((wsX8_about_r1 ++ (wsX8_about_r2 ++ wsX8_about_r3)) ++ wsX80 ++ wsX70 ++ wsX20 ++ wsX60 ++ wsX10 ++ wsX40 ++ wsX00 ++ wsX50)
def wsX8_session : List Cond := .code yX8_session cX8_session 4 (some .int) :: ([.fieldLink RX8 32 "MirrorKeep" "history" "LMirrorKeep$History;", .fieldLink RX8 274 "MirrorKeep$Session" "time" "I", .fieldLink RX8 275 "MirrorKeep$Session" "changes" "I", .methodLink RX8 234 yX2_get, .instanceMethod yX2_get, .selects RX2 yX2_get yX2_get, .initialized RX2, .code yX2_get cX2_get 2 (some (.object "MirrorKeep$Session")), .fieldLink RX2 17 "MirrorKeep$History" "count" "I", .fieldLink RX2 13 "MirrorKeep$History" "rows" "[LMirrorKeep$Session;"] ++ wsX80 ++ wsX40 ++ wsX20)
def wsX9_init : List Cond := .code yX9_init cX9_init 1 none :: ([.methodLink RX9 1 objectInit, .instanceMethod objectInit, .code objectInit ⟨#[0xb1]⟩ 1 none, .arrayClass .int, .fieldLink RX9 7 "MirrorKeepModel" "many" "[I", .fieldLink RX9 13 "MirrorKeepModel" "bytes" "[I", .fieldLink RX9 16 "MirrorKeepModel" "kinds" "[I", .fieldLink RX9 19 "MirrorKeepModel" "modes" "[I", .fieldLink RX9 22 "MirrorKeepModel" "times" "[I", .fieldLink RX9 25 "MirrorKeepModel" "paths" "[I", .fieldLink RX9 28 "MirrorKeepModel" "contentAt" "[I", .fieldLink RX9 31 "MirrorKeepModel" "contents" "[I", .constant RX9 34 (828000), .fieldLink RX9 35 "MirrorKeepModel" "path" "[I", .constant RX9 38 (368000), .fieldLink RX9 39 "MirrorKeepModel" "content" "[I", .fieldLink RX9 42 "MirrorKeepModel" "ready" "[I", .fieldLink RX9 45 "MirrorKeepModel" "tape" "[I", .fieldLink RX9 48 "MirrorKeepModel" "sessionTime" "[I", .fieldLink RX9 51 "MirrorKeepModel" "sessionChanges" "[I", .fieldLink RX9 54 "MirrorKeepModel" "chosen" "[I"] ++ wsX90)
def wsX9_thrown : List Cond := .code yX9_thrown cX9_thrown 1 (some .int) :: ([.fieldLink RX9 57 "MirrorKeepModel" "thrown" "I"] ++ wsX90)
def wsX9_feed : List Cond := .code yX9_feed cX9_feed 8 none :: ([.fieldLink RX9 57 "MirrorKeepModel" "thrown" "I", .fieldLink RX9 42 "MirrorKeepModel" "ready" "[I"] ++ wsX90)
def wsX9_end : List Cond := .code yX9_end cX9_end 3 (some .int) :: ([.fieldLink RX9 57 "MirrorKeepModel" "thrown" "I", .fieldLink RX9 61 "MirrorKeepModel" "taped" "I", .fieldLink RX9 45 "MirrorKeepModel" "tape" "[I", .fieldLink RX9 42 "MirrorKeepModel" "ready" "[I"] ++ wsX90)
def wsX9_place : List Cond := .code yX9_place cX9_place 2 (some .int) :: ([])
def wsX9_append : List Cond := .code yX9_append cX9_append 7 none :: ([.fieldLink RX9 7 "MirrorKeepModel" "many" "[I", .fieldLink RX9 16 "MirrorKeepModel" "kinds" "[I", .fieldLink RX9 19 "MirrorKeepModel" "modes" "[I", .fieldLink RX9 22 "MirrorKeepModel" "times" "[I", .fieldLink RX9 25 "MirrorKeepModel" "paths" "[I", .fieldLink RX9 35 "MirrorKeepModel" "path" "[I", .fieldLink RX9 31 "MirrorKeepModel" "contents" "[I", .fieldLink RX9 28 "MirrorKeepModel" "contentAt" "[I", .fieldLink RX9 13 "MirrorKeepModel" "bytes" "[I", .fieldLink RX9 39 "MirrorKeepModel" "content" "[I", .methodLink RX9 64 yX9_place, .static yX9_place, .initialized RX9, .code yX9_place cX9_place 2 (some .int)] ++ wsX90)
def wsX9_empty : List Cond := .code yX9_empty cX9_empty 2 none :: ([.fieldLink RX9 7 "MirrorKeepModel" "many" "[I", .fieldLink RX9 13 "MirrorKeepModel" "bytes" "[I"] ++ wsX90)
def wsX9_copy : List Cond := .code yX9_copy cX9_copy 4 none :: ([.fieldLink RX9 7 "MirrorKeepModel" "many" "[I", .methodLink RX9 68 yX9_empty, .instanceMethod yX9_empty, .selects RX9 yX9_empty yX9_empty, .initialized RX9, .code yX9_empty cX9_empty 2 none, .fieldLink RX9 13 "MirrorKeepModel" "bytes" "[I", .methodLink RX9 72 yX9_append, .instanceMethod yX9_append, .selects RX9 yX9_append yX9_append, .code yX9_append cX9_append 7 none, .fieldLink RX9 16 "MirrorKeepModel" "kinds" "[I", .fieldLink RX9 19 "MirrorKeepModel" "modes" "[I", .fieldLink RX9 22 "MirrorKeepModel" "times" "[I", .fieldLink RX9 25 "MirrorKeepModel" "paths" "[I", .fieldLink RX9 35 "MirrorKeepModel" "path" "[I", .fieldLink RX9 31 "MirrorKeepModel" "contents" "[I", .fieldLink RX9 28 "MirrorKeepModel" "contentAt" "[I", .fieldLink RX9 39 "MirrorKeepModel" "content" "[I", .methodLink RX9 64 yX9_place, .static yX9_place, .code yX9_place cX9_place 2 (some .int)] ++ wsX90)
def wsX9_rank : List Cond := .code yX9_rank cX9_rank 4 (some .int) :: ([])
def wsX9_order : List Cond := .code yX9_order cX9_order 7 (some .int) :: ([.methodLink RX9 76 yX9_rank, .static yX9_rank, .initialized RX9, .code yX9_rank cX9_rank 4 (some .int)])
def wsX9_orderOf : List Cond := .code yX9_orderOf cX9_orderOf 5 (some .int) :: ([.fieldLink RX9 35 "MirrorKeepModel" "path" "[I", .fieldLink RX9 25 "MirrorKeepModel" "paths" "[I", .methodLink RX9 64 yX9_place, .static yX9_place, .initialized RX9, .code yX9_place cX9_place 2 (some .int), .methodLink RX9 80 yX9_order, .static yX9_order, .code yX9_order cX9_order 7 (some .int), .methodLink RX9 76 yX9_rank, .static yX9_rank, .code yX9_rank cX9_rank 4 (some .int)] ++ wsX90)
def wsX9_find : List Cond := .code yX9_find cX9_find 6 (some .int) :: ([.fieldLink RX9 7 "MirrorKeepModel" "many" "[I", .fieldLink RX9 35 "MirrorKeepModel" "path" "[I", .fieldLink RX9 25 "MirrorKeepModel" "paths" "[I", .methodLink RX9 64 yX9_place, .static yX9_place, .initialized RX9, .code yX9_place cX9_place 2 (some .int), .methodLink RX9 80 yX9_order, .static yX9_order, .code yX9_order cX9_order 7 (some .int), .methodLink RX9 76 yX9_rank, .static yX9_rank, .code yX9_rank cX9_rank 4 (some .int)] ++ wsX90)
def wsX9_isSame : List Cond := .code yX9_isSame cX9_isSame 9 (some .boolean) :: ([.fieldLink RX9 16 "MirrorKeepModel" "kinds" "[I", .fieldLink RX9 19 "MirrorKeepModel" "modes" "[I", .fieldLink RX9 22 "MirrorKeepModel" "times" "[I", .fieldLink RX9 31 "MirrorKeepModel" "contents" "[I", .fieldLink RX9 39 "MirrorKeepModel" "content" "[I", .fieldLink RX9 28 "MirrorKeepModel" "contentAt" "[I", .methodLink RX9 64 yX9_place, .static yX9_place, .initialized RX9, .code yX9_place cX9_place 2 (some .int)] ++ wsX90)
def wsX9_join_r1 : List Cond := [Cond.fieldLink RX9 7 "MirrorKeepModel" "many" "[I", Cond.methodLink RX9 68 yX9_empty, Cond.instanceMethod yX9_empty, Cond.selects RX9 yX9_empty yX9_empty, Cond.initialized RX9, Cond.code yX9_empty cX9_empty 2 none, Cond.fieldLink RX9 13 "MirrorKeepModel" "bytes" "[I", Cond.methodLink RX9 84 yX9_orderOf, Cond.instanceMethod yX9_orderOf, Cond.selects RX9 yX9_orderOf yX9_orderOf, Cond.code yX9_orderOf cX9_orderOf 5 (some .int), Cond.fieldLink RX9 35 "MirrorKeepModel" "path" "[I", Cond.fieldLink RX9 25 "MirrorKeepModel" "paths" "[I", Cond.methodLink RX9 64 yX9_place, Cond.static yX9_place, Cond.code yX9_place cX9_place 2 (some .int), Cond.methodLink RX9 80 yX9_order, Cond.static yX9_order, Cond.code yX9_order cX9_order 7 (some .int), Cond.methodLink RX9 76 yX9_rank, Cond.static yX9_rank, Cond.code yX9_rank cX9_rank 4 (some .int), Cond.methodLink RX9 88 yX9_isSame, Cond.instanceMethod yX9_isSame]
def wsX9_join_r2 : List Cond := [Cond.selects RX9 yX9_isSame yX9_isSame, Cond.code yX9_isSame cX9_isSame 9 (some .boolean), Cond.fieldLink RX9 16 "MirrorKeepModel" "kinds" "[I", Cond.fieldLink RX9 19 "MirrorKeepModel" "modes" "[I", Cond.fieldLink RX9 22 "MirrorKeepModel" "times" "[I", Cond.fieldLink RX9 31 "MirrorKeepModel" "contents" "[I", Cond.fieldLink RX9 39 "MirrorKeepModel" "content" "[I", Cond.fieldLink RX9 28 "MirrorKeepModel" "contentAt" "[I", Cond.methodLink RX9 72 yX9_append, Cond.instanceMethod yX9_append, Cond.selects RX9 yX9_append yX9_append, Cond.code yX9_append cX9_append 7 none]
def wsX9_join : List Cond := .code yX9_join cX9_join 11 (some .int) :: ((wsX9_join_r1 ++ wsX9_join_r2) ++ wsX90)
def wsX9_isName : List Cond := .code yX9_isName cX9_isName 6 (some .boolean) :: ([])
def wsX9_isPath : List Cond := .code yX9_isPath cX9_isPath 6 (some .boolean) :: ([.fieldLink RX9 45 "MirrorKeepModel" "tape" "[I", .methodLink RX9 92 yX9_isName, .static yX9_isName, .initialized RX9, .code yX9_isName cX9_isName 6 (some .boolean)] ++ wsX90)
def wsX9_chooseTape : List Cond := .code yX9_chooseTape cX9_chooseTape 3 none :: ([.fieldLink RX9 96 "MirrorKeepModel" "isChosen" "Z", .fieldLink RX9 100 "MirrorKeepModel" "chosenMany" "I", .fieldLink RX9 54 "MirrorKeepModel" "chosen" "[I", .fieldLink RX9 45 "MirrorKeepModel" "tape" "[I"] ++ wsX90)
def wsX9_hasDirectory : List Cond := .code yX9_hasDirectory cX9_hasDirectory 4 (some .boolean) :: ([.fieldLink RX9 45 "MirrorKeepModel" "tape" "[I", .fieldLink RX9 16 "MirrorKeepModel" "kinds" "[I", .methodLink RX9 103 yX9_find, .instanceMethod yX9_find, .selects RX9 yX9_find yX9_find, .initialized RX9, .code yX9_find cX9_find 6 (some .int), .fieldLink RX9 7 "MirrorKeepModel" "many" "[I", .fieldLink RX9 35 "MirrorKeepModel" "path" "[I", .fieldLink RX9 25 "MirrorKeepModel" "paths" "[I", .methodLink RX9 64 yX9_place, .static yX9_place, .code yX9_place cX9_place 2 (some .int), .methodLink RX9 80 yX9_order, .static yX9_order, .code yX9_order cX9_order 7 (some .int), .methodLink RX9 76 yX9_rank, .static yX9_rank, .code yX9_rank cX9_rank 4 (some .int)] ++ wsX90)
def wsX9_make_r1 : List Cond := [Cond.fieldLink RX9 107 "MirrorKeepModel" "state" "I", Cond.fieldLink RX9 57 "MirrorKeepModel" "thrown" "I", Cond.fieldLink RX9 61 "MirrorKeepModel" "taped" "I", Cond.fieldLink RX9 45 "MirrorKeepModel" "tape" "[I", Cond.fieldLink RX9 7 "MirrorKeepModel" "many" "[I", Cond.fieldLink RX9 35 "MirrorKeepModel" "path" "[I", Cond.fieldLink RX9 25 "MirrorKeepModel" "paths" "[I", Cond.fieldLink RX9 16 "MirrorKeepModel" "kinds" "[I", Cond.fieldLink RX9 19 "MirrorKeepModel" "modes" "[I", Cond.fieldLink RX9 22 "MirrorKeepModel" "times" "[I", Cond.fieldLink RX9 31 "MirrorKeepModel" "contents" "[I", Cond.fieldLink RX9 28 "MirrorKeepModel" "contentAt" "[I", Cond.fieldLink RX9 13 "MirrorKeepModel" "bytes" "[I", Cond.methodLink RX9 110 yX9_isPath, Cond.instanceMethod yX9_isPath, Cond.selects RX9 yX9_isPath yX9_isPath, Cond.initialized RX9, Cond.code yX9_isPath cX9_isPath 6 (some .boolean), Cond.methodLink RX9 92 yX9_isName, Cond.static yX9_isName, Cond.code yX9_isName cX9_isName 6 (some .boolean), Cond.methodLink RX9 103 yX9_find, Cond.instanceMethod yX9_find, Cond.selects RX9 yX9_find yX9_find]
def wsX9_make_r2 : List Cond := [Cond.code yX9_find cX9_find 6 (some .int), Cond.methodLink RX9 64 yX9_place, Cond.static yX9_place, Cond.code yX9_place cX9_place 2 (some .int), Cond.methodLink RX9 80 yX9_order, Cond.static yX9_order, Cond.code yX9_order cX9_order 7 (some .int), Cond.methodLink RX9 76 yX9_rank, Cond.static yX9_rank, Cond.code yX9_rank cX9_rank 4 (some .int), Cond.methodLink RX9 114 yX9_hasDirectory, Cond.instanceMethod yX9_hasDirectory, Cond.selects RX9 yX9_hasDirectory yX9_hasDirectory, Cond.code yX9_hasDirectory cX9_hasDirectory 4 (some .boolean), Cond.methodLink RX9 68 yX9_empty, Cond.instanceMethod yX9_empty, Cond.selects RX9 yX9_empty yX9_empty, Cond.code yX9_empty cX9_empty 2 none, Cond.methodLink RX9 72 yX9_append, Cond.instanceMethod yX9_append, Cond.selects RX9 yX9_append yX9_append, Cond.code yX9_append cX9_append 7 none, Cond.fieldLink RX9 39 "MirrorKeepModel" "content" "[I", Cond.methodLink RX9 117 yX9_copy]
def wsX9_make_r3 : List Cond := [Cond.instanceMethod yX9_copy, Cond.selects RX9 yX9_copy yX9_copy, Cond.code yX9_copy cX9_copy 4 none, Cond.methodLink RX9 121 yX9_chooseTape, Cond.instanceMethod yX9_chooseTape, Cond.selects RX9 yX9_chooseTape yX9_chooseTape, Cond.code yX9_chooseTape cX9_chooseTape 3 none, Cond.fieldLink RX9 96 "MirrorKeepModel" "isChosen" "Z", Cond.fieldLink RX9 100 "MirrorKeepModel" "chosenMany" "I", Cond.fieldLink RX9 54 "MirrorKeepModel" "chosen" "[I"]
def wsX9_make : List Cond := .code yX9_make cX9_make 9 (some .int) :: ((wsX9_make_r1 ++ (wsX9_make_r2 ++ wsX9_make_r3)) ++ wsX90)
def wsX9_choose_r1 : List Cond := [Cond.fieldLink RX9 57 "MirrorKeepModel" "thrown" "I", Cond.fieldLink RX9 61 "MirrorKeepModel" "taped" "I", Cond.fieldLink RX9 45 "MirrorKeepModel" "tape" "[I", Cond.fieldLink RX9 96 "MirrorKeepModel" "isChosen" "Z", Cond.fieldLink RX9 16 "MirrorKeepModel" "kinds" "[I", Cond.methodLink RX9 103 yX9_find, Cond.instanceMethod yX9_find, Cond.selects RX9 yX9_find yX9_find, Cond.initialized RX9, Cond.code yX9_find cX9_find 6 (some .int), Cond.fieldLink RX9 7 "MirrorKeepModel" "many" "[I", Cond.fieldLink RX9 35 "MirrorKeepModel" "path" "[I", Cond.fieldLink RX9 25 "MirrorKeepModel" "paths" "[I", Cond.methodLink RX9 64 yX9_place, Cond.static yX9_place, Cond.code yX9_place cX9_place 2 (some .int), Cond.methodLink RX9 80 yX9_order, Cond.static yX9_order, Cond.code yX9_order cX9_order 7 (some .int), Cond.methodLink RX9 76 yX9_rank, Cond.static yX9_rank, Cond.code yX9_rank cX9_rank 4 (some .int), Cond.methodLink RX9 121 yX9_chooseTape, Cond.instanceMethod yX9_chooseTape]
def wsX9_choose_r2 : List Cond := [Cond.selects RX9 yX9_chooseTape yX9_chooseTape, Cond.code yX9_chooseTape cX9_chooseTape 3 none, Cond.fieldLink RX9 100 "MirrorKeepModel" "chosenMany" "I", Cond.fieldLink RX9 54 "MirrorKeepModel" "chosen" "[I"]
def wsX9_choose : List Cond := .code yX9_choose cX9_choose 3 (some .int) :: ((wsX9_choose_r1 ++ wsX9_choose_r2) ++ wsX90)
def wsX9_chosenAt : List Cond := .code yX9_chosenAt cX9_chosenAt 1 (some .int) :: ([.fieldLink RX9 96 "MirrorKeepModel" "isChosen" "Z", .fieldLink RX9 54 "MirrorKeepModel" "chosen" "[I", .fieldLink RX9 100 "MirrorKeepModel" "chosenMany" "I", .methodLink RX9 103 yX9_find, .instanceMethod yX9_find, .selects RX9 yX9_find yX9_find, .initialized RX9, .code yX9_find cX9_find 6 (some .int), .fieldLink RX9 7 "MirrorKeepModel" "many" "[I", .fieldLink RX9 35 "MirrorKeepModel" "path" "[I", .fieldLink RX9 25 "MirrorKeepModel" "paths" "[I", .methodLink RX9 64 yX9_place, .static yX9_place, .code yX9_place cX9_place 2 (some .int), .methodLink RX9 80 yX9_order, .static yX9_order, .code yX9_order cX9_order 7 (some .int), .methodLink RX9 76 yX9_rank, .static yX9_rank, .code yX9_rank cX9_rank 4 (some .int)] ++ wsX90)
def wsX9_change_r1 : List Cond := [Cond.fieldLink RX9 7 "MirrorKeepModel" "many" "[I", Cond.constant RX9 124 (40000), Cond.fieldLink RX9 28 "MirrorKeepModel" "contentAt" "[I", Cond.fieldLink RX9 39 "MirrorKeepModel" "content" "[I", Cond.fieldLink RX9 45 "MirrorKeepModel" "tape" "[I", Cond.fieldLink RX9 13 "MirrorKeepModel" "bytes" "[I", Cond.fieldLink RX9 31 "MirrorKeepModel" "contents" "[I", Cond.methodLink RX9 68 yX9_empty, Cond.instanceMethod yX9_empty, Cond.selects RX9 yX9_empty yX9_empty, Cond.initialized RX9, Cond.code yX9_empty cX9_empty 2 none, Cond.methodLink RX9 72 yX9_append, Cond.instanceMethod yX9_append, Cond.selects RX9 yX9_append yX9_append, Cond.code yX9_append cX9_append 7 none, Cond.fieldLink RX9 16 "MirrorKeepModel" "kinds" "[I", Cond.fieldLink RX9 19 "MirrorKeepModel" "modes" "[I", Cond.fieldLink RX9 22 "MirrorKeepModel" "times" "[I", Cond.fieldLink RX9 25 "MirrorKeepModel" "paths" "[I", Cond.fieldLink RX9 35 "MirrorKeepModel" "path" "[I", Cond.methodLink RX9 64 yX9_place, Cond.static yX9_place, Cond.code yX9_place cX9_place 2 (some .int)]
def wsX9_change_r2 : List Cond := [Cond.methodLink RX9 117 yX9_copy, Cond.instanceMethod yX9_copy, Cond.selects RX9 yX9_copy yX9_copy, Cond.code yX9_copy cX9_copy 4 none]
def wsX9_change : List Cond := .code yX9_change cX9_change 9 none :: ((wsX9_change_r1 ++ wsX9_change_r2) ++ wsX90)
def wsX9_write_r1 : List Cond := [Cond.fieldLink RX9 107 "MirrorKeepModel" "state" "I", Cond.fieldLink RX9 57 "MirrorKeepModel" "thrown" "I", Cond.fieldLink RX9 61 "MirrorKeepModel" "taped" "I", Cond.fieldLink RX9 16 "MirrorKeepModel" "kinds" "[I", Cond.fieldLink RX9 31 "MirrorKeepModel" "contents" "[I", Cond.fieldLink RX9 13 "MirrorKeepModel" "bytes" "[I", Cond.constantLong RX9 129 (4000), Cond.methodLink RX9 125 yX9_chosenAt, Cond.instanceMethod yX9_chosenAt, Cond.selects RX9 yX9_chosenAt yX9_chosenAt, Cond.initialized RX9, Cond.code yX9_chosenAt cX9_chosenAt 1 (some .int), Cond.fieldLink RX9 96 "MirrorKeepModel" "isChosen" "Z", Cond.fieldLink RX9 54 "MirrorKeepModel" "chosen" "[I", Cond.fieldLink RX9 100 "MirrorKeepModel" "chosenMany" "I", Cond.methodLink RX9 103 yX9_find, Cond.instanceMethod yX9_find, Cond.selects RX9 yX9_find yX9_find, Cond.code yX9_find cX9_find 6 (some .int), Cond.fieldLink RX9 7 "MirrorKeepModel" "many" "[I", Cond.fieldLink RX9 35 "MirrorKeepModel" "path" "[I", Cond.fieldLink RX9 25 "MirrorKeepModel" "paths" "[I", Cond.methodLink RX9 64 yX9_place, Cond.static yX9_place]
def wsX9_write_r2 : List Cond := [Cond.code yX9_place cX9_place 2 (some .int), Cond.methodLink RX9 80 yX9_order, Cond.static yX9_order, Cond.code yX9_order cX9_order 7 (some .int), Cond.methodLink RX9 76 yX9_rank, Cond.static yX9_rank, Cond.code yX9_rank cX9_rank 4 (some .int), Cond.methodLink RX9 131 yX9_change, Cond.instanceMethod yX9_change, Cond.selects RX9 yX9_change yX9_change, Cond.code yX9_change cX9_change 9 none, Cond.constant RX9 124 (40000), Cond.fieldLink RX9 28 "MirrorKeepModel" "contentAt" "[I", Cond.fieldLink RX9 39 "MirrorKeepModel" "content" "[I", Cond.fieldLink RX9 45 "MirrorKeepModel" "tape" "[I", Cond.methodLink RX9 68 yX9_empty, Cond.instanceMethod yX9_empty, Cond.selects RX9 yX9_empty yX9_empty, Cond.code yX9_empty cX9_empty 2 none, Cond.methodLink RX9 72 yX9_append, Cond.instanceMethod yX9_append, Cond.selects RX9 yX9_append yX9_append, Cond.code yX9_append cX9_append 7 none, Cond.fieldLink RX9 19 "MirrorKeepModel" "modes" "[I"]
def wsX9_write_r3 : List Cond := [Cond.fieldLink RX9 22 "MirrorKeepModel" "times" "[I", Cond.methodLink RX9 117 yX9_copy, Cond.instanceMethod yX9_copy, Cond.selects RX9 yX9_copy yX9_copy, Cond.code yX9_copy cX9_copy 4 none]
def wsX9_write : List Cond := .code yX9_write cX9_write 10 (some .int) :: ((wsX9_write_r1 ++ (wsX9_write_r2 ++ wsX9_write_r3)) ++ wsX90)
def wsX9_cut_r1 : List Cond := [Cond.fieldLink RX9 107 "MirrorKeepModel" "state" "I", Cond.fieldLink RX9 16 "MirrorKeepModel" "kinds" "[I", Cond.fieldLink RX9 31 "MirrorKeepModel" "contents" "[I", Cond.fieldLink RX9 57 "MirrorKeepModel" "thrown" "I", Cond.methodLink RX9 125 yX9_chosenAt, Cond.instanceMethod yX9_chosenAt, Cond.selects RX9 yX9_chosenAt yX9_chosenAt, Cond.initialized RX9, Cond.code yX9_chosenAt cX9_chosenAt 1 (some .int), Cond.fieldLink RX9 96 "MirrorKeepModel" "isChosen" "Z", Cond.fieldLink RX9 54 "MirrorKeepModel" "chosen" "[I", Cond.fieldLink RX9 100 "MirrorKeepModel" "chosenMany" "I", Cond.methodLink RX9 103 yX9_find, Cond.instanceMethod yX9_find, Cond.selects RX9 yX9_find yX9_find, Cond.code yX9_find cX9_find 6 (some .int), Cond.fieldLink RX9 7 "MirrorKeepModel" "many" "[I", Cond.fieldLink RX9 35 "MirrorKeepModel" "path" "[I", Cond.fieldLink RX9 25 "MirrorKeepModel" "paths" "[I", Cond.methodLink RX9 64 yX9_place, Cond.static yX9_place, Cond.code yX9_place cX9_place 2 (some .int), Cond.methodLink RX9 80 yX9_order, Cond.static yX9_order]
def wsX9_cut_r2 : List Cond := [Cond.code yX9_order cX9_order 7 (some .int), Cond.methodLink RX9 76 yX9_rank, Cond.static yX9_rank, Cond.code yX9_rank cX9_rank 4 (some .int), Cond.methodLink RX9 131 yX9_change, Cond.instanceMethod yX9_change, Cond.selects RX9 yX9_change yX9_change, Cond.code yX9_change cX9_change 9 none, Cond.constant RX9 124 (40000), Cond.fieldLink RX9 28 "MirrorKeepModel" "contentAt" "[I", Cond.fieldLink RX9 39 "MirrorKeepModel" "content" "[I", Cond.fieldLink RX9 45 "MirrorKeepModel" "tape" "[I", Cond.fieldLink RX9 13 "MirrorKeepModel" "bytes" "[I", Cond.methodLink RX9 68 yX9_empty, Cond.instanceMethod yX9_empty, Cond.selects RX9 yX9_empty yX9_empty, Cond.code yX9_empty cX9_empty 2 none, Cond.methodLink RX9 72 yX9_append, Cond.instanceMethod yX9_append, Cond.selects RX9 yX9_append yX9_append, Cond.code yX9_append cX9_append 7 none, Cond.fieldLink RX9 19 "MirrorKeepModel" "modes" "[I", Cond.fieldLink RX9 22 "MirrorKeepModel" "times" "[I", Cond.methodLink RX9 117 yX9_copy]
def wsX9_cut_r3 : List Cond := [Cond.instanceMethod yX9_copy, Cond.selects RX9 yX9_copy yX9_copy, Cond.code yX9_copy cX9_copy 4 none]
def wsX9_cut : List Cond := .code yX9_cut cX9_cut 3 none :: ((wsX9_cut_r1 ++ (wsX9_cut_r2 ++ wsX9_cut_r3)) ++ wsX90)
def wsX9_set_r1 : List Cond := [Cond.fieldLink RX9 107 "MirrorKeepModel" "state" "I", Cond.fieldLink RX9 57 "MirrorKeepModel" "thrown" "I", Cond.fieldLink RX9 19 "MirrorKeepModel" "modes" "[I", Cond.fieldLink RX9 22 "MirrorKeepModel" "times" "[I", Cond.methodLink RX9 125 yX9_chosenAt, Cond.instanceMethod yX9_chosenAt, Cond.selects RX9 yX9_chosenAt yX9_chosenAt, Cond.initialized RX9, Cond.code yX9_chosenAt cX9_chosenAt 1 (some .int), Cond.fieldLink RX9 96 "MirrorKeepModel" "isChosen" "Z", Cond.fieldLink RX9 54 "MirrorKeepModel" "chosen" "[I", Cond.fieldLink RX9 100 "MirrorKeepModel" "chosenMany" "I", Cond.methodLink RX9 103 yX9_find, Cond.instanceMethod yX9_find, Cond.selects RX9 yX9_find yX9_find, Cond.code yX9_find cX9_find 6 (some .int), Cond.fieldLink RX9 7 "MirrorKeepModel" "many" "[I", Cond.fieldLink RX9 35 "MirrorKeepModel" "path" "[I", Cond.fieldLink RX9 25 "MirrorKeepModel" "paths" "[I", Cond.methodLink RX9 64 yX9_place, Cond.static yX9_place, Cond.code yX9_place cX9_place 2 (some .int), Cond.methodLink RX9 80 yX9_order, Cond.static yX9_order]
def wsX9_set_r2 : List Cond := [Cond.code yX9_order cX9_order 7 (some .int), Cond.methodLink RX9 76 yX9_rank, Cond.static yX9_rank, Cond.code yX9_rank cX9_rank 4 (some .int)]
def wsX9_set : List Cond := .code yX9_set cX9_set 4 none :: ((wsX9_set_r1 ++ wsX9_set_r2) ++ wsX90)
def wsX9_isBelow : List Cond := .code yX9_isBelow cX9_isBelow 5 (some .boolean) :: ([.fieldLink RX9 25 "MirrorKeepModel" "paths" "[I", .fieldLink RX9 100 "MirrorKeepModel" "chosenMany" "I", .fieldLink RX9 35 "MirrorKeepModel" "path" "[I", .fieldLink RX9 54 "MirrorKeepModel" "chosen" "[I", .methodLink RX9 64 yX9_place, .static yX9_place, .initialized RX9, .code yX9_place cX9_place 2 (some .int)] ++ wsX90)
def wsX9_remove_r1 : List Cond := [Cond.fieldLink RX9 107 "MirrorKeepModel" "state" "I", Cond.fieldLink RX9 57 "MirrorKeepModel" "thrown" "I", Cond.fieldLink RX9 7 "MirrorKeepModel" "many" "[I", Cond.fieldLink RX9 96 "MirrorKeepModel" "isChosen" "Z", Cond.methodLink RX9 125 yX9_chosenAt, Cond.instanceMethod yX9_chosenAt, Cond.selects RX9 yX9_chosenAt yX9_chosenAt, Cond.initialized RX9, Cond.code yX9_chosenAt cX9_chosenAt 1 (some .int), Cond.fieldLink RX9 54 "MirrorKeepModel" "chosen" "[I", Cond.fieldLink RX9 100 "MirrorKeepModel" "chosenMany" "I", Cond.methodLink RX9 103 yX9_find, Cond.instanceMethod yX9_find, Cond.selects RX9 yX9_find yX9_find, Cond.code yX9_find cX9_find 6 (some .int), Cond.fieldLink RX9 35 "MirrorKeepModel" "path" "[I", Cond.fieldLink RX9 25 "MirrorKeepModel" "paths" "[I", Cond.methodLink RX9 64 yX9_place, Cond.static yX9_place, Cond.code yX9_place cX9_place 2 (some .int), Cond.methodLink RX9 80 yX9_order, Cond.static yX9_order, Cond.code yX9_order cX9_order 7 (some .int), Cond.methodLink RX9 76 yX9_rank]
def wsX9_remove_r2 : List Cond := [Cond.static yX9_rank, Cond.code yX9_rank cX9_rank 4 (some .int), Cond.methodLink RX9 68 yX9_empty, Cond.instanceMethod yX9_empty, Cond.selects RX9 yX9_empty yX9_empty, Cond.code yX9_empty cX9_empty 2 none, Cond.fieldLink RX9 13 "MirrorKeepModel" "bytes" "[I", Cond.methodLink RX9 135 yX9_isBelow, Cond.instanceMethod yX9_isBelow, Cond.selects RX9 yX9_isBelow yX9_isBelow, Cond.code yX9_isBelow cX9_isBelow 5 (some .boolean), Cond.methodLink RX9 72 yX9_append, Cond.instanceMethod yX9_append, Cond.selects RX9 yX9_append yX9_append, Cond.code yX9_append cX9_append 7 none, Cond.fieldLink RX9 16 "MirrorKeepModel" "kinds" "[I", Cond.fieldLink RX9 19 "MirrorKeepModel" "modes" "[I", Cond.fieldLink RX9 22 "MirrorKeepModel" "times" "[I", Cond.fieldLink RX9 31 "MirrorKeepModel" "contents" "[I", Cond.fieldLink RX9 28 "MirrorKeepModel" "contentAt" "[I", Cond.fieldLink RX9 39 "MirrorKeepModel" "content" "[I", Cond.methodLink RX9 117 yX9_copy, Cond.instanceMethod yX9_copy, Cond.selects RX9 yX9_copy yX9_copy]
def wsX9_remove_r3 : List Cond := [Cond.code yX9_copy cX9_copy 4 none]
def wsX9_remove : List Cond := .code yX9_remove cX9_remove 2 (some .int) :: ((wsX9_remove_r1 ++ (wsX9_remove_r2 ++ wsX9_remove_r3)) ++ wsX90)
def wsX9_begin_r1 : List Cond := [Cond.fieldLink RX9 107 "MirrorKeepModel" "state" "I", Cond.fieldLink RX9 138 "MirrorKeepModel" "sessions" "I", Cond.fieldLink RX9 48 "MirrorKeepModel" "sessionTime" "[I", Cond.fieldLink RX9 57 "MirrorKeepModel" "thrown" "I", Cond.fieldLink RX9 141 "MirrorKeepModel" "operations" "I", Cond.fieldLink RX9 144 "MirrorKeepModel" "begun" "I", Cond.fieldLink RX9 150 "MirrorKeepModel" "changes" "I", Cond.methodLink RX9 117 yX9_copy, Cond.instanceMethod yX9_copy, Cond.selects RX9 yX9_copy yX9_copy, Cond.initialized RX9, Cond.code yX9_copy cX9_copy 4 none, Cond.fieldLink RX9 7 "MirrorKeepModel" "many" "[I", Cond.methodLink RX9 68 yX9_empty, Cond.instanceMethod yX9_empty, Cond.selects RX9 yX9_empty yX9_empty, Cond.code yX9_empty cX9_empty 2 none, Cond.fieldLink RX9 13 "MirrorKeepModel" "bytes" "[I", Cond.methodLink RX9 72 yX9_append, Cond.instanceMethod yX9_append, Cond.selects RX9 yX9_append yX9_append, Cond.code yX9_append cX9_append 7 none, Cond.fieldLink RX9 16 "MirrorKeepModel" "kinds" "[I", Cond.fieldLink RX9 19 "MirrorKeepModel" "modes" "[I"]
def wsX9_begin_r2 : List Cond := [Cond.fieldLink RX9 22 "MirrorKeepModel" "times" "[I", Cond.fieldLink RX9 25 "MirrorKeepModel" "paths" "[I", Cond.fieldLink RX9 35 "MirrorKeepModel" "path" "[I", Cond.fieldLink RX9 31 "MirrorKeepModel" "contents" "[I", Cond.fieldLink RX9 28 "MirrorKeepModel" "contentAt" "[I", Cond.fieldLink RX9 39 "MirrorKeepModel" "content" "[I", Cond.methodLink RX9 64 yX9_place, Cond.static yX9_place, Cond.code yX9_place cX9_place 2 (some .int), Cond.methodLink RX9 147 yX9_join, Cond.instanceMethod yX9_join, Cond.selects RX9 yX9_join yX9_join, Cond.code yX9_join cX9_join 11 (some .int), Cond.methodLink RX9 84 yX9_orderOf, Cond.instanceMethod yX9_orderOf, Cond.selects RX9 yX9_orderOf yX9_orderOf, Cond.code yX9_orderOf cX9_orderOf 5 (some .int), Cond.methodLink RX9 80 yX9_order, Cond.static yX9_order, Cond.code yX9_order cX9_order 7 (some .int), Cond.methodLink RX9 76 yX9_rank, Cond.static yX9_rank, Cond.code yX9_rank cX9_rank 4 (some .int), Cond.methodLink RX9 88 yX9_isSame]
def wsX9_begin_r3 : List Cond := [Cond.instanceMethod yX9_isSame, Cond.selects RX9 yX9_isSame yX9_isSame, Cond.code yX9_isSame cX9_isSame 9 (some .boolean)]
def wsX9_begin : List Cond := .code yX9_begin cX9_begin 2 (some .int) :: ((wsX9_begin_r1 ++ (wsX9_begin_r2 ++ wsX9_begin_r3)) ++ wsX90)
def wsX9_updates : List Cond := .code yX9_updates cX9_updates 1 (some .int) :: ([.fieldLink RX9 141 "MirrorKeepModel" "operations" "I", .fieldLink RX9 150 "MirrorKeepModel" "changes" "I"] ++ wsX90)
def wsX9_increments : List Cond := .code yX9_increments cX9_increments 1 (some .int) :: ([.fieldLink RX9 141 "MirrorKeepModel" "operations" "I", .fieldLink RX9 150 "MirrorKeepModel" "changes" "I"] ++ wsX90)
def wsX9_mirror_r1 : List Cond := [Cond.methodLink RX9 153 yX9_updates, Cond.instanceMethod yX9_updates, Cond.selects RX9 yX9_updates yX9_updates, Cond.initialized RX9, Cond.code yX9_updates cX9_updates 1 (some .int), Cond.fieldLink RX9 141 "MirrorKeepModel" "operations" "I", Cond.fieldLink RX9 150 "MirrorKeepModel" "changes" "I", Cond.methodLink RX9 147 yX9_join, Cond.instanceMethod yX9_join, Cond.selects RX9 yX9_join yX9_join, Cond.code yX9_join cX9_join 11 (some .int), Cond.fieldLink RX9 7 "MirrorKeepModel" "many" "[I", Cond.methodLink RX9 68 yX9_empty, Cond.instanceMethod yX9_empty, Cond.selects RX9 yX9_empty yX9_empty, Cond.code yX9_empty cX9_empty 2 none, Cond.fieldLink RX9 13 "MirrorKeepModel" "bytes" "[I", Cond.methodLink RX9 84 yX9_orderOf, Cond.instanceMethod yX9_orderOf, Cond.selects RX9 yX9_orderOf yX9_orderOf, Cond.code yX9_orderOf cX9_orderOf 5 (some .int), Cond.fieldLink RX9 35 "MirrorKeepModel" "path" "[I", Cond.fieldLink RX9 25 "MirrorKeepModel" "paths" "[I", Cond.methodLink RX9 64 yX9_place]
def wsX9_mirror_r2 : List Cond := [Cond.static yX9_place, Cond.code yX9_place cX9_place 2 (some .int), Cond.methodLink RX9 80 yX9_order, Cond.static yX9_order, Cond.code yX9_order cX9_order 7 (some .int), Cond.methodLink RX9 76 yX9_rank, Cond.static yX9_rank, Cond.code yX9_rank cX9_rank 4 (some .int), Cond.methodLink RX9 88 yX9_isSame, Cond.instanceMethod yX9_isSame, Cond.selects RX9 yX9_isSame yX9_isSame, Cond.code yX9_isSame cX9_isSame 9 (some .boolean), Cond.fieldLink RX9 16 "MirrorKeepModel" "kinds" "[I", Cond.fieldLink RX9 19 "MirrorKeepModel" "modes" "[I", Cond.fieldLink RX9 22 "MirrorKeepModel" "times" "[I", Cond.fieldLink RX9 31 "MirrorKeepModel" "contents" "[I", Cond.fieldLink RX9 39 "MirrorKeepModel" "content" "[I", Cond.fieldLink RX9 28 "MirrorKeepModel" "contentAt" "[I", Cond.methodLink RX9 72 yX9_append, Cond.instanceMethod yX9_append, Cond.selects RX9 yX9_append yX9_append, Cond.code yX9_append cX9_append 7 none]
def wsX9_mirror : List Cond := .code yX9_mirror cX9_mirror 1 none :: ((wsX9_mirror_r1 ++ wsX9_mirror_r2) ++ wsX90)
def wsX9_step_r1 : List Cond := [Cond.fieldLink RX9 107 "MirrorKeepModel" "state" "I", Cond.fieldLink RX9 57 "MirrorKeepModel" "thrown" "I", Cond.fieldLink RX9 150 "MirrorKeepModel" "changes" "I", Cond.fieldLink RX9 141 "MirrorKeepModel" "operations" "I", Cond.fieldLink RX9 48 "MirrorKeepModel" "sessionTime" "[I", Cond.fieldLink RX9 138 "MirrorKeepModel" "sessions" "I", Cond.fieldLink RX9 144 "MirrorKeepModel" "begun" "I", Cond.fieldLink RX9 51 "MirrorKeepModel" "sessionChanges" "[I", Cond.methodLink RX9 156 yX9_mirror, Cond.instanceMethod yX9_mirror, Cond.selects RX9 yX9_mirror yX9_mirror, Cond.initialized RX9, Cond.code yX9_mirror cX9_mirror 1 none, Cond.methodLink RX9 153 yX9_updates, Cond.instanceMethod yX9_updates, Cond.selects RX9 yX9_updates yX9_updates, Cond.code yX9_updates cX9_updates 1 (some .int), Cond.methodLink RX9 147 yX9_join, Cond.instanceMethod yX9_join, Cond.selects RX9 yX9_join yX9_join, Cond.code yX9_join cX9_join 11 (some .int), Cond.fieldLink RX9 7 "MirrorKeepModel" "many" "[I", Cond.methodLink RX9 68 yX9_empty, Cond.instanceMethod yX9_empty]
def wsX9_step_r2 : List Cond := [Cond.selects RX9 yX9_empty yX9_empty, Cond.code yX9_empty cX9_empty 2 none, Cond.fieldLink RX9 13 "MirrorKeepModel" "bytes" "[I", Cond.methodLink RX9 84 yX9_orderOf, Cond.instanceMethod yX9_orderOf, Cond.selects RX9 yX9_orderOf yX9_orderOf, Cond.code yX9_orderOf cX9_orderOf 5 (some .int), Cond.fieldLink RX9 35 "MirrorKeepModel" "path" "[I", Cond.fieldLink RX9 25 "MirrorKeepModel" "paths" "[I", Cond.methodLink RX9 64 yX9_place, Cond.static yX9_place, Cond.code yX9_place cX9_place 2 (some .int), Cond.methodLink RX9 80 yX9_order, Cond.static yX9_order, Cond.code yX9_order cX9_order 7 (some .int), Cond.methodLink RX9 76 yX9_rank, Cond.static yX9_rank, Cond.code yX9_rank cX9_rank 4 (some .int), Cond.methodLink RX9 88 yX9_isSame, Cond.instanceMethod yX9_isSame, Cond.selects RX9 yX9_isSame yX9_isSame, Cond.code yX9_isSame cX9_isSame 9 (some .boolean), Cond.fieldLink RX9 16 "MirrorKeepModel" "kinds" "[I", Cond.fieldLink RX9 19 "MirrorKeepModel" "modes" "[I"]
def wsX9_step_r3 : List Cond := [Cond.fieldLink RX9 22 "MirrorKeepModel" "times" "[I", Cond.fieldLink RX9 31 "MirrorKeepModel" "contents" "[I", Cond.fieldLink RX9 39 "MirrorKeepModel" "content" "[I", Cond.fieldLink RX9 28 "MirrorKeepModel" "contentAt" "[I", Cond.methodLink RX9 72 yX9_append, Cond.instanceMethod yX9_append, Cond.selects RX9 yX9_append yX9_append, Cond.code yX9_append cX9_append 7 none, Cond.methodLink RX9 117 yX9_copy, Cond.instanceMethod yX9_copy, Cond.selects RX9 yX9_copy yX9_copy, Cond.code yX9_copy cX9_copy 4 none]
def wsX9_step : List Cond := .code yX9_step cX9_step 4 (some .int) :: ((wsX9_step_r1 ++ (wsX9_step_r2 ++ wsX9_step_r3)) ++ wsX90)
def wsX9_crash : List Cond := .code yX9_crash cX9_crash 1 none :: ([.fieldLink RX9 107 "MirrorKeepModel" "state" "I", .fieldLink RX9 57 "MirrorKeepModel" "thrown" "I"] ++ wsX90)
def wsX9_regress_r1 : List Cond := [Cond.fieldLink RX9 107 "MirrorKeepModel" "state" "I", Cond.fieldLink RX9 57 "MirrorKeepModel" "thrown" "I", Cond.fieldLink RX9 141 "MirrorKeepModel" "operations" "I", Cond.methodLink RX9 156 yX9_mirror, Cond.instanceMethod yX9_mirror, Cond.selects RX9 yX9_mirror yX9_mirror, Cond.initialized RX9, Cond.code yX9_mirror cX9_mirror 1 none, Cond.methodLink RX9 153 yX9_updates, Cond.instanceMethod yX9_updates, Cond.selects RX9 yX9_updates yX9_updates, Cond.code yX9_updates cX9_updates 1 (some .int), Cond.fieldLink RX9 150 "MirrorKeepModel" "changes" "I", Cond.methodLink RX9 147 yX9_join, Cond.instanceMethod yX9_join, Cond.selects RX9 yX9_join yX9_join, Cond.code yX9_join cX9_join 11 (some .int), Cond.fieldLink RX9 7 "MirrorKeepModel" "many" "[I", Cond.methodLink RX9 68 yX9_empty, Cond.instanceMethod yX9_empty, Cond.selects RX9 yX9_empty yX9_empty, Cond.code yX9_empty cX9_empty 2 none, Cond.fieldLink RX9 13 "MirrorKeepModel" "bytes" "[I", Cond.methodLink RX9 84 yX9_orderOf]
def wsX9_regress_r2 : List Cond := [Cond.instanceMethod yX9_orderOf, Cond.selects RX9 yX9_orderOf yX9_orderOf, Cond.code yX9_orderOf cX9_orderOf 5 (some .int), Cond.fieldLink RX9 35 "MirrorKeepModel" "path" "[I", Cond.fieldLink RX9 25 "MirrorKeepModel" "paths" "[I", Cond.methodLink RX9 64 yX9_place, Cond.static yX9_place, Cond.code yX9_place cX9_place 2 (some .int), Cond.methodLink RX9 80 yX9_order, Cond.static yX9_order, Cond.code yX9_order cX9_order 7 (some .int), Cond.methodLink RX9 76 yX9_rank, Cond.static yX9_rank, Cond.code yX9_rank cX9_rank 4 (some .int), Cond.methodLink RX9 88 yX9_isSame, Cond.instanceMethod yX9_isSame, Cond.selects RX9 yX9_isSame yX9_isSame, Cond.code yX9_isSame cX9_isSame 9 (some .boolean), Cond.fieldLink RX9 16 "MirrorKeepModel" "kinds" "[I", Cond.fieldLink RX9 19 "MirrorKeepModel" "modes" "[I", Cond.fieldLink RX9 22 "MirrorKeepModel" "times" "[I", Cond.fieldLink RX9 31 "MirrorKeepModel" "contents" "[I", Cond.fieldLink RX9 39 "MirrorKeepModel" "content" "[I", Cond.fieldLink RX9 28 "MirrorKeepModel" "contentAt" "[I"]
def wsX9_regress_r3 : List Cond := [Cond.methodLink RX9 72 yX9_append, Cond.instanceMethod yX9_append, Cond.selects RX9 yX9_append yX9_append, Cond.code yX9_append cX9_append 7 none]
def wsX9_regress : List Cond := .code yX9_regress cX9_regress 3 (some .int) :: ((wsX9_regress_r1 ++ (wsX9_regress_r2 ++ wsX9_regress_r3)) ++ wsX90)
def wsX9_latest : List Cond := .code yX9_latest cX9_latest 4 (some .int) :: ([.fieldLink RX9 138 "MirrorKeepModel" "sessions" "I", .fieldLink RX9 48 "MirrorKeepModel" "sessionTime" "[I"] ++ wsX90)
def wsX9_restore_r1 : List Cond := [Cond.fieldLink RX9 107 "MirrorKeepModel" "state" "I", Cond.fieldLink RX9 57 "MirrorKeepModel" "thrown" "I", Cond.fieldLink RX9 7 "MirrorKeepModel" "many" "[I", Cond.methodLink RX9 159 yX9_latest, Cond.instanceMethod yX9_latest, Cond.selects RX9 yX9_latest yX9_latest, Cond.initialized RX9, Cond.code yX9_latest cX9_latest 4 (some .int), Cond.fieldLink RX9 138 "MirrorKeepModel" "sessions" "I", Cond.fieldLink RX9 48 "MirrorKeepModel" "sessionTime" "[I", Cond.methodLink RX9 117 yX9_copy, Cond.instanceMethod yX9_copy, Cond.selects RX9 yX9_copy yX9_copy, Cond.code yX9_copy cX9_copy 4 none, Cond.methodLink RX9 68 yX9_empty, Cond.instanceMethod yX9_empty, Cond.selects RX9 yX9_empty yX9_empty, Cond.code yX9_empty cX9_empty 2 none, Cond.fieldLink RX9 13 "MirrorKeepModel" "bytes" "[I", Cond.methodLink RX9 72 yX9_append, Cond.instanceMethod yX9_append, Cond.selects RX9 yX9_append yX9_append, Cond.code yX9_append cX9_append 7 none, Cond.fieldLink RX9 16 "MirrorKeepModel" "kinds" "[I"]
def wsX9_restore_r2 : List Cond := [Cond.fieldLink RX9 19 "MirrorKeepModel" "modes" "[I", Cond.fieldLink RX9 22 "MirrorKeepModel" "times" "[I", Cond.fieldLink RX9 25 "MirrorKeepModel" "paths" "[I", Cond.fieldLink RX9 35 "MirrorKeepModel" "path" "[I", Cond.fieldLink RX9 31 "MirrorKeepModel" "contents" "[I", Cond.fieldLink RX9 28 "MirrorKeepModel" "contentAt" "[I", Cond.fieldLink RX9 39 "MirrorKeepModel" "content" "[I", Cond.methodLink RX9 64 yX9_place, Cond.static yX9_place, Cond.code yX9_place cX9_place 2 (some .int)]
def wsX9_restore : List Cond := .code yX9_restore cX9_restore 3 (some .int) :: ((wsX9_restore_r1 ++ wsX9_restore_r2) ++ wsX90)
def wsX9_prune_r1 : List Cond := [Cond.fieldLink RX9 107 "MirrorKeepModel" "state" "I", Cond.fieldLink RX9 57 "MirrorKeepModel" "thrown" "I", Cond.fieldLink RX9 138 "MirrorKeepModel" "sessions" "I", Cond.fieldLink RX9 48 "MirrorKeepModel" "sessionTime" "[I", Cond.fieldLink RX9 51 "MirrorKeepModel" "sessionChanges" "[I", Cond.methodLink RX9 159 yX9_latest, Cond.instanceMethod yX9_latest, Cond.selects RX9 yX9_latest yX9_latest, Cond.initialized RX9, Cond.code yX9_latest cX9_latest 4 (some .int), Cond.methodLink RX9 117 yX9_copy, Cond.instanceMethod yX9_copy, Cond.selects RX9 yX9_copy yX9_copy, Cond.code yX9_copy cX9_copy 4 none, Cond.fieldLink RX9 7 "MirrorKeepModel" "many" "[I", Cond.methodLink RX9 68 yX9_empty, Cond.instanceMethod yX9_empty, Cond.selects RX9 yX9_empty yX9_empty, Cond.code yX9_empty cX9_empty 2 none, Cond.fieldLink RX9 13 "MirrorKeepModel" "bytes" "[I", Cond.methodLink RX9 72 yX9_append, Cond.instanceMethod yX9_append, Cond.selects RX9 yX9_append yX9_append, Cond.code yX9_append cX9_append 7 none]
def wsX9_prune_r2 : List Cond := [Cond.fieldLink RX9 16 "MirrorKeepModel" "kinds" "[I", Cond.fieldLink RX9 19 "MirrorKeepModel" "modes" "[I", Cond.fieldLink RX9 22 "MirrorKeepModel" "times" "[I", Cond.fieldLink RX9 25 "MirrorKeepModel" "paths" "[I", Cond.fieldLink RX9 35 "MirrorKeepModel" "path" "[I", Cond.fieldLink RX9 31 "MirrorKeepModel" "contents" "[I", Cond.fieldLink RX9 28 "MirrorKeepModel" "contentAt" "[I", Cond.fieldLink RX9 39 "MirrorKeepModel" "content" "[I", Cond.methodLink RX9 64 yX9_place, Cond.static yX9_place, Cond.code yX9_place cX9_place 2 (some .int)]
def wsX9_prune : List Cond := .code yX9_prune cX9_prune 4 (some .int) :: ((wsX9_prune_r1 ++ wsX9_prune_r2) ++ wsX90)
def wsX9_differ_r1 : List Cond := [Cond.fieldLink RX9 57 "MirrorKeepModel" "thrown" "I", Cond.methodLink RX9 147 yX9_join, Cond.instanceMethod yX9_join, Cond.selects RX9 yX9_join yX9_join, Cond.initialized RX9, Cond.code yX9_join cX9_join 11 (some .int), Cond.fieldLink RX9 7 "MirrorKeepModel" "many" "[I", Cond.methodLink RX9 68 yX9_empty, Cond.instanceMethod yX9_empty, Cond.selects RX9 yX9_empty yX9_empty, Cond.code yX9_empty cX9_empty 2 none, Cond.fieldLink RX9 13 "MirrorKeepModel" "bytes" "[I", Cond.methodLink RX9 84 yX9_orderOf, Cond.instanceMethod yX9_orderOf, Cond.selects RX9 yX9_orderOf yX9_orderOf, Cond.code yX9_orderOf cX9_orderOf 5 (some .int), Cond.fieldLink RX9 35 "MirrorKeepModel" "path" "[I", Cond.fieldLink RX9 25 "MirrorKeepModel" "paths" "[I", Cond.methodLink RX9 64 yX9_place, Cond.static yX9_place, Cond.code yX9_place cX9_place 2 (some .int), Cond.methodLink RX9 80 yX9_order, Cond.static yX9_order, Cond.code yX9_order cX9_order 7 (some .int)]
def wsX9_differ_r2 : List Cond := [Cond.methodLink RX9 76 yX9_rank, Cond.static yX9_rank, Cond.code yX9_rank cX9_rank 4 (some .int), Cond.methodLink RX9 88 yX9_isSame, Cond.instanceMethod yX9_isSame, Cond.selects RX9 yX9_isSame yX9_isSame, Cond.code yX9_isSame cX9_isSame 9 (some .boolean), Cond.fieldLink RX9 16 "MirrorKeepModel" "kinds" "[I", Cond.fieldLink RX9 19 "MirrorKeepModel" "modes" "[I", Cond.fieldLink RX9 22 "MirrorKeepModel" "times" "[I", Cond.fieldLink RX9 31 "MirrorKeepModel" "contents" "[I", Cond.fieldLink RX9 39 "MirrorKeepModel" "content" "[I", Cond.fieldLink RX9 28 "MirrorKeepModel" "contentAt" "[I", Cond.methodLink RX9 72 yX9_append, Cond.instanceMethod yX9_append, Cond.selects RX9 yX9_append yX9_append, Cond.code yX9_append cX9_append 7 none]
def wsX9_differ : List Cond := .code yX9_differ cX9_differ 1 (some .int) :: ((wsX9_differ_r1 ++ wsX9_differ_r2) ++ wsX90)
def wsX9_isEntry : List Cond := .code yX9_isEntry cX9_isEntry 3 (some .boolean) :: ([.fieldLink RX9 7 "MirrorKeepModel" "many" "[I"] ++ wsX90)
def wsX9_entry : List Cond := .code yX9_entry cX9_entry 5 (some .int) :: ([.fieldLink RX9 57 "MirrorKeepModel" "thrown" "I", .fieldLink RX9 16 "MirrorKeepModel" "kinds" "[I", .fieldLink RX9 19 "MirrorKeepModel" "modes" "[I", .fieldLink RX9 22 "MirrorKeepModel" "times" "[I", .fieldLink RX9 31 "MirrorKeepModel" "contents" "[I", .fieldLink RX9 25 "MirrorKeepModel" "paths" "[I", .methodLink RX9 163 yX9_isEntry, .instanceMethod yX9_isEntry, .selects RX9 yX9_isEntry yX9_isEntry, .initialized RX9, .code yX9_isEntry cX9_isEntry 3 (some .boolean), .fieldLink RX9 7 "MirrorKeepModel" "many" "[I", .methodLink RX9 64 yX9_place, .static yX9_place, .code yX9_place cX9_place 2 (some .int)] ++ wsX90)
def wsX9_at : List Cond := .code yX9_at cX9_at 6 (some .int) :: ([.fieldLink RX9 57 "MirrorKeepModel" "thrown" "I", .fieldLink RX9 25 "MirrorKeepModel" "paths" "[I", .fieldLink RX9 35 "MirrorKeepModel" "path" "[I", .fieldLink RX9 31 "MirrorKeepModel" "contents" "[I", .fieldLink RX9 39 "MirrorKeepModel" "content" "[I", .fieldLink RX9 28 "MirrorKeepModel" "contentAt" "[I", .methodLink RX9 163 yX9_isEntry, .instanceMethod yX9_isEntry, .selects RX9 yX9_isEntry yX9_isEntry, .initialized RX9, .code yX9_isEntry cX9_isEntry 3 (some .boolean), .fieldLink RX9 7 "MirrorKeepModel" "many" "[I"] ++ wsX90)
def wsX9_about : List Cond := .code yX9_about cX9_about 4 (some .int) :: ([.fieldLink RX9 57 "MirrorKeepModel" "thrown" "I", .fieldLink RX9 107 "MirrorKeepModel" "state" "I", .fieldLink RX9 138 "MirrorKeepModel" "sessions" "I", .fieldLink RX9 141 "MirrorKeepModel" "operations" "I", .fieldLink RX9 7 "MirrorKeepModel" "many" "[I", .fieldLink RX9 13 "MirrorKeepModel" "bytes" "[I", .fieldLink RX9 51 "MirrorKeepModel" "sessionChanges" "[I", .fieldLink RX9 61 "MirrorKeepModel" "taped" "I", .methodLink RX9 167 yX9_increments, .instanceMethod yX9_increments, .selects RX9 yX9_increments yX9_increments, .initialized RX9, .code yX9_increments cX9_increments 1 (some .int), .fieldLink RX9 150 "MirrorKeepModel" "changes" "I"] ++ wsX90)
def wsX9_session : List Cond := .code yX9_session cX9_session 3 (some .int) :: ([.fieldLink RX9 57 "MirrorKeepModel" "thrown" "I", .fieldLink RX9 138 "MirrorKeepModel" "sessions" "I", .fieldLink RX9 48 "MirrorKeepModel" "sessionTime" "[I", .fieldLink RX9 51 "MirrorKeepModel" "sessionChanges" "[I"] ++ wsX90)
def wsJ9_max_7cf53 : List Cond := .code yJ9_max_7cf53 cJ9_max_7cf53 2 (some .int) :: ([])
def wsJ9_max_f86c9 : List Cond := .code yJ9_max_f86c9 cJ9_max_f86c9 4 (some .long) :: ([])
def wsJ9_min_7cf53 : List Cond := .code yJ9_min_7cf53 cJ9_min_7cf53 2 (some .int) :: ([])
def wsL_make_r1 : List Cond := [Cond.classLink RL 13 "java/lang/IllegalArgumentException", Cond.classLink RL 15 "java/lang/IllegalStateException", Cond.methodLink RL 7 yX8_make, Cond.instanceMethod yX8_make, Cond.selects RX8 yX8_make yX8_make, Cond.initialized RX8, Cond.code yX8_make cX8_make 5 (some .int), Cond.classLink RX8 65 "java/lang/IllegalStateException", Cond.initialized "java/lang/IllegalStateException", Cond.classLink RX8 92 "java/lang/IllegalArgumentException", Cond.initialized "java/lang/IllegalArgumentException", Cond.fieldLink RX8 54 "MirrorKeep" "state" "I", Cond.fieldLink RX8 10 "MirrorKeep" "tape" "LMirrorKeep$Tape;", Cond.fieldLink RX8 19 "MirrorKeep" "source" "LMirrorKeep$Tree;", Cond.classLink RX8 110 RX1, Cond.instantiable RX1 5, Cond.initialized RX1, Cond.arrayClass .byte, Cond.fieldLink RX8 50 "MirrorKeep" "chosen" "I", Cond.methodLink RX8 72 yX5_take, Cond.instanceMethod yX5_take, Cond.selects RX5 yX5_take yX5_take, Cond.initialized RX5, Cond.code yX5_take cX5_take 2 (some (.array .byte))]
def wsL_make_r2 : List Cond := [Cond.fieldLink RX5 15 "MirrorKeep$Tape" "bytes" "[B", Cond.fieldLink RX5 19 "MirrorKeep$Tape" "count" "I", Cond.methodLink RX5 33 yJ7_copyOf_9075b, Cond.static yJ7_copyOf_9075b, Cond.initialized RJ7, Cond.code yJ7_copyOf_9075b cJ7_copyOf_9075b 3 (some (.array .byte)), Cond.methodLink RJ7 310 ⟨"[B", "clone", "()Ljava/lang/Object;"⟩, Cond.sameMethod "[B" "java/lang/Object" "clone" "()Ljava/lang/Object;", Cond.native ⟨"java/lang/Object", "clone", "()Ljava/lang/Object;"⟩, Cond.instanceMethod ⟨"java/lang/Object", "clone", "()Ljava/lang/Object;"⟩, Cond.selects "[B" ⟨"[B", "clone", "()Ljava/lang/Object;"⟩ ⟨"java/lang/Object", "clone", "()Ljava/lang/Object;"⟩, Cond.classLink RJ7 311 "[B", Cond.methodLink RJ7 304 Lib.Math.min.name, Cond.static Lib.Math.min.name, Cond.initialized "java/lang/Math", Cond.code Lib.Math.min.name Lib.Math.min.code 2 (some .int), Cond.methodLink RJ7 150 arraycopyName, Cond.native arraycopyName, Cond.static arraycopyName, Cond.initialized "java/lang/System", Cond.methodLink RX8 76 yX8_isKind, Cond.static yX8_isKind, Cond.code yX8_isKind cX8_isKind 1 (some .boolean), Cond.methodLink RX8 80 yX8_isMode]
def wsL_make_r3 : List Cond := [Cond.static yX8_isMode, Cond.code yX8_isMode cX8_isMode 1 (some .boolean), Cond.methodLink RX8 83 yX8_isTime, Cond.static yX8_isTime, Cond.code yX8_isTime cX8_isTime 1 (some .boolean), Cond.methodLink RX8 86 yX3_isPath, Cond.static yX3_isPath, Cond.initialized RX3, Cond.code yX3_isPath cX3_isPath 4 (some .boolean), Cond.methodLink RX3 11 yX3_isName, Cond.static yX3_isName, Cond.code yX3_isName cX3_isName 6 (some .boolean), Cond.methodLink RX8 97 yX6_find, Cond.instanceMethod yX6_find, Cond.selects RX6 yX6_find yX6_find, Cond.initialized RX6, Cond.code yX6_find cX6_find 4 (some .int), Cond.fieldLink RX6 29 "MirrorKeep$Entry" "path" "[B", Cond.methodLink RX6 21 yX6_placeOf, Cond.instanceMethod yX6_placeOf, Cond.selects RX6 yX6_placeOf yX6_placeOf, Cond.code yX6_placeOf cX6_placeOf 7 (some .int), Cond.fieldLink RX6 17 "MirrorKeep$Tree" "count" "I", Cond.methodLink RX6 25 yX6_get]
def wsL_make_r4 : List Cond := [Cond.instanceMethod yX6_get, Cond.selects RX6 yX6_get yX6_get, Cond.code yX6_get cX6_get 2 (some (.object "MirrorKeep$Entry")), Cond.fieldLink RX6 13 "MirrorKeep$Tree" "rows" "[LMirrorKeep$Entry;", Cond.methodLink RX6 33 yX3_compare, Cond.static yX3_compare, Cond.code yX3_compare cX3_compare 4 (some .int), Cond.methodLink RX3 15 Lib.Math.min.name, Cond.methodLink RX3 21 yX3_rank, Cond.static yX3_rank, Cond.code yX3_rank cX3_rank 1 (some .int), Cond.methodLink RX8 101 yX8_hasDirectory, Cond.instanceMethod yX8_hasDirectory, Cond.selects RX8 yX8_hasDirectory yX8_hasDirectory, Cond.code yX8_hasDirectory cX8_hasDirectory 4 (some .boolean), Cond.fieldLink RX8 123 "MirrorKeep$Entry" "kind" "I", Cond.methodLink RX8 288 yX3_lastSlash, Cond.static yX3_lastSlash, Cond.code yX3_lastSlash cX3_lastSlash 2 (some .int), Cond.methodLink RX8 166 yJ7_copyOf_9075b, Cond.methodLink RX8 119 yX6_get, Cond.methodLink RX8 104 yX6_size, Cond.instanceMethod yX6_size, Cond.selects RX6 yX6_size yX6_size]
def wsL_make_r5 : List Cond := [Cond.code yX6_size cX6_size 1 (some .int), Cond.methodLink RX8 112 yX1_init, Cond.instanceMethod yX1_init, Cond.code yX1_init cX1_init 6 none, Cond.methodLink RX1 1 objectInit, Cond.instanceMethod objectInit, Cond.code objectInit ⟨#[0xb1]⟩ 1 none, Cond.fieldLink RX1 7 "MirrorKeep$Entry" "path" "[B", Cond.fieldLink RX1 13 "MirrorKeep$Entry" "kind" "I", Cond.fieldLink RX1 17 "MirrorKeep$Entry" "mode" "I", Cond.fieldLink RX1 20 "MirrorKeep$Entry" "time" "I", Cond.fieldLink RX1 23 "MirrorKeep$Entry" "content" "[B", Cond.methodLink RX8 115 yX6_put, Cond.instanceMethod yX6_put, Cond.selects RX6 yX6_put yX6_put, Cond.code yX6_put cX6_put 3 none, Cond.methodLink RX6 39 yX6_find, Cond.methodLink RX6 42 yX6_insert, Cond.instanceMethod yX6_insert, Cond.selects RX6 yX6_insert yX6_insert, Cond.code yX6_insert cX6_insert 4 none, Cond.methodLink RX6 46 yX6_replace, Cond.instanceMethod yX6_replace, Cond.selects RX6 yX6_replace yX6_replace]
def wsL_make_r6 : List Cond := [Cond.code yX6_replace cX6_replace 3 none]
def wsL_make : List Cond := .codeWith yL_make cL_make 6 (some .int) [(0, 12, 15, 13), (0, 12, 19, 15)] :: ((wsL_make_r1 ++ (wsL_make_r2 ++ (wsL_make_r3 ++ (wsL_make_r4 ++ (wsL_make_r5 ++ wsL_make_r6))))) ++ wsX80 ++ wsX10 ++ wsX50 ++ wsX60 ++ (vx_atS RX8 69 "java/lang/IllegalStateException" ["java/lang/RuntimeException", "java/lang/Exception"]).filter goodWord ++ (vx_atS RX8 96 "java/lang/IllegalArgumentException" ["java/lang/RuntimeException", "java/lang/Exception"]).filter goodWord)
def wsL_write_r1 : List Cond := [Cond.classLink RL 13 "java/lang/IllegalArgumentException", Cond.classLink RL 15 "java/lang/IllegalStateException", Cond.methodLink RL 17 yX8_write, Cond.instanceMethod yX8_write, Cond.selects RX8 yX8_write yX8_write, Cond.initialized RX8, Cond.code yX8_write cX8_write 7 (some .int), Cond.classLink RX8 65 "java/lang/IllegalStateException", Cond.initialized "java/lang/IllegalStateException", Cond.classLink RX8 92 "java/lang/IllegalArgumentException", Cond.initialized "java/lang/IllegalArgumentException", Cond.fieldLink RX8 54 "MirrorKeep" "state" "I", Cond.fieldLink RX8 10 "MirrorKeep" "tape" "LMirrorKeep$Tape;", Cond.fieldLink RX8 19 "MirrorKeep" "source" "LMirrorKeep$Tree;", Cond.fieldLink RX8 50 "MirrorKeep" "chosen" "I", Cond.fieldLink RX8 123 "MirrorKeep$Entry" "kind" "I", Cond.fieldLink RX8 128 "MirrorKeep$Entry" "content" "[B", Cond.methodLink RX8 132 Lib.MathLoose.max_long.x, Cond.static Lib.MathLoose.max_long.x, Cond.initialized "java/lang/Math", Cond.code Lib.MathLoose.max_long.x Lib.MathLoose.max_long.code 4 (some .long), Cond.constantLong RX8 144 (4000), Cond.methodLink RX8 72 yX5_take, Cond.instanceMethod yX5_take]
def wsL_write_r2 : List Cond := [Cond.selects RX5 yX5_take yX5_take, Cond.initialized RX5, Cond.code yX5_take cX5_take 2 (some (.array .byte)), Cond.fieldLink RX5 15 "MirrorKeep$Tape" "bytes" "[B", Cond.fieldLink RX5 19 "MirrorKeep$Tape" "count" "I", Cond.methodLink RX5 33 yJ7_copyOf_9075b, Cond.static yJ7_copyOf_9075b, Cond.initialized RJ7, Cond.code yJ7_copyOf_9075b cJ7_copyOf_9075b 3 (some (.array .byte)), Cond.methodLink RJ7 310 ⟨"[B", "clone", "()Ljava/lang/Object;"⟩, Cond.sameMethod "[B" "java/lang/Object" "clone" "()Ljava/lang/Object;", Cond.native ⟨"java/lang/Object", "clone", "()Ljava/lang/Object;"⟩, Cond.instanceMethod ⟨"java/lang/Object", "clone", "()Ljava/lang/Object;"⟩, Cond.selects "[B" ⟨"[B", "clone", "()Ljava/lang/Object;"⟩ ⟨"java/lang/Object", "clone", "()Ljava/lang/Object;"⟩, Cond.classLink RJ7 311 "[B", Cond.arrayClass .byte, Cond.methodLink RJ7 304 Lib.Math.min.name, Cond.static Lib.Math.min.name, Cond.code Lib.Math.min.name Lib.Math.min.code 2 (some .int), Cond.methodLink RJ7 150 arraycopyName, Cond.native arraycopyName, Cond.static arraycopyName, Cond.initialized "java/lang/System", Cond.methodLink RX8 119 yX6_get]
def wsL_write_r3 : List Cond := [Cond.instanceMethod yX6_get, Cond.selects RX6 yX6_get yX6_get, Cond.initialized RX6, Cond.code yX6_get cX6_get 2 (some (.object "MirrorKeep$Entry")), Cond.fieldLink RX6 17 "MirrorKeep$Tree" "count" "I", Cond.fieldLink RX6 13 "MirrorKeep$Tree" "rows" "[LMirrorKeep$Entry;", Cond.methodLink RX8 138 yX8_mostBytes, Cond.static yX8_mostBytes, Cond.code yX8_mostBytes cX8_mostBytes 1 (some .int), Cond.methodLink RX8 141 yX6_contentBytes, Cond.instanceMethod yX6_contentBytes, Cond.selects RX6 yX6_contentBytes yX6_contentBytes, Cond.code yX6_contentBytes cX6_contentBytes 4 (some .int), Cond.fieldLink RX6 53 "MirrorKeep$Entry" "content" "[B", Cond.methodLink RX8 150 yX8_overlaid, Cond.static yX8_overlaid, Cond.code yX8_overlaid cX8_overlaid 6 (some (.array .byte)), Cond.methodLink RX8 291 Lib.Math.max.name, Cond.static Lib.Math.max.name, Cond.code Lib.Math.max.name Lib.Math.max.code 2 (some .int), Cond.methodLink RX8 166 yJ7_copyOf_9075b, Cond.methodLink RX8 154 yX1_withContent, Cond.instanceMethod yX1_withContent, Cond.selects RX1 yX1_withContent yX1_withContent]
def wsL_write_r4 : List Cond := [Cond.initialized RX1, Cond.code yX1_withContent cX1_withContent 2 (some (.object "MirrorKeep$Entry")), Cond.classLink RX1 8 RX1, Cond.instantiable RX1 5, Cond.fieldLink RX1 7 "MirrorKeep$Entry" "path" "[B", Cond.fieldLink RX1 13 "MirrorKeep$Entry" "kind" "I", Cond.fieldLink RX1 17 "MirrorKeep$Entry" "mode" "I", Cond.fieldLink RX1 20 "MirrorKeep$Entry" "time" "I", Cond.methodLink RX1 26 yX1_init, Cond.instanceMethod yX1_init, Cond.code yX1_init cX1_init 6 none, Cond.methodLink RX1 1 objectInit, Cond.instanceMethod objectInit, Cond.code objectInit ⟨#[0xb1]⟩ 1 none, Cond.fieldLink RX1 23 "MirrorKeep$Entry" "content" "[B", Cond.methodLink RX8 158 yX6_replace, Cond.instanceMethod yX6_replace, Cond.selects RX6 yX6_replace yX6_replace, Cond.code yX6_replace cX6_replace 3 none]
def wsL_write : List Cond := .codeWith yL_write cL_write 4 (some .int) [(0, 9, 12, 13), (0, 9, 15, 15)] :: ((wsL_write_r1 ++ (wsL_write_r2 ++ (wsL_write_r3 ++ wsL_write_r4))) ++ wsX80 ++ wsX10 ++ wsX50 ++ wsX60 ++ (vx_atS RX8 69 "java/lang/IllegalStateException" ["java/lang/RuntimeException", "java/lang/Exception"]).filter goodWord ++ (vx_atS RX8 96 "java/lang/IllegalArgumentException" ["java/lang/RuntimeException", "java/lang/Exception"]).filter goodWord)
def wsL_cut_r1 : List Cond := [Cond.classLink RL 13 "java/lang/IllegalArgumentException", Cond.classLink RL 15 "java/lang/IllegalStateException", Cond.methodLink RL 21 yX8_cut, Cond.instanceMethod yX8_cut, Cond.selects RX8 yX8_cut yX8_cut, Cond.initialized RX8, Cond.code yX8_cut cX8_cut 3 none, Cond.classLink RX8 65 "java/lang/IllegalStateException", Cond.initialized "java/lang/IllegalStateException", Cond.classLink RX8 92 "java/lang/IllegalArgumentException", Cond.initialized "java/lang/IllegalArgumentException", Cond.fieldLink RX8 19 "MirrorKeep" "source" "LMirrorKeep$Tree;", Cond.fieldLink RX8 50 "MirrorKeep" "chosen" "I", Cond.fieldLink RX8 54 "MirrorKeep" "state" "I", Cond.fieldLink RX8 123 "MirrorKeep$Entry" "kind" "I", Cond.fieldLink RX8 128 "MirrorKeep$Entry" "content" "[B", Cond.methodLink RX8 119 yX6_get, Cond.instanceMethod yX6_get, Cond.selects RX6 yX6_get yX6_get, Cond.initialized RX6, Cond.code yX6_get cX6_get 2 (some (.object "MirrorKeep$Entry")), Cond.fieldLink RX6 17 "MirrorKeep$Tree" "count" "I", Cond.fieldLink RX6 13 "MirrorKeep$Tree" "rows" "[LMirrorKeep$Entry;", Cond.methodLink RX8 166 yJ7_copyOf_9075b]
def wsL_cut_r2 : List Cond := [Cond.static yJ7_copyOf_9075b, Cond.initialized RJ7, Cond.code yJ7_copyOf_9075b cJ7_copyOf_9075b 3 (some (.array .byte)), Cond.methodLink RJ7 310 ⟨"[B", "clone", "()Ljava/lang/Object;"⟩, Cond.sameMethod "[B" "java/lang/Object" "clone" "()Ljava/lang/Object;", Cond.native ⟨"java/lang/Object", "clone", "()Ljava/lang/Object;"⟩, Cond.instanceMethod ⟨"java/lang/Object", "clone", "()Ljava/lang/Object;"⟩, Cond.selects "[B" ⟨"[B", "clone", "()Ljava/lang/Object;"⟩ ⟨"java/lang/Object", "clone", "()Ljava/lang/Object;"⟩, Cond.classLink RJ7 311 "[B", Cond.arrayClass .byte, Cond.methodLink RJ7 304 Lib.Math.min.name, Cond.static Lib.Math.min.name, Cond.initialized "java/lang/Math", Cond.code Lib.Math.min.name Lib.Math.min.code 2 (some .int), Cond.methodLink RJ7 150 arraycopyName, Cond.native arraycopyName, Cond.static arraycopyName, Cond.initialized "java/lang/System", Cond.methodLink RX8 154 yX1_withContent, Cond.instanceMethod yX1_withContent, Cond.selects RX1 yX1_withContent yX1_withContent, Cond.initialized RX1, Cond.code yX1_withContent cX1_withContent 2 (some (.object "MirrorKeep$Entry")), Cond.classLink RX1 8 RX1]
def wsL_cut_r3 : List Cond := [Cond.instantiable RX1 5, Cond.fieldLink RX1 7 "MirrorKeep$Entry" "path" "[B", Cond.fieldLink RX1 13 "MirrorKeep$Entry" "kind" "I", Cond.fieldLink RX1 17 "MirrorKeep$Entry" "mode" "I", Cond.fieldLink RX1 20 "MirrorKeep$Entry" "time" "I", Cond.methodLink RX1 26 yX1_init, Cond.instanceMethod yX1_init, Cond.code yX1_init cX1_init 6 none, Cond.methodLink RX1 1 objectInit, Cond.instanceMethod objectInit, Cond.code objectInit ⟨#[0xb1]⟩ 1 none, Cond.fieldLink RX1 23 "MirrorKeep$Entry" "content" "[B", Cond.methodLink RX8 158 yX6_replace, Cond.instanceMethod yX6_replace, Cond.selects RX6 yX6_replace yX6_replace, Cond.code yX6_replace cX6_replace 3 none]
def wsL_cut : List Cond := .codeWith yL_cut cL_cut 3 (some .int) [(0, 5, 8, 13), (0, 5, 11, 15)] :: ((wsL_cut_r1 ++ (wsL_cut_r2 ++ wsL_cut_r3)) ++ wsX80 ++ wsX10 ++ wsX60 ++ (vx_atS RX8 69 "java/lang/IllegalStateException" ["java/lang/RuntimeException", "java/lang/Exception"]).filter goodWord ++ (vx_atS RX8 96 "java/lang/IllegalArgumentException" ["java/lang/RuntimeException", "java/lang/Exception"]).filter goodWord)
def wsL_set_r1 : List Cond := [Cond.classLink RL 13 "java/lang/IllegalArgumentException", Cond.classLink RL 15 "java/lang/IllegalStateException", Cond.methodLink RL 25 yX8_set, Cond.instanceMethod yX8_set, Cond.selects RX8 yX8_set yX8_set, Cond.initialized RX8, Cond.code yX8_set cX8_set 4 none, Cond.classLink RX8 65 "java/lang/IllegalStateException", Cond.initialized "java/lang/IllegalStateException", Cond.classLink RX8 92 "java/lang/IllegalArgumentException", Cond.initialized "java/lang/IllegalArgumentException", Cond.fieldLink RX8 19 "MirrorKeep" "source" "LMirrorKeep$Tree;", Cond.fieldLink RX8 50 "MirrorKeep" "chosen" "I", Cond.fieldLink RX8 54 "MirrorKeep" "state" "I", Cond.methodLink RX8 119 yX6_get, Cond.instanceMethod yX6_get, Cond.selects RX6 yX6_get yX6_get, Cond.initialized RX6, Cond.code yX6_get cX6_get 2 (some (.object "MirrorKeep$Entry")), Cond.fieldLink RX6 17 "MirrorKeep$Tree" "count" "I", Cond.fieldLink RX6 13 "MirrorKeep$Tree" "rows" "[LMirrorKeep$Entry;", Cond.methodLink RX8 80 yX8_isMode, Cond.static yX8_isMode, Cond.code yX8_isMode cX8_isMode 1 (some .boolean)]
def wsL_set_r2 : List Cond := [Cond.methodLink RX8 83 yX8_isTime, Cond.static yX8_isTime, Cond.code yX8_isTime cX8_isTime 1 (some .boolean), Cond.methodLink RX8 176 yX1_withModeAndTime, Cond.instanceMethod yX1_withModeAndTime, Cond.selects RX1 yX1_withModeAndTime yX1_withModeAndTime, Cond.initialized RX1, Cond.code yX1_withModeAndTime cX1_withModeAndTime 3 (some (.object "MirrorKeep$Entry")), Cond.classLink RX1 8 RX1, Cond.instantiable RX1 5, Cond.fieldLink RX1 7 "MirrorKeep$Entry" "path" "[B", Cond.fieldLink RX1 13 "MirrorKeep$Entry" "kind" "I", Cond.fieldLink RX1 23 "MirrorKeep$Entry" "content" "[B", Cond.methodLink RX1 26 yX1_init, Cond.instanceMethod yX1_init, Cond.code yX1_init cX1_init 6 none, Cond.methodLink RX1 1 objectInit, Cond.instanceMethod objectInit, Cond.code objectInit ⟨#[0xb1]⟩ 1 none, Cond.fieldLink RX1 17 "MirrorKeep$Entry" "mode" "I", Cond.fieldLink RX1 20 "MirrorKeep$Entry" "time" "I", Cond.methodLink RX8 158 yX6_replace, Cond.instanceMethod yX6_replace, Cond.selects RX6 yX6_replace yX6_replace]
def wsL_set_r3 : List Cond := [Cond.code yX6_replace cX6_replace 3 none]
def wsL_set : List Cond := .codeWith yL_set cL_set 4 (some .int) [(0, 6, 9, 13), (0, 6, 12, 15)] :: ((wsL_set_r1 ++ (wsL_set_r2 ++ wsL_set_r3)) ++ wsX80 ++ wsX60 ++ wsX10 ++ (vx_atS RX8 69 "java/lang/IllegalStateException" ["java/lang/RuntimeException", "java/lang/Exception"]).filter goodWord ++ (vx_atS RX8 96 "java/lang/IllegalArgumentException" ["java/lang/RuntimeException", "java/lang/Exception"]).filter goodWord)
def wsL_remove_r1 : List Cond := [Cond.classLink RL 15 "java/lang/IllegalStateException", Cond.methodLink RL 29 yX8_remove, Cond.instanceMethod yX8_remove, Cond.selects RX8 yX8_remove yX8_remove, Cond.initialized RX8, Cond.code yX8_remove cX8_remove 3 (some .int), Cond.classLink RX8 65 "java/lang/IllegalStateException", Cond.initialized "java/lang/IllegalStateException", Cond.fieldLink RX8 19 "MirrorKeep" "source" "LMirrorKeep$Tree;", Cond.fieldLink RX8 50 "MirrorKeep" "chosen" "I", Cond.fieldLink RX8 54 "MirrorKeep" "state" "I", Cond.methodLink RX8 119 yX6_get, Cond.instanceMethod yX6_get, Cond.selects RX6 yX6_get yX6_get, Cond.initialized RX6, Cond.code yX6_get cX6_get 2 (some (.object "MirrorKeep$Entry")), Cond.fieldLink RX6 17 "MirrorKeep$Tree" "count" "I", Cond.fieldLink RX6 13 "MirrorKeep$Tree" "rows" "[LMirrorKeep$Entry;", Cond.methodLink RX8 180 yX6_countBelow, Cond.instanceMethod yX6_countBelow, Cond.selects RX6 yX6_countBelow yX6_countBelow, Cond.code yX6_countBelow cX6_countBelow 6 (some .int), Cond.fieldLink RX6 29 "MirrorKeep$Entry" "path" "[B", Cond.methodLink RX6 25 yX6_get]
def wsL_remove_r2 : List Cond := [Cond.methodLink RX6 49 yX3_isBelow, Cond.static yX3_isBelow, Cond.initialized RX3, Cond.code yX3_isBelow cX3_isBelow 3 (some .boolean), Cond.methodLink RX8 183 yX6_drop, Cond.instanceMethod yX6_drop, Cond.selects RX6 yX6_drop yX6_drop, Cond.code yX6_drop cX6_drop 4 none]
def wsL_remove : List Cond := .codeWith yL_remove cL_remove 3 (some .int) [(0, 8, 11, 15)] :: ((wsL_remove_r1 ++ wsL_remove_r2) ++ wsX80 ++ wsX60 ++ wsX10 ++ (vx_atS RX8 69 "java/lang/IllegalStateException" ["java/lang/RuntimeException", "java/lang/Exception"]).filter goodWord)
def wsL_begin_r1 : List Cond := [Cond.classLink RL 13 "java/lang/IllegalArgumentException", Cond.classLink RL 15 "java/lang/IllegalStateException", Cond.methodLink RL 33 yX8_begin, Cond.instanceMethod yX8_begin, Cond.selects RX8 yX8_begin yX8_begin, Cond.initialized RX8, Cond.code yX8_begin cX8_begin 2 (some .int), Cond.classLink RX8 65 "java/lang/IllegalStateException", Cond.initialized "java/lang/IllegalStateException", Cond.classLink RX8 92 "java/lang/IllegalArgumentException", Cond.initialized "java/lang/IllegalArgumentException", Cond.fieldLink RX8 54 "MirrorKeep" "state" "I", Cond.fieldLink RX8 32 "MirrorKeep" "history" "LMirrorKeep$History;", Cond.fieldLink RX8 39 "MirrorKeep" "work" "LMirrorKeep$Work;", Cond.fieldLink RX8 23 "MirrorKeep" "mirror" "LMirrorKeep$Tree;", Cond.fieldLink RX8 19 "MirrorKeep" "source" "LMirrorKeep$Tree;", Cond.methodLink RX8 187 yX2_isFull, Cond.instanceMethod yX2_isFull, Cond.selects RX2 yX2_isFull yX2_isFull, Cond.initialized RX2, Cond.code yX2_isFull cX2_isFull 1 (some .boolean), Cond.fieldLink RX2 17 "MirrorKeep$History" "count" "I", Cond.methodLink RX8 83 yX8_isTime, Cond.static yX8_isTime]
def wsL_begin_r2 : List Cond := [Cond.code yX8_isTime cX8_isTime 1 (some .boolean), Cond.methodLink RX8 193 yX2_latestTime, Cond.instanceMethod yX2_latestTime, Cond.selects RX2 yX2_latestTime yX2_latestTime, Cond.code yX2_latestTime cX2_latestTime 2 (some .int), Cond.fieldLink RX2 25 "MirrorKeep$Session" "time" "I", Cond.methodLink RX2 21 yX2_get, Cond.instanceMethod yX2_get, Cond.selects RX2 yX2_get yX2_get, Cond.code yX2_get cX2_get 2 (some (.object "MirrorKeep$Session")), Cond.fieldLink RX2 13 "MirrorKeep$History" "rows" "[LMirrorKeep$Session;", Cond.methodLink RX8 198 yX7_start, Cond.instanceMethod yX7_start, Cond.selects RX7 yX7_start yX7_start, Cond.initialized RX7, Cond.code yX7_start cX7_start 4 none, Cond.fieldLink RX7 10 "MirrorKeep$Work" "changes" "LMirrorKeep$Changes;", Cond.fieldLink RX7 16 "MirrorKeep$Work" "time" "I", Cond.fieldLink RX7 20 "MirrorKeep$Work" "done" "I", Cond.methodLink RX7 23 yX0_find, Cond.instanceMethod yX0_find, Cond.selects RX0 yX0_find yX0_find, Cond.initialized RX0, Cond.code yX0_find cX0_find 10 none]
def wsL_begin_r3 : List Cond := [Cond.fieldLink RX0 20 "MirrorKeep$Changes" "count" "I", Cond.methodLink RX0 24 yX6_size, Cond.instanceMethod yX6_size, Cond.selects RX6 yX6_size yX6_size, Cond.initialized RX6, Cond.code yX6_size cX6_size 1 (some .int), Cond.fieldLink RX6 17 "MirrorKeep$Tree" "count" "I", Cond.methodLink RX0 30 yX6_get, Cond.instanceMethod yX6_get, Cond.selects RX6 yX6_get yX6_get, Cond.code yX6_get cX6_get 2 (some (.object "MirrorKeep$Entry")), Cond.fieldLink RX6 13 "MirrorKeep$Tree" "rows" "[LMirrorKeep$Entry;", Cond.methodLink RX0 34 yX0_order, Cond.static yX0_order, Cond.code yX0_order cX0_order 2 (some .int), Cond.fieldLink RX0 46 "MirrorKeep$Entry" "path" "[B", Cond.methodLink RX0 50 yX3_compare, Cond.static yX3_compare, Cond.initialized RX3, Cond.code yX3_compare cX3_compare 4 (some .int), Cond.methodLink RX3 15 Lib.Math.min.name, Cond.static Lib.Math.min.name, Cond.initialized "java/lang/Math", Cond.code Lib.Math.min.name Lib.Math.min.code 2 (some .int)]
def wsL_begin_r4 : List Cond := [Cond.methodLink RX3 21 yX3_rank, Cond.static yX3_rank, Cond.code yX3_rank cX3_rank 1 (some .int), Cond.methodLink RX0 38 yX0_add, Cond.instanceMethod yX0_add, Cond.selects RX0 yX0_add yX0_add, Cond.code yX0_add cX0_add 3 none, Cond.fieldLink RX0 13 "MirrorKeep$Changes" "before" "[LMirrorKeep$Entry;", Cond.fieldLink RX0 17 "MirrorKeep$Changes" "after" "[LMirrorKeep$Entry;", Cond.methodLink RX0 42 yX1_isLike, Cond.instanceMethod yX1_isLike, Cond.selects RX1 yX1_isLike yX1_isLike, Cond.initialized RX1, Cond.code yX1_isLike cX1_isLike 2 (some .boolean), Cond.fieldLink RX1 13 "MirrorKeep$Entry" "kind" "I", Cond.fieldLink RX1 17 "MirrorKeep$Entry" "mode" "I", Cond.fieldLink RX1 20 "MirrorKeep$Entry" "time" "I", Cond.fieldLink RX1 23 "MirrorKeep$Entry" "content" "[B", Cond.methodLink RX1 29 yX1_hasContent, Cond.instanceMethod yX1_hasContent, Cond.selects RX1 yX1_hasContent yX1_hasContent, Cond.code yX1_hasContent cX1_hasContent 3 (some .boolean), Cond.methodLink RX8 202 yX7_operations, Cond.instanceMethod yX7_operations]
def wsL_begin_r5 : List Cond := [Cond.selects RX7 yX7_operations yX7_operations, Cond.code yX7_operations cX7_operations 1 (some .int), Cond.methodLink RX7 27 yX0_size, Cond.instanceMethod yX0_size, Cond.selects RX0 yX0_size yX0_size, Cond.code yX0_size cX0_size 1 (some .int)]
def wsL_begin : List Cond := .codeWith yL_begin cL_begin 4 (some .int) [(0, 9, 12, 13), (0, 9, 15, 15)] :: ((wsL_begin_r1 ++ (wsL_begin_r2 ++ (wsL_begin_r3 ++ (wsL_begin_r4 ++ wsL_begin_r5)))) ++ wsX80 ++ wsX20 ++ wsX40 ++ wsX70 ++ wsX00 ++ wsX60 ++ wsX10 ++ (vx_atS RX8 69 "java/lang/IllegalStateException" ["java/lang/RuntimeException", "java/lang/Exception"]).filter goodWord ++ (vx_atS RX8 96 "java/lang/IllegalArgumentException" ["java/lang/RuntimeException", "java/lang/Exception"]).filter goodWord)
def wsL_step_r1 : List Cond := [Cond.classLink RL 15 "java/lang/IllegalStateException", Cond.classLink RL 13 "java/lang/IllegalArgumentException", Cond.methodLink RL 36 yX8_step, Cond.instanceMethod yX8_step, Cond.selects RX8 yX8_step yX8_step, Cond.initialized RX8, Cond.code yX8_step cX8_step 4 (some .int), Cond.classLink RX8 65 "java/lang/IllegalStateException", Cond.initialized "java/lang/IllegalStateException", Cond.classLink RX8 92 "java/lang/IllegalArgumentException", Cond.initialized "java/lang/IllegalArgumentException", Cond.fieldLink RX8 54 "MirrorKeep" "state" "I", Cond.fieldLink RX8 39 "MirrorKeep" "work" "LMirrorKeep$Work;", Cond.fieldLink RX8 212 "MirrorKeep$Work" "done" "I", Cond.methodLink RX8 215 Lib.Math.min.name, Cond.static Lib.Math.min.name, Cond.initialized "java/lang/Math", Cond.code Lib.Math.min.name Lib.Math.min.code 2 (some .int), Cond.fieldLink RX8 23 "MirrorKeep" "mirror" "LMirrorKeep$Tree;", Cond.methodLink RX8 207 yX8_isOperationCount, Cond.static yX8_isOperationCount, Cond.code yX8_isOperationCount cX8_isOperationCount 1 (some .boolean), Cond.methodLink RX8 202 yX7_operations, Cond.instanceMethod yX7_operations]
def wsL_step_r2 : List Cond := [Cond.selects RX7 yX7_operations yX7_operations, Cond.initialized RX7, Cond.code yX7_operations cX7_operations 1 (some .int), Cond.fieldLink RX7 10 "MirrorKeep$Work" "changes" "LMirrorKeep$Changes;", Cond.methodLink RX7 27 yX0_size, Cond.instanceMethod yX0_size, Cond.selects RX0 yX0_size yX0_size, Cond.initialized RX0, Cond.code yX0_size cX0_size 1 (some .int), Cond.fieldLink RX0 20 "MirrorKeep$Changes" "count" "I", Cond.methodLink RX8 219 yX7_doNext, Cond.instanceMethod yX7_doNext, Cond.selects RX7 yX7_doNext yX7_doNext, Cond.code yX7_doNext cX7_doNext 2 none, Cond.fieldLink RX7 20 "MirrorKeep$Work" "done" "I", Cond.methodLink RX7 37 yX7_isUpdate, Cond.instanceMethod yX7_isUpdate, Cond.selects RX7 yX7_isUpdate yX7_isUpdate, Cond.code yX7_isUpdate cX7_isUpdate 2 (some .boolean), Cond.methodLink RX7 41 yX7_changeOf, Cond.static yX7_changeOf, Cond.code yX7_changeOf cX7_changeOf 1 (some .int), Cond.methodLink RX7 45 yX0_apply, Cond.instanceMethod yX0_apply]
def wsL_step_r3 : List Cond := [Cond.selects RX0 yX0_apply yX0_apply, Cond.code yX0_apply cX0_apply 3 none, Cond.fieldLink RX0 13 "MirrorKeep$Changes" "before" "[LMirrorKeep$Entry;", Cond.fieldLink RX0 17 "MirrorKeep$Changes" "after" "[LMirrorKeep$Entry;", Cond.methodLink RX0 56 yX0_exchange, Cond.static yX0_exchange, Cond.code yX0_exchange cX0_exchange 3 none, Cond.fieldLink RX0 46 "MirrorKeep$Entry" "path" "[B", Cond.methodLink RX0 60 yX6_put, Cond.instanceMethod yX6_put, Cond.selects RX6 yX6_put yX6_put, Cond.initialized RX6, Cond.code yX6_put cX6_put 3 none, Cond.fieldLink RX6 29 "MirrorKeep$Entry" "path" "[B", Cond.methodLink RX6 39 yX6_find, Cond.instanceMethod yX6_find, Cond.selects RX6 yX6_find yX6_find, Cond.code yX6_find cX6_find 4 (some .int), Cond.methodLink RX6 21 yX6_placeOf, Cond.instanceMethod yX6_placeOf, Cond.selects RX6 yX6_placeOf yX6_placeOf, Cond.code yX6_placeOf cX6_placeOf 7 (some .int), Cond.fieldLink RX6 17 "MirrorKeep$Tree" "count" "I", Cond.methodLink RX6 25 yX6_get]
def wsL_step_r4 : List Cond := [Cond.instanceMethod yX6_get, Cond.selects RX6 yX6_get yX6_get, Cond.code yX6_get cX6_get 2 (some (.object "MirrorKeep$Entry")), Cond.fieldLink RX6 13 "MirrorKeep$Tree" "rows" "[LMirrorKeep$Entry;", Cond.methodLink RX6 33 yX3_compare, Cond.static yX3_compare, Cond.initialized RX3, Cond.code yX3_compare cX3_compare 4 (some .int), Cond.methodLink RX3 15 Lib.Math.min.name, Cond.methodLink RX3 21 yX3_rank, Cond.static yX3_rank, Cond.code yX3_rank cX3_rank 1 (some .int), Cond.methodLink RX6 42 yX6_insert, Cond.instanceMethod yX6_insert, Cond.selects RX6 yX6_insert yX6_insert, Cond.code yX6_insert cX6_insert 4 none, Cond.methodLink RX6 46 yX6_replace, Cond.instanceMethod yX6_replace, Cond.selects RX6 yX6_replace yX6_replace, Cond.code yX6_replace cX6_replace 3 none, Cond.methodLink RX0 64 yX6_find, Cond.methodLink RX0 68 yX6_drop, Cond.instanceMethod yX6_drop, Cond.selects RX6 yX6_drop yX6_drop]
def wsL_step_r5 : List Cond := [Cond.code yX6_drop cX6_drop 4 none, Cond.methodLink RX8 223 yX8_commit, Cond.instanceMethod yX8_commit, Cond.selects RX8 yX8_commit yX8_commit, Cond.code yX8_commit cX8_commit 1 none, Cond.fieldLink RX8 32 "MirrorKeep" "history" "LMirrorKeep$History;", Cond.classLink RX8 240 RX4, Cond.instantiable RX4 3, Cond.initialized RX4, Cond.fieldLink RX8 278 "MirrorKeep$Work" "time" "I", Cond.fieldLink RX8 279 "MirrorKeep$Work" "changes" "LMirrorKeep$Changes;", Cond.methodLink RX8 255 yX0_size, Cond.methodLink RX8 281 yX4_init, Cond.instanceMethod yX4_init, Cond.code yX4_init cX4_init 4 none, Cond.methodLink RX4 1 objectInit, Cond.instanceMethod objectInit, Cond.code objectInit ⟨#[0xb1]⟩ 1 none, Cond.fieldLink RX4 7 "MirrorKeep$Session" "time" "I", Cond.fieldLink RX4 13 "MirrorKeep$Session" "changes" "I", Cond.classLink RX4 16 RX6, Cond.instantiable RX6 2, Cond.fieldLink RX4 19 "MirrorKeep$Session" "tree" "LMirrorKeep$Tree;", Cond.instanceMethod yX6_init]
def wsL_step_r6 : List Cond := [Cond.code yX6_init cX6_init 1 none, Cond.methodLink RX6 3 objectInit, Cond.classLink RX6 11 RX1, Cond.methodLink RX4 23 yX6_copyFrom, Cond.instanceMethod yX6_copyFrom, Cond.selects RX6 yX6_copyFrom yX6_copyFrom, Cond.code yX6_copyFrom cX6_copyFrom 3 none, Cond.methodLink RX8 284 yX2_add, Cond.instanceMethod yX2_add, Cond.selects RX2 yX2_add yX2_add, Cond.initialized RX2, Cond.code yX2_add cX2_add 2 none, Cond.fieldLink RX2 17 "MirrorKeep$History" "count" "I", Cond.fieldLink RX2 13 "MirrorKeep$History" "rows" "[LMirrorKeep$Session;"]
def wsL_step : List Cond := .codeWith yL_step cL_step 4 (some .int) [(0, 9, 12, 15), (0, 9, 15, 13)] :: ((wsL_step_r1 ++ (wsL_step_r2 ++ (wsL_step_r3 ++ (wsL_step_r4 ++ (wsL_step_r5 ++ wsL_step_r6))))) ++ wsX80 ++ wsX70 ++ wsX00 ++ wsX10 ++ wsX60 ++ wsX40 ++ wsX20 ++ (vx_atS RX8 69 "java/lang/IllegalStateException" ["java/lang/RuntimeException", "java/lang/Exception"]).filter goodWord ++ (vx_atS RX8 96 "java/lang/IllegalArgumentException" ["java/lang/RuntimeException", "java/lang/Exception"]).filter goodWord)
def wsL_crash : List Cond := .codeWith yL_crash cL_crash 2 (some .int) [(0, 4, 7, 15)] :: ([.classLink RL 15 "java/lang/IllegalStateException", .methodLink RL 39 yX8_crash, .instanceMethod yX8_crash, .selects RX8 yX8_crash yX8_crash, .initialized RX8, .code yX8_crash cX8_crash 1 none, .classLink RX8 65 "java/lang/IllegalStateException", .initialized "java/lang/IllegalStateException", .fieldLink RX8 54 "MirrorKeep" "state" "I"] ++ wsX80 ++ (vx_atS RX8 69 "java/lang/IllegalStateException" ["java/lang/RuntimeException", "java/lang/Exception"]).filter goodWord)
def wsL_regress_r1 : List Cond := [Cond.classLink RL 15 "java/lang/IllegalStateException", Cond.classLink RL 13 "java/lang/IllegalArgumentException", Cond.methodLink RL 42 yX8_regress, Cond.instanceMethod yX8_regress, Cond.selects RX8 yX8_regress yX8_regress, Cond.initialized RX8, Cond.code yX8_regress cX8_regress 4 (some .int), Cond.classLink RX8 65 "java/lang/IllegalStateException", Cond.initialized "java/lang/IllegalStateException", Cond.classLink RX8 92 "java/lang/IllegalArgumentException", Cond.initialized "java/lang/IllegalArgumentException", Cond.fieldLink RX8 54 "MirrorKeep" "state" "I", Cond.fieldLink RX8 39 "MirrorKeep" "work" "LMirrorKeep$Work;", Cond.fieldLink RX8 212 "MirrorKeep$Work" "done" "I", Cond.methodLink RX8 215 Lib.Math.min.name, Cond.static Lib.Math.min.name, Cond.initialized "java/lang/Math", Cond.code Lib.Math.min.name Lib.Math.min.code 2 (some .int), Cond.fieldLink RX8 23 "MirrorKeep" "mirror" "LMirrorKeep$Tree;", Cond.methodLink RX8 207 yX8_isOperationCount, Cond.static yX8_isOperationCount, Cond.code yX8_isOperationCount cX8_isOperationCount 1 (some .boolean), Cond.methodLink RX8 228 yX7_takeBackLast, Cond.instanceMethod yX7_takeBackLast]
def wsL_regress_r2 : List Cond := [Cond.selects RX7 yX7_takeBackLast yX7_takeBackLast, Cond.initialized RX7, Cond.code yX7_takeBackLast cX7_takeBackLast 2 none, Cond.fieldLink RX7 20 "MirrorKeep$Work" "done" "I", Cond.fieldLink RX7 10 "MirrorKeep$Work" "changes" "LMirrorKeep$Changes;", Cond.methodLink RX7 37 yX7_isUpdate, Cond.instanceMethod yX7_isUpdate, Cond.selects RX7 yX7_isUpdate yX7_isUpdate, Cond.code yX7_isUpdate cX7_isUpdate 2 (some .boolean), Cond.methodLink RX7 27 yX0_size, Cond.instanceMethod yX0_size, Cond.selects RX0 yX0_size yX0_size, Cond.initialized RX0, Cond.code yX0_size cX0_size 1 (some .int), Cond.fieldLink RX0 20 "MirrorKeep$Changes" "count" "I", Cond.methodLink RX7 41 yX7_changeOf, Cond.static yX7_changeOf, Cond.code yX7_changeOf cX7_changeOf 1 (some .int), Cond.methodLink RX7 49 yX0_takeBack, Cond.instanceMethod yX0_takeBack, Cond.selects RX0 yX0_takeBack yX0_takeBack, Cond.code yX0_takeBack cX0_takeBack 3 none, Cond.fieldLink RX0 17 "MirrorKeep$Changes" "after" "[LMirrorKeep$Entry;", Cond.fieldLink RX0 13 "MirrorKeep$Changes" "before" "[LMirrorKeep$Entry;"]
def wsL_regress_r3 : List Cond := [Cond.methodLink RX0 56 yX0_exchange, Cond.static yX0_exchange, Cond.code yX0_exchange cX0_exchange 3 none, Cond.fieldLink RX0 46 "MirrorKeep$Entry" "path" "[B", Cond.methodLink RX0 60 yX6_put, Cond.instanceMethod yX6_put, Cond.selects RX6 yX6_put yX6_put, Cond.initialized RX6, Cond.code yX6_put cX6_put 3 none, Cond.fieldLink RX6 29 "MirrorKeep$Entry" "path" "[B", Cond.methodLink RX6 39 yX6_find, Cond.instanceMethod yX6_find, Cond.selects RX6 yX6_find yX6_find, Cond.code yX6_find cX6_find 4 (some .int), Cond.methodLink RX6 21 yX6_placeOf, Cond.instanceMethod yX6_placeOf, Cond.selects RX6 yX6_placeOf yX6_placeOf, Cond.code yX6_placeOf cX6_placeOf 7 (some .int), Cond.fieldLink RX6 17 "MirrorKeep$Tree" "count" "I", Cond.methodLink RX6 25 yX6_get, Cond.instanceMethod yX6_get, Cond.selects RX6 yX6_get yX6_get, Cond.code yX6_get cX6_get 2 (some (.object "MirrorKeep$Entry")), Cond.fieldLink RX6 13 "MirrorKeep$Tree" "rows" "[LMirrorKeep$Entry;"]
def wsL_regress_r4 : List Cond := [Cond.methodLink RX6 33 yX3_compare, Cond.static yX3_compare, Cond.initialized RX3, Cond.code yX3_compare cX3_compare 4 (some .int), Cond.methodLink RX3 15 Lib.Math.min.name, Cond.methodLink RX3 21 yX3_rank, Cond.static yX3_rank, Cond.code yX3_rank cX3_rank 1 (some .int), Cond.methodLink RX6 42 yX6_insert, Cond.instanceMethod yX6_insert, Cond.selects RX6 yX6_insert yX6_insert, Cond.code yX6_insert cX6_insert 4 none, Cond.methodLink RX6 46 yX6_replace, Cond.instanceMethod yX6_replace, Cond.selects RX6 yX6_replace yX6_replace, Cond.code yX6_replace cX6_replace 3 none, Cond.methodLink RX0 64 yX6_find, Cond.methodLink RX0 68 yX6_drop, Cond.instanceMethod yX6_drop, Cond.selects RX6 yX6_drop yX6_drop, Cond.code yX6_drop cX6_drop 4 none]
def wsL_regress : List Cond := .codeWith yL_regress cL_regress 4 (some .int) [(0, 9, 12, 15), (0, 9, 15, 13)] :: ((wsL_regress_r1 ++ (wsL_regress_r2 ++ (wsL_regress_r3 ++ wsL_regress_r4))) ++ wsX80 ++ wsX70 ++ wsX00 ++ wsX10 ++ wsX60 ++ (vx_atS RX8 69 "java/lang/IllegalStateException" ["java/lang/RuntimeException", "java/lang/Exception"]).filter goodWord ++ (vx_atS RX8 96 "java/lang/IllegalArgumentException" ["java/lang/RuntimeException", "java/lang/Exception"]).filter goodWord)
def wsL_restore_r1 : List Cond := [Cond.classLink RL 15 "java/lang/IllegalStateException", Cond.methodLink RL 45 yX8_restore, Cond.instanceMethod yX8_restore, Cond.selects RX8 yX8_restore yX8_restore, Cond.initialized RX8, Cond.code yX8_restore cX8_restore 3 (some .int), Cond.classLink RX8 65 "java/lang/IllegalStateException", Cond.initialized "java/lang/IllegalStateException", Cond.fieldLink RX8 32 "MirrorKeep" "history" "LMirrorKeep$History;", Cond.fieldLink RX8 54 "MirrorKeep" "state" "I", Cond.fieldLink RX8 26 "MirrorKeep" "result" "LMirrorKeep$Tree;", Cond.fieldLink RX8 239 "MirrorKeep$Session" "tree" "LMirrorKeep$Tree;", Cond.methodLink RX8 231 yX2_findAsOf, Cond.instanceMethod yX2_findAsOf, Cond.selects RX2 yX2_findAsOf yX2_findAsOf, Cond.initialized RX2, Cond.code yX2_findAsOf cX2_findAsOf 4 (some .int), Cond.fieldLink RX2 17 "MirrorKeep$History" "count" "I", Cond.fieldLink RX2 13 "MirrorKeep$History" "rows" "[LMirrorKeep$Session;", Cond.fieldLink RX2 25 "MirrorKeep$Session" "time" "I", Cond.methodLink RX8 234 yX2_get, Cond.instanceMethod yX2_get, Cond.selects RX2 yX2_get yX2_get, Cond.code yX2_get cX2_get 2 (some (.object "MirrorKeep$Session"))]
def wsL_restore_r2 : List Cond := [Cond.methodLink RX8 244 yX6_copyFrom, Cond.instanceMethod yX6_copyFrom, Cond.selects RX6 yX6_copyFrom yX6_copyFrom, Cond.initialized RX6, Cond.code yX6_copyFrom cX6_copyFrom 3 none, Cond.fieldLink RX6 17 "MirrorKeep$Tree" "count" "I", Cond.fieldLink RX6 13 "MirrorKeep$Tree" "rows" "[LMirrorKeep$Entry;", Cond.methodLink RX8 104 yX6_size, Cond.instanceMethod yX6_size, Cond.selects RX6 yX6_size yX6_size, Cond.code yX6_size cX6_size 1 (some .int)]
def wsL_restore : List Cond := .codeWith yL_restore cL_restore 4 (some .int) [(0, 9, 12, 15)] :: ((wsL_restore_r1 ++ wsL_restore_r2) ++ wsX80 ++ wsX40 ++ wsX20 ++ wsX60 ++ (vx_atS RX8 69 "java/lang/IllegalStateException" ["java/lang/RuntimeException", "java/lang/Exception"]).filter goodWord)
def wsL_prune : List Cond := .codeWith yL_prune cL_prune 4 (some .int) [(0, 9, 12, 15)] :: ([.classLink RL 15 "java/lang/IllegalStateException", .methodLink RL 48 yX8_prune, .instanceMethod yX8_prune, .selects RX8 yX8_prune yX8_prune, .initialized RX8, .code yX8_prune cX8_prune 2 (some .int), .classLink RX8 65 "java/lang/IllegalStateException", .initialized "java/lang/IllegalStateException", .fieldLink RX8 54 "MirrorKeep" "state" "I", .fieldLink RX8 32 "MirrorKeep" "history" "LMirrorKeep$History;", .methodLink RX8 231 yX2_findAsOf, .instanceMethod yX2_findAsOf, .selects RX2 yX2_findAsOf yX2_findAsOf, .initialized RX2, .code yX2_findAsOf cX2_findAsOf 4 (some .int), .fieldLink RX2 17 "MirrorKeep$History" "count" "I", .fieldLink RX2 13 "MirrorKeep$History" "rows" "[LMirrorKeep$Session;", .fieldLink RX2 25 "MirrorKeep$Session" "time" "I", .methodLink RX8 249 yX2_forgetAheadOf, .instanceMethod yX2_forgetAheadOf, .selects RX2 yX2_forgetAheadOf yX2_forgetAheadOf, .code yX2_forgetAheadOf cX2_forgetAheadOf 3 (some .int)] ++ wsX80 ++ wsX20 ++ wsX40 ++ (vx_atS RX8 69 "java/lang/IllegalStateException" ["java/lang/RuntimeException", "java/lang/Exception"]).filter goodWord)
theorem inJx8e188 : ∀ w ∈ wsJx8e1880, w ∈ lw_tbl := by decide +kernel
theorem inJ9 : ∀ w ∈ wsJ90, w ∈ lw_tbl := by decide +kernel
theorem inJ0 : ∀ w ∈ wsJ00, w ∈ lw_tbl := by decide +kernel
theorem inJ10 : ∀ w ∈ wsJ100, w ∈ lw_tbl := by decide +kernel
theorem inJ7 : ∀ w ∈ wsJ70, w ∈ lw_tbl := by decide +kernel
theorem dX0_init_0 : decode cX0_init 0 = .ok (.aload_n 0, 1) := by decide +kernel
theorem dX0_init_1 : decode cX0_init 1 = .ok (.invokespecial 3, 3) := by decide +kernel
theorem dX0_init_4 : decode cX0_init 4 = .ok (.aload_n 0, 1) := by decide +kernel
theorem dX0_init_5 : decode cX0_init 5 = .ok (.sipush 180, 3) := by decide +kernel
theorem dX0_init_8 : decode cX0_init 8 = .ok (.anewarray 11, 3) := by decide +kernel
theorem dX0_init_11 : decode cX0_init 11 = .ok (.putfield 13, 3) := by decide +kernel
theorem dX0_init_14 : decode cX0_init 14 = .ok (.aload_n 0, 1) := by decide +kernel
theorem dX0_init_15 : decode cX0_init 15 = .ok (.sipush 180, 3) := by decide +kernel
theorem dX0_init_18 : decode cX0_init 18 = .ok (.anewarray 11, 3) := by decide +kernel
theorem dX0_init_21 : decode cX0_init 21 = .ok (.putfield 17, 3) := by decide +kernel
theorem dX0_init_24 : decode cX0_init 24 = .ok (.aload_n 0, 1) := by decide +kernel
theorem dX0_init_25 : decode cX0_init 25 = .ok (.iconst 0, 1) := by decide +kernel
theorem dX0_init_26 : decode cX0_init 26 = .ok (.putfield 20, 3) := by decide +kernel
theorem dX0_init_29 : decode cX0_init 29 = .ok (.return_, 1) := by decide +kernel
theorem dX0_size_0 : decode cX0_size 0 = .ok (.aload_n 0, 1) := by decide +kernel
theorem dX0_size_1 : decode cX0_size 1 = .ok (.getfield 20, 3) := by decide +kernel
theorem dX0_size_4 : decode cX0_size 4 = .ok (.ireturn, 1) := by decide +kernel
set_option maxRecDepth 20000 in
theorem ggX0_find_X6_size : GoodIn wsX0_find wsX6_size := goodIn_r _ [6, 7, 51, 52] (by decide +kernel) (by decide +kernel)
set_option maxRecDepth 20000 in
theorem gX0_find_X6_size : GoodIn wsX0_find (wsV RX0 24 RX6 yX6_size wsX6_size) := goodIn_app (goodIn_of _ (by decide +kernel)) ggX0_find_X6_size
set_option maxRecDepth 20000 in
theorem ggX0_find_X6_get : GoodIn wsX0_find wsX6_get := goodIn_r _ [11, 7, 12, 51, 52] (by decide +kernel) (by decide +kernel)
set_option maxRecDepth 20000 in
theorem gX0_find_X6_get : GoodIn wsX0_find (wsV RX0 30 RX6 yX6_get wsX6_get) := goodIn_app (goodIn_of _ (by decide +kernel)) ggX0_find_X6_get
set_option maxRecDepth 20000 in
theorem ggX0_find_X0_order : GoodIn wsX0_find wsX0_order := goodIn_r _ [16, 17, 18, 19, 20, 21, 22, 23, 24, 25, 26, 27, 28, 53, 54, 55, 56, 57] (by decide +kernel) (by decide +kernel)
set_option maxRecDepth 20000 in
theorem gX0_find_X0_order : GoodIn wsX0_find (va_wsS RX0 34 yX0_order wsX0_order) := goodIn_app (goodIn_of _ (by decide +kernel)) ggX0_find_X0_order
set_option maxRecDepth 20000 in
theorem ggX0_find_X0_add : GoodIn wsX0_find wsX0_add := goodIn_r _ [32, 1, 33, 34, 48, 49, 50] (by decide +kernel) (by decide +kernel)
set_option maxRecDepth 20000 in
theorem gX0_find_X0_add : GoodIn wsX0_find (wsV RX0 38 RX0 yX0_add wsX0_add) := goodIn_app (goodIn_of _ (by decide +kernel)) ggX0_find_X0_add
set_option maxRecDepth 20000 in
theorem ggX0_find_X1_isLike : GoodIn wsX0_find wsX1_isLike := goodIn_r _ [39, 40, 41, 42, 43, 44, 45, 46, 38, 47, 53, 54, 55, 56, 57] (by decide +kernel) (by decide +kernel)
set_option maxRecDepth 20000 in
theorem gX0_find_X1_isLike : GoodIn wsX0_find (wsV RX0 42 RX1 yX1_isLike wsX1_isLike) := goodIn_app (goodIn_of _ (by decide +kernel)) ggX0_find_X1_isLike
theorem dX0_find_0 : decode cX0_find 0 = .ok (.aload_n 0, 1) := by decide +kernel
theorem dX0_find_1 : decode cX0_find 1 = .ok (.iconst 0, 1) := by decide +kernel
theorem dX0_find_2 : decode cX0_find 2 = .ok (.putfield 20, 3) := by decide +kernel
theorem dX0_find_5 : decode cX0_find 5 = .ok (.iconst 0, 1) := by decide +kernel
theorem dX0_find_6 : decode cX0_find 6 = .ok (.istore_n 3, 1) := by decide +kernel
theorem dX0_find_7 : decode cX0_find 7 = .ok (.iconst 0, 1) := by decide +kernel
theorem dX0_find_8 : decode cX0_find 8 = .ok (.istore 4, 2) := by decide +kernel
theorem dX0_find_10 : decode cX0_find 10 = .ok (.aload_n 1, 1) := by decide +kernel
theorem dX0_find_11 : decode cX0_find 11 = .ok (.invokevirtual 24, 3) := by decide +kernel
theorem dX0_find_14 : decode cX0_find 14 = .ok (.aload_n 2, 1) := by decide +kernel
theorem dX0_find_15 : decode cX0_find 15 = .ok (.invokevirtual 24, 3) := by decide +kernel
theorem dX0_find_18 : decode cX0_find 18 = .ok (.iadd, 1) := by decide +kernel
theorem dX0_find_19 : decode cX0_find 19 = .ok (.istore 5, 2) := by decide +kernel
theorem dX0_find_21 : decode cX0_find 21 = .ok (.iconst 0, 1) := by decide +kernel
theorem dX0_find_22 : decode cX0_find 22 = .ok (.istore 6, 2) := by decide +kernel
theorem dX0_find_24 : decode cX0_find 24 = .ok (.iload 6, 2) := by decide +kernel
theorem dX0_find_26 : decode cX0_find 26 = .ok (.iload 5, 2) := by decide +kernel
theorem dX0_find_28 : decode cX0_find 28 = .ok (.if_icmp .ge 130, 3) := by decide +kernel
theorem dX0_find_31 : decode cX0_find 31 = .ok (.aload_n 1, 1) := by decide +kernel
theorem dX0_find_32 : decode cX0_find 32 = .ok (.iload_n 3, 1) := by decide +kernel
theorem dX0_find_33 : decode cX0_find 33 = .ok (.invokevirtual 30, 3) := by decide +kernel
theorem dX0_find_36 : decode cX0_find 36 = .ok (.astore 7, 2) := by decide +kernel
theorem dX0_find_38 : decode cX0_find 38 = .ok (.aload_n 2, 1) := by decide +kernel
theorem dX0_find_39 : decode cX0_find 39 = .ok (.iload 4, 2) := by decide +kernel
theorem dX0_find_41 : decode cX0_find 41 = .ok (.invokevirtual 30, 3) := by decide +kernel
theorem dX0_find_44 : decode cX0_find 44 = .ok (.astore 8, 2) := by decide +kernel
theorem dX0_find_46 : decode cX0_find 46 = .ok (.aload 7, 2) := by decide +kernel
theorem dX0_find_48 : decode cX0_find 48 = .ok (.ifnonnull 9, 3) := by decide +kernel
theorem dX0_find_51 : decode cX0_find 51 = .ok (.aload 8, 2) := by decide +kernel
theorem dX0_find_53 : decode cX0_find 53 = .ok (.ifnonnull 4, 3) := by decide +kernel
theorem dX0_find_56 : decode cX0_find 56 = .ok (.return_, 1) := by decide +kernel
theorem dX0_find_57 : decode cX0_find 57 = .ok (.aload 7, 2) := by decide +kernel
theorem dX0_find_59 : decode cX0_find 59 = .ok (.aload 8, 2) := by decide +kernel
theorem dX0_find_61 : decode cX0_find 61 = .ok (.invokestatic 34, 3) := by decide +kernel
theorem dX0_find_64 : decode cX0_find 64 = .ok (.istore 9, 2) := by decide +kernel
theorem dX0_find_66 : decode cX0_find 66 = .ok (.iload 9, 2) := by decide +kernel
theorem dX0_find_68 : decode cX0_find 68 = .ok (.ifCond .ge 13, 3) := by decide +kernel
theorem dX0_find_71 : decode cX0_find 71 = .ok (.aload_n 0, 1) := by decide +kernel
theorem dX0_find_72 : decode cX0_find 72 = .ok (.aload 7, 2) := by decide +kernel
theorem dX0_find_74 : decode cX0_find 74 = .ok (.aconst_null, 1) := by decide +kernel
theorem dX0_find_75 : decode cX0_find 75 = .ok (.invokevirtual 38, 3) := by decide +kernel
theorem dX0_find_78 : decode cX0_find 78 = .ok (.goto 46, 3) := by decide +kernel
theorem dX0_find_81 : decode cX0_find 81 = .ok (.iload 9, 2) := by decide +kernel
theorem dX0_find_83 : decode cX0_find 83 = .ok (.ifCond .le 13, 3) := by decide +kernel
theorem dX0_find_86 : decode cX0_find 86 = .ok (.aload_n 0, 1) := by decide +kernel
theorem dX0_find_87 : decode cX0_find 87 = .ok (.aconst_null, 1) := by decide +kernel
theorem dX0_find_88 : decode cX0_find 88 = .ok (.aload 8, 2) := by decide +kernel
theorem dX0_find_90 : decode cX0_find 90 = .ok (.invokevirtual 38, 3) := by decide +kernel
theorem dX0_find_93 : decode cX0_find 93 = .ok (.goto 31, 3) := by decide +kernel
theorem dX0_find_96 : decode cX0_find 96 = .ok (.aload 7, 2) := by decide +kernel
theorem dX0_find_98 : decode cX0_find 98 = .ok (.ifnull 26, 3) := by decide +kernel
theorem dX0_find_101 : decode cX0_find 101 = .ok (.aload 8, 2) := by decide +kernel
theorem dX0_find_103 : decode cX0_find 103 = .ok (.ifnull 21, 3) := by decide +kernel
theorem dX0_find_106 : decode cX0_find 106 = .ok (.aload 7, 2) := by decide +kernel
theorem dX0_find_108 : decode cX0_find 108 = .ok (.aload 8, 2) := by decide +kernel
theorem dX0_find_110 : decode cX0_find 110 = .ok (.invokevirtual 42, 3) := by decide +kernel
theorem dX0_find_113 : decode cX0_find 113 = .ok (.ifCond .ne 11, 3) := by decide +kernel
theorem dX0_find_116 : decode cX0_find 116 = .ok (.aload_n 0, 1) := by decide +kernel
theorem dX0_find_117 : decode cX0_find 117 = .ok (.aload 7, 2) := by decide +kernel
theorem dX0_find_119 : decode cX0_find 119 = .ok (.aload 8, 2) := by decide +kernel
theorem dX0_find_121 : decode cX0_find 121 = .ok (.invokevirtual 38, 3) := by decide +kernel
theorem dX0_find_124 : decode cX0_find 124 = .ok (.iload_n 3, 1) := by decide +kernel
theorem dX0_find_125 : decode cX0_find 125 = .ok (.iload 9, 2) := by decide +kernel
theorem dX0_find_127 : decode cX0_find 127 = .ok (.ifCond .gt 7, 3) := by decide +kernel
theorem dX0_find_130 : decode cX0_find 130 = .ok (.iconst 1, 1) := by decide +kernel
theorem dX0_find_131 : decode cX0_find 131 = .ok (.goto 4, 3) := by decide +kernel
theorem dX0_find_134 : decode cX0_find 134 = .ok (.iconst 0, 1) := by decide +kernel
theorem dX0_find_135 : decode cX0_find 135 = .ok (.iadd, 1) := by decide +kernel
theorem dX0_find_136 : decode cX0_find 136 = .ok (.istore_n 3, 1) := by decide +kernel
theorem dX0_find_137 : decode cX0_find 137 = .ok (.iload 4, 2) := by decide +kernel
theorem dX0_find_139 : decode cX0_find 139 = .ok (.iload 9, 2) := by decide +kernel
theorem dX0_find_141 : decode cX0_find 141 = .ok (.ifCond .lt 7, 3) := by decide +kernel
theorem dX0_find_144 : decode cX0_find 144 = .ok (.iconst 1, 1) := by decide +kernel
theorem dX0_find_145 : decode cX0_find 145 = .ok (.goto 4, 3) := by decide +kernel
theorem dX0_find_148 : decode cX0_find 148 = .ok (.iconst 0, 1) := by decide +kernel
theorem dX0_find_149 : decode cX0_find 149 = .ok (.iadd, 1) := by decide +kernel
theorem dX0_find_150 : decode cX0_find 150 = .ok (.istore 4, 2) := by decide +kernel
theorem dX0_find_152 : decode cX0_find 152 = .ok (.iinc 6 1, 3) := by decide +kernel
theorem dX0_find_155 : decode cX0_find 155 = .ok (.goto (-131), 3) := by decide +kernel
theorem dX0_find_158 : decode cX0_find 158 = .ok (.return_, 1) := by decide +kernel
set_option maxRecDepth 20000 in
theorem ggX0_order_X3_compare : GoodIn wsX0_order wsX3_compare := goodIn_r _ [5, 6, 7, 8, 9, 10, 11, 4, 12] (by decide +kernel) (by decide +kernel)
set_option maxRecDepth 20000 in
theorem gX0_order_X3_compare : GoodIn wsX0_order (va_wsS RX0 50 yX3_compare wsX3_compare) := goodIn_app (goodIn_of _ (by decide +kernel)) ggX0_order_X3_compare
theorem dX0_order_0 : decode cX0_order 0 = .ok (.aload_n 0, 1) := by decide +kernel
theorem dX0_order_1 : decode cX0_order 1 = .ok (.ifnonnull 5, 3) := by decide +kernel
theorem dX0_order_4 : decode cX0_order 4 = .ok (.iconst 1, 1) := by decide +kernel
theorem dX0_order_5 : decode cX0_order 5 = .ok (.ireturn, 1) := by decide +kernel
theorem dX0_order_6 : decode cX0_order 6 = .ok (.aload_n 1, 1) := by decide +kernel
theorem dX0_order_7 : decode cX0_order 7 = .ok (.ifnonnull 7, 3) := by decide +kernel
theorem dX0_order_10 : decode cX0_order 10 = .ok (.iconst (-1), 1) := by decide +kernel
theorem dX0_order_11 : decode cX0_order 11 = .ok (.goto 14, 3) := by decide +kernel
theorem dX0_order_14 : decode cX0_order 14 = .ok (.aload_n 0, 1) := by decide +kernel
theorem dX0_order_15 : decode cX0_order 15 = .ok (.getfield 46, 3) := by decide +kernel
theorem dX0_order_18 : decode cX0_order 18 = .ok (.aload_n 1, 1) := by decide +kernel
theorem dX0_order_19 : decode cX0_order 19 = .ok (.getfield 46, 3) := by decide +kernel
theorem dX0_order_22 : decode cX0_order 22 = .ok (.invokestatic 50, 3) := by decide +kernel
theorem dX0_order_25 : decode cX0_order 25 = .ok (.ireturn, 1) := by decide +kernel
theorem dX0_add_0 : decode cX0_add 0 = .ok (.aload_n 0, 1) := by decide +kernel
theorem dX0_add_1 : decode cX0_add 1 = .ok (.getfield 20, 3) := by decide +kernel
theorem dX0_add_4 : decode cX0_add 4 = .ok (.sipush 180, 3) := by decide +kernel
theorem dX0_add_7 : decode cX0_add 7 = .ok (.if_icmp .ge 33, 3) := by decide +kernel
theorem dX0_add_10 : decode cX0_add 10 = .ok (.aload_n 0, 1) := by decide +kernel
theorem dX0_add_11 : decode cX0_add 11 = .ok (.getfield 13, 3) := by decide +kernel
theorem dX0_add_14 : decode cX0_add 14 = .ok (.aload_n 0, 1) := by decide +kernel
theorem dX0_add_15 : decode cX0_add 15 = .ok (.getfield 20, 3) := by decide +kernel
theorem dX0_add_18 : decode cX0_add 18 = .ok (.aload_n 1, 1) := by decide +kernel
theorem dX0_add_19 : decode cX0_add 19 = .ok (.aastore, 1) := by decide +kernel
theorem dX0_add_20 : decode cX0_add 20 = .ok (.aload_n 0, 1) := by decide +kernel
theorem dX0_add_21 : decode cX0_add 21 = .ok (.getfield 17, 3) := by decide +kernel
theorem dX0_add_24 : decode cX0_add 24 = .ok (.aload_n 0, 1) := by decide +kernel
theorem dX0_add_25 : decode cX0_add 25 = .ok (.getfield 20, 3) := by decide +kernel
theorem dX0_add_28 : decode cX0_add 28 = .ok (.aload_n 2, 1) := by decide +kernel
theorem dX0_add_29 : decode cX0_add 29 = .ok (.aastore, 1) := by decide +kernel
theorem dX0_add_30 : decode cX0_add 30 = .ok (.aload_n 0, 1) := by decide +kernel
theorem dX0_add_31 : decode cX0_add 31 = .ok (.dup, 1) := by decide +kernel
theorem dX0_add_32 : decode cX0_add 32 = .ok (.getfield 20, 3) := by decide +kernel
theorem dX0_add_35 : decode cX0_add 35 = .ok (.iconst 1, 1) := by decide +kernel
theorem dX0_add_36 : decode cX0_add 36 = .ok (.iadd, 1) := by decide +kernel
theorem dX0_add_37 : decode cX0_add 37 = .ok (.putfield 20, 3) := by decide +kernel
theorem dX0_add_40 : decode cX0_add 40 = .ok (.return_, 1) := by decide +kernel
set_option maxRecDepth 20000 in
theorem ggX0_apply_X0_exchange : GoodIn wsX0_apply wsX0_exchange := goodIn_r _ [7, 8, 9, 10, 11, 12, 13, 14, 15, 16, 17, 18, 19, 20, 21, 22, 23, 24, 25, 26, 27, 28, 29, 30, 31, 32, 33, 34, 35, 36, 37, 38, 39, 40, 41, 42, 43, 44, 45, 46, 47, 48, 49, 50, 51, 52, 56, 57, 58, 59, 60, 61, 62] (by decide +kernel) (by decide +kernel)
set_option maxRecDepth 20000 in
theorem gX0_apply_X0_exchange : GoodIn wsX0_apply (va_wsS RX0 56 yX0_exchange wsX0_exchange) := goodIn_app (goodIn_of _ (by decide +kernel)) ggX0_apply_X0_exchange
theorem dX0_apply_0 : decode cX0_apply 0 = .ok (.iload_n 1, 1) := by decide +kernel
theorem dX0_apply_1 : decode cX0_apply 1 = .ok (.ifCond .lt 27, 3) := by decide +kernel
theorem dX0_apply_4 : decode cX0_apply 4 = .ok (.iload_n 1, 1) := by decide +kernel
theorem dX0_apply_5 : decode cX0_apply 5 = .ok (.aload_n 0, 1) := by decide +kernel
theorem dX0_apply_6 : decode cX0_apply 6 = .ok (.getfield 20, 3) := by decide +kernel
theorem dX0_apply_9 : decode cX0_apply 9 = .ok (.if_icmp .ge 19, 3) := by decide +kernel
theorem dX0_apply_12 : decode cX0_apply 12 = .ok (.aload_n 0, 1) := by decide +kernel
theorem dX0_apply_13 : decode cX0_apply 13 = .ok (.getfield 13, 3) := by decide +kernel
theorem dX0_apply_16 : decode cX0_apply 16 = .ok (.iload_n 1, 1) := by decide +kernel
theorem dX0_apply_17 : decode cX0_apply 17 = .ok (.aaload, 1) := by decide +kernel
theorem dX0_apply_18 : decode cX0_apply 18 = .ok (.aload_n 0, 1) := by decide +kernel
theorem dX0_apply_19 : decode cX0_apply 19 = .ok (.getfield 17, 3) := by decide +kernel
theorem dX0_apply_22 : decode cX0_apply 22 = .ok (.iload_n 1, 1) := by decide +kernel
theorem dX0_apply_23 : decode cX0_apply 23 = .ok (.aaload, 1) := by decide +kernel
theorem dX0_apply_24 : decode cX0_apply 24 = .ok (.aload_n 2, 1) := by decide +kernel
theorem dX0_apply_25 : decode cX0_apply 25 = .ok (.invokestatic 56, 3) := by decide +kernel
theorem dX0_apply_28 : decode cX0_apply 28 = .ok (.return_, 1) := by decide +kernel
set_option maxRecDepth 20000 in
theorem ggX0_takeBack_X0_exchange : GoodIn wsX0_takeBack wsX0_exchange := goodIn_r _ [7, 8, 9, 10, 11, 12, 13, 14, 15, 16, 17, 18, 19, 20, 21, 22, 23, 24, 25, 26, 27, 28, 29, 30, 31, 32, 33, 34, 35, 36, 37, 38, 39, 40, 41, 42, 43, 44, 45, 46, 47, 48, 49, 50, 51, 52, 56, 57, 58, 59, 60, 61, 62] (by decide +kernel) (by decide +kernel)
set_option maxRecDepth 20000 in
theorem gX0_takeBack_X0_exchange : GoodIn wsX0_takeBack (va_wsS RX0 56 yX0_exchange wsX0_exchange) := goodIn_app (goodIn_of _ (by decide +kernel)) ggX0_takeBack_X0_exchange
theorem dX0_takeBack_0 : decode cX0_takeBack 0 = .ok (.iload_n 1, 1) := by decide +kernel
theorem dX0_takeBack_1 : decode cX0_takeBack 1 = .ok (.ifCond .lt 27, 3) := by decide +kernel
theorem dX0_takeBack_4 : decode cX0_takeBack 4 = .ok (.iload_n 1, 1) := by decide +kernel
theorem dX0_takeBack_5 : decode cX0_takeBack 5 = .ok (.aload_n 0, 1) := by decide +kernel
theorem dX0_takeBack_6 : decode cX0_takeBack 6 = .ok (.getfield 20, 3) := by decide +kernel
theorem dX0_takeBack_9 : decode cX0_takeBack 9 = .ok (.if_icmp .ge 19, 3) := by decide +kernel
theorem dX0_takeBack_12 : decode cX0_takeBack 12 = .ok (.aload_n 0, 1) := by decide +kernel
theorem dX0_takeBack_13 : decode cX0_takeBack 13 = .ok (.getfield 17, 3) := by decide +kernel
theorem dX0_takeBack_16 : decode cX0_takeBack 16 = .ok (.iload_n 1, 1) := by decide +kernel
theorem dX0_takeBack_17 : decode cX0_takeBack 17 = .ok (.aaload, 1) := by decide +kernel
theorem dX0_takeBack_18 : decode cX0_takeBack 18 = .ok (.aload_n 0, 1) := by decide +kernel
theorem dX0_takeBack_19 : decode cX0_takeBack 19 = .ok (.getfield 13, 3) := by decide +kernel
theorem dX0_takeBack_22 : decode cX0_takeBack 22 = .ok (.iload_n 1, 1) := by decide +kernel
theorem dX0_takeBack_23 : decode cX0_takeBack 23 = .ok (.aaload, 1) := by decide +kernel
theorem dX0_takeBack_24 : decode cX0_takeBack 24 = .ok (.aload_n 2, 1) := by decide +kernel
theorem dX0_takeBack_25 : decode cX0_takeBack 25 = .ok (.invokestatic 56, 3) := by decide +kernel
theorem dX0_takeBack_28 : decode cX0_takeBack 28 = .ok (.return_, 1) := by decide +kernel
set_option maxRecDepth 20000 in
theorem ggX0_exchange_X6_put : GoodIn wsX0_exchange wsX6_put := goodIn_r _ [6, 7, 8, 9, 10, 5, 11, 12, 13, 14, 15, 16, 17, 18, 19, 20, 21, 22, 23, 24, 25, 26, 27, 28, 29, 30, 31, 32, 33, 34, 35, 36, 37, 38, 39, 40, 46, 47, 48, 49, 50, 51, 52] (by decide +kernel) (by decide +kernel)
set_option maxRecDepth 20000 in
theorem gX0_exchange_X6_put : GoodIn wsX0_exchange (wsV RX0 60 RX6 yX6_put wsX6_put) := goodIn_app (goodIn_of _ (by decide +kernel)) ggX0_exchange_X6_put
set_option maxRecDepth 20000 in
theorem ggX0_exchange_X6_find : GoodIn wsX0_exchange wsX6_find := goodIn_r _ [11, 7, 12, 13, 14, 5, 15, 16, 17, 18, 19, 20, 21, 22, 23, 24, 25, 26, 27, 28, 29, 30, 31, 32, 46, 47, 48, 49, 50, 51, 52] (by decide +kernel) (by decide +kernel)
set_option maxRecDepth 20000 in
theorem gX0_exchange_X6_find : GoodIn wsX0_exchange (wsV RX0 64 RX6 yX6_find wsX6_find) := goodIn_app (goodIn_of _ (by decide +kernel)) ggX0_exchange_X6_find
set_option maxRecDepth 20000 in
theorem ggX0_exchange_X6_drop : GoodIn wsX0_exchange wsX6_drop := goodIn_r _ [45, 16, 21, 51, 52] (by decide +kernel) (by decide +kernel)
set_option maxRecDepth 20000 in
theorem gX0_exchange_X6_drop : GoodIn wsX0_exchange (wsV RX0 68 RX6 yX6_drop wsX6_drop) := goodIn_app (goodIn_of _ (by decide +kernel)) ggX0_exchange_X6_drop
theorem dX0_exchange_0 : decode cX0_exchange 0 = .ok (.aload_n 1, 1) := by decide +kernel
theorem dX0_exchange_1 : decode cX0_exchange 1 = .ok (.ifnull 11, 3) := by decide +kernel
theorem dX0_exchange_4 : decode cX0_exchange 4 = .ok (.aload_n 2, 1) := by decide +kernel
theorem dX0_exchange_5 : decode cX0_exchange 5 = .ok (.aload_n 1, 1) := by decide +kernel
theorem dX0_exchange_6 : decode cX0_exchange 6 = .ok (.invokevirtual 60, 3) := by decide +kernel
theorem dX0_exchange_9 : decode cX0_exchange 9 = .ok (.goto 20, 3) := by decide +kernel
theorem dX0_exchange_12 : decode cX0_exchange 12 = .ok (.aload_n 0, 1) := by decide +kernel
theorem dX0_exchange_13 : decode cX0_exchange 13 = .ok (.ifnull 16, 3) := by decide +kernel
theorem dX0_exchange_16 : decode cX0_exchange 16 = .ok (.aload_n 2, 1) := by decide +kernel
theorem dX0_exchange_17 : decode cX0_exchange 17 = .ok (.aload_n 2, 1) := by decide +kernel
theorem dX0_exchange_18 : decode cX0_exchange 18 = .ok (.aload_n 0, 1) := by decide +kernel
theorem dX0_exchange_19 : decode cX0_exchange 19 = .ok (.getfield 46, 3) := by decide +kernel
theorem dX0_exchange_22 : decode cX0_exchange 22 = .ok (.invokevirtual 64, 3) := by decide +kernel
theorem dX0_exchange_25 : decode cX0_exchange 25 = .ok (.iconst 1, 1) := by decide +kernel
theorem dX0_exchange_26 : decode cX0_exchange 26 = .ok (.invokevirtual 68, 3) := by decide +kernel
theorem dX0_exchange_29 : decode cX0_exchange 29 = .ok (.return_, 1) := by decide +kernel
theorem dX1_init_0 : decode cX1_init 0 = .ok (.aload_n 0, 1) := by decide +kernel
theorem dX1_init_1 : decode cX1_init 1 = .ok (.invokespecial 1, 3) := by decide +kernel
theorem dX1_init_4 : decode cX1_init 4 = .ok (.aload_n 0, 1) := by decide +kernel
theorem dX1_init_5 : decode cX1_init 5 = .ok (.aload_n 1, 1) := by decide +kernel
theorem dX1_init_6 : decode cX1_init 6 = .ok (.putfield 7, 3) := by decide +kernel
theorem dX1_init_9 : decode cX1_init 9 = .ok (.aload_n 0, 1) := by decide +kernel
theorem dX1_init_10 : decode cX1_init 10 = .ok (.iload_n 2, 1) := by decide +kernel
theorem dX1_init_11 : decode cX1_init 11 = .ok (.putfield 13, 3) := by decide +kernel
theorem dX1_init_14 : decode cX1_init 14 = .ok (.aload_n 0, 1) := by decide +kernel
theorem dX1_init_15 : decode cX1_init 15 = .ok (.iload_n 3, 1) := by decide +kernel
theorem dX1_init_16 : decode cX1_init 16 = .ok (.putfield 17, 3) := by decide +kernel
theorem dX1_init_19 : decode cX1_init 19 = .ok (.aload_n 0, 1) := by decide +kernel
theorem dX1_init_20 : decode cX1_init 20 = .ok (.iload 4, 2) := by decide +kernel
theorem dX1_init_22 : decode cX1_init 22 = .ok (.putfield 20, 3) := by decide +kernel
theorem dX1_init_25 : decode cX1_init 25 = .ok (.aload_n 0, 1) := by decide +kernel
theorem dX1_init_26 : decode cX1_init 26 = .ok (.aload 5, 2) := by decide +kernel
theorem dX1_init_28 : decode cX1_init 28 = .ok (.putfield 23, 3) := by decide +kernel
theorem dX1_init_31 : decode cX1_init 31 = .ok (.return_, 1) := by decide +kernel
set_option maxRecDepth 20000 in
theorem ggX1_withContent_X1_init : GoodIn wsX1_withContent wsX1_init := goodIn_r _ [10, 11, 12, 13, 4, 5, 6, 7, 14, 15, 16, 17, 18, 19] (by decide +kernel) (by decide +kernel)
set_option maxRecDepth 20000 in
theorem gX1_withContent_X1_init : GoodIn wsX1_withContent (wsX1_init) := ggX1_withContent_X1_init
theorem dX1_withContent_0 : decode cX1_withContent 0 = .ok (.new 8, 3) := by decide +kernel
theorem dX1_withContent_3 : decode cX1_withContent 3 = .ok (.dup, 1) := by decide +kernel
theorem dX1_withContent_4 : decode cX1_withContent 4 = .ok (.aload_n 0, 1) := by decide +kernel
theorem dX1_withContent_5 : decode cX1_withContent 5 = .ok (.getfield 7, 3) := by decide +kernel
theorem dX1_withContent_8 : decode cX1_withContent 8 = .ok (.aload_n 0, 1) := by decide +kernel
theorem dX1_withContent_9 : decode cX1_withContent 9 = .ok (.getfield 13, 3) := by decide +kernel
theorem dX1_withContent_12 : decode cX1_withContent 12 = .ok (.aload_n 0, 1) := by decide +kernel
theorem dX1_withContent_13 : decode cX1_withContent 13 = .ok (.getfield 17, 3) := by decide +kernel
theorem dX1_withContent_16 : decode cX1_withContent 16 = .ok (.aload_n 0, 1) := by decide +kernel
theorem dX1_withContent_17 : decode cX1_withContent 17 = .ok (.getfield 20, 3) := by decide +kernel
theorem dX1_withContent_20 : decode cX1_withContent 20 = .ok (.aload_n 1, 1) := by decide +kernel
theorem dX1_withContent_21 : decode cX1_withContent 21 = .ok (.invokespecial 26, 3) := by decide +kernel
theorem dX1_withContent_24 : decode cX1_withContent 24 = .ok (.areturn, 1) := by decide +kernel
set_option maxRecDepth 20000 in
theorem ggX1_withModeAndTime_X1_init : GoodIn wsX1_withModeAndTime wsX1_init := goodIn_r _ [9, 10, 11, 12, 4, 5, 13, 14, 6, 15, 16, 17, 18, 19] (by decide +kernel) (by decide +kernel)
set_option maxRecDepth 20000 in
theorem gX1_withModeAndTime_X1_init : GoodIn wsX1_withModeAndTime (wsX1_init) := ggX1_withModeAndTime_X1_init
theorem dX1_withModeAndTime_0 : decode cX1_withModeAndTime 0 = .ok (.new 8, 3) := by decide +kernel
theorem dX1_withModeAndTime_3 : decode cX1_withModeAndTime 3 = .ok (.dup, 1) := by decide +kernel
theorem dX1_withModeAndTime_4 : decode cX1_withModeAndTime 4 = .ok (.aload_n 0, 1) := by decide +kernel
theorem dX1_withModeAndTime_5 : decode cX1_withModeAndTime 5 = .ok (.getfield 7, 3) := by decide +kernel
theorem dX1_withModeAndTime_8 : decode cX1_withModeAndTime 8 = .ok (.aload_n 0, 1) := by decide +kernel
theorem dX1_withModeAndTime_9 : decode cX1_withModeAndTime 9 = .ok (.getfield 13, 3) := by decide +kernel
theorem dX1_withModeAndTime_12 : decode cX1_withModeAndTime 12 = .ok (.iload_n 1, 1) := by decide +kernel
theorem dX1_withModeAndTime_13 : decode cX1_withModeAndTime 13 = .ok (.iload_n 2, 1) := by decide +kernel
theorem dX1_withModeAndTime_14 : decode cX1_withModeAndTime 14 = .ok (.aload_n 0, 1) := by decide +kernel
theorem dX1_withModeAndTime_15 : decode cX1_withModeAndTime 15 = .ok (.getfield 23, 3) := by decide +kernel
theorem dX1_withModeAndTime_18 : decode cX1_withModeAndTime 18 = .ok (.invokespecial 26, 3) := by decide +kernel
theorem dX1_withModeAndTime_21 : decode cX1_withModeAndTime 21 = .ok (.areturn, 1) := by decide +kernel
set_option maxRecDepth 20000 in
theorem ggX1_isLike_X1_hasContent : GoodIn wsX1_isLike wsX1_hasContent := goodIn_r _ [9, 4, 10, 11, 12, 13, 14] (by decide +kernel) (by decide +kernel)
set_option maxRecDepth 20000 in
theorem gX1_isLike_X1_hasContent : GoodIn wsX1_isLike (wsV RX1 29 RX1 yX1_hasContent wsX1_hasContent) := goodIn_app (goodIn_of _ (by decide +kernel)) ggX1_isLike_X1_hasContent
theorem dX1_isLike_0 : decode cX1_isLike 0 = .ok (.aload_n 0, 1) := by decide +kernel
theorem dX1_isLike_1 : decode cX1_isLike 1 = .ok (.getfield 13, 3) := by decide +kernel
theorem dX1_isLike_4 : decode cX1_isLike 4 = .ok (.aload_n 1, 1) := by decide +kernel
theorem dX1_isLike_5 : decode cX1_isLike 5 = .ok (.getfield 13, 3) := by decide +kernel
theorem dX1_isLike_8 : decode cX1_isLike 8 = .ok (.if_icmp .ne 40, 3) := by decide +kernel
theorem dX1_isLike_11 : decode cX1_isLike 11 = .ok (.aload_n 0, 1) := by decide +kernel
theorem dX1_isLike_12 : decode cX1_isLike 12 = .ok (.getfield 17, 3) := by decide +kernel
theorem dX1_isLike_15 : decode cX1_isLike 15 = .ok (.aload_n 1, 1) := by decide +kernel
theorem dX1_isLike_16 : decode cX1_isLike 16 = .ok (.getfield 17, 3) := by decide +kernel
theorem dX1_isLike_19 : decode cX1_isLike 19 = .ok (.if_icmp .ne 29, 3) := by decide +kernel
theorem dX1_isLike_22 : decode cX1_isLike 22 = .ok (.aload_n 0, 1) := by decide +kernel
theorem dX1_isLike_23 : decode cX1_isLike 23 = .ok (.getfield 20, 3) := by decide +kernel
theorem dX1_isLike_26 : decode cX1_isLike 26 = .ok (.aload_n 1, 1) := by decide +kernel
theorem dX1_isLike_27 : decode cX1_isLike 27 = .ok (.getfield 20, 3) := by decide +kernel
theorem dX1_isLike_30 : decode cX1_isLike 30 = .ok (.if_icmp .ne 18, 3) := by decide +kernel
theorem dX1_isLike_33 : decode cX1_isLike 33 = .ok (.aload_n 0, 1) := by decide +kernel
theorem dX1_isLike_34 : decode cX1_isLike 34 = .ok (.aload_n 1, 1) := by decide +kernel
theorem dX1_isLike_35 : decode cX1_isLike 35 = .ok (.getfield 23, 3) := by decide +kernel
theorem dX1_isLike_38 : decode cX1_isLike 38 = .ok (.invokevirtual 29, 3) := by decide +kernel
theorem dX1_isLike_41 : decode cX1_isLike 41 = .ok (.ifCond .eq 7, 3) := by decide +kernel
theorem dX1_isLike_44 : decode cX1_isLike 44 = .ok (.iconst 1, 1) := by decide +kernel
theorem dX1_isLike_45 : decode cX1_isLike 45 = .ok (.goto 4, 3) := by decide +kernel
theorem dX1_isLike_48 : decode cX1_isLike 48 = .ok (.iconst 0, 1) := by decide +kernel
theorem dX1_isLike_49 : decode cX1_isLike 49 = .ok (.ireturn, 1) := by decide +kernel
theorem dX1_hasContent_0 : decode cX1_hasContent 0 = .ok (.aload_n 0, 1) := by decide +kernel
theorem dX1_hasContent_1 : decode cX1_hasContent 1 = .ok (.getfield 23, 3) := by decide +kernel
theorem dX1_hasContent_4 : decode cX1_hasContent 4 = .ok (.arraylength, 1) := by decide +kernel
theorem dX1_hasContent_5 : decode cX1_hasContent 5 = .ok (.aload_n 1, 1) := by decide +kernel
end
section
theorem dX1_hasContent_6 : decode cX1_hasContent 6 = .ok (.arraylength, 1) := by decide +kernel
theorem dX1_hasContent_7 : decode cX1_hasContent 7 = .ok (.if_icmp .eq 5, 3) := by decide +kernel
theorem dX1_hasContent_10 : decode cX1_hasContent 10 = .ok (.iconst 0, 1) := by decide +kernel
theorem dX1_hasContent_11 : decode cX1_hasContent 11 = .ok (.ireturn, 1) := by decide +kernel
theorem dX1_hasContent_12 : decode cX1_hasContent 12 = .ok (.iconst 0, 1) := by decide +kernel
theorem dX1_hasContent_13 : decode cX1_hasContent 13 = .ok (.istore_n 2, 1) := by decide +kernel
theorem dX1_hasContent_14 : decode cX1_hasContent 14 = .ok (.iload_n 2, 1) := by decide +kernel
theorem dX1_hasContent_15 : decode cX1_hasContent 15 = .ok (.aload_n 0, 1) := by decide +kernel
theorem dX1_hasContent_16 : decode cX1_hasContent 16 = .ok (.getfield 23, 3) := by decide +kernel
theorem dX1_hasContent_19 : decode cX1_hasContent 19 = .ok (.arraylength, 1) := by decide +kernel
theorem dX1_hasContent_20 : decode cX1_hasContent 20 = .ok (.if_icmp .ge 23, 3) := by decide +kernel
theorem dX1_hasContent_23 : decode cX1_hasContent 23 = .ok (.aload_n 0, 1) := by decide +kernel
theorem dX1_hasContent_24 : decode cX1_hasContent 24 = .ok (.getfield 23, 3) := by decide +kernel
theorem dX1_hasContent_27 : decode cX1_hasContent 27 = .ok (.iload_n 2, 1) := by decide +kernel
theorem dX1_hasContent_28 : decode cX1_hasContent 28 = .ok (.baload, 1) := by decide +kernel
theorem dX1_hasContent_29 : decode cX1_hasContent 29 = .ok (.aload_n 1, 1) := by decide +kernel
theorem dX1_hasContent_30 : decode cX1_hasContent 30 = .ok (.iload_n 2, 1) := by decide +kernel
theorem dX1_hasContent_31 : decode cX1_hasContent 31 = .ok (.baload, 1) := by decide +kernel
theorem dX1_hasContent_32 : decode cX1_hasContent 32 = .ok (.if_icmp .eq 5, 3) := by decide +kernel
theorem dX1_hasContent_35 : decode cX1_hasContent 35 = .ok (.iconst 0, 1) := by decide +kernel
theorem dX1_hasContent_36 : decode cX1_hasContent 36 = .ok (.ireturn, 1) := by decide +kernel
theorem dX1_hasContent_37 : decode cX1_hasContent 37 = .ok (.iinc 2 1, 3) := by decide +kernel
theorem dX1_hasContent_40 : decode cX1_hasContent 40 = .ok (.goto (-26), 3) := by decide +kernel
theorem dX1_hasContent_43 : decode cX1_hasContent 43 = .ok (.iconst 1, 1) := by decide +kernel
theorem dX1_hasContent_44 : decode cX1_hasContent 44 = .ok (.ireturn, 1) := by decide +kernel
theorem dX2_init_0 : decode cX2_init 0 = .ok (.aload_n 0, 1) := by decide +kernel
theorem dX2_init_1 : decode cX2_init 1 = .ok (.invokespecial 3, 3) := by decide +kernel
theorem dX2_init_4 : decode cX2_init 4 = .ok (.aload_n 0, 1) := by decide +kernel
theorem dX2_init_5 : decode cX2_init 5 = .ok (.bipush 40, 2) := by decide +kernel
theorem dX2_init_7 : decode cX2_init 7 = .ok (.anewarray 11, 3) := by decide +kernel
theorem dX2_init_10 : decode cX2_init 10 = .ok (.putfield 13, 3) := by decide +kernel
theorem dX2_init_13 : decode cX2_init 13 = .ok (.aload_n 0, 1) := by decide +kernel
theorem dX2_init_14 : decode cX2_init 14 = .ok (.iconst 0, 1) := by decide +kernel
theorem dX2_init_15 : decode cX2_init 15 = .ok (.putfield 17, 3) := by decide +kernel
theorem dX2_init_18 : decode cX2_init 18 = .ok (.return_, 1) := by decide +kernel
theorem dX2_size_0 : decode cX2_size 0 = .ok (.aload_n 0, 1) := by decide +kernel
theorem dX2_size_1 : decode cX2_size 1 = .ok (.getfield 17, 3) := by decide +kernel
theorem dX2_size_4 : decode cX2_size 4 = .ok (.ireturn, 1) := by decide +kernel
theorem dX2_isFull_0 : decode cX2_isFull 0 = .ok (.aload_n 0, 1) := by decide +kernel
theorem dX2_isFull_1 : decode cX2_isFull 1 = .ok (.getfield 17, 3) := by decide +kernel
theorem dX2_isFull_4 : decode cX2_isFull 4 = .ok (.bipush 40, 2) := by decide +kernel
theorem dX2_isFull_6 : decode cX2_isFull 6 = .ok (.if_icmp .lt 7, 3) := by decide +kernel
theorem dX2_isFull_9 : decode cX2_isFull 9 = .ok (.iconst 1, 1) := by decide +kernel
theorem dX2_isFull_10 : decode cX2_isFull 10 = .ok (.goto 4, 3) := by decide +kernel
theorem dX2_isFull_13 : decode cX2_isFull 13 = .ok (.iconst 0, 1) := by decide +kernel
theorem dX2_isFull_14 : decode cX2_isFull 14 = .ok (.ireturn, 1) := by decide +kernel
theorem dX2_get_0 : decode cX2_get 0 = .ok (.iload_n 1, 1) := by decide +kernel
theorem dX2_get_1 : decode cX2_get 1 = .ok (.ifCond .lt 11, 3) := by decide +kernel
theorem dX2_get_4 : decode cX2_get 4 = .ok (.iload_n 1, 1) := by decide +kernel
theorem dX2_get_5 : decode cX2_get 5 = .ok (.aload_n 0, 1) := by decide +kernel
theorem dX2_get_6 : decode cX2_get 6 = .ok (.getfield 17, 3) := by decide +kernel
theorem dX2_get_9 : decode cX2_get 9 = .ok (.if_icmp .lt 7, 3) := by decide +kernel
theorem dX2_get_12 : decode cX2_get 12 = .ok (.aconst_null, 1) := by decide +kernel
theorem dX2_get_13 : decode cX2_get 13 = .ok (.goto 9, 3) := by decide +kernel
theorem dX2_get_16 : decode cX2_get 16 = .ok (.aload_n 0, 1) := by decide +kernel
theorem dX2_get_17 : decode cX2_get 17 = .ok (.getfield 13, 3) := by decide +kernel
theorem dX2_get_20 : decode cX2_get 20 = .ok (.iload_n 1, 1) := by decide +kernel
theorem dX2_get_21 : decode cX2_get 21 = .ok (.aaload, 1) := by decide +kernel
theorem dX2_get_22 : decode cX2_get 22 = .ok (.areturn, 1) := by decide +kernel
set_option maxRecDepth 20000 in
theorem ggX2_latestTime_X2_get : GoodIn wsX2_latestTime wsX2_get := goodIn_r _ [7, 1, 8, 9, 10] (by decide +kernel) (by decide +kernel)
set_option maxRecDepth 20000 in
theorem gX2_latestTime_X2_get : GoodIn wsX2_latestTime (wsV RX2 21 RX2 yX2_get wsX2_get) := goodIn_app (goodIn_of _ (by decide +kernel)) ggX2_latestTime_X2_get
theorem dX2_latestTime_0 : decode cX2_latestTime 0 = .ok (.aload_n 0, 1) := by decide +kernel
theorem dX2_latestTime_1 : decode cX2_latestTime 1 = .ok (.aload_n 0, 1) := by decide +kernel
theorem dX2_latestTime_2 : decode cX2_latestTime 2 = .ok (.getfield 17, 3) := by decide +kernel
theorem dX2_latestTime_5 : decode cX2_latestTime 5 = .ok (.iconst 1, 1) := by decide +kernel
theorem dX2_latestTime_6 : decode cX2_latestTime 6 = .ok (.isub, 1) := by decide +kernel
theorem dX2_latestTime_7 : decode cX2_latestTime 7 = .ok (.invokevirtual 21, 3) := by decide +kernel
theorem dX2_latestTime_10 : decode cX2_latestTime 10 = .ok (.astore_n 1, 1) := by decide +kernel
theorem dX2_latestTime_11 : decode cX2_latestTime 11 = .ok (.aload_n 1, 1) := by decide +kernel
theorem dX2_latestTime_12 : decode cX2_latestTime 12 = .ok (.ifnonnull 7, 3) := by decide +kernel
theorem dX2_latestTime_15 : decode cX2_latestTime 15 = .ok (.iconst (-1), 1) := by decide +kernel
theorem dX2_latestTime_16 : decode cX2_latestTime 16 = .ok (.goto 7, 3) := by decide +kernel
theorem dX2_latestTime_19 : decode cX2_latestTime 19 = .ok (.aload_n 1, 1) := by decide +kernel
theorem dX2_latestTime_20 : decode cX2_latestTime 20 = .ok (.getfield 25, 3) := by decide +kernel
theorem dX2_latestTime_23 : decode cX2_latestTime 23 = .ok (.ireturn, 1) := by decide +kernel
theorem dX2_add_0 : decode cX2_add 0 = .ok (.aload_n 0, 1) := by decide +kernel
theorem dX2_add_1 : decode cX2_add 1 = .ok (.getfield 17, 3) := by decide +kernel
theorem dX2_add_4 : decode cX2_add 4 = .ok (.bipush 40, 2) := by decide +kernel
theorem dX2_add_6 : decode cX2_add 6 = .ok (.if_icmp .ge 23, 3) := by decide +kernel
theorem dX2_add_9 : decode cX2_add 9 = .ok (.aload_n 0, 1) := by decide +kernel
theorem dX2_add_10 : decode cX2_add 10 = .ok (.getfield 13, 3) := by decide +kernel
theorem dX2_add_13 : decode cX2_add 13 = .ok (.aload_n 0, 1) := by decide +kernel
theorem dX2_add_14 : decode cX2_add 14 = .ok (.getfield 17, 3) := by decide +kernel
theorem dX2_add_17 : decode cX2_add 17 = .ok (.aload_n 1, 1) := by decide +kernel
theorem dX2_add_18 : decode cX2_add 18 = .ok (.aastore, 1) := by decide +kernel
theorem dX2_add_19 : decode cX2_add 19 = .ok (.aload_n 0, 1) := by decide +kernel
theorem dX2_add_20 : decode cX2_add 20 = .ok (.dup, 1) := by decide +kernel
theorem dX2_add_21 : decode cX2_add 21 = .ok (.getfield 17, 3) := by decide +kernel
theorem dX2_add_24 : decode cX2_add 24 = .ok (.iconst 1, 1) := by decide +kernel
theorem dX2_add_25 : decode cX2_add 25 = .ok (.iadd, 1) := by decide +kernel
theorem dX2_add_26 : decode cX2_add 26 = .ok (.putfield 17, 3) := by decide +kernel
theorem dX2_add_29 : decode cX2_add 29 = .ok (.return_, 1) := by decide +kernel
theorem dX2_findAsOf_0 : decode cX2_findAsOf 0 = .ok (.aload_n 0, 1) := by decide +kernel
theorem dX2_findAsOf_1 : decode cX2_findAsOf 1 = .ok (.getfield 17, 3) := by decide +kernel
theorem dX2_findAsOf_4 : decode cX2_findAsOf 4 = .ok (.iconst 1, 1) := by decide +kernel
theorem dX2_findAsOf_5 : decode cX2_findAsOf 5 = .ok (.isub, 1) := by decide +kernel
theorem dX2_findAsOf_6 : decode cX2_findAsOf 6 = .ok (.istore_n 2, 1) := by decide +kernel
theorem dX2_findAsOf_7 : decode cX2_findAsOf 7 = .ok (.iload_n 2, 1) := by decide +kernel
theorem dX2_findAsOf_8 : decode cX2_findAsOf 8 = .ok (.ifCond .lt 30, 3) := by decide +kernel
theorem dX2_findAsOf_11 : decode cX2_findAsOf 11 = .ok (.aload_n 0, 1) := by decide +kernel
theorem dX2_findAsOf_12 : decode cX2_findAsOf 12 = .ok (.getfield 13, 3) := by decide +kernel
theorem dX2_findAsOf_15 : decode cX2_findAsOf 15 = .ok (.iload_n 2, 1) := by decide +kernel
theorem dX2_findAsOf_16 : decode cX2_findAsOf 16 = .ok (.aaload, 1) := by decide +kernel
theorem dX2_findAsOf_17 : decode cX2_findAsOf 17 = .ok (.astore_n 3, 1) := by decide +kernel
theorem dX2_findAsOf_18 : decode cX2_findAsOf 18 = .ok (.aload_n 3, 1) := by decide +kernel
theorem dX2_findAsOf_19 : decode cX2_findAsOf 19 = .ok (.ifnull 13, 3) := by decide +kernel
theorem dX2_findAsOf_22 : decode cX2_findAsOf 22 = .ok (.aload_n 3, 1) := by decide +kernel
theorem dX2_findAsOf_23 : decode cX2_findAsOf 23 = .ok (.getfield 25, 3) := by decide +kernel
theorem dX2_findAsOf_26 : decode cX2_findAsOf 26 = .ok (.iload_n 1, 1) := by decide +kernel
theorem dX2_findAsOf_27 : decode cX2_findAsOf 27 = .ok (.if_icmp .gt 5, 3) := by decide +kernel
theorem dX2_findAsOf_30 : decode cX2_findAsOf 30 = .ok (.iload_n 2, 1) := by decide +kernel
theorem dX2_findAsOf_31 : decode cX2_findAsOf 31 = .ok (.ireturn, 1) := by decide +kernel
theorem dX2_findAsOf_32 : decode cX2_findAsOf 32 = .ok (.iinc 2 (-1), 3) := by decide +kernel
theorem dX2_findAsOf_35 : decode cX2_findAsOf 35 = .ok (.goto (-28), 3) := by decide +kernel
theorem dX2_findAsOf_38 : decode cX2_findAsOf 38 = .ok (.iconst (-1), 1) := by decide +kernel
theorem dX2_findAsOf_39 : decode cX2_findAsOf 39 = .ok (.ireturn, 1) := by decide +kernel
theorem dX2_forgetAheadOf_0 : decode cX2_forgetAheadOf 0 = .ok (.iload_n 1, 1) := by decide +kernel
theorem dX2_forgetAheadOf_1 : decode cX2_forgetAheadOf 1 = .ok (.ifCond .le 11, 3) := by decide +kernel
theorem dX2_forgetAheadOf_4 : decode cX2_forgetAheadOf 4 = .ok (.iload_n 1, 1) := by decide +kernel
theorem dX2_forgetAheadOf_5 : decode cX2_forgetAheadOf 5 = .ok (.aload_n 0, 1) := by decide +kernel
theorem dX2_forgetAheadOf_6 : decode cX2_forgetAheadOf 6 = .ok (.getfield 17, 3) := by decide +kernel
theorem dX2_forgetAheadOf_9 : decode cX2_forgetAheadOf 9 = .ok (.if_icmp .lt 5, 3) := by decide +kernel
theorem dX2_forgetAheadOf_12 : decode cX2_forgetAheadOf 12 = .ok (.iconst 0, 1) := by decide +kernel
theorem dX2_forgetAheadOf_13 : decode cX2_forgetAheadOf 13 = .ok (.ireturn, 1) := by decide +kernel
theorem dX2_forgetAheadOf_14 : decode cX2_forgetAheadOf 14 = .ok (.iload_n 1, 1) := by decide +kernel
theorem dX2_forgetAheadOf_15 : decode cX2_forgetAheadOf 15 = .ok (.istore_n 2, 1) := by decide +kernel
theorem dX2_forgetAheadOf_16 : decode cX2_forgetAheadOf 16 = .ok (.iload_n 2, 1) := by decide +kernel
theorem dX2_forgetAheadOf_17 : decode cX2_forgetAheadOf 17 = .ok (.aload_n 0, 1) := by decide +kernel
theorem dX2_forgetAheadOf_18 : decode cX2_forgetAheadOf 18 = .ok (.getfield 17, 3) := by decide +kernel
theorem dX2_forgetAheadOf_21 : decode cX2_forgetAheadOf 21 = .ok (.if_icmp .ge 23, 3) := by decide +kernel
theorem dX2_forgetAheadOf_24 : decode cX2_forgetAheadOf 24 = .ok (.aload_n 0, 1) := by decide +kernel
theorem dX2_forgetAheadOf_25 : decode cX2_forgetAheadOf 25 = .ok (.getfield 13, 3) := by decide +kernel
theorem dX2_forgetAheadOf_28 : decode cX2_forgetAheadOf 28 = .ok (.iload_n 2, 1) := by decide +kernel
theorem dX2_forgetAheadOf_29 : decode cX2_forgetAheadOf 29 = .ok (.iload_n 1, 1) := by decide +kernel
theorem dX2_forgetAheadOf_30 : decode cX2_forgetAheadOf 30 = .ok (.isub, 1) := by decide +kernel
theorem dX2_forgetAheadOf_31 : decode cX2_forgetAheadOf 31 = .ok (.aload_n 0, 1) := by decide +kernel
theorem dX2_forgetAheadOf_32 : decode cX2_forgetAheadOf 32 = .ok (.getfield 13, 3) := by decide +kernel
theorem dX2_forgetAheadOf_35 : decode cX2_forgetAheadOf 35 = .ok (.iload_n 2, 1) := by decide +kernel
theorem dX2_forgetAheadOf_36 : decode cX2_forgetAheadOf 36 = .ok (.aaload, 1) := by decide +kernel
theorem dX2_forgetAheadOf_37 : decode cX2_forgetAheadOf 37 = .ok (.aastore, 1) := by decide +kernel
theorem dX2_forgetAheadOf_38 : decode cX2_forgetAheadOf 38 = .ok (.iinc 2 1, 3) := by decide +kernel
theorem dX2_forgetAheadOf_41 : decode cX2_forgetAheadOf 41 = .ok (.goto (-25), 3) := by decide +kernel
theorem dX2_forgetAheadOf_44 : decode cX2_forgetAheadOf 44 = .ok (.aload_n 0, 1) := by decide +kernel
theorem dX2_forgetAheadOf_45 : decode cX2_forgetAheadOf 45 = .ok (.dup, 1) := by decide +kernel
theorem dX2_forgetAheadOf_46 : decode cX2_forgetAheadOf 46 = .ok (.getfield 17, 3) := by decide +kernel
theorem dX2_forgetAheadOf_49 : decode cX2_forgetAheadOf 49 = .ok (.iload_n 1, 1) := by decide +kernel
theorem dX2_forgetAheadOf_50 : decode cX2_forgetAheadOf 50 = .ok (.isub, 1) := by decide +kernel
theorem dX2_forgetAheadOf_51 : decode cX2_forgetAheadOf 51 = .ok (.putfield 17, 3) := by decide +kernel
theorem dX2_forgetAheadOf_54 : decode cX2_forgetAheadOf 54 = .ok (.iload_n 1, 1) := by decide +kernel
theorem dX2_forgetAheadOf_55 : decode cX2_forgetAheadOf 55 = .ok (.ireturn, 1) := by decide +kernel
theorem dX2_increments_0 : decode cX2_increments 0 = .ok (.iconst 0, 1) := by decide +kernel
theorem dX2_increments_1 : decode cX2_increments 1 = .ok (.istore_n 1, 1) := by decide +kernel
theorem dX2_increments_2 : decode cX2_increments 2 = .ok (.iconst 1, 1) := by decide +kernel
theorem dX2_increments_3 : decode cX2_increments 3 = .ok (.istore_n 2, 1) := by decide +kernel
theorem dX2_increments_4 : decode cX2_increments 4 = .ok (.iload_n 2, 1) := by decide +kernel
theorem dX2_increments_5 : decode cX2_increments 5 = .ok (.aload_n 0, 1) := by decide +kernel
theorem dX2_increments_6 : decode cX2_increments 6 = .ok (.getfield 17, 3) := by decide +kernel
theorem dX2_increments_9 : decode cX2_increments 9 = .ok (.if_icmp .ge 27, 3) := by decide +kernel
theorem dX2_increments_12 : decode cX2_increments 12 = .ok (.aload_n 0, 1) := by decide +kernel
theorem dX2_increments_13 : decode cX2_increments 13 = .ok (.getfield 13, 3) := by decide +kernel
theorem dX2_increments_16 : decode cX2_increments 16 = .ok (.iload_n 2, 1) := by decide +kernel
theorem dX2_increments_17 : decode cX2_increments 17 = .ok (.aaload, 1) := by decide +kernel
theorem dX2_increments_18 : decode cX2_increments 18 = .ok (.astore_n 3, 1) := by decide +kernel
theorem dX2_increments_19 : decode cX2_increments 19 = .ok (.aload_n 3, 1) := by decide +kernel
theorem dX2_increments_20 : decode cX2_increments 20 = .ok (.ifnull 10, 3) := by decide +kernel
theorem dX2_increments_23 : decode cX2_increments 23 = .ok (.iload_n 1, 1) := by decide +kernel
theorem dX2_increments_24 : decode cX2_increments 24 = .ok (.aload_n 3, 1) := by decide +kernel
theorem dX2_increments_25 : decode cX2_increments 25 = .ok (.getfield 28, 3) := by decide +kernel
theorem dX2_increments_28 : decode cX2_increments 28 = .ok (.iadd, 1) := by decide +kernel
theorem dX2_increments_29 : decode cX2_increments 29 = .ok (.istore_n 1, 1) := by decide +kernel
theorem dX2_increments_30 : decode cX2_increments 30 = .ok (.iinc 2 1, 3) := by decide +kernel
theorem dX2_increments_33 : decode cX2_increments 33 = .ok (.goto (-29), 3) := by decide +kernel
theorem dX2_increments_36 : decode cX2_increments 36 = .ok (.iload_n 1, 1) := by decide +kernel
theorem dX2_increments_37 : decode cX2_increments 37 = .ok (.ireturn, 1) := by decide +kernel
set_option maxRecDepth 20000 in
theorem ggX3_isPath_X3_isName : GoodIn wsX3_isPath wsX3_isName := goodIn_r _ [4] (by decide +kernel) (by decide +kernel)
set_option maxRecDepth 20000 in
theorem gX3_isPath_X3_isName : GoodIn wsX3_isPath (va_wsS RX3 11 yX3_isName wsX3_isName) := goodIn_app (goodIn_of _ (by decide +kernel)) ggX3_isPath_X3_isName
theorem dX3_isPath_0 : decode cX3_isPath 0 = .ok (.iconst 0, 1) := by decide +kernel
theorem dX3_isPath_1 : decode cX3_isPath 1 = .ok (.istore_n 1, 1) := by decide +kernel
theorem dX3_isPath_2 : decode cX3_isPath 2 = .ok (.iconst 0, 1) := by decide +kernel
theorem dX3_isPath_3 : decode cX3_isPath 3 = .ok (.istore_n 2, 1) := by decide +kernel
theorem dX3_isPath_4 : decode cX3_isPath 4 = .ok (.iconst 0, 1) := by decide +kernel
theorem dX3_isPath_5 : decode cX3_isPath 5 = .ok (.istore_n 3, 1) := by decide +kernel
theorem dX3_isPath_6 : decode cX3_isPath 6 = .ok (.iload_n 3, 1) := by decide +kernel
theorem dX3_isPath_7 : decode cX3_isPath 7 = .ok (.aload_n 0, 1) := by decide +kernel
theorem dX3_isPath_8 : decode cX3_isPath 8 = .ok (.arraylength, 1) := by decide +kernel
theorem dX3_isPath_9 : decode cX3_isPath 9 = .ok (.if_icmp .gt 41, 3) := by decide +kernel
theorem dX3_isPath_12 : decode cX3_isPath 12 = .ok (.iload_n 3, 1) := by decide +kernel
theorem dX3_isPath_13 : decode cX3_isPath 13 = .ok (.aload_n 0, 1) := by decide +kernel
theorem dX3_isPath_14 : decode cX3_isPath 14 = .ok (.arraylength, 1) := by decide +kernel
theorem dX3_isPath_15 : decode cX3_isPath 15 = .ok (.if_icmp .eq 11, 3) := by decide +kernel
theorem dX3_isPath_18 : decode cX3_isPath 18 = .ok (.aload_n 0, 1) := by decide +kernel
theorem dX3_isPath_19 : decode cX3_isPath 19 = .ok (.iload_n 3, 1) := by decide +kernel
theorem dX3_isPath_20 : decode cX3_isPath 20 = .ok (.baload, 1) := by decide +kernel
theorem dX3_isPath_21 : decode cX3_isPath 21 = .ok (.bipush 47, 2) := by decide +kernel
theorem dX3_isPath_23 : decode cX3_isPath 23 = .ok (.if_icmp .ne 21, 3) := by decide +kernel
theorem dX3_isPath_26 : decode cX3_isPath 26 = .ok (.aload_n 0, 1) := by decide +kernel
theorem dX3_isPath_27 : decode cX3_isPath 27 = .ok (.iload_n 2, 1) := by decide +kernel
theorem dX3_isPath_28 : decode cX3_isPath 28 = .ok (.iload_n 3, 1) := by decide +kernel
theorem dX3_isPath_29 : decode cX3_isPath 29 = .ok (.invokestatic 11, 3) := by decide +kernel
theorem dX3_isPath_32 : decode cX3_isPath 32 = .ok (.ifCond .ne 5, 3) := by decide +kernel
theorem dX3_isPath_35 : decode cX3_isPath 35 = .ok (.iconst 0, 1) := by decide +kernel
theorem dX3_isPath_36 : decode cX3_isPath 36 = .ok (.ireturn, 1) := by decide +kernel
theorem dX3_isPath_37 : decode cX3_isPath 37 = .ok (.iinc 1 1, 3) := by decide +kernel
theorem dX3_isPath_40 : decode cX3_isPath 40 = .ok (.iload_n 3, 1) := by decide +kernel
theorem dX3_isPath_41 : decode cX3_isPath 41 = .ok (.iconst 1, 1) := by decide +kernel
theorem dX3_isPath_42 : decode cX3_isPath 42 = .ok (.iadd, 1) := by decide +kernel
theorem dX3_isPath_43 : decode cX3_isPath 43 = .ok (.istore_n 2, 1) := by decide +kernel
theorem dX3_isPath_44 : decode cX3_isPath 44 = .ok (.iinc 3 1, 3) := by decide +kernel
theorem dX3_isPath_47 : decode cX3_isPath 47 = .ok (.goto (-41), 3) := by decide +kernel
theorem dX3_isPath_50 : decode cX3_isPath 50 = .ok (.iload_n 1, 1) := by decide +kernel
theorem dX3_isPath_51 : decode cX3_isPath 51 = .ok (.bipush 6, 2) := by decide +kernel
theorem dX3_isPath_53 : decode cX3_isPath 53 = .ok (.if_icmp .gt 7, 3) := by decide +kernel
theorem dX3_isPath_56 : decode cX3_isPath 56 = .ok (.iconst 1, 1) := by decide +kernel
theorem dX3_isPath_57 : decode cX3_isPath 57 = .ok (.goto 4, 3) := by decide +kernel
theorem dX3_isPath_60 : decode cX3_isPath 60 = .ok (.iconst 0, 1) := by decide +kernel
theorem dX3_isPath_61 : decode cX3_isPath 61 = .ok (.ireturn, 1) := by decide +kernel
theorem dX3_isName_0 : decode cX3_isName 0 = .ok (.iload_n 2, 1) := by decide +kernel
theorem dX3_isName_1 : decode cX3_isName 1 = .ok (.iload_n 1, 1) := by decide +kernel
theorem dX3_isName_2 : decode cX3_isName 2 = .ok (.isub, 1) := by decide +kernel
theorem dX3_isName_3 : decode cX3_isName 3 = .ok (.istore_n 3, 1) := by decide +kernel
theorem dX3_isName_4 : decode cX3_isName 4 = .ok (.iload_n 1, 1) := by decide +kernel
theorem dX3_isName_5 : decode cX3_isName 5 = .ok (.ifCond .lt 20, 3) := by decide +kernel
theorem dX3_isName_8 : decode cX3_isName 8 = .ok (.iload_n 2, 1) := by decide +kernel
theorem dX3_isName_9 : decode cX3_isName 9 = .ok (.aload_n 0, 1) := by decide +kernel
theorem dX3_isName_10 : decode cX3_isName 10 = .ok (.arraylength, 1) := by decide +kernel
theorem dX3_isName_11 : decode cX3_isName 11 = .ok (.if_icmp .gt 14, 3) := by decide +kernel
theorem dX3_isName_14 : decode cX3_isName 14 = .ok (.iload_n 3, 1) := by decide +kernel
theorem dX3_isName_15 : decode cX3_isName 15 = .ok (.iconst 1, 1) := by decide +kernel
theorem dX3_isName_16 : decode cX3_isName 16 = .ok (.if_icmp .lt 9, 3) := by decide +kernel
theorem dX3_isName_19 : decode cX3_isName 19 = .ok (.iload_n 3, 1) := by decide +kernel
theorem dX3_isName_20 : decode cX3_isName 20 = .ok (.bipush 24, 2) := by decide +kernel
theorem dX3_isName_22 : decode cX3_isName 22 = .ok (.if_icmp .le 5, 3) := by decide +kernel
theorem dX3_isName_25 : decode cX3_isName 25 = .ok (.iconst 0, 1) := by decide +kernel
theorem dX3_isName_26 : decode cX3_isName 26 = .ok (.ireturn, 1) := by decide +kernel
theorem dX3_isName_27 : decode cX3_isName 27 = .ok (.iconst 0, 1) := by decide +kernel
theorem dX3_isName_28 : decode cX3_isName 28 = .ok (.istore 4, 2) := by decide +kernel
theorem dX3_isName_30 : decode cX3_isName 30 = .ok (.iload_n 1, 1) := by decide +kernel
theorem dX3_isName_31 : decode cX3_isName 31 = .ok (.istore 5, 2) := by decide +kernel
theorem dX3_isName_33 : decode cX3_isName 33 = .ok (.iload 5, 2) := by decide +kernel
theorem dX3_isName_35 : decode cX3_isName 35 = .ok (.iload_n 2, 1) := by decide +kernel
theorem dX3_isName_36 : decode cX3_isName 36 = .ok (.if_icmp .ge 30, 3) := by decide +kernel
theorem dX3_isName_39 : decode cX3_isName 39 = .ok (.aload_n 0, 1) := by decide +kernel
theorem dX3_isName_40 : decode cX3_isName 40 = .ok (.iload 5, 2) := by decide +kernel
theorem dX3_isName_42 : decode cX3_isName 42 = .ok (.baload, 1) := by decide +kernel
theorem dX3_isName_43 : decode cX3_isName 43 = .ok (.ifCond .ne 5, 3) := by decide +kernel
theorem dX3_isName_46 : decode cX3_isName 46 = .ok (.iconst 0, 1) := by decide +kernel
theorem dX3_isName_47 : decode cX3_isName 47 = .ok (.ireturn, 1) := by decide +kernel
theorem dX3_isName_48 : decode cX3_isName 48 = .ok (.aload_n 0, 1) := by decide +kernel
theorem dX3_isName_49 : decode cX3_isName 49 = .ok (.iload 5, 2) := by decide +kernel
theorem dX3_isName_51 : decode cX3_isName 51 = .ok (.baload, 1) := by decide +kernel
theorem dX3_isName_52 : decode cX3_isName 52 = .ok (.bipush 46, 2) := by decide +kernel
theorem dX3_isName_54 : decode cX3_isName 54 = .ok (.if_icmp .ne 6, 3) := by decide +kernel
theorem dX3_isName_57 : decode cX3_isName 57 = .ok (.iinc 4 1, 3) := by decide +kernel
theorem dX3_isName_60 : decode cX3_isName 60 = .ok (.iinc 5 1, 3) := by decide +kernel
theorem dX3_isName_63 : decode cX3_isName 63 = .ok (.goto (-30), 3) := by decide +kernel
theorem dX3_isName_66 : decode cX3_isName 66 = .ok (.iload 4, 2) := by decide +kernel
theorem dX3_isName_68 : decode cX3_isName 68 = .ok (.iload_n 3, 1) := by decide +kernel
theorem dX3_isName_69 : decode cX3_isName 69 = .ok (.if_icmp .lt 8, 3) := by decide +kernel
theorem dX3_isName_72 : decode cX3_isName 72 = .ok (.iload_n 3, 1) := by decide +kernel
theorem dX3_isName_73 : decode cX3_isName 73 = .ok (.iconst 2, 1) := by decide +kernel
theorem dX3_isName_74 : decode cX3_isName 74 = .ok (.if_icmp .le 7, 3) := by decide +kernel
theorem dX3_isName_77 : decode cX3_isName 77 = .ok (.iconst 1, 1) := by decide +kernel
theorem dX3_isName_78 : decode cX3_isName 78 = .ok (.goto 4, 3) := by decide +kernel
theorem dX3_isName_81 : decode cX3_isName 81 = .ok (.iconst 0, 1) := by decide +kernel
theorem dX3_isName_82 : decode cX3_isName 82 = .ok (.ireturn, 1) := by decide +kernel
theorem dX3_lastSlash_0 : decode cX3_lastSlash 0 = .ok (.aload_n 0, 1) := by decide +kernel
theorem dX3_lastSlash_1 : decode cX3_lastSlash 1 = .ok (.arraylength, 1) := by decide +kernel
theorem dX3_lastSlash_2 : decode cX3_lastSlash 2 = .ok (.iconst 1, 1) := by decide +kernel
theorem dX3_lastSlash_3 : decode cX3_lastSlash 3 = .ok (.isub, 1) := by decide +kernel
theorem dX3_lastSlash_4 : decode cX3_lastSlash 4 = .ok (.istore_n 1, 1) := by decide +kernel
theorem dX3_lastSlash_5 : decode cX3_lastSlash 5 = .ok (.iload_n 1, 1) := by decide +kernel
theorem dX3_lastSlash_6 : decode cX3_lastSlash 6 = .ok (.ifCond .lt 19, 3) := by decide +kernel
theorem dX3_lastSlash_9 : decode cX3_lastSlash 9 = .ok (.aload_n 0, 1) := by decide +kernel
theorem dX3_lastSlash_10 : decode cX3_lastSlash 10 = .ok (.iload_n 1, 1) := by decide +kernel
theorem dX3_lastSlash_11 : decode cX3_lastSlash 11 = .ok (.baload, 1) := by decide +kernel
theorem dX3_lastSlash_12 : decode cX3_lastSlash 12 = .ok (.bipush 47, 2) := by decide +kernel
theorem dX3_lastSlash_14 : decode cX3_lastSlash 14 = .ok (.if_icmp .ne 5, 3) := by decide +kernel
theorem dX3_lastSlash_17 : decode cX3_lastSlash 17 = .ok (.iload_n 1, 1) := by decide +kernel
theorem dX3_lastSlash_18 : decode cX3_lastSlash 18 = .ok (.ireturn, 1) := by decide +kernel
theorem dX3_lastSlash_19 : decode cX3_lastSlash 19 = .ok (.iinc 1 (-1), 3) := by decide +kernel
theorem dX3_lastSlash_22 : decode cX3_lastSlash 22 = .ok (.goto (-17), 3) := by decide +kernel
theorem dX3_lastSlash_25 : decode cX3_lastSlash 25 = .ok (.iconst (-1), 1) := by decide +kernel
theorem dX3_lastSlash_26 : decode cX3_lastSlash 26 = .ok (.ireturn, 1) := by decide +kernel
theorem dX3_isBelow_0 : decode cX3_isBelow 0 = .ok (.aload_n 0, 1) := by decide +kernel
theorem dX3_isBelow_1 : decode cX3_isBelow 1 = .ok (.arraylength, 1) := by decide +kernel
theorem dX3_isBelow_2 : decode cX3_isBelow 2 = .ok (.aload_n 1, 1) := by decide +kernel
theorem dX3_isBelow_3 : decode cX3_isBelow 3 = .ok (.arraylength, 1) := by decide +kernel
theorem dX3_isBelow_4 : decode cX3_isBelow 4 = .ok (.if_icmp .le 12, 3) := by decide +kernel
theorem dX3_isBelow_7 : decode cX3_isBelow 7 = .ok (.aload_n 0, 1) := by decide +kernel
theorem dX3_isBelow_8 : decode cX3_isBelow 8 = .ok (.aload_n 1, 1) := by decide +kernel
theorem dX3_isBelow_9 : decode cX3_isBelow 9 = .ok (.arraylength, 1) := by decide +kernel
theorem dX3_isBelow_10 : decode cX3_isBelow 10 = .ok (.baload, 1) := by decide +kernel
theorem dX3_isBelow_11 : decode cX3_isBelow 11 = .ok (.bipush 47, 2) := by decide +kernel
theorem dX3_isBelow_13 : decode cX3_isBelow 13 = .ok (.if_icmp .eq 5, 3) := by decide +kernel
theorem dX3_isBelow_16 : decode cX3_isBelow 16 = .ok (.iconst 0, 1) := by decide +kernel
theorem dX3_isBelow_17 : decode cX3_isBelow 17 = .ok (.ireturn, 1) := by decide +kernel
theorem dX3_isBelow_18 : decode cX3_isBelow 18 = .ok (.iconst 0, 1) := by decide +kernel
theorem dX3_isBelow_19 : decode cX3_isBelow 19 = .ok (.istore_n 2, 1) := by decide +kernel
theorem dX3_isBelow_20 : decode cX3_isBelow 20 = .ok (.iload_n 2, 1) := by decide +kernel
theorem dX3_isBelow_21 : decode cX3_isBelow 21 = .ok (.aload_n 1, 1) := by decide +kernel
theorem dX3_isBelow_22 : decode cX3_isBelow 22 = .ok (.arraylength, 1) := by decide +kernel
theorem dX3_isBelow_23 : decode cX3_isBelow 23 = .ok (.if_icmp .ge 20, 3) := by decide +kernel
theorem dX3_isBelow_26 : decode cX3_isBelow 26 = .ok (.aload_n 0, 1) := by decide +kernel
theorem dX3_isBelow_27 : decode cX3_isBelow 27 = .ok (.iload_n 2, 1) := by decide +kernel
theorem dX3_isBelow_28 : decode cX3_isBelow 28 = .ok (.baload, 1) := by decide +kernel
theorem dX3_isBelow_29 : decode cX3_isBelow 29 = .ok (.aload_n 1, 1) := by decide +kernel
theorem dX3_isBelow_30 : decode cX3_isBelow 30 = .ok (.iload_n 2, 1) := by decide +kernel
theorem dX3_isBelow_31 : decode cX3_isBelow 31 = .ok (.baload, 1) := by decide +kernel
theorem dX3_isBelow_32 : decode cX3_isBelow 32 = .ok (.if_icmp .eq 5, 3) := by decide +kernel
theorem dX3_isBelow_35 : decode cX3_isBelow 35 = .ok (.iconst 0, 1) := by decide +kernel
theorem dX3_isBelow_36 : decode cX3_isBelow 36 = .ok (.ireturn, 1) := by decide +kernel
theorem dX3_isBelow_37 : decode cX3_isBelow 37 = .ok (.iinc 2 1, 3) := by decide +kernel
theorem dX3_isBelow_40 : decode cX3_isBelow 40 = .ok (.goto (-20), 3) := by decide +kernel
theorem dX3_isBelow_43 : decode cX3_isBelow 43 = .ok (.iconst 1, 1) := by decide +kernel
theorem dX3_isBelow_44 : decode cX3_isBelow 44 = .ok (.ireturn, 1) := by decide +kernel
set_option maxRecDepth 20000 in
theorem ggX3_compare_X3_rank : GoodIn wsX3_compare wsX3_rank := goodIn_r _ [8] (by decide +kernel) (by decide +kernel)
set_option maxRecDepth 20000 in
theorem gX3_compare_X3_rank : GoodIn wsX3_compare (va_wsS RX3 21 yX3_rank wsX3_rank) := goodIn_app (goodIn_of _ (by decide +kernel)) ggX3_compare_X3_rank
theorem dX3_compare_0 : decode cX3_compare 0 = .ok (.aload_n 0, 1) := by decide +kernel
theorem dX3_compare_1 : decode cX3_compare 1 = .ok (.arraylength, 1) := by decide +kernel
theorem dX3_compare_2 : decode cX3_compare 2 = .ok (.aload_n 1, 1) := by decide +kernel
theorem dX3_compare_3 : decode cX3_compare 3 = .ok (.arraylength, 1) := by decide +kernel
theorem dX3_compare_4 : decode cX3_compare 4 = .ok (.invokestatic 15, 3) := by decide +kernel
theorem dX3_compare_7 : decode cX3_compare 7 = .ok (.istore_n 2, 1) := by decide +kernel
theorem dX3_compare_8 : decode cX3_compare 8 = .ok (.iconst 0, 1) := by decide +kernel
theorem dX3_compare_9 : decode cX3_compare 9 = .ok (.istore_n 3, 1) := by decide +kernel
theorem dX3_compare_10 : decode cX3_compare 10 = .ok (.iload_n 3, 1) := by decide +kernel
theorem dX3_compare_11 : decode cX3_compare 11 = .ok (.iload_n 2, 1) := by decide +kernel
theorem dX3_compare_12 : decode cX3_compare 12 = .ok (.if_icmp .ge 32, 3) := by decide +kernel
theorem dX3_compare_15 : decode cX3_compare 15 = .ok (.aload_n 0, 1) := by decide +kernel
theorem dX3_compare_16 : decode cX3_compare 16 = .ok (.iload_n 3, 1) := by decide +kernel
theorem dX3_compare_17 : decode cX3_compare 17 = .ok (.baload, 1) := by decide +kernel
theorem dX3_compare_18 : decode cX3_compare 18 = .ok (.aload_n 1, 1) := by decide +kernel
theorem dX3_compare_19 : decode cX3_compare 19 = .ok (.iload_n 3, 1) := by decide +kernel
theorem dX3_compare_20 : decode cX3_compare 20 = .ok (.baload, 1) := by decide +kernel
theorem dX3_compare_21 : decode cX3_compare 21 = .ok (.if_icmp .eq 17, 3) := by decide +kernel
theorem dX3_compare_24 : decode cX3_compare 24 = .ok (.aload_n 0, 1) := by decide +kernel
theorem dX3_compare_25 : decode cX3_compare 25 = .ok (.iload_n 3, 1) := by decide +kernel
theorem dX3_compare_26 : decode cX3_compare 26 = .ok (.baload, 1) := by decide +kernel
theorem dX3_compare_27 : decode cX3_compare 27 = .ok (.invokestatic 21, 3) := by decide +kernel
theorem dX3_compare_30 : decode cX3_compare 30 = .ok (.aload_n 1, 1) := by decide +kernel
theorem dX3_compare_31 : decode cX3_compare 31 = .ok (.iload_n 3, 1) := by decide +kernel
theorem dX3_compare_32 : decode cX3_compare 32 = .ok (.baload, 1) := by decide +kernel
theorem dX3_compare_33 : decode cX3_compare 33 = .ok (.invokestatic 21, 3) := by decide +kernel
theorem dX3_compare_36 : decode cX3_compare 36 = .ok (.isub, 1) := by decide +kernel
theorem dX3_compare_37 : decode cX3_compare 37 = .ok (.ireturn, 1) := by decide +kernel
theorem dX3_compare_38 : decode cX3_compare 38 = .ok (.iinc 3 1, 3) := by decide +kernel
theorem dX3_compare_41 : decode cX3_compare 41 = .ok (.goto (-31), 3) := by decide +kernel
theorem dX3_compare_44 : decode cX3_compare 44 = .ok (.aload_n 0, 1) := by decide +kernel
theorem dX3_compare_45 : decode cX3_compare 45 = .ok (.arraylength, 1) := by decide +kernel
theorem dX3_compare_46 : decode cX3_compare 46 = .ok (.aload_n 1, 1) := by decide +kernel
theorem dX3_compare_47 : decode cX3_compare 47 = .ok (.arraylength, 1) := by decide +kernel
theorem dX3_compare_48 : decode cX3_compare 48 = .ok (.isub, 1) := by decide +kernel
theorem dX3_compare_49 : decode cX3_compare 49 = .ok (.ireturn, 1) := by decide +kernel
theorem dX3_rank_0 : decode cX3_rank 0 = .ok (.iload_n 0, 1) := by decide +kernel
theorem dX3_rank_1 : decode cX3_rank 1 = .ok (.bipush 47, 2) := by decide +kernel
theorem dX3_rank_3 : decode cX3_rank 3 = .ok (.if_icmp .ne 7, 3) := by decide +kernel
theorem dX3_rank_6 : decode cX3_rank 6 = .ok (.iconst (-1), 1) := by decide +kernel
theorem dX3_rank_7 : decode cX3_rank 7 = .ok (.goto 8, 3) := by decide +kernel
theorem dX3_rank_10 : decode cX3_rank 10 = .ok (.iload_n 0, 1) := by decide +kernel
theorem dX3_rank_11 : decode cX3_rank 11 = .ok (.sipush 255, 3) := by decide +kernel
theorem dX3_rank_14 : decode cX3_rank 14 = .ok (.iand, 1) := by decide +kernel
theorem dX3_rank_15 : decode cX3_rank 15 = .ok (.ireturn, 1) := by decide +kernel
set_option maxRecDepth 20000 in
theorem ggX4_init_X6_init : GoodIn wsX4_init wsX6_init := goodIn_r _ [11, 12, 2, 3, 13, 14, 15, 23, 24] (by decide +kernel) (by decide +kernel)
set_option maxRecDepth 20000 in
theorem gX4_init_X6_init_n18 : GoodIn wsX4_init (wsX6_init) := ggX4_init_X6_init
set_option maxRecDepth 20000 in
theorem ggX4_init_X6_copyFrom : GoodIn wsX4_init wsX6_copyFrom := goodIn_r _ [19, 15, 14, 23, 24] (by decide +kernel) (by decide +kernel)
set_option maxRecDepth 20000 in
theorem gX4_init_X6_copyFrom : GoodIn wsX4_init (wsV RX4 23 RX6 yX6_copyFrom wsX6_copyFrom) := goodIn_app (goodIn_of _ (by decide +kernel)) ggX4_init_X6_copyFrom
theorem dX4_init_0 : decode cX4_init 0 = .ok (.aload_n 0, 1) := by decide +kernel
theorem dX4_init_1 : decode cX4_init 1 = .ok (.invokespecial 1, 3) := by decide +kernel
theorem dX4_init_4 : decode cX4_init 4 = .ok (.aload_n 0, 1) := by decide +kernel
theorem dX4_init_5 : decode cX4_init 5 = .ok (.iload_n 1, 1) := by decide +kernel
theorem dX4_init_6 : decode cX4_init 6 = .ok (.putfield 7, 3) := by decide +kernel
theorem dX4_init_9 : decode cX4_init 9 = .ok (.aload_n 0, 1) := by decide +kernel
theorem dX4_init_10 : decode cX4_init 10 = .ok (.iload_n 2, 1) := by decide +kernel
theorem dX4_init_11 : decode cX4_init 11 = .ok (.putfield 13, 3) := by decide +kernel
theorem dX4_init_14 : decode cX4_init 14 = .ok (.aload_n 0, 1) := by decide +kernel
theorem dX4_init_15 : decode cX4_init 15 = .ok (.new 16, 3) := by decide +kernel
theorem dX4_init_18 : decode cX4_init 18 = .ok (.dup, 1) := by decide +kernel
theorem dX4_init_19 : decode cX4_init 19 = .ok (.invokespecial 18, 3) := by decide +kernel
theorem dX4_init_22 : decode cX4_init 22 = .ok (.putfield 19, 3) := by decide +kernel
theorem dX4_init_25 : decode cX4_init 25 = .ok (.aload_n 0, 1) := by decide +kernel
theorem dX4_init_26 : decode cX4_init 26 = .ok (.getfield 19, 3) := by decide +kernel
theorem dX4_init_29 : decode cX4_init 29 = .ok (.aload_n 3, 1) := by decide +kernel
theorem dX4_init_30 : decode cX4_init 30 = .ok (.invokevirtual 23, 3) := by decide +kernel
theorem dX4_init_33 : decode cX4_init 33 = .ok (.return_, 1) := by decide +kernel
theorem dX5_init_0 : decode cX5_init 0 = .ok (.aload_n 0, 1) := by decide +kernel
theorem dX5_init_1 : decode cX5_init 1 = .ok (.invokespecial 3, 3) := by decide +kernel
theorem dX5_init_4 : decode cX5_init 4 = .ok (.aload_n 0, 1) := by decide +kernel
theorem dX5_init_5 : decode cX5_init 5 = .ok (.iconst 5, 1) := by decide +kernel
theorem dX5_init_6 : decode cX5_init 6 = .ok (.newarray .int, 2) := by decide +kernel
theorem dX5_init_8 : decode cX5_init 8 = .ok (.putfield 11, 3) := by decide +kernel
theorem dX5_init_11 : decode cX5_init 11 = .ok (.aload_n 0, 1) := by decide +kernel
theorem dX5_init_12 : decode cX5_init 12 = .ok (.sipush 400, 3) := by decide +kernel
theorem dX5_init_15 : decode cX5_init 15 = .ok (.newarray .byte, 2) := by decide +kernel
theorem dX5_init_17 : decode cX5_init 17 = .ok (.putfield 15, 3) := by decide +kernel
theorem dX5_init_20 : decode cX5_init 20 = .ok (.aload_n 0, 1) := by decide +kernel
theorem dX5_init_21 : decode cX5_init 21 = .ok (.iconst 0, 1) := by decide +kernel
theorem dX5_init_22 : decode cX5_init 22 = .ok (.putfield 19, 3) := by decide +kernel
theorem dX5_init_25 : decode cX5_init 25 = .ok (.return_, 1) := by decide +kernel
theorem dX5_size_0 : decode cX5_size 0 = .ok (.aload_n 0, 1) := by decide +kernel
theorem dX5_size_1 : decode cX5_size 1 = .ok (.getfield 19, 3) := by decide +kernel
theorem dX5_size_4 : decode cX5_size 4 = .ok (.ireturn, 1) := by decide +kernel
theorem dX5_makeReady_0 : decode cX5_makeReady 0 = .ok (.aload_n 0, 1) := by decide +kernel
theorem dX5_makeReady_1 : decode cX5_makeReady 1 = .ok (.getfield 11, 3) := by decide +kernel
theorem dX5_makeReady_4 : decode cX5_makeReady 4 = .ok (.iconst 0, 1) := by decide +kernel
theorem dX5_makeReady_5 : decode cX5_makeReady 5 = .ok (.iload_n 1, 1) := by decide +kernel
theorem dX5_makeReady_6 : decode cX5_makeReady 6 = .ok (.iastore, 1) := by decide +kernel
theorem dX5_makeReady_7 : decode cX5_makeReady 7 = .ok (.aload_n 0, 1) := by decide +kernel
theorem dX5_makeReady_8 : decode cX5_makeReady 8 = .ok (.getfield 11, 3) := by decide +kernel
theorem dX5_makeReady_11 : decode cX5_makeReady 11 = .ok (.iconst 1, 1) := by decide +kernel
theorem dX5_makeReady_12 : decode cX5_makeReady 12 = .ok (.iload_n 2, 1) := by decide +kernel
theorem dX5_makeReady_13 : decode cX5_makeReady 13 = .ok (.iastore, 1) := by decide +kernel
theorem dX5_makeReady_14 : decode cX5_makeReady 14 = .ok (.aload_n 0, 1) := by decide +kernel
theorem dX5_makeReady_15 : decode cX5_makeReady 15 = .ok (.getfield 11, 3) := by decide +kernel
theorem dX5_makeReady_18 : decode cX5_makeReady 18 = .ok (.iconst 2, 1) := by decide +kernel
theorem dX5_makeReady_19 : decode cX5_makeReady 19 = .ok (.iload_n 3, 1) := by decide +kernel
theorem dX5_makeReady_20 : decode cX5_makeReady 20 = .ok (.iastore, 1) := by decide +kernel
theorem dX5_makeReady_21 : decode cX5_makeReady 21 = .ok (.aload_n 0, 1) := by decide +kernel
theorem dX5_makeReady_22 : decode cX5_makeReady 22 = .ok (.getfield 11, 3) := by decide +kernel
theorem dX5_makeReady_25 : decode cX5_makeReady 25 = .ok (.iconst 3, 1) := by decide +kernel
theorem dX5_makeReady_26 : decode cX5_makeReady 26 = .ok (.iload 4, 2) := by decide +kernel
theorem dX5_makeReady_28 : decode cX5_makeReady 28 = .ok (.iastore, 1) := by decide +kernel
theorem dX5_makeReady_29 : decode cX5_makeReady 29 = .ok (.aload_n 0, 1) := by decide +kernel
theorem dX5_makeReady_30 : decode cX5_makeReady 30 = .ok (.getfield 11, 3) := by decide +kernel
theorem dX5_makeReady_33 : decode cX5_makeReady 33 = .ok (.iconst 4, 1) := by decide +kernel
theorem dX5_makeReady_34 : decode cX5_makeReady 34 = .ok (.iload 5, 2) := by decide +kernel
theorem dX5_makeReady_36 : decode cX5_makeReady 36 = .ok (.iastore, 1) := by decide +kernel
theorem dX5_makeReady_37 : decode cX5_makeReady 37 = .ok (.return_, 1) := by decide +kernel
set_option maxRecDepth 20000 in
theorem ggX5_append_X5_readyByte : GoodIn wsX5_append wsX5_readyByte := goodIn_r _ [8, 3, 13, 14, 15] (by decide +kernel) (by decide +kernel)
set_option maxRecDepth 20000 in
theorem gX5_append_X5_readyByte : GoodIn wsX5_append (wsV RX5 23 RX5 yX5_readyByte wsX5_readyByte) := goodIn_app (goodIn_of _ (by decide +kernel)) ggX5_append_X5_readyByte
set_option maxRecDepth 20000 in
theorem ggX5_append_J7_fill_53178 : GoodIn wsX5_append wsJ7_fill_53178 := goodIn_r _ [12] (by decide +kernel) (by decide +kernel)
set_option maxRecDepth 20000 in
theorem gX5_append_J7_fill_53178 : GoodIn wsX5_append (va_wsS RX5 27 yJ7_fill_53178 wsJ7_fill_53178) := goodIn_app (goodIn_of _ (by decide +kernel)) ggX5_append_J7_fill_53178
theorem dX5_append_0 : decode cX5_append 0 = .ok (.iload_n 1, 1) := by decide +kernel
theorem dX5_append_1 : decode cX5_append 1 = .ok (.ifCond .lt 21, 3) := by decide +kernel
theorem dX5_append_4 : decode cX5_append 4 = .ok (.iload_n 1, 1) := by decide +kernel
theorem dX5_append_5 : decode cX5_append 5 = .ok (.bipush 20, 2) := by decide +kernel
theorem dX5_append_7 : decode cX5_append 7 = .ok (.if_icmp .gt 15, 3) := by decide +kernel
theorem dX5_append_10 : decode cX5_append 10 = .ok (.aload_n 0, 1) := by decide +kernel
theorem dX5_append_11 : decode cX5_append 11 = .ok (.getfield 19, 3) := by decide +kernel
theorem dX5_append_14 : decode cX5_append 14 = .ok (.iload_n 1, 1) := by decide +kernel
theorem dX5_append_15 : decode cX5_append 15 = .ok (.iadd, 1) := by decide +kernel
theorem dX5_append_16 : decode cX5_append 16 = .ok (.sipush 400, 3) := by decide +kernel
theorem dX5_append_19 : decode cX5_append 19 = .ok (.if_icmp .le 5, 3) := by decide +kernel
theorem dX5_append_22 : decode cX5_append 22 = .ok (.iconst (-1), 1) := by decide +kernel
theorem dX5_append_23 : decode cX5_append 23 = .ok (.ireturn, 1) := by decide +kernel
theorem dX5_append_24 : decode cX5_append 24 = .ok (.iconst 0, 1) := by decide +kernel
theorem dX5_append_25 : decode cX5_append 25 = .ok (.istore_n 2, 1) := by decide +kernel
theorem dX5_append_26 : decode cX5_append 26 = .ok (.iload_n 2, 1) := by decide +kernel
theorem dX5_append_27 : decode cX5_append 27 = .ok (.iload_n 1, 1) := by decide +kernel
theorem dX5_append_28 : decode cX5_append 28 = .ok (.if_icmp .ge 25, 3) := by decide +kernel
theorem dX5_append_31 : decode cX5_append 31 = .ok (.aload_n 0, 1) := by decide +kernel
theorem dX5_append_32 : decode cX5_append 32 = .ok (.getfield 15, 3) := by decide +kernel
theorem dX5_append_35 : decode cX5_append 35 = .ok (.aload_n 0, 1) := by decide +kernel
theorem dX5_append_36 : decode cX5_append 36 = .ok (.getfield 19, 3) := by decide +kernel
theorem dX5_append_39 : decode cX5_append 39 = .ok (.iload_n 2, 1) := by decide +kernel
theorem dX5_append_40 : decode cX5_append 40 = .ok (.iadd, 1) := by decide +kernel
theorem dX5_append_41 : decode cX5_append 41 = .ok (.aload_n 0, 1) := by decide +kernel
theorem dX5_append_42 : decode cX5_append 42 = .ok (.iload_n 2, 1) := by decide +kernel
theorem dX5_append_43 : decode cX5_append 43 = .ok (.invokevirtual 23, 3) := by decide +kernel
theorem dX5_append_46 : decode cX5_append 46 = .ok (.bastore, 1) := by decide +kernel
theorem dX5_append_47 : decode cX5_append 47 = .ok (.iinc 2 1, 3) := by decide +kernel
theorem dX5_append_50 : decode cX5_append 50 = .ok (.goto (-24), 3) := by decide +kernel
theorem dX5_append_53 : decode cX5_append 53 = .ok (.aload_n 0, 1) := by decide +kernel
theorem dX5_append_54 : decode cX5_append 54 = .ok (.dup, 1) := by decide +kernel
theorem dX5_append_55 : decode cX5_append 55 = .ok (.getfield 19, 3) := by decide +kernel
theorem dX5_append_58 : decode cX5_append 58 = .ok (.iload_n 1, 1) := by decide +kernel
theorem dX5_append_59 : decode cX5_append 59 = .ok (.iadd, 1) := by decide +kernel
theorem dX5_append_60 : decode cX5_append 60 = .ok (.putfield 19, 3) := by decide +kernel
theorem dX5_append_63 : decode cX5_append 63 = .ok (.aload_n 0, 1) := by decide +kernel
theorem dX5_append_64 : decode cX5_append 64 = .ok (.getfield 11, 3) := by decide +kernel
theorem dX5_append_67 : decode cX5_append 67 = .ok (.iconst 0, 1) := by decide +kernel
theorem dX5_append_68 : decode cX5_append 68 = .ok (.invokestatic 27, 3) := by decide +kernel
theorem dX5_append_71 : decode cX5_append 71 = .ok (.aload_n 0, 1) := by decide +kernel
theorem dX5_append_72 : decode cX5_append 72 = .ok (.getfield 19, 3) := by decide +kernel
theorem dX5_append_75 : decode cX5_append 75 = .ok (.ireturn, 1) := by decide +kernel
set_option maxRecDepth 20000 in
theorem ggX5_take_J7_copyOf_9075b : GoodIn wsX5_take wsJ7_copyOf_9075b := goodIn_r _ [6, 7, 8, 9, 10, 11, 12, 13, 14, 15, 16, 17, 18, 19, 20, 21] (by decide +kernel) (by decide +kernel)
set_option maxRecDepth 20000 in
theorem gX5_take_J7_copyOf_9075b : GoodIn wsX5_take (va_wsS RX5 33 yJ7_copyOf_9075b wsJ7_copyOf_9075b) := goodIn_app (goodIn_of _ (by decide +kernel)) ggX5_take_J7_copyOf_9075b
theorem dX5_take_0 : decode cX5_take 0 = .ok (.aload_n 0, 1) := by decide +kernel
theorem dX5_take_1 : decode cX5_take 1 = .ok (.getfield 15, 3) := by decide +kernel
theorem dX5_take_4 : decode cX5_take 4 = .ok (.aload_n 0, 1) := by decide +kernel
theorem dX5_take_5 : decode cX5_take 5 = .ok (.getfield 19, 3) := by decide +kernel
theorem dX5_take_8 : decode cX5_take 8 = .ok (.invokestatic 33, 3) := by decide +kernel
theorem dX5_take_11 : decode cX5_take 11 = .ok (.astore_n 1, 1) := by decide +kernel
theorem dX5_take_12 : decode cX5_take 12 = .ok (.aload_n 0, 1) := by decide +kernel
theorem dX5_take_13 : decode cX5_take 13 = .ok (.iconst 0, 1) := by decide +kernel
theorem dX5_take_14 : decode cX5_take 14 = .ok (.putfield 19, 3) := by decide +kernel
theorem dX5_take_17 : decode cX5_take 17 = .ok (.aload_n 1, 1) := by decide +kernel
theorem dX5_take_18 : decode cX5_take 18 = .ok (.areturn, 1) := by decide +kernel
theorem dX5_readyByte_0 : decode cX5_readyByte 0 = .ok (.iload_n 1, 1) := by decide +kernel
theorem dX5_readyByte_1 : decode cX5_readyByte 1 = .ok (.iconst 2, 1) := by decide +kernel
theorem dX5_readyByte_2 : decode cX5_readyByte 2 = .ok (.ishr, 1) := by decide +kernel
theorem dX5_readyByte_3 : decode cX5_readyByte 3 = .ok (.istore_n 2, 1) := by decide +kernel
theorem dX5_readyByte_4 : decode cX5_readyByte 4 = .ok (.iload_n 2, 1) := by decide +kernel
theorem dX5_readyByte_5 : decode cX5_readyByte 5 = .ok (.ifCond .lt 8, 3) := by decide +kernel
theorem dX5_readyByte_8 : decode cX5_readyByte 8 = .ok (.iload_n 2, 1) := by decide +kernel
theorem dX5_readyByte_9 : decode cX5_readyByte 9 = .ok (.iconst 5, 1) := by decide +kernel
theorem dX5_readyByte_10 : decode cX5_readyByte 10 = .ok (.if_icmp .lt 5, 3) := by decide +kernel
theorem dX5_readyByte_13 : decode cX5_readyByte 13 = .ok (.iconst 0, 1) := by decide +kernel
theorem dX5_readyByte_14 : decode cX5_readyByte 14 = .ok (.ireturn, 1) := by decide +kernel
theorem dX5_readyByte_15 : decode cX5_readyByte 15 = .ok (.aload_n 0, 1) := by decide +kernel
theorem dX5_readyByte_16 : decode cX5_readyByte 16 = .ok (.getfield 11, 3) := by decide +kernel
theorem dX5_readyByte_19 : decode cX5_readyByte 19 = .ok (.iload_n 2, 1) := by decide +kernel
theorem dX5_readyByte_20 : decode cX5_readyByte 20 = .ok (.iaload, 1) := by decide +kernel
theorem dX5_readyByte_21 : decode cX5_readyByte 21 = .ok (.bipush 24, 2) := by decide +kernel
theorem dX5_readyByte_23 : decode cX5_readyByte 23 = .ok (.bipush 8, 2) := by decide +kernel
theorem dX5_readyByte_25 : decode cX5_readyByte 25 = .ok (.iload_n 1, 1) := by decide +kernel
theorem dX5_readyByte_26 : decode cX5_readyByte 26 = .ok (.iconst 3, 1) := by decide +kernel
theorem dX5_readyByte_27 : decode cX5_readyByte 27 = .ok (.iand, 1) := by decide +kernel
theorem dX5_readyByte_28 : decode cX5_readyByte 28 = .ok (.imul, 1) := by decide +kernel
theorem dX5_readyByte_29 : decode cX5_readyByte 29 = .ok (.isub, 1) := by decide +kernel
theorem dX5_readyByte_30 : decode cX5_readyByte 30 = .ok (.iushr, 1) := by decide +kernel
theorem dX5_readyByte_31 : decode cX5_readyByte 31 = .ok (.i2b, 1) := by decide +kernel
theorem dX5_readyByte_32 : decode cX5_readyByte 32 = .ok (.ireturn, 1) := by decide +kernel
theorem dX6_init_0 : decode cX6_init 0 = .ok (.aload_n 0, 1) := by decide +kernel
theorem dX6_init_1 : decode cX6_init 1 = .ok (.invokespecial 3, 3) := by decide +kernel
theorem dX6_init_4 : decode cX6_init 4 = .ok (.aload_n 0, 1) := by decide +kernel
theorem dX6_init_5 : decode cX6_init 5 = .ok (.bipush 120, 2) := by decide +kernel
theorem dX6_init_7 : decode cX6_init 7 = .ok (.anewarray 11, 3) := by decide +kernel
theorem dX6_init_10 : decode cX6_init 10 = .ok (.putfield 13, 3) := by decide +kernel
theorem dX6_init_13 : decode cX6_init 13 = .ok (.aload_n 0, 1) := by decide +kernel
theorem dX6_init_14 : decode cX6_init 14 = .ok (.iconst 0, 1) := by decide +kernel
theorem dX6_init_15 : decode cX6_init 15 = .ok (.putfield 17, 3) := by decide +kernel
theorem dX6_init_18 : decode cX6_init 18 = .ok (.return_, 1) := by decide +kernel
theorem dX6_size_0 : decode cX6_size 0 = .ok (.aload_n 0, 1) := by decide +kernel
theorem dX6_size_1 : decode cX6_size 1 = .ok (.getfield 17, 3) := by decide +kernel
theorem dX6_size_4 : decode cX6_size 4 = .ok (.ireturn, 1) := by decide +kernel
theorem dX6_get_0 : decode cX6_get 0 = .ok (.iload_n 1, 1) := by decide +kernel
theorem dX6_get_1 : decode cX6_get 1 = .ok (.ifCond .lt 11, 3) := by decide +kernel
theorem dX6_get_4 : decode cX6_get 4 = .ok (.iload_n 1, 1) := by decide +kernel
theorem dX6_get_5 : decode cX6_get 5 = .ok (.aload_n 0, 1) := by decide +kernel
theorem dX6_get_6 : decode cX6_get 6 = .ok (.getfield 17, 3) := by decide +kernel
theorem dX6_get_9 : decode cX6_get 9 = .ok (.if_icmp .lt 7, 3) := by decide +kernel
theorem dX6_get_12 : decode cX6_get 12 = .ok (.aconst_null, 1) := by decide +kernel
theorem dX6_get_13 : decode cX6_get 13 = .ok (.goto 9, 3) := by decide +kernel
theorem dX6_get_16 : decode cX6_get 16 = .ok (.aload_n 0, 1) := by decide +kernel
theorem dX6_get_17 : decode cX6_get 17 = .ok (.getfield 13, 3) := by decide +kernel
theorem dX6_get_20 : decode cX6_get 20 = .ok (.iload_n 1, 1) := by decide +kernel
theorem dX6_get_21 : decode cX6_get 21 = .ok (.aaload, 1) := by decide +kernel
theorem dX6_get_22 : decode cX6_get 22 = .ok (.areturn, 1) := by decide +kernel
set_option maxRecDepth 20000 in
theorem ggX6_find_X6_placeOf : GoodIn wsX6_find wsX6_placeOf := goodIn_r _ [6, 7, 1, 8, 9, 10, 5, 11, 12, 13, 14, 15, 16, 17, 18, 19, 20, 21, 22, 23, 29, 30, 24, 25, 26, 27, 28] (by decide +kernel) (by decide +kernel)
set_option maxRecDepth 20000 in
theorem gX6_find_X6_placeOf : GoodIn wsX6_find (wsV RX6 21 RX6 yX6_placeOf wsX6_placeOf) := goodIn_app (goodIn_of _ (by decide +kernel)) ggX6_find_X6_placeOf
set_option maxRecDepth 20000 in
theorem ggX6_find_X6_get : GoodIn wsX6_find wsX6_get := goodIn_r _ [11, 7, 12, 29, 30] (by decide +kernel) (by decide +kernel)
set_option maxRecDepth 20000 in
theorem gX6_find_X6_get : GoodIn wsX6_find (wsV RX6 25 RX6 yX6_get wsX6_get) := goodIn_app (goodIn_of _ (by decide +kernel)) ggX6_find_X6_get
set_option maxRecDepth 20000 in
theorem ggX6_find_X3_compare : GoodIn wsX6_find wsX3_compare := goodIn_r _ [16, 17, 18, 19, 20, 21, 22, 15, 23] (by decide +kernel) (by decide +kernel)
set_option maxRecDepth 20000 in
theorem gX6_find_X3_compare : GoodIn wsX6_find (va_wsS RX6 33 yX3_compare wsX3_compare) := goodIn_app (goodIn_of _ (by decide +kernel)) ggX6_find_X3_compare
theorem dX6_find_0 : decode cX6_find 0 = .ok (.aload_n 0, 1) := by decide +kernel
theorem dX6_find_1 : decode cX6_find 1 = .ok (.aload_n 1, 1) := by decide +kernel
theorem dX6_find_2 : decode cX6_find 2 = .ok (.invokevirtual 21, 3) := by decide +kernel
theorem dX6_find_5 : decode cX6_find 5 = .ok (.istore_n 2, 1) := by decide +kernel
theorem dX6_find_6 : decode cX6_find 6 = .ok (.aload_n 0, 1) := by decide +kernel
theorem dX6_find_7 : decode cX6_find 7 = .ok (.iload_n 2, 1) := by decide +kernel
theorem dX6_find_8 : decode cX6_find 8 = .ok (.invokevirtual 25, 3) := by decide +kernel
theorem dX6_find_11 : decode cX6_find 11 = .ok (.astore_n 3, 1) := by decide +kernel
theorem dX6_find_12 : decode cX6_find 12 = .ok (.aload_n 3, 1) := by decide +kernel
theorem dX6_find_13 : decode cX6_find 13 = .ok (.ifnull 18, 3) := by decide +kernel
theorem dX6_find_16 : decode cX6_find 16 = .ok (.aload_n 3, 1) := by decide +kernel
theorem dX6_find_17 : decode cX6_find 17 = .ok (.getfield 29, 3) := by decide +kernel
theorem dX6_find_20 : decode cX6_find 20 = .ok (.aload_n 1, 1) := by decide +kernel
theorem dX6_find_21 : decode cX6_find 21 = .ok (.invokestatic 33, 3) := by decide +kernel
theorem dX6_find_24 : decode cX6_find 24 = .ok (.ifCond .ne 7, 3) := by decide +kernel
theorem dX6_find_27 : decode cX6_find 27 = .ok (.iload_n 2, 1) := by decide +kernel
theorem dX6_find_28 : decode cX6_find 28 = .ok (.goto 4, 3) := by decide +kernel
theorem dX6_find_31 : decode cX6_find 31 = .ok (.iconst (-1), 1) := by decide +kernel
theorem dX6_find_32 : decode cX6_find 32 = .ok (.ireturn, 1) := by decide +kernel
set_option maxRecDepth 20000 in
theorem ggX6_placeOf_X6_get : GoodIn wsX6_placeOf wsX6_get := goodIn_r _ [7, 1, 8, 20, 21] (by decide +kernel) (by decide +kernel)
set_option maxRecDepth 20000 in
theorem gX6_placeOf_X6_get : GoodIn wsX6_placeOf (wsV RX6 25 RX6 yX6_get wsX6_get) := goodIn_app (goodIn_of _ (by decide +kernel)) ggX6_placeOf_X6_get
set_option maxRecDepth 20000 in
theorem ggX6_placeOf_X3_compare : GoodIn wsX6_placeOf wsX3_compare := goodIn_r _ [12, 13, 14, 15, 16, 17, 18, 11, 19] (by decide +kernel) (by decide +kernel)
set_option maxRecDepth 20000 in
theorem gX6_placeOf_X3_compare : GoodIn wsX6_placeOf (va_wsS RX6 33 yX3_compare wsX3_compare) := goodIn_app (goodIn_of _ (by decide +kernel)) ggX6_placeOf_X3_compare
theorem dX6_placeOf_0 : decode cX6_placeOf 0 = .ok (.iconst 0, 1) := by decide +kernel
theorem dX6_placeOf_1 : decode cX6_placeOf 1 = .ok (.istore_n 2, 1) := by decide +kernel
theorem dX6_placeOf_2 : decode cX6_placeOf 2 = .ok (.aload_n 0, 1) := by decide +kernel
theorem dX6_placeOf_3 : decode cX6_placeOf 3 = .ok (.getfield 17, 3) := by decide +kernel
theorem dX6_placeOf_6 : decode cX6_placeOf 6 = .ok (.istore_n 3, 1) := by decide +kernel
theorem dX6_placeOf_7 : decode cX6_placeOf 7 = .ok (.iconst 0, 1) := by decide +kernel
theorem dX6_placeOf_8 : decode cX6_placeOf 8 = .ok (.istore 4, 2) := by decide +kernel
theorem dX6_placeOf_10 : decode cX6_placeOf 10 = .ok (.iload 4, 2) := by decide +kernel
theorem dX6_placeOf_12 : decode cX6_placeOf 12 = .ok (.aload_n 0, 1) := by decide +kernel
theorem dX6_placeOf_13 : decode cX6_placeOf 13 = .ok (.getfield 17, 3) := by decide +kernel
theorem dX6_placeOf_16 : decode cX6_placeOf 16 = .ok (.if_icmp .ge 57, 3) := by decide +kernel
theorem dX6_placeOf_19 : decode cX6_placeOf 19 = .ok (.iload_n 2, 1) := by decide +kernel
theorem dX6_placeOf_20 : decode cX6_placeOf 20 = .ok (.iload_n 3, 1) := by decide +kernel
theorem dX6_placeOf_21 : decode cX6_placeOf 21 = .ok (.if_icmp .ge 52, 3) := by decide +kernel
theorem dX6_placeOf_24 : decode cX6_placeOf 24 = .ok (.iload_n 2, 1) := by decide +kernel
theorem dX6_placeOf_25 : decode cX6_placeOf 25 = .ok (.iload_n 3, 1) := by decide +kernel
theorem dX6_placeOf_26 : decode cX6_placeOf 26 = .ok (.iadd, 1) := by decide +kernel
theorem dX6_placeOf_27 : decode cX6_placeOf 27 = .ok (.iconst 1, 1) := by decide +kernel
theorem dX6_placeOf_28 : decode cX6_placeOf 28 = .ok (.iushr, 1) := by decide +kernel
theorem dX6_placeOf_29 : decode cX6_placeOf 29 = .ok (.istore 5, 2) := by decide +kernel
theorem dX6_placeOf_31 : decode cX6_placeOf 31 = .ok (.aload_n 0, 1) := by decide +kernel
theorem dX6_placeOf_32 : decode cX6_placeOf 32 = .ok (.iload 5, 2) := by decide +kernel
theorem dX6_placeOf_34 : decode cX6_placeOf 34 = .ok (.invokevirtual 25, 3) := by decide +kernel
theorem dX6_placeOf_37 : decode cX6_placeOf 37 = .ok (.astore 6, 2) := by decide +kernel
theorem dX6_placeOf_39 : decode cX6_placeOf 39 = .ok (.aload 6, 2) := by decide +kernel
theorem dX6_placeOf_41 : decode cX6_placeOf 41 = .ok (.ifnull 23, 3) := by decide +kernel
theorem dX6_placeOf_44 : decode cX6_placeOf 44 = .ok (.aload 6, 2) := by decide +kernel
theorem dX6_placeOf_46 : decode cX6_placeOf 46 = .ok (.getfield 29, 3) := by decide +kernel
theorem dX6_placeOf_49 : decode cX6_placeOf 49 = .ok (.aload_n 1, 1) := by decide +kernel
theorem dX6_placeOf_50 : decode cX6_placeOf 50 = .ok (.invokestatic 33, 3) := by decide +kernel
theorem dX6_placeOf_53 : decode cX6_placeOf 53 = .ok (.ifCond .ge 11, 3) := by decide +kernel
theorem dX6_placeOf_56 : decode cX6_placeOf 56 = .ok (.iload 5, 2) := by decide +kernel
theorem dX6_placeOf_58 : decode cX6_placeOf 58 = .ok (.iconst 1, 1) := by decide +kernel
theorem dX6_placeOf_59 : decode cX6_placeOf 59 = .ok (.iadd, 1) := by decide +kernel
theorem dX6_placeOf_60 : decode cX6_placeOf 60 = .ok (.istore_n 2, 1) := by decide +kernel
theorem dX6_placeOf_61 : decode cX6_placeOf 61 = .ok (.goto 6, 3) := by decide +kernel
theorem dX6_placeOf_64 : decode cX6_placeOf 64 = .ok (.iload 5, 2) := by decide +kernel
theorem dX6_placeOf_66 : decode cX6_placeOf 66 = .ok (.istore_n 3, 1) := by decide +kernel
theorem dX6_placeOf_67 : decode cX6_placeOf 67 = .ok (.iinc 4 1, 3) := by decide +kernel
theorem dX6_placeOf_70 : decode cX6_placeOf 70 = .ok (.goto (-60), 3) := by decide +kernel
theorem dX6_placeOf_73 : decode cX6_placeOf 73 = .ok (.iload_n 2, 1) := by decide +kernel
theorem dX6_placeOf_74 : decode cX6_placeOf 74 = .ok (.ireturn, 1) := by decide +kernel
theorem dX6_replace_0 : decode cX6_replace 0 = .ok (.iload_n 1, 1) := by decide +kernel
theorem dX6_replace_1 : decode cX6_replace 1 = .ok (.ifCond .lt 18, 3) := by decide +kernel
theorem dX6_replace_4 : decode cX6_replace 4 = .ok (.iload_n 1, 1) := by decide +kernel
theorem dX6_replace_5 : decode cX6_replace 5 = .ok (.aload_n 0, 1) := by decide +kernel
theorem dX6_replace_6 : decode cX6_replace 6 = .ok (.getfield 17, 3) := by decide +kernel
theorem dX6_replace_9 : decode cX6_replace 9 = .ok (.if_icmp .ge 10, 3) := by decide +kernel
theorem dX6_replace_12 : decode cX6_replace 12 = .ok (.aload_n 0, 1) := by decide +kernel
theorem dX6_replace_13 : decode cX6_replace 13 = .ok (.getfield 13, 3) := by decide +kernel
theorem dX6_replace_16 : decode cX6_replace 16 = .ok (.iload_n 1, 1) := by decide +kernel
theorem dX6_replace_17 : decode cX6_replace 17 = .ok (.aload_n 2, 1) := by decide +kernel
theorem dX6_replace_18 : decode cX6_replace 18 = .ok (.aastore, 1) := by decide +kernel
theorem dX6_replace_19 : decode cX6_replace 19 = .ok (.return_, 1) := by decide +kernel
set_option maxRecDepth 20000 in
theorem ggX6_put_X6_find : GoodIn wsX6_put wsX6_find := goodIn_r _ [6, 1, 7, 8, 9, 5, 10, 11, 12, 13, 14, 15, 16, 17, 18, 19, 20, 21, 22, 23, 24, 25, 26, 27, 36, 37, 38, 39, 40, 41, 42] (by decide +kernel) (by decide +kernel)
set_option maxRecDepth 20000 in
theorem gX6_put_X6_find : GoodIn wsX6_put (wsV RX6 39 RX6 yX6_find wsX6_find) := goodIn_app (goodIn_of _ (by decide +kernel)) ggX6_put_X6_find
set_option maxRecDepth 20000 in
theorem ggX6_put_X6_placeOf : GoodIn wsX6_put wsX6_placeOf := goodIn_r _ [10, 11, 1, 12, 13, 14, 5, 15, 16, 17, 18, 19, 20, 21, 22, 23, 24, 25, 26, 27, 41, 42, 36, 37, 38, 39, 40] (by decide +kernel) (by decide +kernel)
set_option maxRecDepth 20000 in
theorem gX6_put_X6_placeOf : GoodIn wsX6_put (wsV RX6 21 RX6 yX6_placeOf wsX6_placeOf) := goodIn_app (goodIn_of _ (by decide +kernel)) ggX6_put_X6_placeOf
set_option maxRecDepth 20000 in
theorem ggX6_put_X6_insert : GoodIn wsX6_put wsX6_insert := goodIn_r _ [31, 11, 16, 41, 42] (by decide +kernel) (by decide +kernel)
set_option maxRecDepth 20000 in
theorem gX6_put_X6_insert : GoodIn wsX6_put (wsV RX6 42 RX6 yX6_insert wsX6_insert) := goodIn_app (goodIn_of _ (by decide +kernel)) ggX6_put_X6_insert
set_option maxRecDepth 20000 in
theorem ggX6_put_X6_replace : GoodIn wsX6_put wsX6_replace := goodIn_r _ [35, 11, 16, 41, 42] (by decide +kernel) (by decide +kernel)
set_option maxRecDepth 20000 in
theorem gX6_put_X6_replace : GoodIn wsX6_put (wsV RX6 46 RX6 yX6_replace wsX6_replace) := goodIn_app (goodIn_of _ (by decide +kernel)) ggX6_put_X6_replace
theorem dX6_put_0 : decode cX6_put 0 = .ok (.aload_n 0, 1) := by decide +kernel
theorem dX6_put_1 : decode cX6_put 1 = .ok (.aload_n 1, 1) := by decide +kernel
theorem dX6_put_2 : decode cX6_put 2 = .ok (.getfield 29, 3) := by decide +kernel
theorem dX6_put_5 : decode cX6_put 5 = .ok (.invokevirtual 39, 3) := by decide +kernel
theorem dX6_put_8 : decode cX6_put 8 = .ok (.istore_n 2, 1) := by decide +kernel
theorem dX6_put_9 : decode cX6_put 9 = .ok (.iload_n 2, 1) := by decide +kernel
theorem dX6_put_10 : decode cX6_put 10 = .ok (.iconst (-1), 1) := by decide +kernel
theorem dX6_put_11 : decode cX6_put 11 = .ok (.if_icmp .ne 19, 3) := by decide +kernel
theorem dX6_put_14 : decode cX6_put 14 = .ok (.aload_n 0, 1) := by decide +kernel
theorem dX6_put_15 : decode cX6_put 15 = .ok (.aload_n 0, 1) := by decide +kernel
theorem dX6_put_16 : decode cX6_put 16 = .ok (.aload_n 1, 1) := by decide +kernel
theorem dX6_put_17 : decode cX6_put 17 = .ok (.getfield 29, 3) := by decide +kernel
theorem dX6_put_20 : decode cX6_put 20 = .ok (.invokevirtual 21, 3) := by decide +kernel
theorem dX6_put_23 : decode cX6_put 23 = .ok (.aload_n 1, 1) := by decide +kernel
theorem dX6_put_24 : decode cX6_put 24 = .ok (.invokevirtual 42, 3) := by decide +kernel
theorem dX6_put_27 : decode cX6_put 27 = .ok (.goto 9, 3) := by decide +kernel
theorem dX6_put_30 : decode cX6_put 30 = .ok (.aload_n 0, 1) := by decide +kernel
theorem dX6_put_31 : decode cX6_put 31 = .ok (.iload_n 2, 1) := by decide +kernel
theorem dX6_put_32 : decode cX6_put 32 = .ok (.aload_n 1, 1) := by decide +kernel
theorem dX6_put_33 : decode cX6_put 33 = .ok (.invokevirtual 46, 3) := by decide +kernel
theorem dX6_put_36 : decode cX6_put 36 = .ok (.return_, 1) := by decide +kernel
theorem dX6_insert_0 : decode cX6_insert 0 = .ok (.iload_n 1, 1) := by decide +kernel
theorem dX6_insert_1 : decode cX6_insert 1 = .ok (.ifCond .lt 20, 3) := by decide +kernel
theorem dX6_insert_4 : decode cX6_insert 4 = .ok (.iload_n 1, 1) := by decide +kernel
theorem dX6_insert_5 : decode cX6_insert 5 = .ok (.aload_n 0, 1) := by decide +kernel
theorem dX6_insert_6 : decode cX6_insert 6 = .ok (.getfield 17, 3) := by decide +kernel
theorem dX6_insert_9 : decode cX6_insert 9 = .ok (.if_icmp .gt 12, 3) := by decide +kernel
theorem dX6_insert_12 : decode cX6_insert 12 = .ok (.aload_n 0, 1) := by decide +kernel
theorem dX6_insert_13 : decode cX6_insert 13 = .ok (.getfield 17, 3) := by decide +kernel
theorem dX6_insert_16 : decode cX6_insert 16 = .ok (.bipush 120, 2) := by decide +kernel
theorem dX6_insert_18 : decode cX6_insert 18 = .ok (.if_icmp .lt 4, 3) := by decide +kernel
theorem dX6_insert_21 : decode cX6_insert 21 = .ok (.return_, 1) := by decide +kernel
theorem dX6_insert_22 : decode cX6_insert 22 = .ok (.aload_n 0, 1) := by decide +kernel
theorem dX6_insert_23 : decode cX6_insert 23 = .ok (.getfield 17, 3) := by decide +kernel
theorem dX6_insert_26 : decode cX6_insert 26 = .ok (.istore_n 3, 1) := by decide +kernel
theorem dX6_insert_27 : decode cX6_insert 27 = .ok (.iload_n 3, 1) := by decide +kernel
theorem dX6_insert_28 : decode cX6_insert 28 = .ok (.iload_n 1, 1) := by decide +kernel
theorem dX6_insert_29 : decode cX6_insert 29 = .ok (.if_icmp .le 23, 3) := by decide +kernel
theorem dX6_insert_32 : decode cX6_insert 32 = .ok (.aload_n 0, 1) := by decide +kernel
theorem dX6_insert_33 : decode cX6_insert 33 = .ok (.getfield 13, 3) := by decide +kernel
theorem dX6_insert_36 : decode cX6_insert 36 = .ok (.iload_n 3, 1) := by decide +kernel
theorem dX6_insert_37 : decode cX6_insert 37 = .ok (.aload_n 0, 1) := by decide +kernel
theorem dX6_insert_38 : decode cX6_insert 38 = .ok (.getfield 13, 3) := by decide +kernel
theorem dX6_insert_41 : decode cX6_insert 41 = .ok (.iload_n 3, 1) := by decide +kernel
theorem dX6_insert_42 : decode cX6_insert 42 = .ok (.iconst 1, 1) := by decide +kernel
theorem dX6_insert_43 : decode cX6_insert 43 = .ok (.isub, 1) := by decide +kernel
theorem dX6_insert_44 : decode cX6_insert 44 = .ok (.aaload, 1) := by decide +kernel
theorem dX6_insert_45 : decode cX6_insert 45 = .ok (.aastore, 1) := by decide +kernel
theorem dX6_insert_46 : decode cX6_insert 46 = .ok (.iinc 3 (-1), 3) := by decide +kernel
theorem dX6_insert_49 : decode cX6_insert 49 = .ok (.goto (-22), 3) := by decide +kernel
theorem dX6_insert_52 : decode cX6_insert 52 = .ok (.aload_n 0, 1) := by decide +kernel
theorem dX6_insert_53 : decode cX6_insert 53 = .ok (.getfield 13, 3) := by decide +kernel
theorem dX6_insert_56 : decode cX6_insert 56 = .ok (.iload_n 1, 1) := by decide +kernel
theorem dX6_insert_57 : decode cX6_insert 57 = .ok (.aload_n 2, 1) := by decide +kernel
theorem dX6_insert_58 : decode cX6_insert 58 = .ok (.aastore, 1) := by decide +kernel
theorem dX6_insert_59 : decode cX6_insert 59 = .ok (.aload_n 0, 1) := by decide +kernel
theorem dX6_insert_60 : decode cX6_insert 60 = .ok (.dup, 1) := by decide +kernel
theorem dX6_insert_61 : decode cX6_insert 61 = .ok (.getfield 17, 3) := by decide +kernel
theorem dX6_insert_64 : decode cX6_insert 64 = .ok (.iconst 1, 1) := by decide +kernel
theorem dX6_insert_65 : decode cX6_insert 65 = .ok (.iadd, 1) := by decide +kernel
theorem dX6_insert_66 : decode cX6_insert 66 = .ok (.putfield 17, 3) := by decide +kernel
theorem dX6_insert_69 : decode cX6_insert 69 = .ok (.return_, 1) := by decide +kernel
theorem dX6_drop_0 : decode cX6_drop 0 = .ok (.iload_n 1, 1) := by decide +kernel
theorem dX6_drop_1 : decode cX6_drop 1 = .ok (.ifCond .lt 17, 3) := by decide +kernel
theorem dX6_drop_4 : decode cX6_drop 4 = .ok (.iload_n 2, 1) := by decide +kernel
theorem dX6_drop_5 : decode cX6_drop 5 = .ok (.ifCond .lt 13, 3) := by decide +kernel
theorem dX6_drop_8 : decode cX6_drop 8 = .ok (.iload_n 2, 1) := by decide +kernel
theorem dX6_drop_9 : decode cX6_drop 9 = .ok (.aload_n 0, 1) := by decide +kernel
theorem dX6_drop_10 : decode cX6_drop 10 = .ok (.getfield 17, 3) := by decide +kernel
theorem dX6_drop_13 : decode cX6_drop 13 = .ok (.iload_n 1, 1) := by decide +kernel
theorem dX6_drop_14 : decode cX6_drop 14 = .ok (.isub, 1) := by decide +kernel
theorem dX6_drop_15 : decode cX6_drop 15 = .ok (.if_icmp .le 4, 3) := by decide +kernel
theorem dX6_drop_18 : decode cX6_drop 18 = .ok (.return_, 1) := by decide +kernel
theorem dX6_drop_19 : decode cX6_drop 19 = .ok (.iload_n 1, 1) := by decide +kernel
theorem dX6_drop_20 : decode cX6_drop 20 = .ok (.iload_n 2, 1) := by decide +kernel
theorem dX6_drop_21 : decode cX6_drop 21 = .ok (.iadd, 1) := by decide +kernel
theorem dX6_drop_22 : decode cX6_drop 22 = .ok (.istore_n 3, 1) := by decide +kernel
theorem dX6_drop_23 : decode cX6_drop 23 = .ok (.iload_n 3, 1) := by decide +kernel
theorem dX6_drop_24 : decode cX6_drop 24 = .ok (.aload_n 0, 1) := by decide +kernel
theorem dX6_drop_25 : decode cX6_drop 25 = .ok (.getfield 17, 3) := by decide +kernel
theorem dX6_drop_28 : decode cX6_drop 28 = .ok (.if_icmp .ge 23, 3) := by decide +kernel
theorem dX6_drop_31 : decode cX6_drop 31 = .ok (.aload_n 0, 1) := by decide +kernel
theorem dX6_drop_32 : decode cX6_drop 32 = .ok (.getfield 13, 3) := by decide +kernel
theorem dX6_drop_35 : decode cX6_drop 35 = .ok (.iload_n 3, 1) := by decide +kernel
theorem dX6_drop_36 : decode cX6_drop 36 = .ok (.iload_n 2, 1) := by decide +kernel
theorem dX6_drop_37 : decode cX6_drop 37 = .ok (.isub, 1) := by decide +kernel
theorem dX6_drop_38 : decode cX6_drop 38 = .ok (.aload_n 0, 1) := by decide +kernel
theorem dX6_drop_39 : decode cX6_drop 39 = .ok (.getfield 13, 3) := by decide +kernel
theorem dX6_drop_42 : decode cX6_drop 42 = .ok (.iload_n 3, 1) := by decide +kernel
theorem dX6_drop_43 : decode cX6_drop 43 = .ok (.aaload, 1) := by decide +kernel
theorem dX6_drop_44 : decode cX6_drop 44 = .ok (.aastore, 1) := by decide +kernel
theorem dX6_drop_45 : decode cX6_drop 45 = .ok (.iinc 3 1, 3) := by decide +kernel
theorem dX6_drop_48 : decode cX6_drop 48 = .ok (.goto (-25), 3) := by decide +kernel
theorem dX6_drop_51 : decode cX6_drop 51 = .ok (.aload_n 0, 1) := by decide +kernel
theorem dX6_drop_52 : decode cX6_drop 52 = .ok (.dup, 1) := by decide +kernel
theorem dX6_drop_53 : decode cX6_drop 53 = .ok (.getfield 17, 3) := by decide +kernel
theorem dX6_drop_56 : decode cX6_drop 56 = .ok (.iload_n 2, 1) := by decide +kernel
theorem dX6_drop_57 : decode cX6_drop 57 = .ok (.isub, 1) := by decide +kernel
theorem dX6_drop_58 : decode cX6_drop 58 = .ok (.putfield 17, 3) := by decide +kernel
theorem dX6_drop_61 : decode cX6_drop 61 = .ok (.return_, 1) := by decide +kernel
set_option maxRecDepth 20000 in
theorem ggX6_countBelow_X6_get : GoodIn wsX6_countBelow wsX6_get := goodIn_r _ [8, 1, 2, 13, 14] (by decide +kernel) (by decide +kernel)
set_option maxRecDepth 20000 in
theorem gX6_countBelow_X6_get : GoodIn wsX6_countBelow (wsV RX6 25 RX6 yX6_get wsX6_get) := goodIn_app (goodIn_of _ (by decide +kernel)) ggX6_countBelow_X6_get
set_option maxRecDepth 20000 in
theorem ggX6_countBelow_X3_isBelow : GoodIn wsX6_countBelow wsX3_isBelow := goodIn_r _ [12] (by decide +kernel) (by decide +kernel)
set_option maxRecDepth 20000 in
theorem gX6_countBelow_X3_isBelow : GoodIn wsX6_countBelow (va_wsS RX6 49 yX3_isBelow wsX3_isBelow) := goodIn_app (goodIn_of _ (by decide +kernel)) ggX6_countBelow_X3_isBelow
theorem dX6_countBelow_0 : decode cX6_countBelow 0 = .ok (.aload_n 0, 1) := by decide +kernel
theorem dX6_countBelow_1 : decode cX6_countBelow 1 = .ok (.iload_n 1, 1) := by decide +kernel
theorem dX6_countBelow_2 : decode cX6_countBelow 2 = .ok (.invokevirtual 25, 3) := by decide +kernel
theorem dX6_countBelow_5 : decode cX6_countBelow 5 = .ok (.astore_n 2, 1) := by decide +kernel
theorem dX6_countBelow_6 : decode cX6_countBelow 6 = .ok (.aload_n 2, 1) := by decide +kernel
theorem dX6_countBelow_7 : decode cX6_countBelow 7 = .ok (.ifnonnull 5, 3) := by decide +kernel
theorem dX6_countBelow_10 : decode cX6_countBelow 10 = .ok (.iconst 0, 1) := by decide +kernel
theorem dX6_countBelow_11 : decode cX6_countBelow 11 = .ok (.ireturn, 1) := by decide +kernel
theorem dX6_countBelow_12 : decode cX6_countBelow 12 = .ok (.iconst 0, 1) := by decide +kernel
theorem dX6_countBelow_13 : decode cX6_countBelow 13 = .ok (.istore_n 3, 1) := by decide +kernel
theorem dX6_countBelow_14 : decode cX6_countBelow 14 = .ok (.iload_n 1, 1) := by decide +kernel
theorem dX6_countBelow_15 : decode cX6_countBelow 15 = .ok (.iconst 1, 1) := by decide +kernel
theorem dX6_countBelow_16 : decode cX6_countBelow 16 = .ok (.iadd, 1) := by decide +kernel
theorem dX6_countBelow_17 : decode cX6_countBelow 17 = .ok (.istore 4, 2) := by decide +kernel
theorem dX6_countBelow_19 : decode cX6_countBelow 19 = .ok (.iload 4, 2) := by decide +kernel
theorem dX6_countBelow_21 : decode cX6_countBelow 21 = .ok (.aload_n 0, 1) := by decide +kernel
theorem dX6_countBelow_22 : decode cX6_countBelow 22 = .ok (.getfield 17, 3) := by decide +kernel
theorem dX6_countBelow_25 : decode cX6_countBelow 25 = .ok (.if_icmp .ge 44, 3) := by decide +kernel
theorem dX6_countBelow_28 : decode cX6_countBelow 28 = .ok (.aload_n 0, 1) := by decide +kernel
theorem dX6_countBelow_29 : decode cX6_countBelow 29 = .ok (.getfield 13, 3) := by decide +kernel
theorem dX6_countBelow_32 : decode cX6_countBelow 32 = .ok (.iload 4, 2) := by decide +kernel
theorem dX6_countBelow_34 : decode cX6_countBelow 34 = .ok (.aaload, 1) := by decide +kernel
theorem dX6_countBelow_35 : decode cX6_countBelow 35 = .ok (.astore 5, 2) := by decide +kernel
theorem dX6_countBelow_37 : decode cX6_countBelow 37 = .ok (.aload 5, 2) := by decide +kernel
theorem dX6_countBelow_39 : decode cX6_countBelow 39 = .ok (.ifnull 30, 3) := by decide +kernel
theorem dX6_countBelow_42 : decode cX6_countBelow 42 = .ok (.aload 5, 2) := by decide +kernel
theorem dX6_countBelow_44 : decode cX6_countBelow 44 = .ok (.getfield 29, 3) := by decide +kernel
theorem dX6_countBelow_47 : decode cX6_countBelow 47 = .ok (.aload_n 2, 1) := by decide +kernel
theorem dX6_countBelow_48 : decode cX6_countBelow 48 = .ok (.getfield 29, 3) := by decide +kernel
theorem dX6_countBelow_51 : decode cX6_countBelow 51 = .ok (.invokestatic 49, 3) := by decide +kernel
theorem dX6_countBelow_54 : decode cX6_countBelow 54 = .ok (.ifCond .ne 6, 3) := by decide +kernel
theorem dX6_countBelow_57 : decode cX6_countBelow 57 = .ok (.goto 12, 3) := by decide +kernel
theorem dX6_countBelow_60 : decode cX6_countBelow 60 = .ok (.iinc 3 1, 3) := by decide +kernel
theorem dX6_countBelow_63 : decode cX6_countBelow 63 = .ok (.iinc 4 1, 3) := by decide +kernel
theorem dX6_countBelow_66 : decode cX6_countBelow 66 = .ok (.goto (-47), 3) := by decide +kernel
theorem dX6_countBelow_69 : decode cX6_countBelow 69 = .ok (.iload_n 3, 1) := by decide +kernel
theorem dX6_countBelow_70 : decode cX6_countBelow 70 = .ok (.ireturn, 1) := by decide +kernel
theorem dX6_contentBytes_0 : decode cX6_contentBytes 0 = .ok (.iconst 0, 1) := by decide +kernel
theorem dX6_contentBytes_1 : decode cX6_contentBytes 1 = .ok (.istore_n 1, 1) := by decide +kernel
theorem dX6_contentBytes_2 : decode cX6_contentBytes 2 = .ok (.iconst 0, 1) := by decide +kernel
theorem dX6_contentBytes_3 : decode cX6_contentBytes 3 = .ok (.istore_n 2, 1) := by decide +kernel
theorem dX6_contentBytes_4 : decode cX6_contentBytes 4 = .ok (.iload_n 2, 1) := by decide +kernel
theorem dX6_contentBytes_5 : decode cX6_contentBytes 5 = .ok (.aload_n 0, 1) := by decide +kernel
theorem dX6_contentBytes_6 : decode cX6_contentBytes 6 = .ok (.getfield 17, 3) := by decide +kernel
theorem dX6_contentBytes_9 : decode cX6_contentBytes 9 = .ok (.if_icmp .ge 28, 3) := by decide +kernel
theorem dX6_contentBytes_12 : decode cX6_contentBytes 12 = .ok (.aload_n 0, 1) := by decide +kernel
theorem dX6_contentBytes_13 : decode cX6_contentBytes 13 = .ok (.getfield 13, 3) := by decide +kernel
theorem dX6_contentBytes_16 : decode cX6_contentBytes 16 = .ok (.iload_n 2, 1) := by decide +kernel
theorem dX6_contentBytes_17 : decode cX6_contentBytes 17 = .ok (.aaload, 1) := by decide +kernel
theorem dX6_contentBytes_18 : decode cX6_contentBytes 18 = .ok (.astore_n 3, 1) := by decide +kernel
theorem dX6_contentBytes_19 : decode cX6_contentBytes 19 = .ok (.aload_n 3, 1) := by decide +kernel
theorem dX6_contentBytes_20 : decode cX6_contentBytes 20 = .ok (.ifnull 11, 3) := by decide +kernel
theorem dX6_contentBytes_23 : decode cX6_contentBytes 23 = .ok (.iload_n 1, 1) := by decide +kernel
theorem dX6_contentBytes_24 : decode cX6_contentBytes 24 = .ok (.aload_n 3, 1) := by decide +kernel
theorem dX6_contentBytes_25 : decode cX6_contentBytes 25 = .ok (.getfield 53, 3) := by decide +kernel
theorem dX6_contentBytes_28 : decode cX6_contentBytes 28 = .ok (.arraylength, 1) := by decide +kernel
theorem dX6_contentBytes_29 : decode cX6_contentBytes 29 = .ok (.iadd, 1) := by decide +kernel
theorem dX6_contentBytes_30 : decode cX6_contentBytes 30 = .ok (.istore_n 1, 1) := by decide +kernel
theorem dX6_contentBytes_31 : decode cX6_contentBytes 31 = .ok (.iinc 2 1, 3) := by decide +kernel
theorem dX6_contentBytes_34 : decode cX6_contentBytes 34 = .ok (.goto (-30), 3) := by decide +kernel
theorem dX6_contentBytes_37 : decode cX6_contentBytes 37 = .ok (.iload_n 1, 1) := by decide +kernel
theorem dX6_contentBytes_38 : decode cX6_contentBytes 38 = .ok (.ireturn, 1) := by decide +kernel
theorem dX6_copyFrom_0 : decode cX6_copyFrom 0 = .ok (.iconst 0, 1) := by decide +kernel
theorem dX6_copyFrom_1 : decode cX6_copyFrom 1 = .ok (.istore_n 2, 1) := by decide +kernel
theorem dX6_copyFrom_2 : decode cX6_copyFrom 2 = .ok (.iload_n 2, 1) := by decide +kernel
theorem dX6_copyFrom_3 : decode cX6_copyFrom 3 = .ok (.aload_n 1, 1) := by decide +kernel
theorem dX6_copyFrom_4 : decode cX6_copyFrom 4 = .ok (.getfield 17, 3) := by decide +kernel
theorem dX6_copyFrom_7 : decode cX6_copyFrom 7 = .ok (.if_icmp .ge 21, 3) := by decide +kernel
theorem dX6_copyFrom_10 : decode cX6_copyFrom 10 = .ok (.aload_n 0, 1) := by decide +kernel
theorem dX6_copyFrom_11 : decode cX6_copyFrom 11 = .ok (.getfield 13, 3) := by decide +kernel
theorem dX6_copyFrom_14 : decode cX6_copyFrom 14 = .ok (.iload_n 2, 1) := by decide +kernel
theorem dX6_copyFrom_15 : decode cX6_copyFrom 15 = .ok (.aload_n 1, 1) := by decide +kernel
theorem dX6_copyFrom_16 : decode cX6_copyFrom 16 = .ok (.getfield 13, 3) := by decide +kernel
theorem dX6_copyFrom_19 : decode cX6_copyFrom 19 = .ok (.iload_n 2, 1) := by decide +kernel
theorem dX6_copyFrom_20 : decode cX6_copyFrom 20 = .ok (.aaload, 1) := by decide +kernel
theorem dX6_copyFrom_21 : decode cX6_copyFrom 21 = .ok (.aastore, 1) := by decide +kernel
theorem dX6_copyFrom_22 : decode cX6_copyFrom 22 = .ok (.iinc 2 1, 3) := by decide +kernel
theorem dX6_copyFrom_25 : decode cX6_copyFrom 25 = .ok (.goto (-23), 3) := by decide +kernel
theorem dX6_copyFrom_28 : decode cX6_copyFrom 28 = .ok (.aload_n 0, 1) := by decide +kernel
theorem dX6_copyFrom_29 : decode cX6_copyFrom 29 = .ok (.aload_n 1, 1) := by decide +kernel
theorem dX6_copyFrom_30 : decode cX6_copyFrom 30 = .ok (.getfield 17, 3) := by decide +kernel
theorem dX6_copyFrom_33 : decode cX6_copyFrom 33 = .ok (.putfield 17, 3) := by decide +kernel
theorem dX6_copyFrom_36 : decode cX6_copyFrom 36 = .ok (.return_, 1) := by decide +kernel
set_option maxRecDepth 20000 in
theorem ggX7_init_X0_init : GoodIn wsX7_init wsX0_init := goodIn_r _ [11, 12, 2, 3, 13, 14, 15, 16, 17, 18, 19] (by decide +kernel) (by decide +kernel)
set_option maxRecDepth 20000 in
theorem gX7_init_X0_init_n9 : GoodIn wsX7_init (wsX0_init) := ggX7_init_X0_init
theorem dX7_init_0 : decode cX7_init 0 = .ok (.aload_n 0, 1) := by decide +kernel
theorem dX7_init_1 : decode cX7_init 1 = .ok (.invokespecial 1, 3) := by decide +kernel
theorem dX7_init_4 : decode cX7_init 4 = .ok (.aload_n 0, 1) := by decide +kernel
theorem dX7_init_5 : decode cX7_init 5 = .ok (.new 7, 3) := by decide +kernel
theorem dX7_init_8 : decode cX7_init 8 = .ok (.dup, 1) := by decide +kernel
theorem dX7_init_9 : decode cX7_init 9 = .ok (.invokespecial 9, 3) := by decide +kernel
theorem dX7_init_12 : decode cX7_init 12 = .ok (.putfield 10, 3) := by decide +kernel
theorem dX7_init_15 : decode cX7_init 15 = .ok (.aload_n 0, 1) := by decide +kernel
theorem dX7_init_16 : decode cX7_init 16 = .ok (.iconst 0, 1) := by decide +kernel
theorem dX7_init_17 : decode cX7_init 17 = .ok (.putfield 16, 3) := by decide +kernel
theorem dX7_init_20 : decode cX7_init 20 = .ok (.aload_n 0, 1) := by decide +kernel
theorem dX7_init_21 : decode cX7_init 21 = .ok (.iconst 0, 1) := by decide +kernel
theorem dX7_init_22 : decode cX7_init 22 = .ok (.putfield 20, 3) := by decide +kernel
theorem dX7_init_25 : decode cX7_init 25 = .ok (.return_, 1) := by decide +kernel
set_option maxRecDepth 20000 in
theorem ggX7_start_X0_find : GoodIn wsX7_start wsX0_find := goodIn_r _ [8, 9, 10, 11, 12, 13, 14, 15, 16, 17, 18, 19, 20, 21, 22, 7, 23, 24, 25, 26, 27, 28, 29, 30, 31, 32, 33, 34, 35, 36, 37, 38, 39, 40, 41, 42, 43, 44, 45, 46, 47, 48, 49, 50, 51, 52, 53, 54, 58, 59, 60, 61, 62, 63, 64, 65, 66, 67] (by decide +kernel) (by decide +kernel)
set_option maxRecDepth 20000 in
theorem gX7_start_X0_find : GoodIn wsX7_start (wsV RX7 23 RX0 yX0_find wsX0_find) := goodIn_app (goodIn_of _ (by decide +kernel)) ggX7_start_X0_find
theorem dX7_start_0 : decode cX7_start 0 = .ok (.aload_n 0, 1) := by decide +kernel
theorem dX7_start_1 : decode cX7_start 1 = .ok (.getfield 10, 3) := by decide +kernel
theorem dX7_start_4 : decode cX7_start 4 = .ok (.aload_n 2, 1) := by decide +kernel
theorem dX7_start_5 : decode cX7_start 5 = .ok (.aload_n 3, 1) := by decide +kernel
theorem dX7_start_6 : decode cX7_start 6 = .ok (.invokevirtual 23, 3) := by decide +kernel
theorem dX7_start_9 : decode cX7_start 9 = .ok (.aload_n 0, 1) := by decide +kernel
theorem dX7_start_10 : decode cX7_start 10 = .ok (.iload_n 1, 1) := by decide +kernel
theorem dX7_start_11 : decode cX7_start 11 = .ok (.putfield 16, 3) := by decide +kernel
theorem dX7_start_14 : decode cX7_start 14 = .ok (.aload_n 0, 1) := by decide +kernel
theorem dX7_start_15 : decode cX7_start 15 = .ok (.iconst 0, 1) := by decide +kernel
theorem dX7_start_16 : decode cX7_start 16 = .ok (.putfield 20, 3) := by decide +kernel
theorem dX7_start_19 : decode cX7_start 19 = .ok (.return_, 1) := by decide +kernel
set_option maxRecDepth 20000 in
theorem ggX7_operations_X0_size : GoodIn wsX7_operations wsX0_size := goodIn_r _ [6, 7, 11, 12, 13] (by decide +kernel) (by decide +kernel)
set_option maxRecDepth 20000 in
theorem gX7_operations_X0_size : GoodIn wsX7_operations (wsV RX7 27 RX0 yX0_size wsX0_size) := goodIn_app (goodIn_of _ (by decide +kernel)) ggX7_operations_X0_size
theorem dX7_operations_0 : decode cX7_operations 0 = .ok (.iconst 3, 1) := by decide +kernel
theorem dX7_operations_1 : decode cX7_operations 1 = .ok (.iconst 2, 1) := by decide +kernel
theorem dX7_operations_2 : decode cX7_operations 2 = .ok (.aload_n 0, 1) := by decide +kernel
theorem dX7_operations_3 : decode cX7_operations 3 = .ok (.getfield 10, 3) := by decide +kernel
theorem dX7_operations_6 : decode cX7_operations 6 = .ok (.invokevirtual 27, 3) := by decide +kernel
theorem dX7_operations_9 : decode cX7_operations 9 = .ok (.imul, 1) := by decide +kernel
theorem dX7_operations_10 : decode cX7_operations 10 = .ok (.iadd, 1) := by decide +kernel
theorem dX7_operations_11 : decode cX7_operations 11 = .ok (.ireturn, 1) := by decide +kernel
set_option maxRecDepth 20000 in
theorem ggX7_increments_X0_size : GoodIn wsX7_increments wsX0_size := goodIn_r _ [11, 12, 16, 17, 18] (by decide +kernel) (by decide +kernel)
set_option maxRecDepth 20000 in
theorem gX7_increments_X0_size : GoodIn wsX7_increments (wsV RX7 27 RX0 yX0_size wsX0_size) := goodIn_app (goodIn_of _ (by decide +kernel)) ggX7_increments_X0_size
theorem dX7_increments_0 : decode cX7_increments 0 = .ok (.aload_n 0, 1) := by decide +kernel
theorem dX7_increments_1 : decode cX7_increments 1 = .ok (.getfield 10, 3) := by decide +kernel
theorem dX7_increments_4 : decode cX7_increments 4 = .ok (.invokevirtual 27, 3) := by decide +kernel
theorem dX7_increments_7 : decode cX7_increments 7 = .ok (.aload_n 0, 1) := by decide +kernel
theorem dX7_increments_8 : decode cX7_increments 8 = .ok (.getfield 20, 3) := by decide +kernel
theorem dX7_increments_11 : decode cX7_increments 11 = .ok (.iconst 2, 1) := by decide +kernel
theorem dX7_increments_12 : decode cX7_increments 12 = .ok (.idiv, 1) := by decide +kernel
theorem dX7_increments_13 : decode cX7_increments 13 = .ok (.invokestatic 31, 3) := by decide +kernel
theorem dX7_increments_16 : decode cX7_increments 16 = .ok (.ireturn, 1) := by decide +kernel
set_option maxRecDepth 20000 in
theorem ggX7_doNext_X7_isUpdate : GoodIn wsX7_doNext wsX7_isUpdate := goodIn_r _ [7, 2, 8, 9, 10, 11, 12, 13, 71, 72, 73, 74, 75, 76] (by decide +kernel) (by decide +kernel)
set_option maxRecDepth 20000 in
theorem gX7_doNext_X7_isUpdate : GoodIn wsX7_doNext (wsV RX7 37 RX7 yX7_isUpdate wsX7_isUpdate) := goodIn_app (goodIn_of _ (by decide +kernel)) ggX7_doNext_X7_isUpdate
set_option maxRecDepth 20000 in
theorem ggX7_doNext_X7_changeOf : GoodIn wsX7_doNext wsX7_changeOf := goodIn_r _ [16] (by decide +kernel) (by decide +kernel)
set_option maxRecDepth 20000 in
theorem gX7_doNext_X7_changeOf : GoodIn wsX7_doNext (va_wsS RX7 41 yX7_changeOf wsX7_changeOf) := goodIn_app (goodIn_of _ (by decide +kernel)) ggX7_doNext_X7_changeOf
set_option maxRecDepth 20000 in
theorem ggX7_doNext_X0_apply : GoodIn wsX7_doNext wsX0_apply := goodIn_r _ [20, 13, 21, 22, 23, 24, 11, 25, 26, 27, 28, 29, 30, 31, 32, 33, 34, 35, 36, 37, 38, 39, 40, 41, 42, 43, 44, 45, 46, 47, 48, 49, 50, 51, 52, 53, 54, 55, 56, 57, 58, 59, 60, 61, 62, 63, 64, 65, 66, 67, 68, 69, 70, 74, 75, 76, 77, 78, 79, 80, 81, 82, 83] (by decide +kernel) (by decide +kernel)
set_option maxRecDepth 20000 in
theorem gX7_doNext_X0_apply : GoodIn wsX7_doNext (wsV RX7 45 RX0 yX0_apply wsX0_apply) := goodIn_app (goodIn_of _ (by decide +kernel)) ggX7_doNext_X0_apply
theorem dX7_doNext_0 : decode cX7_doNext 0 = .ok (.aload_n 0, 1) := by decide +kernel
theorem dX7_doNext_1 : decode cX7_doNext 1 = .ok (.aload_n 0, 1) := by decide +kernel
theorem dX7_doNext_2 : decode cX7_doNext 2 = .ok (.getfield 20, 3) := by decide +kernel
theorem dX7_doNext_5 : decode cX7_doNext 5 = .ok (.invokevirtual 37, 3) := by decide +kernel
theorem dX7_doNext_8 : decode cX7_doNext 8 = .ok (.ifCond .eq 18, 3) := by decide +kernel
theorem dX7_doNext_11 : decode cX7_doNext 11 = .ok (.aload_n 0, 1) := by decide +kernel
theorem dX7_doNext_12 : decode cX7_doNext 12 = .ok (.getfield 10, 3) := by decide +kernel
theorem dX7_doNext_15 : decode cX7_doNext 15 = .ok (.aload_n 0, 1) := by decide +kernel
theorem dX7_doNext_16 : decode cX7_doNext 16 = .ok (.getfield 20, 3) := by decide +kernel
theorem dX7_doNext_19 : decode cX7_doNext 19 = .ok (.invokestatic 41, 3) := by decide +kernel
theorem dX7_doNext_22 : decode cX7_doNext 22 = .ok (.aload_n 1, 1) := by decide +kernel
theorem dX7_doNext_23 : decode cX7_doNext 23 = .ok (.invokevirtual 45, 3) := by decide +kernel
theorem dX7_doNext_26 : decode cX7_doNext 26 = .ok (.aload_n 0, 1) := by decide +kernel
theorem dX7_doNext_27 : decode cX7_doNext 27 = .ok (.dup, 1) := by decide +kernel
theorem dX7_doNext_28 : decode cX7_doNext 28 = .ok (.getfield 20, 3) := by decide +kernel
theorem dX7_doNext_31 : decode cX7_doNext 31 = .ok (.iconst 1, 1) := by decide +kernel
theorem dX7_doNext_32 : decode cX7_doNext 32 = .ok (.iadd, 1) := by decide +kernel
theorem dX7_doNext_33 : decode cX7_doNext 33 = .ok (.putfield 20, 3) := by decide +kernel
theorem dX7_doNext_36 : decode cX7_doNext 36 = .ok (.return_, 1) := by decide +kernel
set_option maxRecDepth 20000 in
theorem ggX7_takeBackLast_X7_isUpdate : GoodIn wsX7_takeBackLast wsX7_isUpdate := goodIn_r _ [7, 2, 8, 9, 10, 11, 12, 13, 71, 72, 73, 74, 75, 76] (by decide +kernel) (by decide +kernel)
set_option maxRecDepth 20000 in
theorem gX7_takeBackLast_X7_isUpdate : GoodIn wsX7_takeBackLast (wsV RX7 37 RX7 yX7_isUpdate wsX7_isUpdate) := goodIn_app (goodIn_of _ (by decide +kernel)) ggX7_takeBackLast_X7_isUpdate
set_option maxRecDepth 20000 in
theorem ggX7_takeBackLast_X7_changeOf : GoodIn wsX7_takeBackLast wsX7_changeOf := goodIn_r _ [16] (by decide +kernel) (by decide +kernel)
set_option maxRecDepth 20000 in
theorem gX7_takeBackLast_X7_changeOf : GoodIn wsX7_takeBackLast (va_wsS RX7 41 yX7_changeOf wsX7_changeOf) := goodIn_app (goodIn_of _ (by decide +kernel)) ggX7_takeBackLast_X7_changeOf
set_option maxRecDepth 20000 in
theorem ggX7_takeBackLast_X0_takeBack : GoodIn wsX7_takeBackLast wsX0_takeBack := goodIn_r _ [20, 13, 21, 22, 23, 24, 11, 25, 26, 27, 28, 29, 30, 31, 32, 33, 34, 35, 36, 37, 38, 39, 40, 41, 42, 43, 44, 45, 46, 47, 48, 49, 50, 51, 52, 53, 54, 55, 56, 57, 58, 59, 60, 61, 62, 63, 64, 65, 66, 67, 68, 69, 70, 74, 75, 76, 77, 78, 79, 80, 81, 82, 83] (by decide +kernel) (by decide +kernel)
set_option maxRecDepth 20000 in
theorem gX7_takeBackLast_X0_takeBack : GoodIn wsX7_takeBackLast (wsV RX7 49 RX0 yX0_takeBack wsX0_takeBack) := goodIn_app (goodIn_of _ (by decide +kernel)) ggX7_takeBackLast_X0_takeBack
theorem dX7_takeBackLast_0 : decode cX7_takeBackLast 0 = .ok (.aload_n 0, 1) := by decide +kernel
theorem dX7_takeBackLast_1 : decode cX7_takeBackLast 1 = .ok (.dup, 1) := by decide +kernel
theorem dX7_takeBackLast_2 : decode cX7_takeBackLast 2 = .ok (.getfield 20, 3) := by decide +kernel
theorem dX7_takeBackLast_5 : decode cX7_takeBackLast 5 = .ok (.iconst 1, 1) := by decide +kernel
theorem dX7_takeBackLast_6 : decode cX7_takeBackLast 6 = .ok (.isub, 1) := by decide +kernel
theorem dX7_takeBackLast_7 : decode cX7_takeBackLast 7 = .ok (.putfield 20, 3) := by decide +kernel
theorem dX7_takeBackLast_10 : decode cX7_takeBackLast 10 = .ok (.aload_n 0, 1) := by decide +kernel
theorem dX7_takeBackLast_11 : decode cX7_takeBackLast 11 = .ok (.aload_n 0, 1) := by decide +kernel
theorem dX7_takeBackLast_12 : decode cX7_takeBackLast 12 = .ok (.getfield 20, 3) := by decide +kernel
theorem dX7_takeBackLast_15 : decode cX7_takeBackLast 15 = .ok (.invokevirtual 37, 3) := by decide +kernel
theorem dX7_takeBackLast_18 : decode cX7_takeBackLast 18 = .ok (.ifCond .eq 18, 3) := by decide +kernel
theorem dX7_takeBackLast_21 : decode cX7_takeBackLast 21 = .ok (.aload_n 0, 1) := by decide +kernel
theorem dX7_takeBackLast_22 : decode cX7_takeBackLast 22 = .ok (.getfield 10, 3) := by decide +kernel
theorem dX7_takeBackLast_25 : decode cX7_takeBackLast 25 = .ok (.aload_n 0, 1) := by decide +kernel
theorem dX7_takeBackLast_26 : decode cX7_takeBackLast 26 = .ok (.getfield 20, 3) := by decide +kernel
theorem dX7_takeBackLast_29 : decode cX7_takeBackLast 29 = .ok (.invokestatic 41, 3) := by decide +kernel
theorem dX7_takeBackLast_32 : decode cX7_takeBackLast 32 = .ok (.aload_n 1, 1) := by decide +kernel
theorem dX7_takeBackLast_33 : decode cX7_takeBackLast 33 = .ok (.invokevirtual 49, 3) := by decide +kernel
theorem dX7_takeBackLast_36 : decode cX7_takeBackLast 36 = .ok (.return_, 1) := by decide +kernel
set_option maxRecDepth 20000 in
theorem ggX7_isUpdate_X0_size : GoodIn wsX7_isUpdate wsX0_size := goodIn_r _ [6, 7, 11, 12, 13] (by decide +kernel) (by decide +kernel)
set_option maxRecDepth 20000 in
theorem gX7_isUpdate_X0_size : GoodIn wsX7_isUpdate (wsV RX7 27 RX0 yX0_size wsX0_size) := goodIn_app (goodIn_of _ (by decide +kernel)) ggX7_isUpdate_X0_size
theorem dX7_isUpdate_0 : decode cX7_isUpdate 0 = .ok (.iload_n 1, 1) := by decide +kernel
theorem dX7_isUpdate_1 : decode cX7_isUpdate 1 = .ok (.iconst 2, 1) := by decide +kernel
theorem dX7_isUpdate_2 : decode cX7_isUpdate 2 = .ok (.if_icmp .lt 26, 3) := by decide +kernel
theorem dX7_isUpdate_5 : decode cX7_isUpdate 5 = .ok (.iload_n 1, 1) := by decide +kernel
theorem dX7_isUpdate_6 : decode cX7_isUpdate 6 = .ok (.iconst 2, 1) := by decide +kernel
theorem dX7_isUpdate_7 : decode cX7_isUpdate 7 = .ok (.aload_n 0, 1) := by decide +kernel
theorem dX7_isUpdate_8 : decode cX7_isUpdate 8 = .ok (.getfield 10, 3) := by decide +kernel
theorem dX7_isUpdate_11 : decode cX7_isUpdate 11 = .ok (.invokevirtual 27, 3) := by decide +kernel
theorem dX7_isUpdate_14 : decode cX7_isUpdate 14 = .ok (.imul, 1) := by decide +kernel
theorem dX7_isUpdate_15 : decode cX7_isUpdate 15 = .ok (.if_icmp .gt 13, 3) := by decide +kernel
theorem dX7_isUpdate_18 : decode cX7_isUpdate 18 = .ok (.iload_n 1, 1) := by decide +kernel
theorem dX7_isUpdate_19 : decode cX7_isUpdate 19 = .ok (.iconst 1, 1) := by decide +kernel
theorem dX7_isUpdate_20 : decode cX7_isUpdate 20 = .ok (.iand, 1) := by decide +kernel
theorem dX7_isUpdate_21 : decode cX7_isUpdate 21 = .ok (.ifCond .ne 7, 3) := by decide +kernel
theorem dX7_isUpdate_24 : decode cX7_isUpdate 24 = .ok (.iconst 1, 1) := by decide +kernel
theorem dX7_isUpdate_25 : decode cX7_isUpdate 25 = .ok (.goto 4, 3) := by decide +kernel
theorem dX7_isUpdate_28 : decode cX7_isUpdate 28 = .ok (.iconst 0, 1) := by decide +kernel
theorem dX7_isUpdate_29 : decode cX7_isUpdate 29 = .ok (.ireturn, 1) := by decide +kernel
theorem dX7_changeOf_0 : decode cX7_changeOf 0 = .ok (.iload_n 0, 1) := by decide +kernel
theorem dX7_changeOf_1 : decode cX7_changeOf 1 = .ok (.iconst 2, 1) := by decide +kernel
theorem dX7_changeOf_2 : decode cX7_changeOf 2 = .ok (.idiv, 1) := by decide +kernel
theorem dX7_changeOf_3 : decode cX7_changeOf 3 = .ok (.iconst 1, 1) := by decide +kernel
theorem dX7_changeOf_4 : decode cX7_changeOf 4 = .ok (.isub, 1) := by decide +kernel
theorem dX7_changeOf_5 : decode cX7_changeOf 5 = .ok (.ireturn, 1) := by decide +kernel
set_option maxRecDepth 20000 in
theorem ggX8_init_X5_init : GoodIn wsX8_init wsX5_init := goodIn_r _ [29, 30, 2, 3, 31, 32, 33, 34, 35, 62, 63, 64] (by decide +kernel) (by decide +kernel)
set_option maxRecDepth 20000 in
theorem gX8_init_X5_init_n9 : GoodIn wsX8_init (wsX5_init) := ggX8_init_X5_init
set_option maxRecDepth 20000 in
theorem ggX8_init_X6_init : GoodIn wsX8_init wsX6_init := goodIn_r _ [37, 38, 2, 3, 39, 40, 41, 74, 75] (by decide +kernel) (by decide +kernel)
set_option maxRecDepth 20000 in
theorem gX8_init_X6_init_n18 : GoodIn wsX8_init (wsX6_init) := ggX8_init_X6_init
set_option maxRecDepth 20000 in
theorem ggX8_init_X2_init : GoodIn wsX8_init wsX2_init := goodIn_r _ [43, 44, 2, 3, 45, 46, 47, 76, 77] (by decide +kernel) (by decide +kernel)
set_option maxRecDepth 20000 in
theorem gX8_init_X2_init_n31 : GoodIn wsX8_init (wsX2_init) := ggX8_init_X2_init
set_option maxRecDepth 20000 in
theorem ggX8_init_X7_init : GoodIn wsX8_init wsX7_init := goodIn_r _ [49, 50, 2, 3, 51, 23, 24, 52, 53, 54, 55, 56, 57, 58, 59, 60, 61, 81, 82, 83, 78, 79, 80] (by decide +kernel) (by decide +kernel)
set_option maxRecDepth 20000 in
theorem gX8_init_X7_init_n38 : GoodIn wsX8_init (wsX7_init) := ggX8_init_X7_init
set_option maxRecDepth 20000 in
theorem ggX8_init_X0_init : GoodIn wsX8_init wsX0_init := goodIn_r _ [56, 57, 2, 3, 58, 59, 60, 61, 81, 82, 83] (by decide +kernel) (by decide +kernel)
set_option maxRecDepth 20000 in
theorem gX8_init_X0_init_n45 : GoodIn wsX8_init (wsX0_init) := ggX8_init_X0_init
theorem dX8_init_0 : decode cX8_init 0 = .ok (.aload_n 0, 1) := by decide +kernel
theorem dX8_init_1 : decode cX8_init 1 = .ok (.invokespecial 1, 3) := by decide +kernel
theorem dX8_init_4 : decode cX8_init 4 = .ok (.aload_n 0, 1) := by decide +kernel
theorem dX8_init_5 : decode cX8_init 5 = .ok (.new 7, 3) := by decide +kernel
theorem dX8_init_8 : decode cX8_init 8 = .ok (.dup, 1) := by decide +kernel
theorem dX8_init_9 : decode cX8_init 9 = .ok (.invokespecial 9, 3) := by decide +kernel
theorem dX8_init_12 : decode cX8_init 12 = .ok (.putfield 10, 3) := by decide +kernel
theorem dX8_init_15 : decode cX8_init 15 = .ok (.aload_n 0, 1) := by decide +kernel
theorem dX8_init_16 : decode cX8_init 16 = .ok (.new 16, 3) := by decide +kernel
theorem dX8_init_19 : decode cX8_init 19 = .ok (.dup, 1) := by decide +kernel
theorem dX8_init_20 : decode cX8_init 20 = .ok (.invokespecial 18, 3) := by decide +kernel
theorem dX8_init_23 : decode cX8_init 23 = .ok (.putfield 19, 3) := by decide +kernel
theorem dX8_init_26 : decode cX8_init 26 = .ok (.aload_n 0, 1) := by decide +kernel
theorem dX8_init_27 : decode cX8_init 27 = .ok (.new 16, 3) := by decide +kernel
theorem dX8_init_30 : decode cX8_init 30 = .ok (.dup, 1) := by decide +kernel
theorem dX8_init_31 : decode cX8_init 31 = .ok (.invokespecial 18, 3) := by decide +kernel
theorem dX8_init_34 : decode cX8_init 34 = .ok (.putfield 23, 3) := by decide +kernel
theorem dX8_init_37 : decode cX8_init 37 = .ok (.aload_n 0, 1) := by decide +kernel
theorem dX8_init_38 : decode cX8_init 38 = .ok (.new 16, 3) := by decide +kernel
theorem dX8_init_41 : decode cX8_init 41 = .ok (.dup, 1) := by decide +kernel
theorem dX8_init_42 : decode cX8_init 42 = .ok (.invokespecial 18, 3) := by decide +kernel
theorem dX8_init_45 : decode cX8_init 45 = .ok (.putfield 26, 3) := by decide +kernel
theorem dX8_init_48 : decode cX8_init 48 = .ok (.aload_n 0, 1) := by decide +kernel
theorem dX8_init_49 : decode cX8_init 49 = .ok (.new 29, 3) := by decide +kernel
theorem dX8_init_52 : decode cX8_init 52 = .ok (.dup, 1) := by decide +kernel
theorem dX8_init_53 : decode cX8_init 53 = .ok (.invokespecial 31, 3) := by decide +kernel
theorem dX8_init_56 : decode cX8_init 56 = .ok (.putfield 32, 3) := by decide +kernel
theorem dX8_init_59 : decode cX8_init 59 = .ok (.aload_n 0, 1) := by decide +kernel
theorem dX8_init_60 : decode cX8_init 60 = .ok (.new 36, 3) := by decide +kernel
theorem dX8_init_63 : decode cX8_init 63 = .ok (.dup, 1) := by decide +kernel
theorem dX8_init_64 : decode cX8_init 64 = .ok (.invokespecial 38, 3) := by decide +kernel
theorem dX8_init_67 : decode cX8_init 67 = .ok (.putfield 39, 3) := by decide +kernel
theorem dX8_init_70 : decode cX8_init 70 = .ok (.aload_n 0, 1) := by decide +kernel
theorem dX8_init_71 : decode cX8_init 71 = .ok (.new 43, 3) := by decide +kernel
theorem dX8_init_74 : decode cX8_init 74 = .ok (.dup, 1) := by decide +kernel
theorem dX8_init_75 : decode cX8_init 75 = .ok (.invokespecial 45, 3) := by decide +kernel
theorem dX8_init_78 : decode cX8_init 78 = .ok (.putfield 46, 3) := by decide +kernel
theorem dX8_init_81 : decode cX8_init 81 = .ok (.aload_n 0, 1) := by decide +kernel
theorem dX8_init_82 : decode cX8_init 82 = .ok (.iconst (-1), 1) := by decide +kernel
theorem dX8_init_83 : decode cX8_init 83 = .ok (.putfield 50, 3) := by decide +kernel
theorem dX8_init_86 : decode cX8_init 86 = .ok (.aload_n 0, 1) := by decide +kernel
theorem dX8_init_87 : decode cX8_init 87 = .ok (.iconst 0, 1) := by decide +kernel
theorem dX8_init_88 : decode cX8_init 88 = .ok (.putfield 54, 3) := by decide +kernel
theorem dX8_init_91 : decode cX8_init 91 = .ok (.return_, 1) := by decide +kernel
set_option maxRecDepth 20000 in
theorem ggX8_feed_X5_makeReady : GoodIn wsX8_feed wsX5_makeReady := goodIn_r _ [6, 7, 17, 18, 19] (by decide +kernel) (by decide +kernel)
set_option maxRecDepth 20000 in
theorem gX8_feed_X5_makeReady : GoodIn wsX8_feed (wsV RX8 57 RX5 yX5_makeReady wsX5_makeReady) := goodIn_app (goodIn_of _ (by decide +kernel)) ggX8_feed_X5_makeReady
theorem dX8_feed_0 : decode cX8_feed 0 = .ok (.aload_n 0, 1) := by decide +kernel
theorem dX8_feed_1 : decode cX8_feed 1 = .ok (.getfield 10, 3) := by decide +kernel
theorem dX8_feed_4 : decode cX8_feed 4 = .ok (.iload_n 1, 1) := by decide +kernel
theorem dX8_feed_5 : decode cX8_feed 5 = .ok (.iload_n 2, 1) := by decide +kernel
theorem dX8_feed_6 : decode cX8_feed 6 = .ok (.iload_n 3, 1) := by decide +kernel
theorem dX8_feed_7 : decode cX8_feed 7 = .ok (.iload 4, 2) := by decide +kernel
theorem dX8_feed_9 : decode cX8_feed 9 = .ok (.iload 5, 2) := by decide +kernel
theorem dX8_feed_11 : decode cX8_feed 11 = .ok (.invokevirtual 57, 3) := by decide +kernel
theorem dX8_feed_14 : decode cX8_feed 14 = .ok (.return_, 1) := by decide +kernel
set_option maxRecDepth 20000 in
theorem ggX8_end_X5_append : GoodIn wsX8_end wsX5_append := goodIn_r _ [6, 7, 8, 9, 10, 11, 12, 5, 13, 14, 15, 16, 17, 27, 28, 29] (by decide +kernel) (by decide +kernel)
set_option maxRecDepth 20000 in
theorem gX8_end_X5_append : GoodIn wsX8_end (wsV RX8 61 RX5 yX5_append wsX5_append) := goodIn_app (goodIn_of _ (by decide +kernel)) ggX8_end_X5_append
theorem dX8_end_0 : decode cX8_end 0 = .ok (.aload_n 0, 1) := by decide +kernel
theorem dX8_end_1 : decode cX8_end 1 = .ok (.getfield 10, 3) := by decide +kernel
theorem dX8_end_4 : decode cX8_end 4 = .ok (.iload_n 1, 1) := by decide +kernel
theorem dX8_end_5 : decode cX8_end 5 = .ok (.invokevirtual 61, 3) := by decide +kernel
theorem dX8_end_8 : decode cX8_end 8 = .ok (.ireturn, 1) := by decide +kernel
set_option maxRecDepth 20000 in
theorem ggX8_make_X5_take : GoodIn wsX8_make wsX5_take := goodIn_r _ [17, 18, 19, 20, 21, 22, 23, 24, 25, 26, 27, 28, 29, 11, 30, 31, 32, 33, 34, 35, 36, 37, 130, 131, 132] (by decide +kernel) (by decide +kernel)
set_option maxRecDepth 20000 in
theorem gX8_make_X5_take : GoodIn wsX8_make (wsV RX8 72 RX5 yX5_take wsX5_take) := goodIn_app (goodIn_of _ (by decide +kernel)) ggX8_make_X5_take
set_option maxRecDepth 20000 in
theorem ggX8_make_X8_isKind : GoodIn wsX8_make wsX8_isKind := goodIn_r _ [41] (by decide +kernel) (by decide +kernel)
set_option maxRecDepth 20000 in
theorem gX8_make_X8_isKind : GoodIn wsX8_make (va_wsS RX8 76 yX8_isKind wsX8_isKind) := goodIn_app (goodIn_of _ (by decide +kernel)) ggX8_make_X8_isKind
set_option maxRecDepth 20000 in
theorem ggX8_make_X8_isMode : GoodIn wsX8_make wsX8_isMode := goodIn_r _ [44] (by decide +kernel) (by decide +kernel)
set_option maxRecDepth 20000 in
theorem gX8_make_X8_isMode : GoodIn wsX8_make (va_wsS RX8 80 yX8_isMode wsX8_isMode) := goodIn_app (goodIn_of _ (by decide +kernel)) ggX8_make_X8_isMode
end
section
set_option maxRecDepth 20000 in
theorem ggX8_make_X8_isTime : GoodIn wsX8_make wsX8_isTime := goodIn_r _ [47] (by decide +kernel) (by decide +kernel)
set_option maxRecDepth 20000 in
theorem gX8_make_X8_isTime : GoodIn wsX8_make (va_wsS RX8 83 yX8_isTime wsX8_isTime) := goodIn_app (goodIn_of _ (by decide +kernel)) ggX8_make_X8_isTime
set_option maxRecDepth 20000 in
theorem ggX8_make_X3_isPath : GoodIn wsX8_make wsX3_isPath := goodIn_r _ [51, 52, 53, 50, 54] (by decide +kernel) (by decide +kernel)
set_option maxRecDepth 20000 in
theorem gX8_make_X3_isPath : GoodIn wsX8_make (va_wsS RX8 86 yX3_isPath wsX3_isPath) := goodIn_app (goodIn_of _ (by decide +kernel)) ggX8_make_X3_isPath
set_option maxRecDepth 20000 in
theorem ggX8_make_X6_find : GoodIn wsX8_make wsX6_find := goodIn_r _ [59, 60, 61, 62, 63, 58, 64, 65, 66, 67, 68, 69, 70, 71, 72, 50, 73, 74, 31, 32, 33, 75, 76, 77, 125, 126, 127, 128, 129, 133, 134] (by decide +kernel) (by decide +kernel)
set_option maxRecDepth 20000 in
theorem gX8_make_X6_find : GoodIn wsX8_make (wsV RX8 97 RX6 yX6_find wsX6_find) := goodIn_app (goodIn_of _ (by decide +kernel)) ggX8_make_X6_find
set_option maxRecDepth 20000 in
theorem ggX8_make_X8_hasDirectory : GoodIn wsX8_make wsX8_hasDirectory := goodIn_r _ [81, 7, 82, 83, 84, 50, 85, 86, 21, 22, 23, 24, 25, 26, 27, 28, 29, 11, 30, 31, 32, 33, 34, 35, 36, 37, 55, 56, 57, 58, 59, 60, 61, 62, 63, 64, 65, 66, 67, 68, 69, 70, 71, 72, 73, 74, 75, 76, 77, 87, 116, 117, 118, 119, 120, 121, 122, 123, 124, 125, 126, 127, 128, 129, 133, 134] (by decide +kernel) (by decide +kernel)
set_option maxRecDepth 20000 in
theorem gX8_make_X8_hasDirectory : GoodIn wsX8_make (wsV RX8 101 RX8 yX8_hasDirectory wsX8_hasDirectory) := goodIn_app (goodIn_of _ (by decide +kernel)) ggX8_make_X8_hasDirectory
set_option maxRecDepth 20000 in
theorem ggX8_make_X6_size : GoodIn wsX8_make wsX6_size := goodIn_r _ [91, 65, 133, 134] (by decide +kernel) (by decide +kernel)
set_option maxRecDepth 20000 in
theorem gX8_make_X6_size : GoodIn wsX8_make (wsV RX8 104 RX6 yX6_size wsX6_size) := goodIn_app (goodIn_of _ (by decide +kernel)) ggX8_make_X6_size
set_option maxRecDepth 20000 in
theorem ggX8_make_X1_init : GoodIn wsX8_make wsX1_init := goodIn_r _ [94, 95, 96, 97, 98, 99, 100, 101, 102, 125, 126, 127, 128, 129] (by decide +kernel) (by decide +kernel)
set_option maxRecDepth 20000 in
theorem gX8_make_X1_init : GoodIn wsX8_make (wsX1_init) := ggX8_make_X1_init
set_option maxRecDepth 20000 in
theorem ggX8_make_X6_put : GoodIn wsX8_make wsX6_put := goodIn_r _ [106, 60, 107, 56, 57, 58, 59, 61, 62, 63, 64, 65, 66, 67, 68, 69, 70, 71, 72, 50, 73, 74, 31, 32, 33, 75, 76, 77, 108, 109, 110, 111, 112, 113, 114, 115, 125, 126, 127, 128, 129, 133, 134] (by decide +kernel) (by decide +kernel)
set_option maxRecDepth 20000 in
theorem gX8_make_X6_put : GoodIn wsX8_make (wsV RX8 115 RX6 yX6_put wsX6_put) := goodIn_app (goodIn_of _ (by decide +kernel)) ggX8_make_X6_put
theorem dX8_make_0 : decode cX8_make 0 = .ok (.aload_n 0, 1) := by decide +kernel
theorem dX8_make_1 : decode cX8_make 1 = .ok (.getfield 54, 3) := by decide +kernel
theorem dX8_make_4 : decode cX8_make 4 = .ok (.iconst 1, 1) := by decide +kernel
theorem dX8_make_5 : decode cX8_make 5 = .ok (.if_icmp .ne 13, 3) := by decide +kernel
theorem dX8_make_8 : decode cX8_make 8 = .ok (.new 65, 3) := by decide +kernel
theorem dX8_make_11 : decode cX8_make 11 = .ok (.dup, 1) := by decide +kernel
theorem dX8_make_12 : decode cX8_make 12 = .ok (.ldc 67, 2) := by decide +kernel
theorem dX8_make_14 : decode cX8_make 14 = .ok (.invokespecial 69, 3) := by decide +kernel
theorem dX8_make_17 : decode cX8_make 17 = .ok (.athrow, 1) := by decide +kernel
theorem dX8_make_18 : decode cX8_make 18 = .ok (.aload_n 0, 1) := by decide +kernel
theorem dX8_make_19 : decode cX8_make 19 = .ok (.getfield 10, 3) := by decide +kernel
theorem dX8_make_22 : decode cX8_make 22 = .ok (.invokevirtual 72, 3) := by decide +kernel
theorem dX8_make_25 : decode cX8_make 25 = .ok (.astore 4, 2) := by decide +kernel
theorem dX8_make_27 : decode cX8_make 27 = .ok (.iload_n 1, 1) := by decide +kernel
theorem dX8_make_28 : decode cX8_make 28 = .ok (.invokestatic 76, 3) := by decide +kernel
theorem dX8_make_31 : decode cX8_make 31 = .ok (.ifCond .eq 25, 3) := by decide +kernel
theorem dX8_make_34 : decode cX8_make 34 = .ok (.iload_n 2, 1) := by decide +kernel
theorem dX8_make_35 : decode cX8_make 35 = .ok (.invokestatic 80, 3) := by decide +kernel
theorem dX8_make_38 : decode cX8_make 38 = .ok (.ifCond .eq 18, 3) := by decide +kernel
theorem dX8_make_41 : decode cX8_make 41 = .ok (.iload_n 3, 1) := by decide +kernel
theorem dX8_make_42 : decode cX8_make 42 = .ok (.invokestatic 83, 3) := by decide +kernel
theorem dX8_make_45 : decode cX8_make 45 = .ok (.ifCond .eq 11, 3) := by decide +kernel
theorem dX8_make_48 : decode cX8_make 48 = .ok (.aload 4, 2) := by decide +kernel
theorem dX8_make_50 : decode cX8_make 50 = .ok (.invokestatic 86, 3) := by decide +kernel
theorem dX8_make_53 : decode cX8_make 53 = .ok (.ifCond .ne 13, 3) := by decide +kernel
theorem dX8_make_56 : decode cX8_make 56 = .ok (.new 92, 3) := by decide +kernel
theorem dX8_make_59 : decode cX8_make 59 = .ok (.dup, 1) := by decide +kernel
theorem dX8_make_60 : decode cX8_make 60 = .ok (.ldc 94, 2) := by decide +kernel
theorem dX8_make_62 : decode cX8_make 62 = .ok (.invokespecial 96, 3) := by decide +kernel
theorem dX8_make_65 : decode cX8_make 65 = .ok (.athrow, 1) := by decide +kernel
theorem dX8_make_66 : decode cX8_make 66 = .ok (.aload_n 0, 1) := by decide +kernel
theorem dX8_make_67 : decode cX8_make 67 = .ok (.getfield 19, 3) := by decide +kernel
theorem dX8_make_70 : decode cX8_make 70 = .ok (.aload 4, 2) := by decide +kernel
theorem dX8_make_72 : decode cX8_make 72 = .ok (.invokevirtual 97, 3) := by decide +kernel
theorem dX8_make_75 : decode cX8_make 75 = .ok (.iconst (-1), 1) := by decide +kernel
theorem dX8_make_76 : decode cX8_make 76 = .ok (.if_icmp .ne 24, 3) := by decide +kernel
theorem dX8_make_79 : decode cX8_make 79 = .ok (.aload_n 0, 1) := by decide +kernel
theorem dX8_make_80 : decode cX8_make 80 = .ok (.aload 4, 2) := by decide +kernel
theorem dX8_make_82 : decode cX8_make 82 = .ok (.invokevirtual 101, 3) := by decide +kernel
theorem dX8_make_85 : decode cX8_make 85 = .ok (.ifCond .eq 15, 3) := by decide +kernel
theorem dX8_make_88 : decode cX8_make 88 = .ok (.aload_n 0, 1) := by decide +kernel
theorem dX8_make_89 : decode cX8_make 89 = .ok (.getfield 19, 3) := by decide +kernel
theorem dX8_make_92 : decode cX8_make 92 = .ok (.invokevirtual 104, 3) := by decide +kernel
theorem dX8_make_95 : decode cX8_make 95 = .ok (.bipush 60, 2) := by decide +kernel
theorem dX8_make_97 : decode cX8_make 97 = .ok (.if_icmp .lt 13, 3) := by decide +kernel
theorem dX8_make_100 : decode cX8_make 100 = .ok (.new 65, 3) := by decide +kernel
theorem dX8_make_103 : decode cX8_make 103 = .ok (.dup, 1) := by decide +kernel
theorem dX8_make_104 : decode cX8_make 104 = .ok (.ldc 108, 2) := by decide +kernel
theorem dX8_make_106 : decode cX8_make 106 = .ok (.invokespecial 69, 3) := by decide +kernel
theorem dX8_make_109 : decode cX8_make 109 = .ok (.athrow, 1) := by decide +kernel
theorem dX8_make_110 : decode cX8_make 110 = .ok (.aload_n 0, 1) := by decide +kernel
theorem dX8_make_111 : decode cX8_make 111 = .ok (.getfield 19, 3) := by decide +kernel
theorem dX8_make_114 : decode cX8_make 114 = .ok (.new 110, 3) := by decide +kernel
theorem dX8_make_117 : decode cX8_make 117 = .ok (.dup, 1) := by decide +kernel
theorem dX8_make_118 : decode cX8_make 118 = .ok (.aload 4, 2) := by decide +kernel
theorem dX8_make_120 : decode cX8_make 120 = .ok (.iload_n 1, 1) := by decide +kernel
theorem dX8_make_121 : decode cX8_make 121 = .ok (.iload_n 2, 1) := by decide +kernel
theorem dX8_make_122 : decode cX8_make 122 = .ok (.iload_n 3, 1) := by decide +kernel
theorem dX8_make_123 : decode cX8_make 123 = .ok (.iconst 0, 1) := by decide +kernel
theorem dX8_make_124 : decode cX8_make 124 = .ok (.newarray .byte, 2) := by decide +kernel
theorem dX8_make_126 : decode cX8_make 126 = .ok (.invokespecial 112, 3) := by decide +kernel
theorem dX8_make_129 : decode cX8_make 129 = .ok (.invokevirtual 115, 3) := by decide +kernel
theorem dX8_make_132 : decode cX8_make 132 = .ok (.aload_n 0, 1) := by decide +kernel
theorem dX8_make_133 : decode cX8_make 133 = .ok (.aload_n 0, 1) := by decide +kernel
theorem dX8_make_134 : decode cX8_make 134 = .ok (.getfield 19, 3) := by decide +kernel
theorem dX8_make_137 : decode cX8_make 137 = .ok (.aload 4, 2) := by decide +kernel
theorem dX8_make_139 : decode cX8_make 139 = .ok (.invokevirtual 97, 3) := by decide +kernel
theorem dX8_make_142 : decode cX8_make 142 = .ok (.putfield 50, 3) := by decide +kernel
theorem dX8_make_145 : decode cX8_make 145 = .ok (.aload_n 0, 1) := by decide +kernel
theorem dX8_make_146 : decode cX8_make 146 = .ok (.getfield 19, 3) := by decide +kernel
theorem dX8_make_149 : decode cX8_make 149 = .ok (.invokevirtual 104, 3) := by decide +kernel
theorem dX8_make_152 : decode cX8_make 152 = .ok (.ireturn, 1) := by decide +kernel
set_option maxRecDepth 20000 in
theorem ggX8_choose_X5_take : GoodIn wsX8_choose wsX5_take := goodIn_r _ [9, 10, 11, 12, 13, 14, 15, 16, 17, 18, 19, 20, 21, 22, 23, 24, 25, 26, 27, 28, 29, 30, 70, 71, 72] (by decide +kernel) (by decide +kernel)
set_option maxRecDepth 20000 in
theorem gX8_choose_X5_take : GoodIn wsX8_choose (wsV RX8 72 RX5 yX5_take wsX5_take) := goodIn_app (goodIn_of _ (by decide +kernel)) ggX8_choose_X5_take
set_option maxRecDepth 20000 in
theorem ggX8_choose_X6_find : GoodIn wsX8_choose wsX6_find := goodIn_r _ [35, 36, 37, 38, 39, 34, 40, 41, 42, 43, 44, 45, 46, 47, 48, 49, 50, 51, 24, 25, 26, 52, 53, 54, 65, 66, 67, 68, 69, 73, 74] (by decide +kernel) (by decide +kernel)
set_option maxRecDepth 20000 in
theorem gX8_choose_X6_find : GoodIn wsX8_choose (wsV RX8 97 RX6 yX6_find wsX6_find) := goodIn_app (goodIn_of _ (by decide +kernel)) ggX8_choose_X6_find
set_option maxRecDepth 20000 in
theorem ggX8_choose_X6_get : GoodIn wsX8_choose wsX6_get := goodIn_r _ [45, 41, 46, 73, 74] (by decide +kernel) (by decide +kernel)
set_option maxRecDepth 20000 in
theorem gX8_choose_X6_get : GoodIn wsX8_choose (wsV RX8 119 RX6 yX6_get wsX6_get) := goodIn_app (goodIn_of _ (by decide +kernel)) ggX8_choose_X6_get
theorem dX8_choose_0 : decode cX8_choose 0 = .ok (.aload_n 0, 1) := by decide +kernel
theorem dX8_choose_1 : decode cX8_choose 1 = .ok (.aload_n 0, 1) := by decide +kernel
theorem dX8_choose_2 : decode cX8_choose 2 = .ok (.getfield 19, 3) := by decide +kernel
theorem dX8_choose_5 : decode cX8_choose 5 = .ok (.aload_n 0, 1) := by decide +kernel
theorem dX8_choose_6 : decode cX8_choose 6 = .ok (.getfield 10, 3) := by decide +kernel
theorem dX8_choose_9 : decode cX8_choose 9 = .ok (.invokevirtual 72, 3) := by decide +kernel
theorem dX8_choose_12 : decode cX8_choose 12 = .ok (.invokevirtual 97, 3) := by decide +kernel
theorem dX8_choose_15 : decode cX8_choose 15 = .ok (.putfield 50, 3) := by decide +kernel
theorem dX8_choose_18 : decode cX8_choose 18 = .ok (.aload_n 0, 1) := by decide +kernel
theorem dX8_choose_19 : decode cX8_choose 19 = .ok (.getfield 19, 3) := by decide +kernel
theorem dX8_choose_22 : decode cX8_choose 22 = .ok (.aload_n 0, 1) := by decide +kernel
theorem dX8_choose_23 : decode cX8_choose 23 = .ok (.getfield 50, 3) := by decide +kernel
theorem dX8_choose_26 : decode cX8_choose 26 = .ok (.invokevirtual 119, 3) := by decide +kernel
theorem dX8_choose_29 : decode cX8_choose 29 = .ok (.astore_n 1, 1) := by decide +kernel
theorem dX8_choose_30 : decode cX8_choose 30 = .ok (.aload_n 1, 1) := by decide +kernel
theorem dX8_choose_31 : decode cX8_choose 31 = .ok (.ifnonnull 7, 3) := by decide +kernel
theorem dX8_choose_34 : decode cX8_choose 34 = .ok (.iconst (-1), 1) := by decide +kernel
theorem dX8_choose_35 : decode cX8_choose 35 = .ok (.goto 7, 3) := by decide +kernel
theorem dX8_choose_38 : decode cX8_choose 38 = .ok (.aload_n 1, 1) := by decide +kernel
theorem dX8_choose_39 : decode cX8_choose 39 = .ok (.getfield 123, 3) := by decide +kernel
theorem dX8_choose_42 : decode cX8_choose 42 = .ok (.ireturn, 1) := by decide +kernel
set_option maxRecDepth 20000 in
theorem ggX8_write_X5_take : GoodIn wsX8_write wsX5_take := goodIn_r _ [20, 21, 22, 23, 24, 25, 26, 27, 28, 29, 30, 31, 32, 33, 34, 35, 13, 36, 37, 38, 39, 40, 100, 101, 102] (by decide +kernel) (by decide +kernel)
set_option maxRecDepth 20000 in
theorem gX8_write_X5_take : GoodIn wsX8_write (wsV RX8 72 RX5 yX5_take wsX5_take) := goodIn_app (goodIn_of _ (by decide +kernel)) ggX8_write_X5_take
set_option maxRecDepth 20000 in
theorem ggX8_write_X6_get : GoodIn wsX8_write wsX6_get := goodIn_r _ [45, 46, 47, 103, 104] (by decide +kernel) (by decide +kernel)
set_option maxRecDepth 20000 in
theorem gX8_write_X6_get : GoodIn wsX8_write (wsV RX8 119 RX6 yX6_get wsX6_get) := goodIn_app (goodIn_of _ (by decide +kernel)) ggX8_write_X6_get
set_option maxRecDepth 20000 in
theorem ggX8_write_X8_mostBytes : GoodIn wsX8_write wsX8_mostBytes := goodIn_r _ [51] (by decide +kernel) (by decide +kernel)
set_option maxRecDepth 20000 in
theorem gX8_write_X8_mostBytes : GoodIn wsX8_write (va_wsS RX8 138 yX8_mostBytes wsX8_mostBytes) := goodIn_app (goodIn_of _ (by decide +kernel)) ggX8_write_X8_mostBytes
set_option maxRecDepth 20000 in
theorem ggX8_write_X6_contentBytes : GoodIn wsX8_write wsX6_contentBytes := goodIn_r _ [55, 46, 47, 56, 103, 104, 95, 96, 97, 98, 99] (by decide +kernel) (by decide +kernel)
set_option maxRecDepth 20000 in
theorem gX8_write_X6_contentBytes : GoodIn wsX8_write (wsV RX8 141 RX6 yX6_contentBytes wsX6_contentBytes) := goodIn_app (goodIn_of _ (by decide +kernel)) ggX8_write_X6_contentBytes
set_option maxRecDepth 20000 in
theorem ggX8_write_X8_overlaid : GoodIn wsX8_write wsX8_overlaid := goodIn_r _ [59, 60, 61, 13, 62, 63, 24, 25, 26, 27, 28, 29, 30, 31, 32, 33, 34, 35, 36, 37, 38, 39, 40] (by decide +kernel) (by decide +kernel)
set_option maxRecDepth 20000 in
theorem gX8_write_X8_overlaid : GoodIn wsX8_write (va_wsS RX8 150 yX8_overlaid wsX8_overlaid) := goodIn_app (goodIn_of _ (by decide +kernel)) ggX8_write_X8_overlaid
set_option maxRecDepth 20000 in
theorem ggX8_write_X1_withContent : GoodIn wsX8_write wsX1_withContent := goodIn_r _ [68, 69, 70, 67, 71, 72, 73, 74, 75, 76, 77, 78, 79, 80, 81, 95, 96, 97, 98, 99] (by decide +kernel) (by decide +kernel)
set_option maxRecDepth 20000 in
theorem gX8_write_X1_withContent : GoodIn wsX8_write (wsV RX8 154 RX1 yX1_withContent wsX1_withContent) := goodIn_app (goodIn_of _ (by decide +kernel)) ggX8_write_X1_withContent
set_option maxRecDepth 20000 in
theorem ggX8_write_X6_replace : GoodIn wsX8_write wsX6_replace := goodIn_r _ [85, 46, 47, 103, 104] (by decide +kernel) (by decide +kernel)
set_option maxRecDepth 20000 in
theorem gX8_write_X6_replace : GoodIn wsX8_write (wsV RX8 158 RX6 yX6_replace wsX6_replace) := goodIn_app (goodIn_of _ (by decide +kernel)) ggX8_write_X6_replace
theorem dX8_write_0 : decode cX8_write 0 = .ok (.aload_n 0, 1) := by decide +kernel
theorem dX8_write_1 : decode cX8_write 1 = .ok (.getfield 54, 3) := by decide +kernel
theorem dX8_write_4 : decode cX8_write 4 = .ok (.iconst 1, 1) := by decide +kernel
theorem dX8_write_5 : decode cX8_write 5 = .ok (.if_icmp .ne 13, 3) := by decide +kernel
theorem dX8_write_8 : decode cX8_write 8 = .ok (.new 65, 3) := by decide +kernel
theorem dX8_write_11 : decode cX8_write 11 = .ok (.dup, 1) := by decide +kernel
theorem dX8_write_12 : decode cX8_write 12 = .ok (.ldc 67, 2) := by decide +kernel
theorem dX8_write_14 : decode cX8_write 14 = .ok (.invokespecial 69, 3) := by decide +kernel
theorem dX8_write_17 : decode cX8_write 17 = .ok (.athrow, 1) := by decide +kernel
theorem dX8_write_18 : decode cX8_write 18 = .ok (.aload_n 0, 1) := by decide +kernel
theorem dX8_write_19 : decode cX8_write 19 = .ok (.getfield 10, 3) := by decide +kernel
theorem dX8_write_22 : decode cX8_write 22 = .ok (.invokevirtual 72, 3) := by decide +kernel
theorem dX8_write_25 : decode cX8_write 25 = .ok (.astore_n 2, 1) := by decide +kernel
theorem dX8_write_26 : decode cX8_write 26 = .ok (.aload_n 0, 1) := by decide +kernel
theorem dX8_write_27 : decode cX8_write 27 = .ok (.getfield 19, 3) := by decide +kernel
theorem dX8_write_30 : decode cX8_write 30 = .ok (.aload_n 0, 1) := by decide +kernel
theorem dX8_write_31 : decode cX8_write 31 = .ok (.getfield 50, 3) := by decide +kernel
theorem dX8_write_34 : decode cX8_write 34 = .ok (.invokevirtual 119, 3) := by decide +kernel
theorem dX8_write_37 : decode cX8_write 37 = .ok (.astore_n 3, 1) := by decide +kernel
theorem dX8_write_38 : decode cX8_write 38 = .ok (.aload_n 3, 1) := by decide +kernel
theorem dX8_write_39 : decode cX8_write 39 = .ok (.ifnull 11, 3) := by decide +kernel
theorem dX8_write_42 : decode cX8_write 42 = .ok (.aload_n 3, 1) := by decide +kernel
theorem dX8_write_43 : decode cX8_write 43 = .ok (.getfield 123, 3) := by decide +kernel
theorem dX8_write_46 : decode cX8_write 46 = .ok (.iconst 2, 1) := by decide +kernel
theorem dX8_write_47 : decode cX8_write 47 = .ok (.if_icmp .ne 13, 3) := by decide +kernel
theorem dX8_write_50 : decode cX8_write 50 = .ok (.new 65, 3) := by decide +kernel
theorem dX8_write_53 : decode cX8_write 53 = .ok (.dup, 1) := by decide +kernel
theorem dX8_write_54 : decode cX8_write 54 = .ok (.ldc 126, 2) := by decide +kernel
theorem dX8_write_56 : decode cX8_write 56 = .ok (.invokespecial 69, 3) := by decide +kernel
theorem dX8_write_59 : decode cX8_write 59 = .ok (.athrow, 1) := by decide +kernel
theorem dX8_write_60 : decode cX8_write 60 = .ok (.aload_n 3, 1) := by decide +kernel
theorem dX8_write_61 : decode cX8_write 61 = .ok (.getfield 128, 3) := by decide +kernel
theorem dX8_write_64 : decode cX8_write 64 = .ok (.arraylength, 1) := by decide +kernel
theorem dX8_write_65 : decode cX8_write 65 = .ok (.istore 4, 2) := by decide +kernel
theorem dX8_write_67 : decode cX8_write 67 = .ok (.iload 4, 2) := by decide +kernel
theorem dX8_write_69 : decode cX8_write 69 = .ok (.i2l, 1) := by decide +kernel
theorem dX8_write_70 : decode cX8_write 70 = .ok (.iload_n 1, 1) := by decide +kernel
theorem dX8_write_71 : decode cX8_write 71 = .ok (.i2l, 1) := by decide +kernel
theorem dX8_write_72 : decode cX8_write 72 = .ok (.aload_n 2, 1) := by decide +kernel
theorem dX8_write_73 : decode cX8_write 73 = .ok (.arraylength, 1) := by decide +kernel
theorem dX8_write_74 : decode cX8_write 74 = .ok (.i2l, 1) := by decide +kernel
theorem dX8_write_75 : decode cX8_write 75 = .ok (.ladd, 1) := by decide +kernel
theorem dX8_write_76 : decode cX8_write 76 = .ok (.invokestatic 132, 3) := by decide +kernel
theorem dX8_write_79 : decode cX8_write 79 = .ok (.lstore 5, 2) := by decide +kernel
theorem dX8_write_81 : decode cX8_write 81 = .ok (.lload 5, 2) := by decide +kernel
theorem dX8_write_83 : decode cX8_write 83 = .ok (.aload_n 3, 1) := by decide +kernel
theorem dX8_write_84 : decode cX8_write 84 = .ok (.getfield 123, 3) := by decide +kernel
theorem dX8_write_87 : decode cX8_write 87 = .ok (.invokestatic 138, 3) := by decide +kernel
theorem dX8_write_90 : decode cX8_write 90 = .ok (.i2l, 1) := by decide +kernel
theorem dX8_write_91 : decode cX8_write 91 = .ok (.lcmp, 1) := by decide +kernel
theorem dX8_write_92 : decode cX8_write 92 = .ok (.ifCond .gt 24, 3) := by decide +kernel
theorem dX8_write_95 : decode cX8_write 95 = .ok (.aload_n 0, 1) := by decide +kernel
theorem dX8_write_96 : decode cX8_write 96 = .ok (.getfield 19, 3) := by decide +kernel
theorem dX8_write_99 : decode cX8_write 99 = .ok (.invokevirtual 141, 3) := by decide +kernel
theorem dX8_write_102 : decode cX8_write 102 = .ok (.iload 4, 2) := by decide +kernel
theorem dX8_write_104 : decode cX8_write 104 = .ok (.isub, 1) := by decide +kernel
theorem dX8_write_105 : decode cX8_write 105 = .ok (.i2l, 1) := by decide +kernel
theorem dX8_write_106 : decode cX8_write 106 = .ok (.lload 5, 2) := by decide +kernel
theorem dX8_write_108 : decode cX8_write 108 = .ok (.ladd, 1) := by decide +kernel
theorem dX8_write_109 : decode cX8_write 109 = .ok (.ldc2_w 144, 3) := by decide +kernel
theorem dX8_write_112 : decode cX8_write 112 = .ok (.lcmp, 1) := by decide +kernel
theorem dX8_write_113 : decode cX8_write 113 = .ok (.ifCond .le 13, 3) := by decide +kernel
theorem dX8_write_116 : decode cX8_write 116 = .ok (.new 65, 3) := by decide +kernel
theorem dX8_write_119 : decode cX8_write 119 = .ok (.dup, 1) := by decide +kernel
theorem dX8_write_120 : decode cX8_write 120 = .ok (.ldc 146, 2) := by decide +kernel
theorem dX8_write_122 : decode cX8_write 122 = .ok (.invokespecial 69, 3) := by decide +kernel
theorem dX8_write_125 : decode cX8_write 125 = .ok (.athrow, 1) := by decide +kernel
theorem dX8_write_126 : decode cX8_write 126 = .ok (.iload_n 1, 1) := by decide +kernel
theorem dX8_write_127 : decode cX8_write 127 = .ok (.ifCond .lt 9, 3) := by decide +kernel
theorem dX8_write_130 : decode cX8_write 130 = .ok (.iload_n 1, 1) := by decide +kernel
theorem dX8_write_131 : decode cX8_write 131 = .ok (.iload 4, 2) := by decide +kernel
theorem dX8_write_133 : decode cX8_write 133 = .ok (.if_icmp .le 13, 3) := by decide +kernel
theorem dX8_write_136 : decode cX8_write 136 = .ok (.new 92, 3) := by decide +kernel
theorem dX8_write_139 : decode cX8_write 139 = .ok (.dup, 1) := by decide +kernel
theorem dX8_write_140 : decode cX8_write 140 = .ok (.ldc 148, 2) := by decide +kernel
theorem dX8_write_142 : decode cX8_write 142 = .ok (.invokespecial 96, 3) := by decide +kernel
theorem dX8_write_145 : decode cX8_write 145 = .ok (.athrow, 1) := by decide +kernel
theorem dX8_write_146 : decode cX8_write 146 = .ok (.aload_n 0, 1) := by decide +kernel
theorem dX8_write_147 : decode cX8_write 147 = .ok (.getfield 19, 3) := by decide +kernel
theorem dX8_write_150 : decode cX8_write 150 = .ok (.aload_n 0, 1) := by decide +kernel
theorem dX8_write_151 : decode cX8_write 151 = .ok (.getfield 50, 3) := by decide +kernel
theorem dX8_write_154 : decode cX8_write 154 = .ok (.aload_n 3, 1) := by decide +kernel
theorem dX8_write_155 : decode cX8_write 155 = .ok (.aload_n 3, 1) := by decide +kernel
theorem dX8_write_156 : decode cX8_write 156 = .ok (.getfield 128, 3) := by decide +kernel
theorem dX8_write_159 : decode cX8_write 159 = .ok (.iload_n 1, 1) := by decide +kernel
theorem dX8_write_160 : decode cX8_write 160 = .ok (.aload_n 2, 1) := by decide +kernel
theorem dX8_write_161 : decode cX8_write 161 = .ok (.invokestatic 150, 3) := by decide +kernel
theorem dX8_write_164 : decode cX8_write 164 = .ok (.invokevirtual 154, 3) := by decide +kernel
theorem dX8_write_167 : decode cX8_write 167 = .ok (.invokevirtual 158, 3) := by decide +kernel
theorem dX8_write_170 : decode cX8_write 170 = .ok (.lload 5, 2) := by decide +kernel
theorem dX8_write_172 : decode cX8_write 172 = .ok (.l2i, 1) := by decide +kernel
theorem dX8_write_173 : decode cX8_write 173 = .ok (.ireturn, 1) := by decide +kernel
set_option maxRecDepth 20000 in
theorem ggX8_cut_X6_get : GoodIn wsX8_cut wsX6_get := goodIn_r _ [14, 15, 16, 72, 73] (by decide +kernel) (by decide +kernel)
set_option maxRecDepth 20000 in
theorem gX8_cut_X6_get : GoodIn wsX8_cut (wsV RX8 119 RX6 yX6_get wsX6_get) := goodIn_app (goodIn_of _ (by decide +kernel)) ggX8_cut_X6_get
set_option maxRecDepth 20000 in
theorem ggX8_cut_J7_copyOf_9075b : GoodIn wsX8_cut wsJ7_copyOf_9075b := goodIn_r _ [20, 21, 22, 23, 24, 25, 26, 27, 28, 29, 30, 31, 32, 33, 34, 35] (by decide +kernel) (by decide +kernel)
set_option maxRecDepth 20000 in
theorem gX8_cut_J7_copyOf_9075b : GoodIn wsX8_cut (va_wsS RX8 166 yJ7_copyOf_9075b wsJ7_copyOf_9075b) := goodIn_app (goodIn_of _ (by decide +kernel)) ggX8_cut_J7_copyOf_9075b
set_option maxRecDepth 20000 in
theorem ggX8_cut_X1_withContent : GoodIn wsX8_cut wsX1_withContent := goodIn_r _ [40, 41, 42, 39, 43, 44, 45, 46, 47, 48, 49, 50, 51, 52, 53, 67, 68, 69, 70, 71] (by decide +kernel) (by decide +kernel)
set_option maxRecDepth 20000 in
theorem gX8_cut_X1_withContent : GoodIn wsX8_cut (wsV RX8 154 RX1 yX1_withContent wsX1_withContent) := goodIn_app (goodIn_of _ (by decide +kernel)) ggX8_cut_X1_withContent
set_option maxRecDepth 20000 in
theorem ggX8_cut_X6_replace : GoodIn wsX8_cut wsX6_replace := goodIn_r _ [57, 15, 16, 72, 73] (by decide +kernel) (by decide +kernel)
set_option maxRecDepth 20000 in
theorem gX8_cut_X6_replace : GoodIn wsX8_cut (wsV RX8 158 RX6 yX6_replace wsX6_replace) := goodIn_app (goodIn_of _ (by decide +kernel)) ggX8_cut_X6_replace
theorem dX8_cut_0 : decode cX8_cut 0 = .ok (.aload_n 0, 1) := by decide +kernel
theorem dX8_cut_1 : decode cX8_cut 1 = .ok (.getfield 19, 3) := by decide +kernel
theorem dX8_cut_4 : decode cX8_cut 4 = .ok (.aload_n 0, 1) := by decide +kernel
theorem dX8_cut_5 : decode cX8_cut 5 = .ok (.getfield 50, 3) := by decide +kernel
theorem dX8_cut_8 : decode cX8_cut 8 = .ok (.invokevirtual 119, 3) := by decide +kernel
theorem dX8_cut_11 : decode cX8_cut 11 = .ok (.astore_n 2, 1) := by decide +kernel
theorem dX8_cut_12 : decode cX8_cut 12 = .ok (.aload_n 0, 1) := by decide +kernel
theorem dX8_cut_13 : decode cX8_cut 13 = .ok (.getfield 54, 3) := by decide +kernel
theorem dX8_cut_16 : decode cX8_cut 16 = .ok (.iconst 1, 1) := by decide +kernel
theorem dX8_cut_17 : decode cX8_cut 17 = .ok (.if_icmp .eq 15, 3) := by decide +kernel
theorem dX8_cut_20 : decode cX8_cut 20 = .ok (.aload_n 2, 1) := by decide +kernel
theorem dX8_cut_21 : decode cX8_cut 21 = .ok (.ifnull 11, 3) := by decide +kernel
theorem dX8_cut_24 : decode cX8_cut 24 = .ok (.aload_n 2, 1) := by decide +kernel
theorem dX8_cut_25 : decode cX8_cut 25 = .ok (.getfield 123, 3) := by decide +kernel
theorem dX8_cut_28 : decode cX8_cut 28 = .ok (.iconst 2, 1) := by decide +kernel
theorem dX8_cut_29 : decode cX8_cut 29 = .ok (.if_icmp .ne 13, 3) := by decide +kernel
theorem dX8_cut_32 : decode cX8_cut 32 = .ok (.new 65, 3) := by decide +kernel
theorem dX8_cut_35 : decode cX8_cut 35 = .ok (.dup, 1) := by decide +kernel
theorem dX8_cut_36 : decode cX8_cut 36 = .ok (.ldc 162, 2) := by decide +kernel
theorem dX8_cut_38 : decode cX8_cut 38 = .ok (.invokespecial 69, 3) := by decide +kernel
theorem dX8_cut_41 : decode cX8_cut 41 = .ok (.athrow, 1) := by decide +kernel
theorem dX8_cut_42 : decode cX8_cut 42 = .ok (.iload_n 1, 1) := by decide +kernel
theorem dX8_cut_43 : decode cX8_cut 43 = .ok (.ifCond .lt 12, 3) := by decide +kernel
theorem dX8_cut_46 : decode cX8_cut 46 = .ok (.iload_n 1, 1) := by decide +kernel
theorem dX8_cut_47 : decode cX8_cut 47 = .ok (.aload_n 2, 1) := by decide +kernel
theorem dX8_cut_48 : decode cX8_cut 48 = .ok (.getfield 128, 3) := by decide +kernel
theorem dX8_cut_51 : decode cX8_cut 51 = .ok (.arraylength, 1) := by decide +kernel
theorem dX8_cut_52 : decode cX8_cut 52 = .ok (.if_icmp .le 13, 3) := by decide +kernel
theorem dX8_cut_55 : decode cX8_cut 55 = .ok (.new 92, 3) := by decide +kernel
theorem dX8_cut_58 : decode cX8_cut 58 = .ok (.dup, 1) := by decide +kernel
theorem dX8_cut_59 : decode cX8_cut 59 = .ok (.ldc 164, 2) := by decide +kernel
theorem dX8_cut_61 : decode cX8_cut 61 = .ok (.invokespecial 96, 3) := by decide +kernel
theorem dX8_cut_64 : decode cX8_cut 64 = .ok (.athrow, 1) := by decide +kernel
theorem dX8_cut_65 : decode cX8_cut 65 = .ok (.aload_n 0, 1) := by decide +kernel
theorem dX8_cut_66 : decode cX8_cut 66 = .ok (.getfield 19, 3) := by decide +kernel
theorem dX8_cut_69 : decode cX8_cut 69 = .ok (.aload_n 0, 1) := by decide +kernel
theorem dX8_cut_70 : decode cX8_cut 70 = .ok (.getfield 50, 3) := by decide +kernel
theorem dX8_cut_73 : decode cX8_cut 73 = .ok (.aload_n 2, 1) := by decide +kernel
theorem dX8_cut_74 : decode cX8_cut 74 = .ok (.aload_n 2, 1) := by decide +kernel
theorem dX8_cut_75 : decode cX8_cut 75 = .ok (.getfield 128, 3) := by decide +kernel
theorem dX8_cut_78 : decode cX8_cut 78 = .ok (.iload_n 1, 1) := by decide +kernel
theorem dX8_cut_79 : decode cX8_cut 79 = .ok (.invokestatic 166, 3) := by decide +kernel
theorem dX8_cut_82 : decode cX8_cut 82 = .ok (.invokevirtual 154, 3) := by decide +kernel
theorem dX8_cut_85 : decode cX8_cut 85 = .ok (.invokevirtual 158, 3) := by decide +kernel
theorem dX8_cut_88 : decode cX8_cut 88 = .ok (.return_, 1) := by decide +kernel
set_option maxRecDepth 20000 in
theorem ggX8_set_X6_get : GoodIn wsX8_set wsX6_get := goodIn_r _ [12, 13, 14, 53, 54] (by decide +kernel) (by decide +kernel)
set_option maxRecDepth 20000 in
theorem gX8_set_X6_get : GoodIn wsX8_set (wsV RX8 119 RX6 yX6_get wsX6_get) := goodIn_app (goodIn_of _ (by decide +kernel)) ggX8_set_X6_get
set_option maxRecDepth 20000 in
theorem ggX8_set_X8_isMode : GoodIn wsX8_set wsX8_isMode := goodIn_r _ [18] (by decide +kernel) (by decide +kernel)
set_option maxRecDepth 20000 in
theorem gX8_set_X8_isMode : GoodIn wsX8_set (va_wsS RX8 80 yX8_isMode wsX8_isMode) := goodIn_app (goodIn_of _ (by decide +kernel)) ggX8_set_X8_isMode
set_option maxRecDepth 20000 in
theorem ggX8_set_X8_isTime : GoodIn wsX8_set wsX8_isTime := goodIn_r _ [21] (by decide +kernel) (by decide +kernel)
set_option maxRecDepth 20000 in
theorem gX8_set_X8_isTime : GoodIn wsX8_set (va_wsS RX8 83 yX8_isTime wsX8_isTime) := goodIn_app (goodIn_of _ (by decide +kernel)) ggX8_set_X8_isTime
set_option maxRecDepth 20000 in
theorem ggX8_set_X1_withModeAndTime : GoodIn wsX8_set wsX1_withModeAndTime := goodIn_r _ [26, 27, 28, 25, 29, 30, 31, 32, 33, 34, 35, 36, 37, 38, 39, 55, 56, 57, 58, 59] (by decide +kernel) (by decide +kernel)
set_option maxRecDepth 20000 in
theorem gX8_set_X1_withModeAndTime : GoodIn wsX8_set (wsV RX8 176 RX1 yX1_withModeAndTime wsX1_withModeAndTime) := goodIn_app (goodIn_of _ (by decide +kernel)) ggX8_set_X1_withModeAndTime
set_option maxRecDepth 20000 in
theorem ggX8_set_X6_replace : GoodIn wsX8_set wsX6_replace := goodIn_r _ [43, 13, 14, 53, 54] (by decide +kernel) (by decide +kernel)
set_option maxRecDepth 20000 in
theorem gX8_set_X6_replace : GoodIn wsX8_set (wsV RX8 158 RX6 yX6_replace wsX6_replace) := goodIn_app (goodIn_of _ (by decide +kernel)) ggX8_set_X6_replace
theorem dX8_set_0 : decode cX8_set 0 = .ok (.aload_n 0, 1) := by decide +kernel
theorem dX8_set_1 : decode cX8_set 1 = .ok (.getfield 19, 3) := by decide +kernel
theorem dX8_set_4 : decode cX8_set 4 = .ok (.aload_n 0, 1) := by decide +kernel
theorem dX8_set_5 : decode cX8_set 5 = .ok (.getfield 50, 3) := by decide +kernel
theorem dX8_set_8 : decode cX8_set 8 = .ok (.invokevirtual 119, 3) := by decide +kernel
theorem dX8_set_11 : decode cX8_set 11 = .ok (.astore_n 3, 1) := by decide +kernel
theorem dX8_set_12 : decode cX8_set 12 = .ok (.aload_n 0, 1) := by decide +kernel
theorem dX8_set_13 : decode cX8_set 13 = .ok (.getfield 54, 3) := by decide +kernel
theorem dX8_set_16 : decode cX8_set 16 = .ok (.iconst 1, 1) := by decide +kernel
theorem dX8_set_17 : decode cX8_set 17 = .ok (.if_icmp .eq 7, 3) := by decide +kernel
theorem dX8_set_20 : decode cX8_set 20 = .ok (.aload_n 3, 1) := by decide +kernel
theorem dX8_set_21 : decode cX8_set 21 = .ok (.ifnonnull 13, 3) := by decide +kernel
theorem dX8_set_24 : decode cX8_set 24 = .ok (.new 65, 3) := by decide +kernel
theorem dX8_set_27 : decode cX8_set 27 = .ok (.dup, 1) := by decide +kernel
theorem dX8_set_28 : decode cX8_set 28 = .ok (.ldc 172, 2) := by decide +kernel
theorem dX8_set_30 : decode cX8_set 30 = .ok (.invokespecial 69, 3) := by decide +kernel
theorem dX8_set_33 : decode cX8_set 33 = .ok (.athrow, 1) := by decide +kernel
theorem dX8_set_34 : decode cX8_set 34 = .ok (.iload_n 1, 1) := by decide +kernel
theorem dX8_set_35 : decode cX8_set 35 = .ok (.invokestatic 80, 3) := by decide +kernel
theorem dX8_set_38 : decode cX8_set 38 = .ok (.ifCond .eq 10, 3) := by decide +kernel
theorem dX8_set_41 : decode cX8_set 41 = .ok (.iload_n 2, 1) := by decide +kernel
theorem dX8_set_42 : decode cX8_set 42 = .ok (.invokestatic 83, 3) := by decide +kernel
theorem dX8_set_45 : decode cX8_set 45 = .ok (.ifCond .ne 13, 3) := by decide +kernel
theorem dX8_set_48 : decode cX8_set 48 = .ok (.new 92, 3) := by decide +kernel
theorem dX8_set_51 : decode cX8_set 51 = .ok (.dup, 1) := by decide +kernel
theorem dX8_set_52 : decode cX8_set 52 = .ok (.ldc 174, 2) := by decide +kernel
theorem dX8_set_54 : decode cX8_set 54 = .ok (.invokespecial 96, 3) := by decide +kernel
theorem dX8_set_57 : decode cX8_set 57 = .ok (.athrow, 1) := by decide +kernel
theorem dX8_set_58 : decode cX8_set 58 = .ok (.aload_n 0, 1) := by decide +kernel
theorem dX8_set_59 : decode cX8_set 59 = .ok (.getfield 19, 3) := by decide +kernel
theorem dX8_set_62 : decode cX8_set 62 = .ok (.aload_n 0, 1) := by decide +kernel
theorem dX8_set_63 : decode cX8_set 63 = .ok (.getfield 50, 3) := by decide +kernel
theorem dX8_set_66 : decode cX8_set 66 = .ok (.aload_n 3, 1) := by decide +kernel
theorem dX8_set_67 : decode cX8_set 67 = .ok (.iload_n 1, 1) := by decide +kernel
theorem dX8_set_68 : decode cX8_set 68 = .ok (.iload_n 2, 1) := by decide +kernel
theorem dX8_set_69 : decode cX8_set 69 = .ok (.invokevirtual 176, 3) := by decide +kernel
theorem dX8_set_72 : decode cX8_set 72 = .ok (.invokevirtual 158, 3) := by decide +kernel
theorem dX8_set_75 : decode cX8_set 75 = .ok (.return_, 1) := by decide +kernel
set_option maxRecDepth 20000 in
theorem ggX8_remove_X6_get : GoodIn wsX8_remove wsX6_get := goodIn_r _ [10, 11, 12, 36, 37] (by decide +kernel) (by decide +kernel)
set_option maxRecDepth 20000 in
theorem gX8_remove_X6_get : GoodIn wsX8_remove (wsV RX8 119 RX6 yX6_get wsX6_get) := goodIn_app (goodIn_of _ (by decide +kernel)) ggX8_remove_X6_get
set_option maxRecDepth 20000 in
theorem ggX8_remove_X6_countBelow : GoodIn wsX8_remove wsX6_countBelow := goodIn_r _ [16, 11, 12, 17, 18, 7, 8, 9, 10, 19, 20, 21, 22, 36, 37, 38, 39, 40, 41, 42] (by decide +kernel) (by decide +kernel)
set_option maxRecDepth 20000 in
theorem gX8_remove_X6_countBelow : GoodIn wsX8_remove (wsV RX8 180 RX6 yX6_countBelow wsX6_countBelow) := goodIn_app (goodIn_of _ (by decide +kernel)) ggX8_remove_X6_countBelow
set_option maxRecDepth 20000 in
theorem ggX8_remove_X6_drop : GoodIn wsX8_remove wsX6_drop := goodIn_r _ [26, 11, 12, 36, 37] (by decide +kernel) (by decide +kernel)
set_option maxRecDepth 20000 in
theorem gX8_remove_X6_drop : GoodIn wsX8_remove (wsV RX8 183 RX6 yX6_drop wsX6_drop) := goodIn_app (goodIn_of _ (by decide +kernel)) ggX8_remove_X6_drop
theorem dX8_remove_0 : decode cX8_remove 0 = .ok (.aload_n 0, 1) := by decide +kernel
theorem dX8_remove_1 : decode cX8_remove 1 = .ok (.getfield 19, 3) := by decide +kernel
theorem dX8_remove_4 : decode cX8_remove 4 = .ok (.aload_n 0, 1) := by decide +kernel
theorem dX8_remove_5 : decode cX8_remove 5 = .ok (.getfield 50, 3) := by decide +kernel
theorem dX8_remove_8 : decode cX8_remove 8 = .ok (.invokevirtual 119, 3) := by decide +kernel
theorem dX8_remove_11 : decode cX8_remove 11 = .ok (.astore_n 1, 1) := by decide +kernel
theorem dX8_remove_12 : decode cX8_remove 12 = .ok (.aload_n 0, 1) := by decide +kernel
theorem dX8_remove_13 : decode cX8_remove 13 = .ok (.getfield 54, 3) := by decide +kernel
theorem dX8_remove_16 : decode cX8_remove 16 = .ok (.iconst 1, 1) := by decide +kernel
theorem dX8_remove_17 : decode cX8_remove 17 = .ok (.if_icmp .eq 7, 3) := by decide +kernel
theorem dX8_remove_20 : decode cX8_remove 20 = .ok (.aload_n 1, 1) := by decide +kernel
theorem dX8_remove_21 : decode cX8_remove 21 = .ok (.ifnonnull 13, 3) := by decide +kernel
theorem dX8_remove_24 : decode cX8_remove 24 = .ok (.new 65, 3) := by decide +kernel
theorem dX8_remove_27 : decode cX8_remove 27 = .ok (.dup, 1) := by decide +kernel
theorem dX8_remove_28 : decode cX8_remove 28 = .ok (.ldc 172, 2) := by decide +kernel
theorem dX8_remove_30 : decode cX8_remove 30 = .ok (.invokespecial 69, 3) := by decide +kernel
theorem dX8_remove_33 : decode cX8_remove 33 = .ok (.athrow, 1) := by decide +kernel
theorem dX8_remove_34 : decode cX8_remove 34 = .ok (.iconst 1, 1) := by decide +kernel
theorem dX8_remove_35 : decode cX8_remove 35 = .ok (.aload_n 0, 1) := by decide +kernel
theorem dX8_remove_36 : decode cX8_remove 36 = .ok (.getfield 19, 3) := by decide +kernel
theorem dX8_remove_39 : decode cX8_remove 39 = .ok (.aload_n 0, 1) := by decide +kernel
theorem dX8_remove_40 : decode cX8_remove 40 = .ok (.getfield 50, 3) := by decide +kernel
theorem dX8_remove_43 : decode cX8_remove 43 = .ok (.invokevirtual 180, 3) := by decide +kernel
theorem dX8_remove_46 : decode cX8_remove 46 = .ok (.iadd, 1) := by decide +kernel
theorem dX8_remove_47 : decode cX8_remove 47 = .ok (.istore_n 2, 1) := by decide +kernel
theorem dX8_remove_48 : decode cX8_remove 48 = .ok (.aload_n 0, 1) := by decide +kernel
theorem dX8_remove_49 : decode cX8_remove 49 = .ok (.getfield 19, 3) := by decide +kernel
theorem dX8_remove_52 : decode cX8_remove 52 = .ok (.aload_n 0, 1) := by decide +kernel
theorem dX8_remove_53 : decode cX8_remove 53 = .ok (.getfield 50, 3) := by decide +kernel
theorem dX8_remove_56 : decode cX8_remove 56 = .ok (.iload_n 2, 1) := by decide +kernel
theorem dX8_remove_57 : decode cX8_remove 57 = .ok (.invokevirtual 183, 3) := by decide +kernel
theorem dX8_remove_60 : decode cX8_remove 60 = .ok (.aload_n 0, 1) := by decide +kernel
theorem dX8_remove_61 : decode cX8_remove 61 = .ok (.iconst (-1), 1) := by decide +kernel
theorem dX8_remove_62 : decode cX8_remove 62 = .ok (.putfield 50, 3) := by decide +kernel
theorem dX8_remove_65 : decode cX8_remove 65 = .ok (.iload_n 2, 1) := by decide +kernel
theorem dX8_remove_66 : decode cX8_remove 66 = .ok (.ireturn, 1) := by decide +kernel
set_option maxRecDepth 20000 in
theorem ggX8_begin_X2_isFull : GoodIn wsX8_begin wsX2_isFull := goodIn_r _ [14, 15, 106, 107] (by decide +kernel) (by decide +kernel)
set_option maxRecDepth 20000 in
theorem gX8_begin_X2_isFull : GoodIn wsX8_begin (wsV RX8 187 RX2 yX2_isFull wsX2_isFull) := goodIn_app (goodIn_of _ (by decide +kernel)) ggX8_begin_X2_isFull
set_option maxRecDepth 20000 in
theorem ggX8_begin_X8_isTime : GoodIn wsX8_begin wsX8_isTime := goodIn_r _ [19] (by decide +kernel) (by decide +kernel)
set_option maxRecDepth 20000 in
theorem gX8_begin_X8_isTime : GoodIn wsX8_begin (va_wsS RX8 83 yX8_isTime wsX8_isTime) := goodIn_app (goodIn_of _ (by decide +kernel)) ggX8_begin_X8_isTime
set_option maxRecDepth 20000 in
theorem ggX8_begin_X2_latestTime : GoodIn wsX8_begin wsX2_latestTime := goodIn_r _ [23, 15, 24, 25, 26, 27, 13, 28, 29, 106, 107, 108, 109, 110] (by decide +kernel) (by decide +kernel)
set_option maxRecDepth 20000 in
theorem gX8_begin_X2_latestTime : GoodIn wsX8_begin (wsV RX8 193 RX2 yX2_latestTime wsX2_latestTime) := goodIn_app (goodIn_of _ (by decide +kernel)) ggX8_begin_X2_latestTime
set_option maxRecDepth 20000 in
theorem ggX8_begin_X7_start : GoodIn wsX8_begin wsX7_start := goodIn_r _ [34, 35, 36, 37, 38, 39, 40, 41, 42, 43, 44, 45, 46, 47, 48, 49, 50, 51, 52, 53, 54, 55, 56, 57, 58, 59, 60, 61, 62, 63, 64, 65, 66, 67, 68, 69, 70, 71, 72, 73, 74, 75, 76, 77, 78, 79, 80, 81, 82, 83, 84, 85, 86, 87, 88, 111, 112, 113, 114, 115, 116, 117, 118, 119, 120, 121, 122, 123] (by decide +kernel) (by decide +kernel)
set_option maxRecDepth 20000 in
theorem gX8_begin_X7_start : GoodIn wsX8_begin (wsV RX8 198 RX7 yX7_start wsX7_start) := goodIn_app (goodIn_of _ (by decide +kernel)) ggX8_begin_X7_start
set_option maxRecDepth 20000 in
theorem ggX8_begin_X7_operations : GoodIn wsX8_begin wsX7_operations := goodIn_r _ [92, 35, 93, 94, 95, 41, 96, 43, 111, 112, 113, 114, 115, 116] (by decide +kernel) (by decide +kernel)
set_option maxRecDepth 20000 in
theorem gX8_begin_X7_operations : GoodIn wsX8_begin (wsV RX8 202 RX7 yX7_operations wsX7_operations) := goodIn_app (goodIn_of _ (by decide +kernel)) ggX8_begin_X7_operations
theorem dX8_begin_0 : decode cX8_begin 0 = .ok (.aload_n 0, 1) := by decide +kernel
theorem dX8_begin_1 : decode cX8_begin 1 = .ok (.getfield 54, 3) := by decide +kernel
theorem dX8_begin_4 : decode cX8_begin 4 = .ok (.ifCond .ne 13, 3) := by decide +kernel
theorem dX8_begin_7 : decode cX8_begin 7 = .ok (.aload_n 0, 1) := by decide +kernel
theorem dX8_begin_8 : decode cX8_begin 8 = .ok (.getfield 32, 3) := by decide +kernel
theorem dX8_begin_11 : decode cX8_begin 11 = .ok (.invokevirtual 187, 3) := by decide +kernel
theorem dX8_begin_14 : decode cX8_begin 14 = .ok (.ifCond .eq 13, 3) := by decide +kernel
theorem dX8_begin_17 : decode cX8_begin 17 = .ok (.new 65, 3) := by decide +kernel
theorem dX8_begin_20 : decode cX8_begin 20 = .ok (.dup, 1) := by decide +kernel
theorem dX8_begin_21 : decode cX8_begin 21 = .ok (.ldc 191, 2) := by decide +kernel
theorem dX8_begin_23 : decode cX8_begin 23 = .ok (.invokespecial 69, 3) := by decide +kernel
theorem dX8_begin_26 : decode cX8_begin 26 = .ok (.athrow, 1) := by decide +kernel
theorem dX8_begin_27 : decode cX8_begin 27 = .ok (.iload_n 1, 1) := by decide +kernel
theorem dX8_begin_28 : decode cX8_begin 28 = .ok (.invokestatic 83, 3) := by decide +kernel
theorem dX8_begin_31 : decode cX8_begin 31 = .ok (.ifCond .eq 14, 3) := by decide +kernel
theorem dX8_begin_34 : decode cX8_begin 34 = .ok (.iload_n 1, 1) := by decide +kernel
theorem dX8_begin_35 : decode cX8_begin 35 = .ok (.aload_n 0, 1) := by decide +kernel
theorem dX8_begin_36 : decode cX8_begin 36 = .ok (.getfield 32, 3) := by decide +kernel
theorem dX8_begin_39 : decode cX8_begin 39 = .ok (.invokevirtual 193, 3) := by decide +kernel
theorem dX8_begin_42 : decode cX8_begin 42 = .ok (.if_icmp .gt 13, 3) := by decide +kernel
theorem dX8_begin_45 : decode cX8_begin 45 = .ok (.new 92, 3) := by decide +kernel
theorem dX8_begin_48 : decode cX8_begin 48 = .ok (.dup, 1) := by decide +kernel
theorem dX8_begin_49 : decode cX8_begin 49 = .ok (.ldc 196, 2) := by decide +kernel
theorem dX8_begin_51 : decode cX8_begin 51 = .ok (.invokespecial 96, 3) := by decide +kernel
theorem dX8_begin_54 : decode cX8_begin 54 = .ok (.athrow, 1) := by decide +kernel
theorem dX8_begin_55 : decode cX8_begin 55 = .ok (.aload_n 0, 1) := by decide +kernel
theorem dX8_begin_56 : decode cX8_begin 56 = .ok (.getfield 39, 3) := by decide +kernel
theorem dX8_begin_59 : decode cX8_begin 59 = .ok (.iload_n 1, 1) := by decide +kernel
theorem dX8_begin_60 : decode cX8_begin 60 = .ok (.aload_n 0, 1) := by decide +kernel
theorem dX8_begin_61 : decode cX8_begin 61 = .ok (.getfield 23, 3) := by decide +kernel
theorem dX8_begin_64 : decode cX8_begin 64 = .ok (.aload_n 0, 1) := by decide +kernel
theorem dX8_begin_65 : decode cX8_begin 65 = .ok (.getfield 19, 3) := by decide +kernel
theorem dX8_begin_68 : decode cX8_begin 68 = .ok (.invokevirtual 198, 3) := by decide +kernel
theorem dX8_begin_71 : decode cX8_begin 71 = .ok (.aload_n 0, 1) := by decide +kernel
theorem dX8_begin_72 : decode cX8_begin 72 = .ok (.iconst 1, 1) := by decide +kernel
theorem dX8_begin_73 : decode cX8_begin 73 = .ok (.putfield 54, 3) := by decide +kernel
theorem dX8_begin_76 : decode cX8_begin 76 = .ok (.aload_n 0, 1) := by decide +kernel
theorem dX8_begin_77 : decode cX8_begin 77 = .ok (.getfield 39, 3) := by decide +kernel
theorem dX8_begin_80 : decode cX8_begin 80 = .ok (.invokevirtual 202, 3) := by decide +kernel
theorem dX8_begin_83 : decode cX8_begin 83 = .ok (.ireturn, 1) := by decide +kernel
set_option maxRecDepth 20000 in
theorem ggX8_step_X8_isOperationCount : GoodIn wsX8_step wsX8_isOperationCount := goodIn_r _ [16] (by decide +kernel) (by decide +kernel)
set_option maxRecDepth 20000 in
theorem gX8_step_X8_isOperationCount : GoodIn wsX8_step (va_wsS RX8 207 yX8_isOperationCount wsX8_isOperationCount) := goodIn_app (goodIn_of _ (by decide +kernel)) ggX8_step_X8_isOperationCount
set_option maxRecDepth 20000 in
theorem ggX8_step_X7_operations : GoodIn wsX8_step wsX7_operations := goodIn_r _ [21, 22, 23, 24, 25, 26, 27, 28, 138, 139, 140, 141, 142, 143] (by decide +kernel) (by decide +kernel)
set_option maxRecDepth 20000 in
theorem gX8_step_X7_operations : GoodIn wsX8_step (wsV RX8 202 RX7 yX7_operations wsX7_operations) := goodIn_app (goodIn_of _ (by decide +kernel)) ggX8_step_X7_operations
set_option maxRecDepth 20000 in
theorem ggX8_step_X7_doNext : GoodIn wsX8_step wsX7_doNext := goodIn_r _ [32, 33, 22, 34, 35, 36, 20, 37, 23, 24, 25, 26, 27, 28, 38, 39, 40, 41, 42, 43, 44, 45, 46, 47, 48, 49, 50, 51, 52, 53, 54, 55, 56, 57, 58, 59, 60, 61, 62, 63, 64, 65, 66, 67, 68, 69, 70, 71, 72, 73, 74, 75, 9, 10, 11, 76, 77, 78, 79, 80, 81, 82, 83, 84, 85, 86, 87, 88, 89, 90, 91, 138, 139, 140, 141, 142, 143, 144, 145, 146, 147, 148, 149, 150] (by decide +kernel) (by decide +kernel)
set_option maxRecDepth 20000 in
theorem gX8_step_X7_doNext : GoodIn wsX8_step (wsV RX8 219 RX7 yX7_doNext wsX7_doNext) := goodIn_app (goodIn_of _ (by decide +kernel)) ggX8_step_X7_doNext
set_option maxRecDepth 20000 in
theorem ggX8_step_X8_commit : GoodIn wsX8_step wsX8_commit := goodIn_r _ [95, 96, 97, 98, 99, 6, 100, 101, 12, 5, 102, 24, 25, 26, 27, 28, 103, 104, 105, 106, 107, 108, 109, 110, 111, 112, 54, 113, 114, 115, 116, 117, 70, 65, 118, 119, 120, 121, 122, 123, 124, 125, 126, 127, 128, 129, 130, 131, 132, 133, 134, 135, 136, 137, 151, 152, 153, 138, 139, 140, 141, 142, 143, 149, 150, 154, 155] (by decide +kernel) (by decide +kernel)
set_option maxRecDepth 20000 in
theorem gX8_step_X8_commit : GoodIn wsX8_step (wsV RX8 223 RX8 yX8_commit wsX8_commit) := goodIn_app (goodIn_of _ (by decide +kernel)) ggX8_step_X8_commit
theorem dX8_step_0 : decode cX8_step 0 = .ok (.aload_n 0, 1) := by decide +kernel
theorem dX8_step_1 : decode cX8_step 1 = .ok (.getfield 54, 3) := by decide +kernel
theorem dX8_step_4 : decode cX8_step 4 = .ok (.iconst 1, 1) := by decide +kernel
theorem dX8_step_5 : decode cX8_step 5 = .ok (.if_icmp .eq 13, 3) := by decide +kernel
theorem dX8_step_8 : decode cX8_step 8 = .ok (.new 65, 3) := by decide +kernel
theorem dX8_step_11 : decode cX8_step 11 = .ok (.dup, 1) := by decide +kernel
theorem dX8_step_12 : decode cX8_step 12 = .ok (.ldc 205, 2) := by decide +kernel
theorem dX8_step_14 : decode cX8_step 14 = .ok (.invokespecial 69, 3) := by decide +kernel
theorem dX8_step_17 : decode cX8_step 17 = .ok (.athrow, 1) := by decide +kernel
theorem dX8_step_18 : decode cX8_step 18 = .ok (.iload_n 1, 1) := by decide +kernel
theorem dX8_step_19 : decode cX8_step 19 = .ok (.invokestatic 207, 3) := by decide +kernel
theorem dX8_step_22 : decode cX8_step 22 = .ok (.ifCond .ne 13, 3) := by decide +kernel
theorem dX8_step_25 : decode cX8_step 25 = .ok (.new 92, 3) := by decide +kernel
theorem dX8_step_28 : decode cX8_step 28 = .ok (.dup, 1) := by decide +kernel
theorem dX8_step_29 : decode cX8_step 29 = .ok (.ldc 210, 2) := by decide +kernel
theorem dX8_step_31 : decode cX8_step 31 = .ok (.invokespecial 96, 3) := by decide +kernel
theorem dX8_step_34 : decode cX8_step 34 = .ok (.athrow, 1) := by decide +kernel
theorem dX8_step_35 : decode cX8_step 35 = .ok (.iload_n 1, 1) := by decide +kernel
theorem dX8_step_36 : decode cX8_step 36 = .ok (.aload_n 0, 1) := by decide +kernel
theorem dX8_step_37 : decode cX8_step 37 = .ok (.getfield 39, 3) := by decide +kernel
theorem dX8_step_40 : decode cX8_step 40 = .ok (.invokevirtual 202, 3) := by decide +kernel
theorem dX8_step_43 : decode cX8_step 43 = .ok (.aload_n 0, 1) := by decide +kernel
theorem dX8_step_44 : decode cX8_step 44 = .ok (.getfield 39, 3) := by decide +kernel
theorem dX8_step_47 : decode cX8_step 47 = .ok (.getfield 212, 3) := by decide +kernel
theorem dX8_step_50 : decode cX8_step 50 = .ok (.isub, 1) := by decide +kernel
theorem dX8_step_51 : decode cX8_step 51 = .ok (.invokestatic 215, 3) := by decide +kernel
theorem dX8_step_54 : decode cX8_step 54 = .ok (.istore_n 2, 1) := by decide +kernel
theorem dX8_step_55 : decode cX8_step 55 = .ok (.iconst 0, 1) := by decide +kernel
theorem dX8_step_56 : decode cX8_step 56 = .ok (.istore_n 3, 1) := by decide +kernel
theorem dX8_step_57 : decode cX8_step 57 = .ok (.iload_n 3, 1) := by decide +kernel
theorem dX8_step_58 : decode cX8_step 58 = .ok (.iload_n 2, 1) := by decide +kernel
theorem dX8_step_59 : decode cX8_step 59 = .ok (.if_icmp .ge 20, 3) := by decide +kernel
theorem dX8_step_62 : decode cX8_step 62 = .ok (.aload_n 0, 1) := by decide +kernel
theorem dX8_step_63 : decode cX8_step 63 = .ok (.getfield 39, 3) := by decide +kernel
theorem dX8_step_66 : decode cX8_step 66 = .ok (.aload_n 0, 1) := by decide +kernel
theorem dX8_step_67 : decode cX8_step 67 = .ok (.getfield 23, 3) := by decide +kernel
theorem dX8_step_70 : decode cX8_step 70 = .ok (.invokevirtual 219, 3) := by decide +kernel
theorem dX8_step_73 : decode cX8_step 73 = .ok (.iinc 3 1, 3) := by decide +kernel
theorem dX8_step_76 : decode cX8_step 76 = .ok (.goto (-19), 3) := by decide +kernel
theorem dX8_step_79 : decode cX8_step 79 = .ok (.aload_n 0, 1) := by decide +kernel
theorem dX8_step_80 : decode cX8_step 80 = .ok (.getfield 39, 3) := by decide +kernel
theorem dX8_step_83 : decode cX8_step 83 = .ok (.getfield 212, 3) := by decide +kernel
theorem dX8_step_86 : decode cX8_step 86 = .ok (.aload_n 0, 1) := by decide +kernel
theorem dX8_step_87 : decode cX8_step 87 = .ok (.getfield 39, 3) := by decide +kernel
theorem dX8_step_90 : decode cX8_step 90 = .ok (.invokevirtual 202, 3) := by decide +kernel
theorem dX8_step_93 : decode cX8_step 93 = .ok (.if_icmp .ne 7, 3) := by decide +kernel
theorem dX8_step_96 : decode cX8_step 96 = .ok (.aload_n 0, 1) := by decide +kernel
theorem dX8_step_97 : decode cX8_step 97 = .ok (.invokevirtual 223, 3) := by decide +kernel
theorem dX8_step_100 : decode cX8_step 100 = .ok (.iload_n 2, 1) := by decide +kernel
theorem dX8_step_101 : decode cX8_step 101 = .ok (.ireturn, 1) := by decide +kernel
theorem dX8_crash_0 : decode cX8_crash 0 = .ok (.aload_n 0, 1) := by decide +kernel
theorem dX8_crash_1 : decode cX8_crash 1 = .ok (.getfield 54, 3) := by decide +kernel
theorem dX8_crash_4 : decode cX8_crash 4 = .ok (.iconst 1, 1) := by decide +kernel
theorem dX8_crash_5 : decode cX8_crash 5 = .ok (.if_icmp .eq 13, 3) := by decide +kernel
theorem dX8_crash_8 : decode cX8_crash 8 = .ok (.new 65, 3) := by decide +kernel
theorem dX8_crash_11 : decode cX8_crash 11 = .ok (.dup, 1) := by decide +kernel
theorem dX8_crash_12 : decode cX8_crash 12 = .ok (.ldc 205, 2) := by decide +kernel
theorem dX8_crash_14 : decode cX8_crash 14 = .ok (.invokespecial 69, 3) := by decide +kernel
theorem dX8_crash_17 : decode cX8_crash 17 = .ok (.athrow, 1) := by decide +kernel
theorem dX8_crash_18 : decode cX8_crash 18 = .ok (.aload_n 0, 1) := by decide +kernel
theorem dX8_crash_19 : decode cX8_crash 19 = .ok (.iconst 2, 1) := by decide +kernel
theorem dX8_crash_20 : decode cX8_crash 20 = .ok (.putfield 54, 3) := by decide +kernel
theorem dX8_crash_23 : decode cX8_crash 23 = .ok (.return_, 1) := by decide +kernel
set_option maxRecDepth 20000 in
theorem ggX8_regress_X8_isOperationCount : GoodIn wsX8_regress wsX8_isOperationCount := goodIn_r _ [16] (by decide +kernel) (by decide +kernel)
set_option maxRecDepth 20000 in
theorem gX8_regress_X8_isOperationCount : GoodIn wsX8_regress (va_wsS RX8 207 yX8_isOperationCount wsX8_isOperationCount) := goodIn_app (goodIn_of _ (by decide +kernel)) ggX8_regress_X8_isOperationCount
set_option maxRecDepth 20000 in
theorem ggX8_regress_X7_takeBackLast : GoodIn wsX8_regress wsX7_takeBackLast := goodIn_r _ [21, 22, 23, 24, 25, 26, 20, 27, 28, 29, 30, 31, 32, 33, 34, 35, 36, 37, 38, 39, 40, 41, 42, 43, 44, 45, 46, 47, 48, 49, 50, 51, 52, 53, 54, 55, 56, 57, 58, 59, 60, 61, 62, 63, 64, 65, 66, 67, 68, 69, 70, 71, 9, 10, 11, 72, 73, 74, 75, 76, 77, 78, 79, 80, 81, 82, 83, 84, 85, 86, 87, 97, 98, 99, 100, 101, 102, 103, 104, 105, 106, 107, 108, 109] (by decide +kernel) (by decide +kernel)
set_option maxRecDepth 20000 in
theorem gX8_regress_X7_takeBackLast : GoodIn wsX8_regress (wsV RX8 228 RX7 yX7_takeBackLast wsX7_takeBackLast) := goodIn_app (goodIn_of _ (by decide +kernel)) ggX8_regress_X7_takeBackLast
theorem dX8_regress_0 : decode cX8_regress 0 = .ok (.aload_n 0, 1) := by decide +kernel
theorem dX8_regress_1 : decode cX8_regress 1 = .ok (.getfield 54, 3) := by decide +kernel
theorem dX8_regress_4 : decode cX8_regress 4 = .ok (.iconst 2, 1) := by decide +kernel
theorem dX8_regress_5 : decode cX8_regress 5 = .ok (.if_icmp .eq 13, 3) := by decide +kernel
theorem dX8_regress_8 : decode cX8_regress 8 = .ok (.new 65, 3) := by decide +kernel
theorem dX8_regress_11 : decode cX8_regress 11 = .ok (.dup, 1) := by decide +kernel
theorem dX8_regress_12 : decode cX8_regress 12 = .ok (.ldc 226, 2) := by decide +kernel
theorem dX8_regress_14 : decode cX8_regress 14 = .ok (.invokespecial 69, 3) := by decide +kernel
theorem dX8_regress_17 : decode cX8_regress 17 = .ok (.athrow, 1) := by decide +kernel
theorem dX8_regress_18 : decode cX8_regress 18 = .ok (.iload_n 1, 1) := by decide +kernel
theorem dX8_regress_19 : decode cX8_regress 19 = .ok (.invokestatic 207, 3) := by decide +kernel
theorem dX8_regress_22 : decode cX8_regress 22 = .ok (.ifCond .ne 13, 3) := by decide +kernel
theorem dX8_regress_25 : decode cX8_regress 25 = .ok (.new 92, 3) := by decide +kernel
theorem dX8_regress_28 : decode cX8_regress 28 = .ok (.dup, 1) := by decide +kernel
theorem dX8_regress_29 : decode cX8_regress 29 = .ok (.ldc 210, 2) := by decide +kernel
theorem dX8_regress_31 : decode cX8_regress 31 = .ok (.invokespecial 96, 3) := by decide +kernel
theorem dX8_regress_34 : decode cX8_regress 34 = .ok (.athrow, 1) := by decide +kernel
theorem dX8_regress_35 : decode cX8_regress 35 = .ok (.iload_n 1, 1) := by decide +kernel
theorem dX8_regress_36 : decode cX8_regress 36 = .ok (.aload_n 0, 1) := by decide +kernel
theorem dX8_regress_37 : decode cX8_regress 37 = .ok (.getfield 39, 3) := by decide +kernel
theorem dX8_regress_40 : decode cX8_regress 40 = .ok (.getfield 212, 3) := by decide +kernel
theorem dX8_regress_43 : decode cX8_regress 43 = .ok (.invokestatic 215, 3) := by decide +kernel
theorem dX8_regress_46 : decode cX8_regress 46 = .ok (.istore_n 2, 1) := by decide +kernel
theorem dX8_regress_47 : decode cX8_regress 47 = .ok (.iconst 0, 1) := by decide +kernel
theorem dX8_regress_48 : decode cX8_regress 48 = .ok (.istore_n 3, 1) := by decide +kernel
theorem dX8_regress_49 : decode cX8_regress 49 = .ok (.iload_n 3, 1) := by decide +kernel
theorem dX8_regress_50 : decode cX8_regress 50 = .ok (.iload_n 2, 1) := by decide +kernel
theorem dX8_regress_51 : decode cX8_regress 51 = .ok (.if_icmp .ge 20, 3) := by decide +kernel
theorem dX8_regress_54 : decode cX8_regress 54 = .ok (.aload_n 0, 1) := by decide +kernel
theorem dX8_regress_55 : decode cX8_regress 55 = .ok (.getfield 39, 3) := by decide +kernel
theorem dX8_regress_58 : decode cX8_regress 58 = .ok (.aload_n 0, 1) := by decide +kernel
theorem dX8_regress_59 : decode cX8_regress 59 = .ok (.getfield 23, 3) := by decide +kernel
theorem dX8_regress_62 : decode cX8_regress 62 = .ok (.invokevirtual 228, 3) := by decide +kernel
theorem dX8_regress_65 : decode cX8_regress 65 = .ok (.iinc 3 1, 3) := by decide +kernel
theorem dX8_regress_68 : decode cX8_regress 68 = .ok (.goto (-19), 3) := by decide +kernel
theorem dX8_regress_71 : decode cX8_regress 71 = .ok (.aload_n 0, 1) := by decide +kernel
theorem dX8_regress_72 : decode cX8_regress 72 = .ok (.getfield 39, 3) := by decide +kernel
theorem dX8_regress_75 : decode cX8_regress 75 = .ok (.getfield 212, 3) := by decide +kernel
theorem dX8_regress_78 : decode cX8_regress 78 = .ok (.ifCond .ne 8, 3) := by decide +kernel
theorem dX8_regress_81 : decode cX8_regress 81 = .ok (.aload_n 0, 1) := by decide +kernel
theorem dX8_regress_82 : decode cX8_regress 82 = .ok (.iconst 0, 1) := by decide +kernel
theorem dX8_regress_83 : decode cX8_regress 83 = .ok (.putfield 54, 3) := by decide +kernel
theorem dX8_regress_86 : decode cX8_regress 86 = .ok (.iload_n 2, 1) := by decide +kernel
theorem dX8_regress_87 : decode cX8_regress 87 = .ok (.ireturn, 1) := by decide +kernel
set_option maxRecDepth 20000 in
theorem ggX8_restore_X2_findAsOf : GoodIn wsX8_restore wsX2_findAsOf := goodIn_r _ [11, 12, 13, 14, 42, 43, 39, 40, 41] (by decide +kernel) (by decide +kernel)
set_option maxRecDepth 20000 in
theorem gX8_restore_X2_findAsOf : GoodIn wsX8_restore (wsV RX8 231 RX2 yX2_findAsOf wsX2_findAsOf) := goodIn_app (goodIn_of _ (by decide +kernel)) ggX8_restore_X2_findAsOf
set_option maxRecDepth 20000 in
theorem ggX8_restore_X2_get : GoodIn wsX8_restore wsX2_get := goodIn_r _ [18, 12, 13, 42, 43] (by decide +kernel) (by decide +kernel)
set_option maxRecDepth 20000 in
theorem gX8_restore_X2_get : GoodIn wsX8_restore (wsV RX8 234 RX2 yX2_get wsX2_get) := goodIn_app (goodIn_of _ (by decide +kernel)) ggX8_restore_X2_get
set_option maxRecDepth 20000 in
theorem ggX8_restore_X6_copyFrom : GoodIn wsX8_restore wsX6_copyFrom := goodIn_r _ [23, 24, 25, 44, 45] (by decide +kernel) (by decide +kernel)
set_option maxRecDepth 20000 in
theorem gX8_restore_X6_copyFrom : GoodIn wsX8_restore (wsV RX8 244 RX6 yX6_copyFrom wsX6_copyFrom) := goodIn_app (goodIn_of _ (by decide +kernel)) ggX8_restore_X6_copyFrom
set_option maxRecDepth 20000 in
theorem ggX8_restore_X6_size : GoodIn wsX8_restore wsX6_size := goodIn_r _ [29, 24, 44, 45] (by decide +kernel) (by decide +kernel)
set_option maxRecDepth 20000 in
theorem gX8_restore_X6_size : GoodIn wsX8_restore (wsV RX8 104 RX6 yX6_size wsX6_size) := goodIn_app (goodIn_of _ (by decide +kernel)) ggX8_restore_X6_size
theorem dX8_restore_0 : decode cX8_restore 0 = .ok (.aload_n 0, 1) := by decide +kernel
theorem dX8_restore_1 : decode cX8_restore 1 = .ok (.getfield 32, 3) := by decide +kernel
theorem dX8_restore_4 : decode cX8_restore 4 = .ok (.aload_n 0, 1) := by decide +kernel
theorem dX8_restore_5 : decode cX8_restore 5 = .ok (.getfield 32, 3) := by decide +kernel
theorem dX8_restore_8 : decode cX8_restore 8 = .ok (.iload_n 1, 1) := by decide +kernel
theorem dX8_restore_9 : decode cX8_restore 9 = .ok (.invokevirtual 231, 3) := by decide +kernel
theorem dX8_restore_12 : decode cX8_restore 12 = .ok (.invokevirtual 234, 3) := by decide +kernel
theorem dX8_restore_15 : decode cX8_restore 15 = .ok (.astore_n 2, 1) := by decide +kernel
theorem dX8_restore_16 : decode cX8_restore 16 = .ok (.aload_n 0, 1) := by decide +kernel
theorem dX8_restore_17 : decode cX8_restore 17 = .ok (.getfield 54, 3) := by decide +kernel
theorem dX8_restore_20 : decode cX8_restore 20 = .ok (.ifCond .ne 7, 3) := by decide +kernel
theorem dX8_restore_23 : decode cX8_restore 23 = .ok (.aload_n 2, 1) := by decide +kernel
theorem dX8_restore_24 : decode cX8_restore 24 = .ok (.ifnonnull 13, 3) := by decide +kernel
theorem dX8_restore_27 : decode cX8_restore 27 = .ok (.new 65, 3) := by decide +kernel
theorem dX8_restore_30 : decode cX8_restore 30 = .ok (.dup, 1) := by decide +kernel
theorem dX8_restore_31 : decode cX8_restore 31 = .ok (.ldc 237, 2) := by decide +kernel
theorem dX8_restore_33 : decode cX8_restore 33 = .ok (.invokespecial 69, 3) := by decide +kernel
theorem dX8_restore_36 : decode cX8_restore 36 = .ok (.athrow, 1) := by decide +kernel
theorem dX8_restore_37 : decode cX8_restore 37 = .ok (.aload_n 0, 1) := by decide +kernel
theorem dX8_restore_38 : decode cX8_restore 38 = .ok (.getfield 26, 3) := by decide +kernel
theorem dX8_restore_41 : decode cX8_restore 41 = .ok (.aload_n 2, 1) := by decide +kernel
theorem dX8_restore_42 : decode cX8_restore 42 = .ok (.getfield 239, 3) := by decide +kernel
theorem dX8_restore_45 : decode cX8_restore 45 = .ok (.invokevirtual 244, 3) := by decide +kernel
theorem dX8_restore_48 : decode cX8_restore 48 = .ok (.aload_n 0, 1) := by decide +kernel
theorem dX8_restore_49 : decode cX8_restore 49 = .ok (.getfield 26, 3) := by decide +kernel
theorem dX8_restore_52 : decode cX8_restore 52 = .ok (.invokevirtual 104, 3) := by decide +kernel
theorem dX8_restore_55 : decode cX8_restore 55 = .ok (.ireturn, 1) := by decide +kernel
set_option maxRecDepth 20000 in
theorem ggX8_prune_X2_findAsOf : GoodIn wsX8_prune wsX2_findAsOf := goodIn_r _ [9, 10, 11, 12, 26, 27, 28, 29, 30] (by decide +kernel) (by decide +kernel)
set_option maxRecDepth 20000 in
theorem gX8_prune_X2_findAsOf : GoodIn wsX8_prune (wsV RX8 231 RX2 yX2_findAsOf wsX2_findAsOf) := goodIn_app (goodIn_of _ (by decide +kernel)) ggX8_prune_X2_findAsOf
set_option maxRecDepth 20000 in
theorem ggX8_prune_X2_forgetAheadOf : GoodIn wsX8_prune wsX2_forgetAheadOf := goodIn_r _ [16, 10, 11, 26, 27] (by decide +kernel) (by decide +kernel)
set_option maxRecDepth 20000 in
theorem gX8_prune_X2_forgetAheadOf : GoodIn wsX8_prune (wsV RX8 249 RX2 yX2_forgetAheadOf wsX2_forgetAheadOf) := goodIn_app (goodIn_of _ (by decide +kernel)) ggX8_prune_X2_forgetAheadOf
theorem dX8_prune_0 : decode cX8_prune 0 = .ok (.aload_n 0, 1) := by decide +kernel
theorem dX8_prune_1 : decode cX8_prune 1 = .ok (.getfield 54, 3) := by decide +kernel
theorem dX8_prune_4 : decode cX8_prune 4 = .ok (.ifCond .eq 13, 3) := by decide +kernel
theorem dX8_prune_7 : decode cX8_prune 7 = .ok (.new 65, 3) := by decide +kernel
theorem dX8_prune_10 : decode cX8_prune 10 = .ok (.dup, 1) := by decide +kernel
theorem dX8_prune_11 : decode cX8_prune 11 = .ok (.ldc 247, 2) := by decide +kernel
theorem dX8_prune_13 : decode cX8_prune 13 = .ok (.invokespecial 69, 3) := by decide +kernel
theorem dX8_prune_16 : decode cX8_prune 16 = .ok (.athrow, 1) := by decide +kernel
theorem dX8_prune_17 : decode cX8_prune 17 = .ok (.aload_n 0, 1) := by decide +kernel
theorem dX8_prune_18 : decode cX8_prune 18 = .ok (.getfield 32, 3) := by decide +kernel
theorem dX8_prune_21 : decode cX8_prune 21 = .ok (.aload_n 0, 1) := by decide +kernel
theorem dX8_prune_22 : decode cX8_prune 22 = .ok (.getfield 32, 3) := by decide +kernel
theorem dX8_prune_25 : decode cX8_prune 25 = .ok (.iload_n 1, 1) := by decide +kernel
theorem dX8_prune_26 : decode cX8_prune 26 = .ok (.invokevirtual 231, 3) := by decide +kernel
theorem dX8_prune_29 : decode cX8_prune 29 = .ok (.invokevirtual 249, 3) := by decide +kernel
theorem dX8_prune_32 : decode cX8_prune 32 = .ok (.ireturn, 1) := by decide +kernel
set_option maxRecDepth 20000 in
theorem ggX8_differ_X0_find : GoodIn wsX8_differ wsX0_find := goodIn_r _ [8, 9, 10, 11, 12, 13, 14, 15, 16, 17, 18, 19, 20, 21, 22, 7, 23, 24, 25, 26, 27, 28, 29, 30, 31, 32, 33, 34, 35, 36, 37, 38, 39, 40, 41, 42, 43, 44, 45, 46, 47, 48, 49, 50, 51, 52, 53, 54, 68, 69, 70, 71, 72, 73, 74, 75, 76, 77] (by decide +kernel) (by decide +kernel)
set_option maxRecDepth 20000 in
theorem gX8_differ_X0_find : GoodIn wsX8_differ (wsV RX8 252 RX0 yX0_find wsX0_find) := goodIn_app (goodIn_of _ (by decide +kernel)) ggX8_differ_X0_find
set_option maxRecDepth 20000 in
theorem ggX8_differ_X0_size : GoodIn wsX8_differ wsX0_size := goodIn_r _ [58, 9, 68, 69, 70] (by decide +kernel) (by decide +kernel)
set_option maxRecDepth 20000 in
theorem gX8_differ_X0_size : GoodIn wsX8_differ (wsV RX8 255 RX0 yX0_size wsX0_size) := goodIn_app (goodIn_of _ (by decide +kernel)) ggX8_differ_X0_size
theorem dX8_differ_0 : decode cX8_differ 0 = .ok (.aload_n 0, 1) := by decide +kernel
theorem dX8_differ_1 : decode cX8_differ 1 = .ok (.getfield 46, 3) := by decide +kernel
theorem dX8_differ_4 : decode cX8_differ 4 = .ok (.aload_n 0, 1) := by decide +kernel
theorem dX8_differ_5 : decode cX8_differ 5 = .ok (.getfield 23, 3) := by decide +kernel
theorem dX8_differ_8 : decode cX8_differ 8 = .ok (.aload_n 0, 1) := by decide +kernel
theorem dX8_differ_9 : decode cX8_differ 9 = .ok (.getfield 19, 3) := by decide +kernel
theorem dX8_differ_12 : decode cX8_differ 12 = .ok (.invokevirtual 252, 3) := by decide +kernel
theorem dX8_differ_15 : decode cX8_differ 15 = .ok (.aload_n 0, 1) := by decide +kernel
theorem dX8_differ_16 : decode cX8_differ 16 = .ok (.getfield 46, 3) := by decide +kernel
theorem dX8_differ_19 : decode cX8_differ 19 = .ok (.invokevirtual 255, 3) := by decide +kernel
theorem dX8_differ_22 : decode cX8_differ 22 = .ok (.ireturn, 1) := by decide +kernel
set_option maxRecDepth 20000 in
theorem ggX8_entry_X8_entryOf : GoodIn wsX8_entry wsX8_entryOf := goodIn_r _ [10, 11, 12, 13, 14, 15, 16, 17, 18, 19, 20, 26, 27, 28, 29, 30, 31, 32, 33, 34, 35, 36] (by decide +kernel) (by decide +kernel)
set_option maxRecDepth 20000 in
theorem gX8_entry_X8_entryOf : GoodIn wsX8_entry (wsV RX8 256 RX8 yX8_entryOf wsX8_entryOf) := goodIn_app (goodIn_of _ (by decide +kernel)) ggX8_entry_X8_entryOf
theorem dX8_entry_0 : decode cX8_entry 0 = .ok (.aload_n 0, 1) := by decide +kernel
theorem dX8_entry_1 : decode cX8_entry 1 = .ok (.iload_n 1, 1) := by decide +kernel
theorem dX8_entry_2 : decode cX8_entry 2 = .ok (.iload_n 2, 1) := by decide +kernel
theorem dX8_entry_3 : decode cX8_entry 3 = .ok (.invokevirtual 256, 3) := by decide +kernel
theorem dX8_entry_6 : decode cX8_entry 6 = .ok (.astore 4, 2) := by decide +kernel
theorem dX8_entry_8 : decode cX8_entry 8 = .ok (.aload 4, 2) := by decide +kernel
theorem dX8_entry_10 : decode cX8_entry 10 = .ok (.ifnonnull 5, 3) := by decide +kernel
theorem dX8_entry_13 : decode cX8_entry 13 = .ok (.iconst (-1), 1) := by decide +kernel
theorem dX8_entry_14 : decode cX8_entry 14 = .ok (.ireturn, 1) := by decide +kernel
theorem dX8_entry_15 : decode cX8_entry 15 = .ok (.iload_n 3, 1) := by decide +kernel
theorem dX8_entry_16 : decode cX8_entry 16 = .ok (.tableswitch 68 0 4 #[36, 42, 48, 54, 61], 36) := by decide +kernel
theorem dX8_entry_52 : decode cX8_entry 52 = .ok (.aload 4, 2) := by decide +kernel
theorem dX8_entry_54 : decode cX8_entry 54 = .ok (.getfield 123, 3) := by decide +kernel
theorem dX8_entry_57 : decode cX8_entry 57 = .ok (.ireturn, 1) := by decide +kernel
theorem dX8_entry_58 : decode cX8_entry 58 = .ok (.aload 4, 2) := by decide +kernel
theorem dX8_entry_60 : decode cX8_entry 60 = .ok (.getfield 259, 3) := by decide +kernel
theorem dX8_entry_63 : decode cX8_entry 63 = .ok (.ireturn, 1) := by decide +kernel
theorem dX8_entry_64 : decode cX8_entry 64 = .ok (.aload 4, 2) := by decide +kernel
theorem dX8_entry_66 : decode cX8_entry 66 = .ok (.getfield 262, 3) := by decide +kernel
theorem dX8_entry_69 : decode cX8_entry 69 = .ok (.ireturn, 1) := by decide +kernel
theorem dX8_entry_70 : decode cX8_entry 70 = .ok (.aload 4, 2) := by decide +kernel
theorem dX8_entry_72 : decode cX8_entry 72 = .ok (.getfield 128, 3) := by decide +kernel
theorem dX8_entry_75 : decode cX8_entry 75 = .ok (.arraylength, 1) := by decide +kernel
theorem dX8_entry_76 : decode cX8_entry 76 = .ok (.ireturn, 1) := by decide +kernel
theorem dX8_entry_77 : decode cX8_entry 77 = .ok (.aload 4, 2) := by decide +kernel
theorem dX8_entry_79 : decode cX8_entry 79 = .ok (.getfield 265, 3) := by decide +kernel
theorem dX8_entry_82 : decode cX8_entry 82 = .ok (.arraylength, 1) := by decide +kernel
theorem dX8_entry_83 : decode cX8_entry 83 = .ok (.ireturn, 1) := by decide +kernel
theorem dX8_entry_84 : decode cX8_entry 84 = .ok (.iconst (-1), 1) := by decide +kernel
theorem dX8_entry_85 : decode cX8_entry 85 = .ok (.ireturn, 1) := by decide +kernel
set_option maxRecDepth 20000 in
theorem ggX8_at_X8_entryOf : GoodIn wsX8_at wsX8_entryOf := goodIn_r _ [7, 8, 9, 10, 11, 12, 13, 14, 15, 16, 17, 23, 24, 25, 26, 27, 28, 29, 30, 31, 32, 33] (by decide +kernel) (by decide +kernel)
set_option maxRecDepth 20000 in
theorem gX8_at_X8_entryOf : GoodIn wsX8_at (wsV RX8 256 RX8 yX8_entryOf wsX8_entryOf) := goodIn_app (goodIn_of _ (by decide +kernel)) ggX8_at_X8_entryOf
theorem dX8_at_0 : decode cX8_at 0 = .ok (.aload_n 0, 1) := by decide +kernel
theorem dX8_at_1 : decode cX8_at 1 = .ok (.iload_n 1, 1) := by decide +kernel
theorem dX8_at_2 : decode cX8_at 2 = .ok (.iload_n 2, 1) := by decide +kernel
theorem dX8_at_3 : decode cX8_at 3 = .ok (.invokevirtual 256, 3) := by decide +kernel
theorem dX8_at_6 : decode cX8_at 6 = .ok (.astore 5, 2) := by decide +kernel
theorem dX8_at_8 : decode cX8_at 8 = .ok (.aload 5, 2) := by decide +kernel
theorem dX8_at_10 : decode cX8_at 10 = .ok (.ifnonnull 5, 3) := by decide +kernel
theorem dX8_at_13 : decode cX8_at 13 = .ok (.iconst (-1), 1) := by decide +kernel
theorem dX8_at_14 : decode cX8_at 14 = .ok (.ireturn, 1) := by decide +kernel
theorem dX8_at_15 : decode cX8_at 15 = .ok (.iload_n 3, 1) := by decide +kernel
theorem dX8_at_16 : decode cX8_at 16 = .ok (.ifCond .eq 11, 3) := by decide +kernel
theorem dX8_at_19 : decode cX8_at 19 = .ok (.aload 5, 2) := by decide +kernel
theorem dX8_at_21 : decode cX8_at 21 = .ok (.getfield 265, 3) := by decide +kernel
theorem dX8_at_24 : decode cX8_at 24 = .ok (.goto 8, 3) := by decide +kernel
theorem dX8_at_27 : decode cX8_at 27 = .ok (.aload 5, 2) := by decide +kernel
theorem dX8_at_29 : decode cX8_at 29 = .ok (.getfield 128, 3) := by decide +kernel
theorem dX8_at_32 : decode cX8_at 32 = .ok (.astore 6, 2) := by decide +kernel
theorem dX8_at_34 : decode cX8_at 34 = .ok (.iload 4, 2) := by decide +kernel
theorem dX8_at_36 : decode cX8_at 36 = .ok (.ifCond .lt 11, 3) := by decide +kernel
theorem dX8_at_39 : decode cX8_at 39 = .ok (.iload 4, 2) := by decide +kernel
theorem dX8_at_41 : decode cX8_at 41 = .ok (.aload 6, 2) := by decide +kernel
theorem dX8_at_43 : decode cX8_at 43 = .ok (.arraylength, 1) := by decide +kernel
theorem dX8_at_44 : decode cX8_at 44 = .ok (.if_icmp .lt 7, 3) := by decide +kernel
theorem dX8_at_47 : decode cX8_at 47 = .ok (.iconst (-1), 1) := by decide +kernel
theorem dX8_at_48 : decode cX8_at 48 = .ok (.goto 12, 3) := by decide +kernel
theorem dX8_at_51 : decode cX8_at 51 = .ok (.aload 6, 2) := by decide +kernel
theorem dX8_at_53 : decode cX8_at 53 = .ok (.iload 4, 2) := by decide +kernel
theorem dX8_at_55 : decode cX8_at 55 = .ok (.baload, 1) := by decide +kernel
theorem dX8_at_56 : decode cX8_at 56 = .ok (.sipush 255, 3) := by decide +kernel
theorem dX8_at_59 : decode cX8_at 59 = .ok (.iand, 1) := by decide +kernel
theorem dX8_at_60 : decode cX8_at 60 = .ok (.ireturn, 1) := by decide +kernel
set_option maxRecDepth 20000 in
theorem ggX8_about_X2_size : GoodIn wsX8_about wsX2_size := goodIn_r _ [13, 14, 68, 69] (by decide +kernel) (by decide +kernel)
set_option maxRecDepth 20000 in
theorem gX8_about_X2_size : GoodIn wsX8_about (wsV RX8 268 RX2 yX2_size wsX2_size) := goodIn_app (goodIn_of _ (by decide +kernel)) ggX8_about_X2_size
set_option maxRecDepth 20000 in
theorem ggX8_about_X6_size : GoodIn wsX8_about wsX6_size := goodIn_r _ [19, 20, 70, 71] (by decide +kernel) (by decide +kernel)
set_option maxRecDepth 20000 in
theorem gX8_about_X6_size : GoodIn wsX8_about (wsV RX8 104 RX6 yX6_size wsX6_size) := goodIn_app (goodIn_of _ (by decide +kernel)) ggX8_about_X6_size
set_option maxRecDepth 20000 in
theorem ggX8_about_X6_contentBytes : GoodIn wsX8_about wsX6_contentBytes := goodIn_r _ [24, 20, 25, 26, 70, 71, 72, 73, 74, 75, 76] (by decide +kernel) (by decide +kernel)
set_option maxRecDepth 20000 in
theorem gX8_about_X6_contentBytes : GoodIn wsX8_about (wsV RX8 141 RX6 yX6_contentBytes wsX6_contentBytes) := goodIn_app (goodIn_of _ (by decide +kernel)) ggX8_about_X6_contentBytes
set_option maxRecDepth 20000 in
theorem ggX8_about_X2_increments : GoodIn wsX8_about wsX2_increments := goodIn_r _ [30, 14, 31, 32, 68, 69, 77, 78, 79] (by decide +kernel) (by decide +kernel)
set_option maxRecDepth 20000 in
theorem gX8_about_X2_increments : GoodIn wsX8_about (wsV RX8 269 RX2 yX2_increments wsX2_increments) := goodIn_app (goodIn_of _ (by decide +kernel)) ggX8_about_X2_increments
set_option maxRecDepth 20000 in
theorem ggX8_about_X7_increments : GoodIn wsX8_about wsX7_increments := goodIn_r _ [37, 38, 39, 40, 41, 42, 43, 44, 45, 46, 47, 48, 49, 65, 66, 67, 80, 81, 82] (by decide +kernel) (by decide +kernel)
set_option maxRecDepth 20000 in
theorem gX8_about_X7_increments : GoodIn wsX8_about (wsV RX8 272 RX7 yX7_increments wsX7_increments) := goodIn_app (goodIn_of _ (by decide +kernel)) ggX8_about_X7_increments
set_option maxRecDepth 20000 in
theorem ggX8_about_X5_size : GoodIn wsX8_about wsX5_size := goodIn_r _ [54, 55, 83, 84, 85] (by decide +kernel) (by decide +kernel)
set_option maxRecDepth 20000 in
theorem gX8_about_X5_size : GoodIn wsX8_about (wsV RX8 273 RX5 yX5_size wsX5_size) := goodIn_app (goodIn_of _ (by decide +kernel)) ggX8_about_X5_size
theorem dX8_about_0 : decode cX8_about 0 = .ok (.iload_n 1, 1) := by decide +kernel
theorem dX8_about_1 : decode cX8_about 1 = .ok (.tableswitch 150 0 8 #[51, 56, 64, 83, 91, 99, 107, 115, 142], 51) := by decide +kernel
theorem dX8_about_52 : decode cX8_about 52 = .ok (.aload_n 0, 1) := by decide +kernel
theorem dX8_about_53 : decode cX8_about 53 = .ok (.getfield 54, 3) := by decide +kernel
theorem dX8_about_56 : decode cX8_about 56 = .ok (.ireturn, 1) := by decide +kernel
theorem dX8_about_57 : decode cX8_about 57 = .ok (.aload_n 0, 1) := by decide +kernel
theorem dX8_about_58 : decode cX8_about 58 = .ok (.getfield 32, 3) := by decide +kernel
theorem dX8_about_61 : decode cX8_about 61 = .ok (.invokevirtual 268, 3) := by decide +kernel
theorem dX8_about_64 : decode cX8_about 64 = .ok (.ireturn, 1) := by decide +kernel
theorem dX8_about_65 : decode cX8_about 65 = .ok (.aload_n 0, 1) := by decide +kernel
theorem dX8_about_66 : decode cX8_about 66 = .ok (.getfield 54, 3) := by decide +kernel
theorem dX8_about_69 : decode cX8_about 69 = .ok (.ifCond .ne 7, 3) := by decide +kernel
theorem dX8_about_72 : decode cX8_about 72 = .ok (.iconst 0, 1) := by decide +kernel
theorem dX8_about_73 : decode cX8_about 73 = .ok (.goto 10, 3) := by decide +kernel
theorem dX8_about_76 : decode cX8_about 76 = .ok (.aload_n 0, 1) := by decide +kernel
theorem dX8_about_77 : decode cX8_about 77 = .ok (.getfield 39, 3) := by decide +kernel
theorem dX8_about_80 : decode cX8_about 80 = .ok (.getfield 212, 3) := by decide +kernel
theorem dX8_about_83 : decode cX8_about 83 = .ok (.ireturn, 1) := by decide +kernel
theorem dX8_about_84 : decode cX8_about 84 = .ok (.aload_n 0, 1) := by decide +kernel
theorem dX8_about_85 : decode cX8_about 85 = .ok (.getfield 19, 3) := by decide +kernel
theorem dX8_about_88 : decode cX8_about 88 = .ok (.invokevirtual 104, 3) := by decide +kernel
theorem dX8_about_91 : decode cX8_about 91 = .ok (.ireturn, 1) := by decide +kernel
theorem dX8_about_92 : decode cX8_about 92 = .ok (.aload_n 0, 1) := by decide +kernel
theorem dX8_about_93 : decode cX8_about 93 = .ok (.getfield 23, 3) := by decide +kernel
theorem dX8_about_96 : decode cX8_about 96 = .ok (.invokevirtual 104, 3) := by decide +kernel
theorem dX8_about_99 : decode cX8_about 99 = .ok (.ireturn, 1) := by decide +kernel
theorem dX8_about_100 : decode cX8_about 100 = .ok (.aload_n 0, 1) := by decide +kernel
theorem dX8_about_101 : decode cX8_about 101 = .ok (.getfield 26, 3) := by decide +kernel
theorem dX8_about_104 : decode cX8_about 104 = .ok (.invokevirtual 104, 3) := by decide +kernel
theorem dX8_about_107 : decode cX8_about 107 = .ok (.ireturn, 1) := by decide +kernel
theorem dX8_about_108 : decode cX8_about 108 = .ok (.aload_n 0, 1) := by decide +kernel
theorem dX8_about_109 : decode cX8_about 109 = .ok (.getfield 19, 3) := by decide +kernel
theorem dX8_about_112 : decode cX8_about 112 = .ok (.invokevirtual 141, 3) := by decide +kernel
theorem dX8_about_115 : decode cX8_about 115 = .ok (.ireturn, 1) := by decide +kernel
theorem dX8_about_116 : decode cX8_about 116 = .ok (.aload_n 0, 1) := by decide +kernel
theorem dX8_about_117 : decode cX8_about 117 = .ok (.getfield 32, 3) := by decide +kernel
theorem dX8_about_120 : decode cX8_about 120 = .ok (.invokevirtual 269, 3) := by decide +kernel
theorem dX8_about_123 : decode cX8_about 123 = .ok (.aload_n 0, 1) := by decide +kernel
theorem dX8_about_124 : decode cX8_about 124 = .ok (.getfield 54, 3) := by decide +kernel
theorem dX8_about_127 : decode cX8_about 127 = .ok (.ifCond .ne 7, 3) := by decide +kernel
theorem dX8_about_130 : decode cX8_about 130 = .ok (.iconst 0, 1) := by decide +kernel
theorem dX8_about_131 : decode cX8_about 131 = .ok (.goto 10, 3) := by decide +kernel
theorem dX8_about_134 : decode cX8_about 134 = .ok (.aload_n 0, 1) := by decide +kernel
theorem dX8_about_135 : decode cX8_about 135 = .ok (.getfield 39, 3) := by decide +kernel
theorem dX8_about_138 : decode cX8_about 138 = .ok (.invokevirtual 272, 3) := by decide +kernel
theorem dX8_about_141 : decode cX8_about 141 = .ok (.iadd, 1) := by decide +kernel
theorem dX8_about_142 : decode cX8_about 142 = .ok (.ireturn, 1) := by decide +kernel
theorem dX8_about_143 : decode cX8_about 143 = .ok (.aload_n 0, 1) := by decide +kernel
theorem dX8_about_144 : decode cX8_about 144 = .ok (.getfield 10, 3) := by decide +kernel
theorem dX8_about_147 : decode cX8_about 147 = .ok (.invokevirtual 273, 3) := by decide +kernel
theorem dX8_about_150 : decode cX8_about 150 = .ok (.ireturn, 1) := by decide +kernel
theorem dX8_about_151 : decode cX8_about 151 = .ok (.iconst (-1), 1) := by decide +kernel
theorem dX8_about_152 : decode cX8_about 152 = .ok (.ireturn, 1) := by decide +kernel
set_option maxRecDepth 20000 in
theorem ggX8_session_X2_get : GoodIn wsX8_session wsX2_get := goodIn_r _ [8, 9, 10, 23, 24] (by decide +kernel) (by decide +kernel)
set_option maxRecDepth 20000 in
theorem gX8_session_X2_get : GoodIn wsX8_session (wsV RX8 234 RX2 yX2_get wsX2_get) := goodIn_app (goodIn_of _ (by decide +kernel)) ggX8_session_X2_get
theorem dX8_session_0 : decode cX8_session 0 = .ok (.aload_n 0, 1) := by decide +kernel
theorem dX8_session_1 : decode cX8_session 1 = .ok (.getfield 32, 3) := by decide +kernel
theorem dX8_session_4 : decode cX8_session 4 = .ok (.iload_n 1, 1) := by decide +kernel
theorem dX8_session_5 : decode cX8_session 5 = .ok (.invokevirtual 234, 3) := by decide +kernel
theorem dX8_session_8 : decode cX8_session 8 = .ok (.astore_n 3, 1) := by decide +kernel
theorem dX8_session_9 : decode cX8_session 9 = .ok (.aload_n 3, 1) := by decide +kernel
theorem dX8_session_10 : decode cX8_session 10 = .ok (.ifnonnull 5, 3) := by decide +kernel
theorem dX8_session_13 : decode cX8_session 13 = .ok (.iconst (-1), 1) := by decide +kernel
theorem dX8_session_14 : decode cX8_session 14 = .ok (.ireturn, 1) := by decide +kernel
theorem dX8_session_15 : decode cX8_session 15 = .ok (.iload_n 2, 1) := by decide +kernel
theorem dX8_session_16 : decode cX8_session 16 = .ok (.lookupswitch 46 #[(0, 28), (1, 33)], 28) := by decide +kernel
theorem dX8_session_44 : decode cX8_session 44 = .ok (.aload_n 3, 1) := by decide +kernel
theorem dX8_session_45 : decode cX8_session 45 = .ok (.getfield 274, 3) := by decide +kernel
theorem dX8_session_48 : decode cX8_session 48 = .ok (.ireturn, 1) := by decide +kernel
theorem dX8_session_49 : decode cX8_session 49 = .ok (.iload_n 1, 1) := by decide +kernel
theorem dX8_session_50 : decode cX8_session 50 = .ok (.ifCond .ne 7, 3) := by decide +kernel
theorem dX8_session_53 : decode cX8_session 53 = .ok (.iconst (-1), 1) := by decide +kernel
theorem dX8_session_54 : decode cX8_session 54 = .ok (.goto 7, 3) := by decide +kernel
theorem dX8_session_57 : decode cX8_session 57 = .ok (.aload_n 3, 1) := by decide +kernel
theorem dX8_session_58 : decode cX8_session 58 = .ok (.getfield 275, 3) := by decide +kernel
theorem dX8_session_61 : decode cX8_session 61 = .ok (.ireturn, 1) := by decide +kernel
theorem dX8_session_62 : decode cX8_session 62 = .ok (.iconst (-1), 1) := by decide +kernel
theorem dX8_session_63 : decode cX8_session 63 = .ok (.ireturn, 1) := by decide +kernel
set_option maxRecDepth 20000 in
theorem ggX8_commit_X0_size : GoodIn wsX8_commit wsX0_size := goodIn_r _ [14, 15, 60, 61, 62] (by decide +kernel) (by decide +kernel)
set_option maxRecDepth 20000 in
theorem gX8_commit_X0_size : GoodIn wsX8_commit (wsV RX8 255 RX0 yX0_size wsX0_size) := goodIn_app (goodIn_of _ (by decide +kernel)) ggX8_commit_X0_size
set_option maxRecDepth 20000 in
theorem ggX8_commit_X4_init : GoodIn wsX8_commit wsX4_init := goodIn_r _ [18, 19, 20, 21, 22, 23, 24, 25, 26, 27, 28, 29, 30, 31, 32, 33, 34, 35, 36, 37, 54, 55, 56, 63, 64] (by decide +kernel) (by decide +kernel)
set_option maxRecDepth 20000 in
theorem gX8_commit_X4_init : GoodIn wsX8_commit (wsX4_init) := ggX8_commit_X4_init
set_option maxRecDepth 20000 in
theorem ggX8_commit_X2_add : GoodIn wsX8_commit wsX2_add := goodIn_r _ [42, 43, 44, 65, 66] (by decide +kernel) (by decide +kernel)
set_option maxRecDepth 20000 in
theorem gX8_commit_X2_add : GoodIn wsX8_commit (wsV RX8 284 RX2 yX2_add wsX2_add) := goodIn_app (goodIn_of _ (by decide +kernel)) ggX8_commit_X2_add
theorem dX8_commit_0 : decode cX8_commit 0 = .ok (.aload_n 0, 1) := by decide +kernel
theorem dX8_commit_1 : decode cX8_commit 1 = .ok (.getfield 32, 3) := by decide +kernel
theorem dX8_commit_4 : decode cX8_commit 4 = .ok (.new 240, 3) := by decide +kernel
theorem dX8_commit_7 : decode cX8_commit 7 = .ok (.dup, 1) := by decide +kernel
theorem dX8_commit_8 : decode cX8_commit 8 = .ok (.aload_n 0, 1) := by decide +kernel
theorem dX8_commit_9 : decode cX8_commit 9 = .ok (.getfield 39, 3) := by decide +kernel
theorem dX8_commit_12 : decode cX8_commit 12 = .ok (.getfield 278, 3) := by decide +kernel
theorem dX8_commit_15 : decode cX8_commit 15 = .ok (.aload_n 0, 1) := by decide +kernel
theorem dX8_commit_16 : decode cX8_commit 16 = .ok (.getfield 39, 3) := by decide +kernel
theorem dX8_commit_19 : decode cX8_commit 19 = .ok (.getfield 279, 3) := by decide +kernel
theorem dX8_commit_22 : decode cX8_commit 22 = .ok (.invokevirtual 255, 3) := by decide +kernel
theorem dX8_commit_25 : decode cX8_commit 25 = .ok (.aload_n 0, 1) := by decide +kernel
theorem dX8_commit_26 : decode cX8_commit 26 = .ok (.getfield 23, 3) := by decide +kernel
theorem dX8_commit_29 : decode cX8_commit 29 = .ok (.invokespecial 281, 3) := by decide +kernel
theorem dX8_commit_32 : decode cX8_commit 32 = .ok (.invokevirtual 284, 3) := by decide +kernel
theorem dX8_commit_35 : decode cX8_commit 35 = .ok (.aload_n 0, 1) := by decide +kernel
theorem dX8_commit_36 : decode cX8_commit 36 = .ok (.iconst 0, 1) := by decide +kernel
theorem dX8_commit_37 : decode cX8_commit 37 = .ok (.putfield 54, 3) := by decide +kernel
theorem dX8_commit_40 : decode cX8_commit 40 = .ok (.return_, 1) := by decide +kernel
set_option maxRecDepth 20000 in
theorem ggX8_hasDirectory_X3_lastSlash : GoodIn wsX8_hasDirectory wsX3_lastSlash := goodIn_r _ [6] (by decide +kernel) (by decide +kernel)
set_option maxRecDepth 20000 in
theorem gX8_hasDirectory_X3_lastSlash : GoodIn wsX8_hasDirectory (va_wsS RX8 288 yX3_lastSlash wsX3_lastSlash) := goodIn_app (goodIn_of _ (by decide +kernel)) ggX8_hasDirectory_X3_lastSlash
set_option maxRecDepth 20000 in
theorem ggX8_hasDirectory_J7_copyOf_9075b : GoodIn wsX8_hasDirectory wsJ7_copyOf_9075b := goodIn_r _ [10, 11, 12, 13, 14, 15, 16, 17, 18, 19, 20, 21, 22, 23, 24, 25] (by decide +kernel) (by decide +kernel)
set_option maxRecDepth 20000 in
theorem gX8_hasDirectory_J7_copyOf_9075b : GoodIn wsX8_hasDirectory (va_wsS RX8 166 yJ7_copyOf_9075b wsJ7_copyOf_9075b) := goodIn_app (goodIn_of _ (by decide +kernel)) ggX8_hasDirectory_J7_copyOf_9075b
set_option maxRecDepth 20000 in
theorem ggX8_hasDirectory_X6_find : GoodIn wsX8_hasDirectory wsX6_find := goodIn_r _ [30, 31, 32, 33, 34, 29, 35, 36, 37, 38, 39, 40, 41, 42, 43, 5, 44, 45, 19, 20, 21, 46, 47, 48, 59, 60, 61, 62, 63, 64, 65] (by decide +kernel) (by decide +kernel)
set_option maxRecDepth 20000 in
theorem gX8_hasDirectory_X6_find : GoodIn wsX8_hasDirectory (wsV RX8 97 RX6 yX6_find wsX6_find) := goodIn_app (goodIn_of _ (by decide +kernel)) ggX8_hasDirectory_X6_find
set_option maxRecDepth 20000 in
theorem ggX8_hasDirectory_X6_get : GoodIn wsX8_hasDirectory wsX6_get := goodIn_r _ [40, 36, 41, 64, 65] (by decide +kernel) (by decide +kernel)
set_option maxRecDepth 20000 in
theorem gX8_hasDirectory_X6_get : GoodIn wsX8_hasDirectory (wsV RX8 119 RX6 yX6_get wsX6_get) := goodIn_app (goodIn_of _ (by decide +kernel)) ggX8_hasDirectory_X6_get
theorem dX8_hasDirectory_0 : decode cX8_hasDirectory 0 = .ok (.aload_n 1, 1) := by decide +kernel
theorem dX8_hasDirectory_1 : decode cX8_hasDirectory 1 = .ok (.invokestatic 288, 3) := by decide +kernel
theorem dX8_hasDirectory_4 : decode cX8_hasDirectory 4 = .ok (.istore_n 2, 1) := by decide +kernel
theorem dX8_hasDirectory_5 : decode cX8_hasDirectory 5 = .ok (.iload_n 2, 1) := by decide +kernel
theorem dX8_hasDirectory_6 : decode cX8_hasDirectory 6 = .ok (.ifCond .ge 5, 3) := by decide +kernel
theorem dX8_hasDirectory_9 : decode cX8_hasDirectory 9 = .ok (.iconst 1, 1) := by decide +kernel
theorem dX8_hasDirectory_10 : decode cX8_hasDirectory 10 = .ok (.ireturn, 1) := by decide +kernel
theorem dX8_hasDirectory_11 : decode cX8_hasDirectory 11 = .ok (.aload_n 0, 1) := by decide +kernel
theorem dX8_hasDirectory_12 : decode cX8_hasDirectory 12 = .ok (.getfield 19, 3) := by decide +kernel
theorem dX8_hasDirectory_15 : decode cX8_hasDirectory 15 = .ok (.aload_n 0, 1) := by decide +kernel
theorem dX8_hasDirectory_16 : decode cX8_hasDirectory 16 = .ok (.getfield 19, 3) := by decide +kernel
theorem dX8_hasDirectory_19 : decode cX8_hasDirectory 19 = .ok (.aload_n 1, 1) := by decide +kernel
theorem dX8_hasDirectory_20 : decode cX8_hasDirectory 20 = .ok (.iload_n 2, 1) := by decide +kernel
theorem dX8_hasDirectory_21 : decode cX8_hasDirectory 21 = .ok (.invokestatic 166, 3) := by decide +kernel
theorem dX8_hasDirectory_24 : decode cX8_hasDirectory 24 = .ok (.invokevirtual 97, 3) := by decide +kernel
theorem dX8_hasDirectory_27 : decode cX8_hasDirectory 27 = .ok (.invokevirtual 119, 3) := by decide +kernel
theorem dX8_hasDirectory_30 : decode cX8_hasDirectory 30 = .ok (.astore_n 3, 1) := by decide +kernel
theorem dX8_hasDirectory_31 : decode cX8_hasDirectory 31 = .ok (.aload_n 3, 1) := by decide +kernel
theorem dX8_hasDirectory_32 : decode cX8_hasDirectory 32 = .ok (.ifnull 15, 3) := by decide +kernel
theorem dX8_hasDirectory_35 : decode cX8_hasDirectory 35 = .ok (.aload_n 3, 1) := by decide +kernel
theorem dX8_hasDirectory_36 : decode cX8_hasDirectory 36 = .ok (.getfield 123, 3) := by decide +kernel
theorem dX8_hasDirectory_39 : decode cX8_hasDirectory 39 = .ok (.iconst 2, 1) := by decide +kernel
theorem dX8_hasDirectory_40 : decode cX8_hasDirectory 40 = .ok (.if_icmp .ne 7, 3) := by decide +kernel
theorem dX8_hasDirectory_43 : decode cX8_hasDirectory 43 = .ok (.iconst 1, 1) := by decide +kernel
theorem dX8_hasDirectory_44 : decode cX8_hasDirectory 44 = .ok (.goto 4, 3) := by decide +kernel
theorem dX8_hasDirectory_47 : decode cX8_hasDirectory 47 = .ok (.iconst 0, 1) := by decide +kernel
theorem dX8_hasDirectory_48 : decode cX8_hasDirectory 48 = .ok (.ireturn, 1) := by decide +kernel
set_option maxRecDepth 20000 in
theorem ggX8_entryOf_X6_get : GoodIn wsX8_entryOf wsX6_get := goodIn_r _ [8, 9, 10, 20, 21] (by decide +kernel) (by decide +kernel)
set_option maxRecDepth 20000 in
theorem gX8_entryOf_X6_get : GoodIn wsX8_entryOf (wsV RX8 119 RX6 yX6_get wsX6_get) := goodIn_app (goodIn_of _ (by decide +kernel)) ggX8_entryOf_X6_get
theorem dX8_entryOf_0 : decode cX8_entryOf 0 = .ok (.iload_n 1, 1) := by decide +kernel
theorem dX8_entryOf_1 : decode cX8_entryOf 1 = .ok (.tableswitch 54 0 2 #[27, 36, 45], 27) := by decide +kernel
theorem dX8_entryOf_28 : decode cX8_entryOf 28 = .ok (.aload_n 0, 1) := by decide +kernel
theorem dX8_entryOf_29 : decode cX8_entryOf 29 = .ok (.getfield 19, 3) := by decide +kernel
theorem dX8_entryOf_32 : decode cX8_entryOf 32 = .ok (.iload_n 2, 1) := by decide +kernel
theorem dX8_entryOf_33 : decode cX8_entryOf 33 = .ok (.invokevirtual 119, 3) := by decide +kernel
theorem dX8_entryOf_36 : decode cX8_entryOf 36 = .ok (.areturn, 1) := by decide +kernel
theorem dX8_entryOf_37 : decode cX8_entryOf 37 = .ok (.aload_n 0, 1) := by decide +kernel
theorem dX8_entryOf_38 : decode cX8_entryOf 38 = .ok (.getfield 23, 3) := by decide +kernel
theorem dX8_entryOf_41 : decode cX8_entryOf 41 = .ok (.iload_n 2, 1) := by decide +kernel
theorem dX8_entryOf_42 : decode cX8_entryOf 42 = .ok (.invokevirtual 119, 3) := by decide +kernel
theorem dX8_entryOf_45 : decode cX8_entryOf 45 = .ok (.areturn, 1) := by decide +kernel
theorem dX8_entryOf_46 : decode cX8_entryOf 46 = .ok (.aload_n 0, 1) := by decide +kernel
theorem dX8_entryOf_47 : decode cX8_entryOf 47 = .ok (.getfield 26, 3) := by decide +kernel
theorem dX8_entryOf_50 : decode cX8_entryOf 50 = .ok (.iload_n 2, 1) := by decide +kernel
theorem dX8_entryOf_51 : decode cX8_entryOf 51 = .ok (.invokevirtual 119, 3) := by decide +kernel
theorem dX8_entryOf_54 : decode cX8_entryOf 54 = .ok (.areturn, 1) := by decide +kernel
theorem dX8_entryOf_55 : decode cX8_entryOf 55 = .ok (.aconst_null, 1) := by decide +kernel
theorem dX8_entryOf_56 : decode cX8_entryOf 56 = .ok (.areturn, 1) := by decide +kernel
theorem dX8_isKind_0 : decode cX8_isKind 0 = .ok (.iload_n 0, 1) := by decide +kernel
theorem dX8_isKind_1 : decode cX8_isKind 1 = .ok (.iconst 1, 1) := by decide +kernel
theorem dX8_isKind_2 : decode cX8_isKind 2 = .ok (.if_icmp .eq 13, 3) := by decide +kernel
theorem dX8_isKind_5 : decode cX8_isKind 5 = .ok (.iload_n 0, 1) := by decide +kernel
theorem dX8_isKind_6 : decode cX8_isKind 6 = .ok (.iconst 2, 1) := by decide +kernel
theorem dX8_isKind_7 : decode cX8_isKind 7 = .ok (.if_icmp .eq 8, 3) := by decide +kernel
theorem dX8_isKind_10 : decode cX8_isKind 10 = .ok (.iload_n 0, 1) := by decide +kernel
theorem dX8_isKind_11 : decode cX8_isKind 11 = .ok (.iconst 3, 1) := by decide +kernel
theorem dX8_isKind_12 : decode cX8_isKind 12 = .ok (.if_icmp .ne 7, 3) := by decide +kernel
theorem dX8_isKind_15 : decode cX8_isKind 15 = .ok (.iconst 1, 1) := by decide +kernel
theorem dX8_isKind_16 : decode cX8_isKind 16 = .ok (.goto 4, 3) := by decide +kernel
theorem dX8_isKind_19 : decode cX8_isKind 19 = .ok (.iconst 0, 1) := by decide +kernel
theorem dX8_isKind_20 : decode cX8_isKind 20 = .ok (.ireturn, 1) := by decide +kernel
theorem dX8_isMode_0 : decode cX8_isMode 0 = .ok (.iload_n 0, 1) := by decide +kernel
theorem dX8_isMode_1 : decode cX8_isMode 1 = .ok (.ifCond .lt 14, 3) := by decide +kernel
theorem dX8_isMode_4 : decode cX8_isMode 4 = .ok (.iload_n 0, 1) := by decide +kernel
theorem dX8_isMode_5 : decode cX8_isMode 5 = .ok (.sipush 4095, 3) := by decide +kernel
theorem dX8_isMode_8 : decode cX8_isMode 8 = .ok (.if_icmp .gt 7, 3) := by decide +kernel
theorem dX8_isMode_11 : decode cX8_isMode 11 = .ok (.iconst 1, 1) := by decide +kernel
theorem dX8_isMode_12 : decode cX8_isMode 12 = .ok (.goto 4, 3) := by decide +kernel
theorem dX8_isMode_15 : decode cX8_isMode 15 = .ok (.iconst 0, 1) := by decide +kernel
theorem dX8_isMode_16 : decode cX8_isMode 16 = .ok (.ireturn, 1) := by decide +kernel
theorem dX8_isTime_0 : decode cX8_isTime 0 = .ok (.iload_n 0, 1) := by decide +kernel
theorem dX8_isTime_1 : decode cX8_isTime 1 = .ok (.ifCond .lt 7, 3) := by decide +kernel
theorem dX8_isTime_4 : decode cX8_isTime 4 = .ok (.iconst 1, 1) := by decide +kernel
theorem dX8_isTime_5 : decode cX8_isTime 5 = .ok (.goto 4, 3) := by decide +kernel
theorem dX8_isTime_8 : decode cX8_isTime 8 = .ok (.iconst 0, 1) := by decide +kernel
theorem dX8_isTime_9 : decode cX8_isTime 9 = .ok (.ireturn, 1) := by decide +kernel
theorem dX8_isOperationCount_0 : decode cX8_isOperationCount 0 = .ok (.iload_n 0, 1) := by decide +kernel
theorem dX8_isOperationCount_1 : decode cX8_isOperationCount 1 = .ok (.ifCond .lt 14, 3) := by decide +kernel
theorem dX8_isOperationCount_4 : decode cX8_isOperationCount 4 = .ok (.iload_n 0, 1) := by decide +kernel
theorem dX8_isOperationCount_5 : decode cX8_isOperationCount 5 = .ok (.sipush 200, 3) := by decide +kernel
theorem dX8_isOperationCount_8 : decode cX8_isOperationCount 8 = .ok (.if_icmp .gt 7, 3) := by decide +kernel
theorem dX8_isOperationCount_11 : decode cX8_isOperationCount 11 = .ok (.iconst 1, 1) := by decide +kernel
theorem dX8_isOperationCount_12 : decode cX8_isOperationCount 12 = .ok (.goto 4, 3) := by decide +kernel
theorem dX8_isOperationCount_15 : decode cX8_isOperationCount 15 = .ok (.iconst 0, 1) := by decide +kernel
theorem dX8_isOperationCount_16 : decode cX8_isOperationCount 16 = .ok (.ireturn, 1) := by decide +kernel
theorem dX8_mostBytes_0 : decode cX8_mostBytes 0 = .ok (.iload_n 0, 1) := by decide +kernel
theorem dX8_mostBytes_1 : decode cX8_mostBytes 1 = .ok (.iconst 3, 1) := by decide +kernel
theorem dX8_mostBytes_2 : decode cX8_mostBytes 2 = .ok (.if_icmp .ne 8, 3) := by decide +kernel
theorem dX8_mostBytes_5 : decode cX8_mostBytes 5 = .ok (.bipush 100, 2) := by decide +kernel
theorem dX8_mostBytes_7 : decode cX8_mostBytes 7 = .ok (.goto 6, 3) := by decide +kernel
theorem dX8_mostBytes_10 : decode cX8_mostBytes 10 = .ok (.sipush 1500, 3) := by decide +kernel
theorem dX8_mostBytes_13 : decode cX8_mostBytes 13 = .ok (.ireturn, 1) := by decide +kernel
set_option maxRecDepth 20000 in
theorem ggX8_overlaid_J7_copyOf_9075b : GoodIn wsX8_overlaid wsJ7_copyOf_9075b := goodIn_r _ [8, 9, 10, 11, 12, 13, 14, 15, 16, 17, 3, 18, 19, 20, 21, 22] (by decide +kernel) (by decide +kernel)
set_option maxRecDepth 20000 in
theorem gX8_overlaid_J7_copyOf_9075b : GoodIn wsX8_overlaid (va_wsS RX8 166 yJ7_copyOf_9075b wsJ7_copyOf_9075b) := goodIn_app (goodIn_of _ (by decide +kernel)) ggX8_overlaid_J7_copyOf_9075b
theorem dX8_overlaid_0 : decode cX8_overlaid 0 = .ok (.aload_n 0, 1) := by decide +kernel
theorem dX8_overlaid_1 : decode cX8_overlaid 1 = .ok (.aload_n 0, 1) := by decide +kernel
theorem dX8_overlaid_2 : decode cX8_overlaid 2 = .ok (.arraylength, 1) := by decide +kernel
theorem dX8_overlaid_3 : decode cX8_overlaid 3 = .ok (.iload_n 1, 1) := by decide +kernel
theorem dX8_overlaid_4 : decode cX8_overlaid 4 = .ok (.aload_n 2, 1) := by decide +kernel
theorem dX8_overlaid_5 : decode cX8_overlaid 5 = .ok (.arraylength, 1) := by decide +kernel
theorem dX8_overlaid_6 : decode cX8_overlaid 6 = .ok (.iadd, 1) := by decide +kernel
theorem dX8_overlaid_7 : decode cX8_overlaid 7 = .ok (.invokestatic 291, 3) := by decide +kernel
theorem dX8_overlaid_10 : decode cX8_overlaid 10 = .ok (.invokestatic 166, 3) := by decide +kernel
theorem dX8_overlaid_13 : decode cX8_overlaid 13 = .ok (.astore_n 3, 1) := by decide +kernel
theorem dX8_overlaid_14 : decode cX8_overlaid 14 = .ok (.iconst 0, 1) := by decide +kernel
theorem dX8_overlaid_15 : decode cX8_overlaid 15 = .ok (.istore 4, 2) := by decide +kernel
theorem dX8_overlaid_17 : decode cX8_overlaid 17 = .ok (.iload 4, 2) := by decide +kernel
theorem dX8_overlaid_19 : decode cX8_overlaid 19 = .ok (.aload_n 2, 1) := by decide +kernel
theorem dX8_overlaid_20 : decode cX8_overlaid 20 = .ok (.arraylength, 1) := by decide +kernel
theorem dX8_overlaid_21 : decode cX8_overlaid 21 = .ok (.if_icmp .ge 35, 3) := by decide +kernel
theorem dX8_overlaid_24 : decode cX8_overlaid 24 = .ok (.iload_n 1, 1) := by decide +kernel
theorem dX8_overlaid_25 : decode cX8_overlaid 25 = .ok (.iload 4, 2) := by decide +kernel
theorem dX8_overlaid_27 : decode cX8_overlaid 27 = .ok (.iadd, 1) := by decide +kernel
theorem dX8_overlaid_28 : decode cX8_overlaid 28 = .ok (.istore 5, 2) := by decide +kernel
theorem dX8_overlaid_30 : decode cX8_overlaid 30 = .ok (.iload 5, 2) := by decide +kernel
theorem dX8_overlaid_32 : decode cX8_overlaid 32 = .ok (.ifCond .lt 18, 3) := by decide +kernel
theorem dX8_overlaid_35 : decode cX8_overlaid 35 = .ok (.iload 5, 2) := by decide +kernel
theorem dX8_overlaid_37 : decode cX8_overlaid 37 = .ok (.aload_n 3, 1) := by decide +kernel
theorem dX8_overlaid_38 : decode cX8_overlaid 38 = .ok (.arraylength, 1) := by decide +kernel
theorem dX8_overlaid_39 : decode cX8_overlaid 39 = .ok (.if_icmp .ge 11, 3) := by decide +kernel
theorem dX8_overlaid_42 : decode cX8_overlaid 42 = .ok (.aload_n 3, 1) := by decide +kernel
theorem dX8_overlaid_43 : decode cX8_overlaid 43 = .ok (.iload 5, 2) := by decide +kernel
theorem dX8_overlaid_45 : decode cX8_overlaid 45 = .ok (.aload_n 2, 1) := by decide +kernel
theorem dX8_overlaid_46 : decode cX8_overlaid 46 = .ok (.iload 4, 2) := by decide +kernel
theorem dX8_overlaid_48 : decode cX8_overlaid 48 = .ok (.baload, 1) := by decide +kernel
theorem dX8_overlaid_49 : decode cX8_overlaid 49 = .ok (.bastore, 1) := by decide +kernel
theorem dX8_overlaid_50 : decode cX8_overlaid 50 = .ok (.iinc 4 1, 3) := by decide +kernel
theorem dX8_overlaid_53 : decode cX8_overlaid 53 = .ok (.goto (-36), 3) := by decide +kernel
theorem dX8_overlaid_56 : decode cX8_overlaid 56 = .ok (.aload_n 3, 1) := by decide +kernel
theorem dX8_overlaid_57 : decode cX8_overlaid 57 = .ok (.areturn, 1) := by decide +kernel
theorem dX9_init_0 : decode cX9_init 0 = .ok (.aload_n 0, 1) := by decide +kernel
theorem dX9_init_1 : decode cX9_init 1 = .ok (.invokespecial 1, 3) := by decide +kernel
theorem dX9_init_4 : decode cX9_init 4 = .ok (.aload_n 0, 1) := by decide +kernel
theorem dX9_init_5 : decode cX9_init 5 = .ok (.bipush 46, 2) := by decide +kernel
theorem dX9_init_7 : decode cX9_init 7 = .ok (.newarray .int, 2) := by decide +kernel
theorem dX9_init_9 : decode cX9_init 9 = .ok (.putfield 7, 3) := by decide +kernel
theorem dX9_init_12 : decode cX9_init 12 = .ok (.aload_n 0, 1) := by decide +kernel
theorem dX9_init_13 : decode cX9_init 13 = .ok (.bipush 46, 2) := by decide +kernel
theorem dX9_init_15 : decode cX9_init 15 = .ok (.newarray .int, 2) := by decide +kernel
theorem dX9_init_17 : decode cX9_init 17 = .ok (.putfield 13, 3) := by decide +kernel
theorem dX9_init_20 : decode cX9_init 20 = .ok (.aload_n 0, 1) := by decide +kernel
theorem dX9_init_21 : decode cX9_init 21 = .ok (.sipush 5520, 3) := by decide +kernel
theorem dX9_init_24 : decode cX9_init 24 = .ok (.newarray .int, 2) := by decide +kernel
theorem dX9_init_26 : decode cX9_init 26 = .ok (.putfield 16, 3) := by decide +kernel
theorem dX9_init_29 : decode cX9_init 29 = .ok (.aload_n 0, 1) := by decide +kernel
theorem dX9_init_30 : decode cX9_init 30 = .ok (.sipush 5520, 3) := by decide +kernel
theorem dX9_init_33 : decode cX9_init 33 = .ok (.newarray .int, 2) := by decide +kernel
theorem dX9_init_35 : decode cX9_init 35 = .ok (.putfield 19, 3) := by decide +kernel
theorem dX9_init_38 : decode cX9_init 38 = .ok (.aload_n 0, 1) := by decide +kernel
theorem dX9_init_39 : decode cX9_init 39 = .ok (.sipush 5520, 3) := by decide +kernel
theorem dX9_init_42 : decode cX9_init 42 = .ok (.newarray .int, 2) := by decide +kernel
theorem dX9_init_44 : decode cX9_init 44 = .ok (.putfield 22, 3) := by decide +kernel
theorem dX9_init_47 : decode cX9_init 47 = .ok (.aload_n 0, 1) := by decide +kernel
theorem dX9_init_48 : decode cX9_init 48 = .ok (.sipush 5520, 3) := by decide +kernel
theorem dX9_init_51 : decode cX9_init 51 = .ok (.newarray .int, 2) := by decide +kernel
theorem dX9_init_53 : decode cX9_init 53 = .ok (.putfield 25, 3) := by decide +kernel
theorem dX9_init_56 : decode cX9_init 56 = .ok (.aload_n 0, 1) := by decide +kernel
theorem dX9_init_57 : decode cX9_init 57 = .ok (.sipush 5520, 3) := by decide +kernel
theorem dX9_init_60 : decode cX9_init 60 = .ok (.newarray .int, 2) := by decide +kernel
theorem dX9_init_62 : decode cX9_init 62 = .ok (.putfield 28, 3) := by decide +kernel
theorem dX9_init_65 : decode cX9_init 65 = .ok (.aload_n 0, 1) := by decide +kernel
theorem dX9_init_66 : decode cX9_init 66 = .ok (.sipush 5520, 3) := by decide +kernel
theorem dX9_init_69 : decode cX9_init 69 = .ok (.newarray .int, 2) := by decide +kernel
theorem dX9_init_71 : decode cX9_init 71 = .ok (.putfield 31, 3) := by decide +kernel
theorem dX9_init_74 : decode cX9_init 74 = .ok (.aload_n 0, 1) := by decide +kernel
theorem dX9_init_75 : decode cX9_init 75 = .ok (.ldc 34, 2) := by decide +kernel
theorem dX9_init_77 : decode cX9_init 77 = .ok (.newarray .int, 2) := by decide +kernel
theorem dX9_init_79 : decode cX9_init 79 = .ok (.putfield 35, 3) := by decide +kernel
theorem dX9_init_82 : decode cX9_init 82 = .ok (.aload_n 0, 1) := by decide +kernel
theorem dX9_init_83 : decode cX9_init 83 = .ok (.ldc 38, 2) := by decide +kernel
theorem dX9_init_85 : decode cX9_init 85 = .ok (.newarray .int, 2) := by decide +kernel
theorem dX9_init_87 : decode cX9_init 87 = .ok (.putfield 39, 3) := by decide +kernel
theorem dX9_init_90 : decode cX9_init 90 = .ok (.aload_n 0, 1) := by decide +kernel
theorem dX9_init_91 : decode cX9_init 91 = .ok (.bipush 20, 2) := by decide +kernel
theorem dX9_init_93 : decode cX9_init 93 = .ok (.newarray .int, 2) := by decide +kernel
theorem dX9_init_95 : decode cX9_init 95 = .ok (.putfield 42, 3) := by decide +kernel
theorem dX9_init_98 : decode cX9_init 98 = .ok (.aload_n 0, 1) := by decide +kernel
theorem dX9_init_99 : decode cX9_init 99 = .ok (.sipush 400, 3) := by decide +kernel
theorem dX9_init_102 : decode cX9_init 102 = .ok (.newarray .int, 2) := by decide +kernel
end
section
theorem dX9_init_104 : decode cX9_init 104 = .ok (.putfield 45, 3) := by decide +kernel
theorem dX9_init_107 : decode cX9_init 107 = .ok (.aload_n 0, 1) := by decide +kernel
theorem dX9_init_108 : decode cX9_init 108 = .ok (.bipush 40, 2) := by decide +kernel
theorem dX9_init_110 : decode cX9_init 110 = .ok (.newarray .int, 2) := by decide +kernel
theorem dX9_init_112 : decode cX9_init 112 = .ok (.putfield 48, 3) := by decide +kernel
theorem dX9_init_115 : decode cX9_init 115 = .ok (.aload_n 0, 1) := by decide +kernel
theorem dX9_init_116 : decode cX9_init 116 = .ok (.bipush 40, 2) := by decide +kernel
theorem dX9_init_118 : decode cX9_init 118 = .ok (.newarray .int, 2) := by decide +kernel
theorem dX9_init_120 : decode cX9_init 120 = .ok (.putfield 51, 3) := by decide +kernel
theorem dX9_init_123 : decode cX9_init 123 = .ok (.aload_n 0, 1) := by decide +kernel
theorem dX9_init_124 : decode cX9_init 124 = .ok (.sipush 150, 3) := by decide +kernel
theorem dX9_init_127 : decode cX9_init 127 = .ok (.newarray .int, 2) := by decide +kernel
theorem dX9_init_129 : decode cX9_init 129 = .ok (.putfield 54, 3) := by decide +kernel
theorem dX9_init_132 : decode cX9_init 132 = .ok (.return_, 1) := by decide +kernel
theorem dX9_thrown_0 : decode cX9_thrown 0 = .ok (.aload_n 0, 1) := by decide +kernel
theorem dX9_thrown_1 : decode cX9_thrown 1 = .ok (.getfield 57, 3) := by decide +kernel
theorem dX9_thrown_4 : decode cX9_thrown 4 = .ok (.ireturn, 1) := by decide +kernel
theorem dX9_feed_0 : decode cX9_feed 0 = .ok (.aload_n 0, 1) := by decide +kernel
theorem dX9_feed_1 : decode cX9_feed 1 = .ok (.iconst 0, 1) := by decide +kernel
theorem dX9_feed_2 : decode cX9_feed 2 = .ok (.putfield 57, 3) := by decide +kernel
theorem dX9_feed_5 : decode cX9_feed 5 = .ok (.iconst 0, 1) := by decide +kernel
theorem dX9_feed_6 : decode cX9_feed 6 = .ok (.istore 6, 2) := by decide +kernel
theorem dX9_feed_8 : decode cX9_feed 8 = .ok (.iload 6, 2) := by decide +kernel
theorem dX9_feed_10 : decode cX9_feed 10 = .ok (.iconst 4, 1) := by decide +kernel
theorem dX9_feed_11 : decode cX9_feed 11 = .ok (.if_icmp .ge 107, 3) := by decide +kernel
theorem dX9_feed_14 : decode cX9_feed 14 = .ok (.bipush 24, 2) := by decide +kernel
theorem dX9_feed_16 : decode cX9_feed 16 = .ok (.bipush 8, 2) := by decide +kernel
theorem dX9_feed_18 : decode cX9_feed 18 = .ok (.iload 6, 2) := by decide +kernel
theorem dX9_feed_20 : decode cX9_feed 20 = .ok (.imul, 1) := by decide +kernel
theorem dX9_feed_21 : decode cX9_feed 21 = .ok (.isub, 1) := by decide +kernel
theorem dX9_feed_22 : decode cX9_feed 22 = .ok (.istore 7, 2) := by decide +kernel
theorem dX9_feed_24 : decode cX9_feed 24 = .ok (.aload_n 0, 1) := by decide +kernel
theorem dX9_feed_25 : decode cX9_feed 25 = .ok (.getfield 42, 3) := by decide +kernel
theorem dX9_feed_28 : decode cX9_feed 28 = .ok (.iload 6, 2) := by decide +kernel
theorem dX9_feed_30 : decode cX9_feed 30 = .ok (.iload_n 1, 1) := by decide +kernel
theorem dX9_feed_31 : decode cX9_feed 31 = .ok (.iload 7, 2) := by decide +kernel
theorem dX9_feed_33 : decode cX9_feed 33 = .ok (.ishr, 1) := by decide +kernel
theorem dX9_feed_34 : decode cX9_feed 34 = .ok (.sipush 255, 3) := by decide +kernel
theorem dX9_feed_37 : decode cX9_feed 37 = .ok (.iand, 1) := by decide +kernel
theorem dX9_feed_38 : decode cX9_feed 38 = .ok (.iastore, 1) := by decide +kernel
theorem dX9_feed_39 : decode cX9_feed 39 = .ok (.aload_n 0, 1) := by decide +kernel
theorem dX9_feed_40 : decode cX9_feed 40 = .ok (.getfield 42, 3) := by decide +kernel
theorem dX9_feed_43 : decode cX9_feed 43 = .ok (.iconst 4, 1) := by decide +kernel
theorem dX9_feed_44 : decode cX9_feed 44 = .ok (.iload 6, 2) := by decide +kernel
theorem dX9_feed_46 : decode cX9_feed 46 = .ok (.iadd, 1) := by decide +kernel
theorem dX9_feed_47 : decode cX9_feed 47 = .ok (.iload_n 2, 1) := by decide +kernel
theorem dX9_feed_48 : decode cX9_feed 48 = .ok (.iload 7, 2) := by decide +kernel
theorem dX9_feed_50 : decode cX9_feed 50 = .ok (.ishr, 1) := by decide +kernel
theorem dX9_feed_51 : decode cX9_feed 51 = .ok (.sipush 255, 3) := by decide +kernel
theorem dX9_feed_54 : decode cX9_feed 54 = .ok (.iand, 1) := by decide +kernel
theorem dX9_feed_55 : decode cX9_feed 55 = .ok (.iastore, 1) := by decide +kernel
theorem dX9_feed_56 : decode cX9_feed 56 = .ok (.aload_n 0, 1) := by decide +kernel
theorem dX9_feed_57 : decode cX9_feed 57 = .ok (.getfield 42, 3) := by decide +kernel
theorem dX9_feed_60 : decode cX9_feed 60 = .ok (.bipush 8, 2) := by decide +kernel
theorem dX9_feed_62 : decode cX9_feed 62 = .ok (.iload 6, 2) := by decide +kernel
theorem dX9_feed_64 : decode cX9_feed 64 = .ok (.iadd, 1) := by decide +kernel
theorem dX9_feed_65 : decode cX9_feed 65 = .ok (.iload_n 3, 1) := by decide +kernel
theorem dX9_feed_66 : decode cX9_feed 66 = .ok (.iload 7, 2) := by decide +kernel
theorem dX9_feed_68 : decode cX9_feed 68 = .ok (.ishr, 1) := by decide +kernel
theorem dX9_feed_69 : decode cX9_feed 69 = .ok (.sipush 255, 3) := by decide +kernel
theorem dX9_feed_72 : decode cX9_feed 72 = .ok (.iand, 1) := by decide +kernel
theorem dX9_feed_73 : decode cX9_feed 73 = .ok (.iastore, 1) := by decide +kernel
theorem dX9_feed_74 : decode cX9_feed 74 = .ok (.aload_n 0, 1) := by decide +kernel
theorem dX9_feed_75 : decode cX9_feed 75 = .ok (.getfield 42, 3) := by decide +kernel
theorem dX9_feed_78 : decode cX9_feed 78 = .ok (.bipush 12, 2) := by decide +kernel
theorem dX9_feed_80 : decode cX9_feed 80 = .ok (.iload 6, 2) := by decide +kernel
theorem dX9_feed_82 : decode cX9_feed 82 = .ok (.iadd, 1) := by decide +kernel
theorem dX9_feed_83 : decode cX9_feed 83 = .ok (.iload 4, 2) := by decide +kernel
theorem dX9_feed_85 : decode cX9_feed 85 = .ok (.iload 7, 2) := by decide +kernel
theorem dX9_feed_87 : decode cX9_feed 87 = .ok (.ishr, 1) := by decide +kernel
theorem dX9_feed_88 : decode cX9_feed 88 = .ok (.sipush 255, 3) := by decide +kernel
theorem dX9_feed_91 : decode cX9_feed 91 = .ok (.iand, 1) := by decide +kernel
theorem dX9_feed_92 : decode cX9_feed 92 = .ok (.iastore, 1) := by decide +kernel
theorem dX9_feed_93 : decode cX9_feed 93 = .ok (.aload_n 0, 1) := by decide +kernel
theorem dX9_feed_94 : decode cX9_feed 94 = .ok (.getfield 42, 3) := by decide +kernel
theorem dX9_feed_97 : decode cX9_feed 97 = .ok (.bipush 16, 2) := by decide +kernel
theorem dX9_feed_99 : decode cX9_feed 99 = .ok (.iload 6, 2) := by decide +kernel
theorem dX9_feed_101 : decode cX9_feed 101 = .ok (.iadd, 1) := by decide +kernel
theorem dX9_feed_102 : decode cX9_feed 102 = .ok (.iload 5, 2) := by decide +kernel
theorem dX9_feed_104 : decode cX9_feed 104 = .ok (.iload 7, 2) := by decide +kernel
theorem dX9_feed_106 : decode cX9_feed 106 = .ok (.ishr, 1) := by decide +kernel
theorem dX9_feed_107 : decode cX9_feed 107 = .ok (.sipush 255, 3) := by decide +kernel
theorem dX9_feed_110 : decode cX9_feed 110 = .ok (.iand, 1) := by decide +kernel
theorem dX9_feed_111 : decode cX9_feed 111 = .ok (.iastore, 1) := by decide +kernel
theorem dX9_feed_112 : decode cX9_feed 112 = .ok (.iinc 6 1, 3) := by decide +kernel
theorem dX9_feed_115 : decode cX9_feed 115 = .ok (.goto (-107), 3) := by decide +kernel
theorem dX9_feed_118 : decode cX9_feed 118 = .ok (.return_, 1) := by decide +kernel
theorem dX9_end_0 : decode cX9_end 0 = .ok (.aload_n 0, 1) := by decide +kernel
theorem dX9_end_1 : decode cX9_end 1 = .ok (.iconst 0, 1) := by decide +kernel
theorem dX9_end_2 : decode cX9_end 2 = .ok (.putfield 57, 3) := by decide +kernel
theorem dX9_end_5 : decode cX9_end 5 = .ok (.iload_n 1, 1) := by decide +kernel
theorem dX9_end_6 : decode cX9_end 6 = .ok (.ifCond .lt 21, 3) := by decide +kernel
theorem dX9_end_9 : decode cX9_end 9 = .ok (.iload_n 1, 1) := by decide +kernel
theorem dX9_end_10 : decode cX9_end 10 = .ok (.bipush 20, 2) := by decide +kernel
theorem dX9_end_12 : decode cX9_end 12 = .ok (.if_icmp .gt 15, 3) := by decide +kernel
theorem dX9_end_15 : decode cX9_end 15 = .ok (.aload_n 0, 1) := by decide +kernel
theorem dX9_end_16 : decode cX9_end 16 = .ok (.getfield 61, 3) := by decide +kernel
theorem dX9_end_19 : decode cX9_end 19 = .ok (.iload_n 1, 1) := by decide +kernel
theorem dX9_end_20 : decode cX9_end 20 = .ok (.iadd, 1) := by decide +kernel
theorem dX9_end_21 : decode cX9_end 21 = .ok (.sipush 400, 3) := by decide +kernel
theorem dX9_end_24 : decode cX9_end 24 = .ok (.if_icmp .le 5, 3) := by decide +kernel
theorem dX9_end_27 : decode cX9_end 27 = .ok (.iconst (-1), 1) := by decide +kernel
theorem dX9_end_28 : decode cX9_end 28 = .ok (.ireturn, 1) := by decide +kernel
theorem dX9_end_29 : decode cX9_end 29 = .ok (.iconst 0, 1) := by decide +kernel
theorem dX9_end_30 : decode cX9_end 30 = .ok (.istore_n 2, 1) := by decide +kernel
theorem dX9_end_31 : decode cX9_end 31 = .ok (.iload_n 2, 1) := by decide +kernel
theorem dX9_end_32 : decode cX9_end 32 = .ok (.iload_n 1, 1) := by decide +kernel
theorem dX9_end_33 : decode cX9_end 33 = .ok (.if_icmp .ge 26, 3) := by decide +kernel
theorem dX9_end_36 : decode cX9_end 36 = .ok (.aload_n 0, 1) := by decide +kernel
theorem dX9_end_37 : decode cX9_end 37 = .ok (.getfield 45, 3) := by decide +kernel
theorem dX9_end_40 : decode cX9_end 40 = .ok (.aload_n 0, 1) := by decide +kernel
theorem dX9_end_41 : decode cX9_end 41 = .ok (.getfield 61, 3) := by decide +kernel
theorem dX9_end_44 : decode cX9_end 44 = .ok (.iload_n 2, 1) := by decide +kernel
theorem dX9_end_45 : decode cX9_end 45 = .ok (.iadd, 1) := by decide +kernel
theorem dX9_end_46 : decode cX9_end 46 = .ok (.aload_n 0, 1) := by decide +kernel
theorem dX9_end_47 : decode cX9_end 47 = .ok (.getfield 42, 3) := by decide +kernel
theorem dX9_end_50 : decode cX9_end 50 = .ok (.iload_n 2, 1) := by decide +kernel
theorem dX9_end_51 : decode cX9_end 51 = .ok (.iaload, 1) := by decide +kernel
theorem dX9_end_52 : decode cX9_end 52 = .ok (.iastore, 1) := by decide +kernel
theorem dX9_end_53 : decode cX9_end 53 = .ok (.iinc 2 1, 3) := by decide +kernel
theorem dX9_end_56 : decode cX9_end 56 = .ok (.goto (-25), 3) := by decide +kernel
theorem dX9_end_59 : decode cX9_end 59 = .ok (.aload_n 0, 1) := by decide +kernel
theorem dX9_end_60 : decode cX9_end 60 = .ok (.dup, 1) := by decide +kernel
theorem dX9_end_61 : decode cX9_end 61 = .ok (.getfield 61, 3) := by decide +kernel
theorem dX9_end_64 : decode cX9_end 64 = .ok (.iload_n 1, 1) := by decide +kernel
theorem dX9_end_65 : decode cX9_end 65 = .ok (.iadd, 1) := by decide +kernel
theorem dX9_end_66 : decode cX9_end 66 = .ok (.putfield 61, 3) := by decide +kernel
theorem dX9_end_69 : decode cX9_end 69 = .ok (.iconst 0, 1) := by decide +kernel
theorem dX9_end_70 : decode cX9_end 70 = .ok (.istore_n 2, 1) := by decide +kernel
theorem dX9_end_71 : decode cX9_end 71 = .ok (.iload_n 2, 1) := by decide +kernel
theorem dX9_end_72 : decode cX9_end 72 = .ok (.bipush 20, 2) := by decide +kernel
theorem dX9_end_74 : decode cX9_end 74 = .ok (.if_icmp .ge 16, 3) := by decide +kernel
theorem dX9_end_77 : decode cX9_end 77 = .ok (.aload_n 0, 1) := by decide +kernel
theorem dX9_end_78 : decode cX9_end 78 = .ok (.getfield 42, 3) := by decide +kernel
theorem dX9_end_81 : decode cX9_end 81 = .ok (.iload_n 2, 1) := by decide +kernel
theorem dX9_end_82 : decode cX9_end 82 = .ok (.iconst 0, 1) := by decide +kernel
theorem dX9_end_83 : decode cX9_end 83 = .ok (.iastore, 1) := by decide +kernel
theorem dX9_end_84 : decode cX9_end 84 = .ok (.iinc 2 1, 3) := by decide +kernel
theorem dX9_end_87 : decode cX9_end 87 = .ok (.goto (-16), 3) := by decide +kernel
theorem dX9_end_90 : decode cX9_end 90 = .ok (.aload_n 0, 1) := by decide +kernel
theorem dX9_end_91 : decode cX9_end 91 = .ok (.getfield 61, 3) := by decide +kernel
theorem dX9_end_94 : decode cX9_end 94 = .ok (.ireturn, 1) := by decide +kernel
theorem dX9_place_0 : decode cX9_place 0 = .ok (.bipush 120, 2) := by decide +kernel
theorem dX9_place_2 : decode cX9_place 2 = .ok (.iload_n 0, 1) := by decide +kernel
theorem dX9_place_3 : decode cX9_place 3 = .ok (.imul, 1) := by decide +kernel
theorem dX9_place_4 : decode cX9_place 4 = .ok (.iload_n 1, 1) := by decide +kernel
theorem dX9_place_5 : decode cX9_place 5 = .ok (.iadd, 1) := by decide +kernel
theorem dX9_place_6 : decode cX9_place 6 = .ok (.ireturn, 1) := by decide +kernel
set_option maxRecDepth 20000 in
theorem ggX9_append_X9_place : GoodIn wsX9_append wsX9_place := goodIn_r _ [14] (by decide +kernel) (by decide +kernel)
set_option maxRecDepth 20000 in
theorem gX9_append_X9_place : GoodIn wsX9_append (va_wsS RX9 64 yX9_place wsX9_place) := goodIn_app (goodIn_of _ (by decide +kernel)) ggX9_append_X9_place
theorem dX9_append_0 : decode cX9_append 0 = .ok (.iload_n 1, 1) := by decide +kernel
theorem dX9_append_1 : decode cX9_append 1 = .ok (.iload_n 2, 1) := by decide +kernel
theorem dX9_append_2 : decode cX9_append 2 = .ok (.invokestatic 64, 3) := by decide +kernel
theorem dX9_append_5 : decode cX9_append 5 = .ok (.istore 4, 2) := by decide +kernel
theorem dX9_append_7 : decode cX9_append 7 = .ok (.iload_n 3, 1) := by decide +kernel
theorem dX9_append_8 : decode cX9_append 8 = .ok (.aload_n 0, 1) := by decide +kernel
theorem dX9_append_9 : decode cX9_append 9 = .ok (.getfield 7, 3) := by decide +kernel
theorem dX9_append_12 : decode cX9_append 12 = .ok (.iload_n 3, 1) := by decide +kernel
theorem dX9_append_13 : decode cX9_append 13 = .ok (.iaload, 1) := by decide +kernel
theorem dX9_append_14 : decode cX9_append 14 = .ok (.invokestatic 64, 3) := by decide +kernel
theorem dX9_append_17 : decode cX9_append 17 = .ok (.istore 5, 2) := by decide +kernel
theorem dX9_append_19 : decode cX9_append 19 = .ok (.aload_n 0, 1) := by decide +kernel
theorem dX9_append_20 : decode cX9_append 20 = .ok (.getfield 16, 3) := by decide +kernel
theorem dX9_append_23 : decode cX9_append 23 = .ok (.iload 5, 2) := by decide +kernel
theorem dX9_append_25 : decode cX9_append 25 = .ok (.aload_n 0, 1) := by decide +kernel
theorem dX9_append_26 : decode cX9_append 26 = .ok (.getfield 16, 3) := by decide +kernel
theorem dX9_append_29 : decode cX9_append 29 = .ok (.iload 4, 2) := by decide +kernel
theorem dX9_append_31 : decode cX9_append 31 = .ok (.iaload, 1) := by decide +kernel
theorem dX9_append_32 : decode cX9_append 32 = .ok (.iastore, 1) := by decide +kernel
theorem dX9_append_33 : decode cX9_append 33 = .ok (.aload_n 0, 1) := by decide +kernel
theorem dX9_append_34 : decode cX9_append 34 = .ok (.getfield 19, 3) := by decide +kernel
theorem dX9_append_37 : decode cX9_append 37 = .ok (.iload 5, 2) := by decide +kernel
theorem dX9_append_39 : decode cX9_append 39 = .ok (.aload_n 0, 1) := by decide +kernel
theorem dX9_append_40 : decode cX9_append 40 = .ok (.getfield 19, 3) := by decide +kernel
theorem dX9_append_43 : decode cX9_append 43 = .ok (.iload 4, 2) := by decide +kernel
theorem dX9_append_45 : decode cX9_append 45 = .ok (.iaload, 1) := by decide +kernel
theorem dX9_append_46 : decode cX9_append 46 = .ok (.iastore, 1) := by decide +kernel
theorem dX9_append_47 : decode cX9_append 47 = .ok (.aload_n 0, 1) := by decide +kernel
theorem dX9_append_48 : decode cX9_append 48 = .ok (.getfield 22, 3) := by decide +kernel
theorem dX9_append_51 : decode cX9_append 51 = .ok (.iload 5, 2) := by decide +kernel
theorem dX9_append_53 : decode cX9_append 53 = .ok (.aload_n 0, 1) := by decide +kernel
theorem dX9_append_54 : decode cX9_append 54 = .ok (.getfield 22, 3) := by decide +kernel
theorem dX9_append_57 : decode cX9_append 57 = .ok (.iload 4, 2) := by decide +kernel
theorem dX9_append_59 : decode cX9_append 59 = .ok (.iaload, 1) := by decide +kernel
theorem dX9_append_60 : decode cX9_append 60 = .ok (.iastore, 1) := by decide +kernel
theorem dX9_append_61 : decode cX9_append 61 = .ok (.aload_n 0, 1) := by decide +kernel
theorem dX9_append_62 : decode cX9_append 62 = .ok (.getfield 25, 3) := by decide +kernel
theorem dX9_append_65 : decode cX9_append 65 = .ok (.iload 5, 2) := by decide +kernel
theorem dX9_append_67 : decode cX9_append 67 = .ok (.aload_n 0, 1) := by decide +kernel
theorem dX9_append_68 : decode cX9_append 68 = .ok (.getfield 25, 3) := by decide +kernel
theorem dX9_append_71 : decode cX9_append 71 = .ok (.iload 4, 2) := by decide +kernel
theorem dX9_append_73 : decode cX9_append 73 = .ok (.iaload, 1) := by decide +kernel
theorem dX9_append_74 : decode cX9_append 74 = .ok (.iastore, 1) := by decide +kernel
theorem dX9_append_75 : decode cX9_append 75 = .ok (.iconst 0, 1) := by decide +kernel
theorem dX9_append_76 : decode cX9_append 76 = .ok (.istore 6, 2) := by decide +kernel
theorem dX9_append_78 : decode cX9_append 78 = .ok (.iload 6, 2) := by decide +kernel
theorem dX9_append_80 : decode cX9_append 80 = .ok (.aload_n 0, 1) := by decide +kernel
theorem dX9_append_81 : decode cX9_append 81 = .ok (.getfield 25, 3) := by decide +kernel
theorem dX9_append_84 : decode cX9_append 84 = .ok (.iload 4, 2) := by decide +kernel
theorem dX9_append_86 : decode cX9_append 86 = .ok (.iaload, 1) := by decide +kernel
theorem dX9_append_87 : decode cX9_append 87 = .ok (.if_icmp .ge 37, 3) := by decide +kernel
theorem dX9_append_90 : decode cX9_append 90 = .ok (.aload_n 0, 1) := by decide +kernel
theorem dX9_append_91 : decode cX9_append 91 = .ok (.getfield 35, 3) := by decide +kernel
theorem dX9_append_94 : decode cX9_append 94 = .ok (.sipush 150, 3) := by decide +kernel
theorem dX9_append_97 : decode cX9_append 97 = .ok (.iload 5, 2) := by decide +kernel
theorem dX9_append_99 : decode cX9_append 99 = .ok (.imul, 1) := by decide +kernel
theorem dX9_append_100 : decode cX9_append 100 = .ok (.iload 6, 2) := by decide +kernel
theorem dX9_append_102 : decode cX9_append 102 = .ok (.iadd, 1) := by decide +kernel
theorem dX9_append_103 : decode cX9_append 103 = .ok (.aload_n 0, 1) := by decide +kernel
theorem dX9_append_104 : decode cX9_append 104 = .ok (.getfield 35, 3) := by decide +kernel
theorem dX9_append_107 : decode cX9_append 107 = .ok (.sipush 150, 3) := by decide +kernel
theorem dX9_append_110 : decode cX9_append 110 = .ok (.iload 4, 2) := by decide +kernel
theorem dX9_append_112 : decode cX9_append 112 = .ok (.imul, 1) := by decide +kernel
theorem dX9_append_113 : decode cX9_append 113 = .ok (.iload 6, 2) := by decide +kernel
theorem dX9_append_115 : decode cX9_append 115 = .ok (.iadd, 1) := by decide +kernel
theorem dX9_append_116 : decode cX9_append 116 = .ok (.iaload, 1) := by decide +kernel
theorem dX9_append_117 : decode cX9_append 117 = .ok (.iastore, 1) := by decide +kernel
theorem dX9_append_118 : decode cX9_append 118 = .ok (.iinc 6 1, 3) := by decide +kernel
theorem dX9_append_121 : decode cX9_append 121 = .ok (.goto (-43), 3) := by decide +kernel
theorem dX9_append_124 : decode cX9_append 124 = .ok (.aload_n 0, 1) := by decide +kernel
theorem dX9_append_125 : decode cX9_append 125 = .ok (.getfield 31, 3) := by decide +kernel
theorem dX9_append_128 : decode cX9_append 128 = .ok (.iload 5, 2) := by decide +kernel
theorem dX9_append_130 : decode cX9_append 130 = .ok (.aload_n 0, 1) := by decide +kernel
theorem dX9_append_131 : decode cX9_append 131 = .ok (.getfield 31, 3) := by decide +kernel
theorem dX9_append_134 : decode cX9_append 134 = .ok (.iload 4, 2) := by decide +kernel
theorem dX9_append_136 : decode cX9_append 136 = .ok (.iaload, 1) := by decide +kernel
theorem dX9_append_137 : decode cX9_append 137 = .ok (.iastore, 1) := by decide +kernel
theorem dX9_append_138 : decode cX9_append 138 = .ok (.aload_n 0, 1) := by decide +kernel
theorem dX9_append_139 : decode cX9_append 139 = .ok (.getfield 28, 3) := by decide +kernel
theorem dX9_append_142 : decode cX9_append 142 = .ok (.iload 5, 2) := by decide +kernel
theorem dX9_append_144 : decode cX9_append 144 = .ok (.aload_n 0, 1) := by decide +kernel
theorem dX9_append_145 : decode cX9_append 145 = .ok (.getfield 13, 3) := by decide +kernel
theorem dX9_append_148 : decode cX9_append 148 = .ok (.iload_n 3, 1) := by decide +kernel
theorem dX9_append_149 : decode cX9_append 149 = .ok (.iaload, 1) := by decide +kernel
theorem dX9_append_150 : decode cX9_append 150 = .ok (.iastore, 1) := by decide +kernel
theorem dX9_append_151 : decode cX9_append 151 = .ok (.iconst 0, 1) := by decide +kernel
theorem dX9_append_152 : decode cX9_append 152 = .ok (.istore 6, 2) := by decide +kernel
theorem dX9_append_154 : decode cX9_append 154 = .ok (.iload 6, 2) := by decide +kernel
theorem dX9_append_156 : decode cX9_append 156 = .ok (.aload_n 0, 1) := by decide +kernel
theorem dX9_append_157 : decode cX9_append 157 = .ok (.getfield 31, 3) := by decide +kernel
theorem dX9_append_160 : decode cX9_append 160 = .ok (.iload 4, 2) := by decide +kernel
theorem dX9_append_162 : decode cX9_append 162 = .ok (.iaload, 1) := by decide +kernel
theorem dX9_append_163 : decode cX9_append 163 = .ok (.if_icmp .ge 50, 3) := by decide +kernel
theorem dX9_append_166 : decode cX9_append 166 = .ok (.aload_n 0, 1) := by decide +kernel
theorem dX9_append_167 : decode cX9_append 167 = .ok (.getfield 39, 3) := by decide +kernel
theorem dX9_append_170 : decode cX9_append 170 = .ok (.sipush 8000, 3) := by decide +kernel
theorem dX9_append_173 : decode cX9_append 173 = .ok (.iload_n 3, 1) := by decide +kernel
theorem dX9_append_174 : decode cX9_append 174 = .ok (.imul, 1) := by decide +kernel
theorem dX9_append_175 : decode cX9_append 175 = .ok (.aload_n 0, 1) := by decide +kernel
theorem dX9_append_176 : decode cX9_append 176 = .ok (.getfield 13, 3) := by decide +kernel
theorem dX9_append_179 : decode cX9_append 179 = .ok (.iload_n 3, 1) := by decide +kernel
theorem dX9_append_180 : decode cX9_append 180 = .ok (.iaload, 1) := by decide +kernel
theorem dX9_append_181 : decode cX9_append 181 = .ok (.iadd, 1) := by decide +kernel
theorem dX9_append_182 : decode cX9_append 182 = .ok (.iload 6, 2) := by decide +kernel
theorem dX9_append_184 : decode cX9_append 184 = .ok (.iadd, 1) := by decide +kernel
theorem dX9_append_185 : decode cX9_append 185 = .ok (.aload_n 0, 1) := by decide +kernel
theorem dX9_append_186 : decode cX9_append 186 = .ok (.getfield 39, 3) := by decide +kernel
theorem dX9_append_189 : decode cX9_append 189 = .ok (.sipush 8000, 3) := by decide +kernel
theorem dX9_append_192 : decode cX9_append 192 = .ok (.iload_n 1, 1) := by decide +kernel
theorem dX9_append_193 : decode cX9_append 193 = .ok (.imul, 1) := by decide +kernel
theorem dX9_append_194 : decode cX9_append 194 = .ok (.aload_n 0, 1) := by decide +kernel
theorem dX9_append_195 : decode cX9_append 195 = .ok (.getfield 28, 3) := by decide +kernel
theorem dX9_append_198 : decode cX9_append 198 = .ok (.iload 4, 2) := by decide +kernel
theorem dX9_append_200 : decode cX9_append 200 = .ok (.iaload, 1) := by decide +kernel
theorem dX9_append_201 : decode cX9_append 201 = .ok (.iadd, 1) := by decide +kernel
theorem dX9_append_202 : decode cX9_append 202 = .ok (.iload 6, 2) := by decide +kernel
theorem dX9_append_204 : decode cX9_append 204 = .ok (.iadd, 1) := by decide +kernel
theorem dX9_append_205 : decode cX9_append 205 = .ok (.iaload, 1) := by decide +kernel
theorem dX9_append_206 : decode cX9_append 206 = .ok (.iastore, 1) := by decide +kernel
theorem dX9_append_207 : decode cX9_append 207 = .ok (.iinc 6 1, 3) := by decide +kernel
theorem dX9_append_210 : decode cX9_append 210 = .ok (.goto (-56), 3) := by decide +kernel
theorem dX9_append_213 : decode cX9_append 213 = .ok (.aload_n 0, 1) := by decide +kernel
theorem dX9_append_214 : decode cX9_append 214 = .ok (.getfield 13, 3) := by decide +kernel
theorem dX9_append_217 : decode cX9_append 217 = .ok (.iload_n 3, 1) := by decide +kernel
theorem dX9_append_218 : decode cX9_append 218 = .ok (.dup2, 1) := by decide +kernel
theorem dX9_append_219 : decode cX9_append 219 = .ok (.iaload, 1) := by decide +kernel
theorem dX9_append_220 : decode cX9_append 220 = .ok (.aload_n 0, 1) := by decide +kernel
theorem dX9_append_221 : decode cX9_append 221 = .ok (.getfield 31, 3) := by decide +kernel
theorem dX9_append_224 : decode cX9_append 224 = .ok (.iload 4, 2) := by decide +kernel
theorem dX9_append_226 : decode cX9_append 226 = .ok (.iaload, 1) := by decide +kernel
theorem dX9_append_227 : decode cX9_append 227 = .ok (.iadd, 1) := by decide +kernel
theorem dX9_append_228 : decode cX9_append 228 = .ok (.iastore, 1) := by decide +kernel
theorem dX9_append_229 : decode cX9_append 229 = .ok (.aload_n 0, 1) := by decide +kernel
theorem dX9_append_230 : decode cX9_append 230 = .ok (.getfield 7, 3) := by decide +kernel
theorem dX9_append_233 : decode cX9_append 233 = .ok (.iload_n 3, 1) := by decide +kernel
theorem dX9_append_234 : decode cX9_append 234 = .ok (.dup2, 1) := by decide +kernel
theorem dX9_append_235 : decode cX9_append 235 = .ok (.iaload, 1) := by decide +kernel
theorem dX9_append_236 : decode cX9_append 236 = .ok (.iconst 1, 1) := by decide +kernel
theorem dX9_append_237 : decode cX9_append 237 = .ok (.iadd, 1) := by decide +kernel
theorem dX9_append_238 : decode cX9_append 238 = .ok (.iastore, 1) := by decide +kernel
theorem dX9_append_239 : decode cX9_append 239 = .ok (.return_, 1) := by decide +kernel
theorem dX9_empty_0 : decode cX9_empty 0 = .ok (.aload_n 0, 1) := by decide +kernel
theorem dX9_empty_1 : decode cX9_empty 1 = .ok (.getfield 7, 3) := by decide +kernel
theorem dX9_empty_4 : decode cX9_empty 4 = .ok (.iload_n 1, 1) := by decide +kernel
theorem dX9_empty_5 : decode cX9_empty 5 = .ok (.iconst 0, 1) := by decide +kernel
theorem dX9_empty_6 : decode cX9_empty 6 = .ok (.iastore, 1) := by decide +kernel
theorem dX9_empty_7 : decode cX9_empty 7 = .ok (.aload_n 0, 1) := by decide +kernel
theorem dX9_empty_8 : decode cX9_empty 8 = .ok (.getfield 13, 3) := by decide +kernel
theorem dX9_empty_11 : decode cX9_empty 11 = .ok (.iload_n 1, 1) := by decide +kernel
theorem dX9_empty_12 : decode cX9_empty 12 = .ok (.iconst 0, 1) := by decide +kernel
theorem dX9_empty_13 : decode cX9_empty 13 = .ok (.iastore, 1) := by decide +kernel
theorem dX9_empty_14 : decode cX9_empty 14 = .ok (.return_, 1) := by decide +kernel
set_option maxRecDepth 20000 in
theorem ggX9_copy_X9_empty : GoodIn wsX9_copy wsX9_empty := goodIn_r _ [6, 1, 7, 23, 24, 25, 26, 27, 28, 29, 30, 31, 32, 33, 34, 35, 36, 37, 38, 39, 40, 41, 42, 43, 44, 45, 46] (by decide +kernel) (by decide +kernel)
set_option maxRecDepth 20000 in
theorem gX9_copy_X9_empty : GoodIn wsX9_copy (wsV RX9 68 RX9 yX9_empty wsX9_empty) := goodIn_app (goodIn_of _ (by decide +kernel)) ggX9_copy_X9_empty
set_option maxRecDepth 20000 in
theorem ggX9_copy_X9_append : GoodIn wsX9_copy wsX9_append := goodIn_r _ [11, 1, 12, 13, 14, 15, 16, 17, 18, 7, 19, 20, 21, 5, 22, 23, 24, 25, 26, 27, 28, 29, 30, 31, 32, 33, 34, 35, 36, 37, 38, 39, 40, 41, 42, 43, 44, 45, 46] (by decide +kernel) (by decide +kernel)
set_option maxRecDepth 20000 in
theorem gX9_copy_X9_append : GoodIn wsX9_copy (wsV RX9 72 RX9 yX9_append wsX9_append) := goodIn_app (goodIn_of _ (by decide +kernel)) ggX9_copy_X9_append
theorem dX9_copy_0 : decode cX9_copy 0 = .ok (.aload_n 0, 1) := by decide +kernel
theorem dX9_copy_1 : decode cX9_copy 1 = .ok (.iload_n 2, 1) := by decide +kernel
theorem dX9_copy_2 : decode cX9_copy 2 = .ok (.invokevirtual 68, 3) := by decide +kernel
theorem dX9_copy_5 : decode cX9_copy 5 = .ok (.iconst 0, 1) := by decide +kernel
theorem dX9_copy_6 : decode cX9_copy 6 = .ok (.istore_n 3, 1) := by decide +kernel
theorem dX9_copy_7 : decode cX9_copy 7 = .ok (.iload_n 3, 1) := by decide +kernel
theorem dX9_copy_8 : decode cX9_copy 8 = .ok (.aload_n 0, 1) := by decide +kernel
theorem dX9_copy_9 : decode cX9_copy 9 = .ok (.getfield 7, 3) := by decide +kernel
theorem dX9_copy_12 : decode cX9_copy 12 = .ok (.iload_n 1, 1) := by decide +kernel
theorem dX9_copy_13 : decode cX9_copy 13 = .ok (.iaload, 1) := by decide +kernel
theorem dX9_copy_14 : decode cX9_copy 14 = .ok (.if_icmp .ge 16, 3) := by decide +kernel
theorem dX9_copy_17 : decode cX9_copy 17 = .ok (.aload_n 0, 1) := by decide +kernel
theorem dX9_copy_18 : decode cX9_copy 18 = .ok (.iload_n 1, 1) := by decide +kernel
theorem dX9_copy_19 : decode cX9_copy 19 = .ok (.iload_n 3, 1) := by decide +kernel
theorem dX9_copy_20 : decode cX9_copy 20 = .ok (.iload_n 2, 1) := by decide +kernel
theorem dX9_copy_21 : decode cX9_copy 21 = .ok (.invokevirtual 72, 3) := by decide +kernel
theorem dX9_copy_24 : decode cX9_copy 24 = .ok (.iinc 3 1, 3) := by decide +kernel
theorem dX9_copy_27 : decode cX9_copy 27 = .ok (.goto (-20), 3) := by decide +kernel
theorem dX9_copy_30 : decode cX9_copy 30 = .ok (.return_, 1) := by decide +kernel
theorem dX9_rank_0 : decode cX9_rank 0 = .ok (.iload_n 3, 1) := by decide +kernel
theorem dX9_rank_1 : decode cX9_rank 1 = .ok (.iload_n 2, 1) := by decide +kernel
theorem dX9_rank_2 : decode cX9_rank 2 = .ok (.if_icmp .lt 7, 3) := by decide +kernel
theorem dX9_rank_5 : decode cX9_rank 5 = .ok (.iconst (-1), 1) := by decide +kernel
theorem dX9_rank_6 : decode cX9_rank 6 = .ok (.goto 24, 3) := by decide +kernel
theorem dX9_rank_9 : decode cX9_rank 9 = .ok (.aload_n 0, 1) := by decide +kernel
theorem dX9_rank_10 : decode cX9_rank 10 = .ok (.iload_n 1, 1) := by decide +kernel
theorem dX9_rank_11 : decode cX9_rank 11 = .ok (.iload_n 3, 1) := by decide +kernel
theorem dX9_rank_12 : decode cX9_rank 12 = .ok (.iadd, 1) := by decide +kernel
theorem dX9_rank_13 : decode cX9_rank 13 = .ok (.iaload, 1) := by decide +kernel
theorem dX9_rank_14 : decode cX9_rank 14 = .ok (.bipush 47, 2) := by decide +kernel
theorem dX9_rank_16 : decode cX9_rank 16 = .ok (.if_icmp .ne 7, 3) := by decide +kernel
theorem dX9_rank_19 : decode cX9_rank 19 = .ok (.iconst 0, 1) := by decide +kernel
theorem dX9_rank_20 : decode cX9_rank 20 = .ok (.goto 10, 3) := by decide +kernel
theorem dX9_rank_23 : decode cX9_rank 23 = .ok (.aload_n 0, 1) := by decide +kernel
theorem dX9_rank_24 : decode cX9_rank 24 = .ok (.iload_n 1, 1) := by decide +kernel
theorem dX9_rank_25 : decode cX9_rank 25 = .ok (.iload_n 3, 1) := by decide +kernel
theorem dX9_rank_26 : decode cX9_rank 26 = .ok (.iadd, 1) := by decide +kernel
theorem dX9_rank_27 : decode cX9_rank 27 = .ok (.iaload, 1) := by decide +kernel
theorem dX9_rank_28 : decode cX9_rank 28 = .ok (.iconst 1, 1) := by decide +kernel
theorem dX9_rank_29 : decode cX9_rank 29 = .ok (.iadd, 1) := by decide +kernel
theorem dX9_rank_30 : decode cX9_rank 30 = .ok (.ireturn, 1) := by decide +kernel
set_option maxRecDepth 20000 in
theorem ggX9_order_X9_rank : GoodIn wsX9_order wsX9_rank := goodIn_r _ [4] (by decide +kernel) (by decide +kernel)
set_option maxRecDepth 20000 in
theorem gX9_order_X9_rank : GoodIn wsX9_order (va_wsS RX9 76 yX9_rank wsX9_rank) := goodIn_app (goodIn_of _ (by decide +kernel)) ggX9_order_X9_rank
theorem dX9_order_0 : decode cX9_order 0 = .ok (.iconst 0, 1) := by decide +kernel
theorem dX9_order_1 : decode cX9_order 1 = .ok (.istore 6, 2) := by decide +kernel
theorem dX9_order_3 : decode cX9_order 3 = .ok (.iload 6, 2) := by decide +kernel
theorem dX9_order_5 : decode cX9_order 5 = .ok (.iload_n 2, 1) := by decide +kernel
theorem dX9_order_6 : decode cX9_order 6 = .ok (.if_icmp .ge 32, 3) := by decide +kernel
theorem dX9_order_9 : decode cX9_order 9 = .ok (.iload 6, 2) := by decide +kernel
theorem dX9_order_11 : decode cX9_order 11 = .ok (.iload 5, 2) := by decide +kernel
theorem dX9_order_13 : decode cX9_order 13 = .ok (.if_icmp .ge 25, 3) := by decide +kernel
theorem dX9_order_16 : decode cX9_order 16 = .ok (.aload_n 0, 1) := by decide +kernel
theorem dX9_order_17 : decode cX9_order 17 = .ok (.iload_n 1, 1) := by decide +kernel
theorem dX9_order_18 : decode cX9_order 18 = .ok (.iload 6, 2) := by decide +kernel
theorem dX9_order_20 : decode cX9_order 20 = .ok (.iadd, 1) := by decide +kernel
theorem dX9_order_21 : decode cX9_order 21 = .ok (.iaload, 1) := by decide +kernel
theorem dX9_order_22 : decode cX9_order 22 = .ok (.aload_n 3, 1) := by decide +kernel
theorem dX9_order_23 : decode cX9_order 23 = .ok (.iload 4, 2) := by decide +kernel
theorem dX9_order_25 : decode cX9_order 25 = .ok (.iload 6, 2) := by decide +kernel
theorem dX9_order_27 : decode cX9_order 27 = .ok (.iadd, 1) := by decide +kernel
theorem dX9_order_28 : decode cX9_order 28 = .ok (.iaload, 1) := by decide +kernel
theorem dX9_order_29 : decode cX9_order 29 = .ok (.if_icmp .ne 9, 3) := by decide +kernel
theorem dX9_order_32 : decode cX9_order 32 = .ok (.iinc 6 1, 3) := by decide +kernel
theorem dX9_order_35 : decode cX9_order 35 = .ok (.goto (-32), 3) := by decide +kernel
theorem dX9_order_38 : decode cX9_order 38 = .ok (.aload_n 0, 1) := by decide +kernel
theorem dX9_order_39 : decode cX9_order 39 = .ok (.iload_n 1, 1) := by decide +kernel
theorem dX9_order_40 : decode cX9_order 40 = .ok (.iload_n 2, 1) := by decide +kernel
theorem dX9_order_41 : decode cX9_order 41 = .ok (.iload 6, 2) := by decide +kernel
theorem dX9_order_43 : decode cX9_order 43 = .ok (.invokestatic 76, 3) := by decide +kernel
theorem dX9_order_46 : decode cX9_order 46 = .ok (.aload_n 3, 1) := by decide +kernel
theorem dX9_order_47 : decode cX9_order 47 = .ok (.iload 4, 2) := by decide +kernel
theorem dX9_order_49 : decode cX9_order 49 = .ok (.iload 5, 2) := by decide +kernel
theorem dX9_order_51 : decode cX9_order 51 = .ok (.iload 6, 2) := by decide +kernel
theorem dX9_order_53 : decode cX9_order 53 = .ok (.invokestatic 76, 3) := by decide +kernel
theorem dX9_order_56 : decode cX9_order 56 = .ok (.isub, 1) := by decide +kernel
theorem dX9_order_57 : decode cX9_order 57 = .ok (.ireturn, 1) := by decide +kernel
set_option maxRecDepth 20000 in
theorem ggX9_orderOf_X9_place : GoodIn wsX9_orderOf wsX9_place := goodIn_r _ [6] (by decide +kernel) (by decide +kernel)
set_option maxRecDepth 20000 in
theorem gX9_orderOf_X9_place : GoodIn wsX9_orderOf (va_wsS RX9 64 yX9_place wsX9_place) := goodIn_app (goodIn_of _ (by decide +kernel)) ggX9_orderOf_X9_place
set_option maxRecDepth 20000 in
theorem ggX9_orderOf_X9_order : GoodIn wsX9_orderOf wsX9_order := goodIn_r _ [9, 10, 11, 5, 12] (by decide +kernel) (by decide +kernel)
set_option maxRecDepth 20000 in
theorem gX9_orderOf_X9_order : GoodIn wsX9_orderOf (va_wsS RX9 80 yX9_order wsX9_order) := goodIn_app (goodIn_of _ (by decide +kernel)) ggX9_orderOf_X9_order
theorem dX9_orderOf_0 : decode cX9_orderOf 0 = .ok (.aload_n 0, 1) := by decide +kernel
theorem dX9_orderOf_1 : decode cX9_orderOf 1 = .ok (.getfield 35, 3) := by decide +kernel
theorem dX9_orderOf_4 : decode cX9_orderOf 4 = .ok (.sipush 150, 3) := by decide +kernel
theorem dX9_orderOf_7 : decode cX9_orderOf 7 = .ok (.iload_n 1, 1) := by decide +kernel
theorem dX9_orderOf_8 : decode cX9_orderOf 8 = .ok (.iload_n 2, 1) := by decide +kernel
theorem dX9_orderOf_9 : decode cX9_orderOf 9 = .ok (.invokestatic 64, 3) := by decide +kernel
theorem dX9_orderOf_12 : decode cX9_orderOf 12 = .ok (.imul, 1) := by decide +kernel
theorem dX9_orderOf_13 : decode cX9_orderOf 13 = .ok (.aload_n 0, 1) := by decide +kernel
theorem dX9_orderOf_14 : decode cX9_orderOf 14 = .ok (.getfield 25, 3) := by decide +kernel
theorem dX9_orderOf_17 : decode cX9_orderOf 17 = .ok (.iload_n 1, 1) := by decide +kernel
theorem dX9_orderOf_18 : decode cX9_orderOf 18 = .ok (.iload_n 2, 1) := by decide +kernel
theorem dX9_orderOf_19 : decode cX9_orderOf 19 = .ok (.invokestatic 64, 3) := by decide +kernel
theorem dX9_orderOf_22 : decode cX9_orderOf 22 = .ok (.iaload, 1) := by decide +kernel
theorem dX9_orderOf_23 : decode cX9_orderOf 23 = .ok (.aload_n 0, 1) := by decide +kernel
theorem dX9_orderOf_24 : decode cX9_orderOf 24 = .ok (.getfield 35, 3) := by decide +kernel
theorem dX9_orderOf_27 : decode cX9_orderOf 27 = .ok (.sipush 150, 3) := by decide +kernel
theorem dX9_orderOf_30 : decode cX9_orderOf 30 = .ok (.iload_n 3, 1) := by decide +kernel
theorem dX9_orderOf_31 : decode cX9_orderOf 31 = .ok (.iload 4, 2) := by decide +kernel
theorem dX9_orderOf_33 : decode cX9_orderOf 33 = .ok (.invokestatic 64, 3) := by decide +kernel
theorem dX9_orderOf_36 : decode cX9_orderOf 36 = .ok (.imul, 1) := by decide +kernel
theorem dX9_orderOf_37 : decode cX9_orderOf 37 = .ok (.aload_n 0, 1) := by decide +kernel
theorem dX9_orderOf_38 : decode cX9_orderOf 38 = .ok (.getfield 25, 3) := by decide +kernel
theorem dX9_orderOf_41 : decode cX9_orderOf 41 = .ok (.iload_n 3, 1) := by decide +kernel
theorem dX9_orderOf_42 : decode cX9_orderOf 42 = .ok (.iload 4, 2) := by decide +kernel
theorem dX9_orderOf_44 : decode cX9_orderOf 44 = .ok (.invokestatic 64, 3) := by decide +kernel
theorem dX9_orderOf_47 : decode cX9_orderOf 47 = .ok (.iaload, 1) := by decide +kernel
theorem dX9_orderOf_48 : decode cX9_orderOf 48 = .ok (.invokestatic 80, 3) := by decide +kernel
theorem dX9_orderOf_51 : decode cX9_orderOf 51 = .ok (.ireturn, 1) := by decide +kernel
set_option maxRecDepth 20000 in
theorem ggX9_find_X9_place : GoodIn wsX9_find wsX9_place := goodIn_r _ [7] (by decide +kernel) (by decide +kernel)
set_option maxRecDepth 20000 in
theorem gX9_find_X9_place : GoodIn wsX9_find (va_wsS RX9 64 yX9_place wsX9_place) := goodIn_app (goodIn_of _ (by decide +kernel)) ggX9_find_X9_place
set_option maxRecDepth 20000 in
theorem ggX9_find_X9_order : GoodIn wsX9_find wsX9_order := goodIn_r _ [10, 11, 12, 6, 13] (by decide +kernel) (by decide +kernel)
set_option maxRecDepth 20000 in
theorem gX9_find_X9_order : GoodIn wsX9_find (va_wsS RX9 80 yX9_order wsX9_order) := goodIn_app (goodIn_of _ (by decide +kernel)) ggX9_find_X9_order
theorem dX9_find_0 : decode cX9_find 0 = .ok (.iconst (-1), 1) := by decide +kernel
theorem dX9_find_1 : decode cX9_find 1 = .ok (.istore 4, 2) := by decide +kernel
theorem dX9_find_3 : decode cX9_find 3 = .ok (.iconst 0, 1) := by decide +kernel
theorem dX9_find_4 : decode cX9_find 4 = .ok (.istore 5, 2) := by decide +kernel
theorem dX9_find_6 : decode cX9_find 6 = .ok (.iload 5, 2) := by decide +kernel
theorem dX9_find_8 : decode cX9_find 8 = .ok (.aload_n 0, 1) := by decide +kernel
theorem dX9_find_9 : decode cX9_find 9 = .ok (.getfield 7, 3) := by decide +kernel
theorem dX9_find_12 : decode cX9_find 12 = .ok (.iload_n 1, 1) := by decide +kernel
theorem dX9_find_13 : decode cX9_find 13 = .ok (.iaload, 1) := by decide +kernel
theorem dX9_find_14 : decode cX9_find 14 = .ok (.if_icmp .ge 52, 3) := by decide +kernel
theorem dX9_find_17 : decode cX9_find 17 = .ok (.aload_n 0, 1) := by decide +kernel
theorem dX9_find_18 : decode cX9_find 18 = .ok (.getfield 35, 3) := by decide +kernel
theorem dX9_find_21 : decode cX9_find 21 = .ok (.sipush 150, 3) := by decide +kernel
theorem dX9_find_24 : decode cX9_find 24 = .ok (.iload_n 1, 1) := by decide +kernel
theorem dX9_find_25 : decode cX9_find 25 = .ok (.iload 5, 2) := by decide +kernel
theorem dX9_find_27 : decode cX9_find 27 = .ok (.invokestatic 64, 3) := by decide +kernel
theorem dX9_find_30 : decode cX9_find 30 = .ok (.imul, 1) := by decide +kernel
theorem dX9_find_31 : decode cX9_find 31 = .ok (.aload_n 0, 1) := by decide +kernel
theorem dX9_find_32 : decode cX9_find 32 = .ok (.getfield 25, 3) := by decide +kernel
theorem dX9_find_35 : decode cX9_find 35 = .ok (.iload_n 1, 1) := by decide +kernel
theorem dX9_find_36 : decode cX9_find 36 = .ok (.iload 5, 2) := by decide +kernel
theorem dX9_find_38 : decode cX9_find 38 = .ok (.invokestatic 64, 3) := by decide +kernel
theorem dX9_find_41 : decode cX9_find 41 = .ok (.iaload, 1) := by decide +kernel
theorem dX9_find_42 : decode cX9_find 42 = .ok (.aload_n 2, 1) := by decide +kernel
theorem dX9_find_43 : decode cX9_find 43 = .ok (.iconst 0, 1) := by decide +kernel
theorem dX9_find_44 : decode cX9_find 44 = .ok (.iload_n 3, 1) := by decide +kernel
theorem dX9_find_45 : decode cX9_find 45 = .ok (.invokestatic 80, 3) := by decide +kernel
theorem dX9_find_48 : decode cX9_find 48 = .ok (.ifCond .ne 8, 3) := by decide +kernel
theorem dX9_find_51 : decode cX9_find 51 = .ok (.iload 5, 2) := by decide +kernel
theorem dX9_find_53 : decode cX9_find 53 = .ok (.goto 5, 3) := by decide +kernel
theorem dX9_find_56 : decode cX9_find 56 = .ok (.iload 4, 2) := by decide +kernel
theorem dX9_find_58 : decode cX9_find 58 = .ok (.istore 4, 2) := by decide +kernel
theorem dX9_find_60 : decode cX9_find 60 = .ok (.iinc 5 1, 3) := by decide +kernel
theorem dX9_find_63 : decode cX9_find 63 = .ok (.goto (-57), 3) := by decide +kernel
theorem dX9_find_66 : decode cX9_find 66 = .ok (.iload 4, 2) := by decide +kernel
theorem dX9_find_68 : decode cX9_find 68 = .ok (.ireturn, 1) := by decide +kernel
set_option maxRecDepth 20000 in
theorem ggX9_isSame_X9_place : GoodIn wsX9_isSame wsX9_place := goodIn_r _ [10] (by decide +kernel) (by decide +kernel)
set_option maxRecDepth 20000 in
theorem gX9_isSame_X9_place : GoodIn wsX9_isSame (va_wsS RX9 64 yX9_place wsX9_place) := goodIn_app (goodIn_of _ (by decide +kernel)) ggX9_isSame_X9_place
theorem dX9_isSame_0 : decode cX9_isSame 0 = .ok (.iload_n 1, 1) := by decide +kernel
theorem dX9_isSame_1 : decode cX9_isSame 1 = .ok (.iload_n 2, 1) := by decide +kernel
theorem dX9_isSame_2 : decode cX9_isSame 2 = .ok (.invokestatic 64, 3) := by decide +kernel
theorem dX9_isSame_5 : decode cX9_isSame 5 = .ok (.istore 5, 2) := by decide +kernel
theorem dX9_isSame_7 : decode cX9_isSame 7 = .ok (.iload_n 3, 1) := by decide +kernel
theorem dX9_isSame_8 : decode cX9_isSame 8 = .ok (.iload 4, 2) := by decide +kernel
theorem dX9_isSame_10 : decode cX9_isSame 10 = .ok (.invokestatic 64, 3) := by decide +kernel
theorem dX9_isSame_13 : decode cX9_isSame 13 = .ok (.istore 6, 2) := by decide +kernel
theorem dX9_isSame_15 : decode cX9_isSame 15 = .ok (.aload_n 0, 1) := by decide +kernel
theorem dX9_isSame_16 : decode cX9_isSame 16 = .ok (.getfield 16, 3) := by decide +kernel
theorem dX9_isSame_19 : decode cX9_isSame 19 = .ok (.iload 5, 2) := by decide +kernel
theorem dX9_isSame_21 : decode cX9_isSame 21 = .ok (.iaload, 1) := by decide +kernel
theorem dX9_isSame_22 : decode cX9_isSame 22 = .ok (.aload_n 0, 1) := by decide +kernel
theorem dX9_isSame_23 : decode cX9_isSame 23 = .ok (.getfield 16, 3) := by decide +kernel
theorem dX9_isSame_26 : decode cX9_isSame 26 = .ok (.iload 6, 2) := by decide +kernel
theorem dX9_isSame_28 : decode cX9_isSame 28 = .ok (.iaload, 1) := by decide +kernel
theorem dX9_isSame_29 : decode cX9_isSame 29 = .ok (.if_icmp .ne 58, 3) := by decide +kernel
theorem dX9_isSame_32 : decode cX9_isSame 32 = .ok (.aload_n 0, 1) := by decide +kernel
theorem dX9_isSame_33 : decode cX9_isSame 33 = .ok (.getfield 19, 3) := by decide +kernel
theorem dX9_isSame_36 : decode cX9_isSame 36 = .ok (.iload 5, 2) := by decide +kernel
theorem dX9_isSame_38 : decode cX9_isSame 38 = .ok (.iaload, 1) := by decide +kernel
theorem dX9_isSame_39 : decode cX9_isSame 39 = .ok (.aload_n 0, 1) := by decide +kernel
theorem dX9_isSame_40 : decode cX9_isSame 40 = .ok (.getfield 19, 3) := by decide +kernel
theorem dX9_isSame_43 : decode cX9_isSame 43 = .ok (.iload 6, 2) := by decide +kernel
theorem dX9_isSame_45 : decode cX9_isSame 45 = .ok (.iaload, 1) := by decide +kernel
theorem dX9_isSame_46 : decode cX9_isSame 46 = .ok (.if_icmp .ne 41, 3) := by decide +kernel
theorem dX9_isSame_49 : decode cX9_isSame 49 = .ok (.aload_n 0, 1) := by decide +kernel
theorem dX9_isSame_50 : decode cX9_isSame 50 = .ok (.getfield 22, 3) := by decide +kernel
theorem dX9_isSame_53 : decode cX9_isSame 53 = .ok (.iload 5, 2) := by decide +kernel
theorem dX9_isSame_55 : decode cX9_isSame 55 = .ok (.iaload, 1) := by decide +kernel
theorem dX9_isSame_56 : decode cX9_isSame 56 = .ok (.aload_n 0, 1) := by decide +kernel
theorem dX9_isSame_57 : decode cX9_isSame 57 = .ok (.getfield 22, 3) := by decide +kernel
theorem dX9_isSame_60 : decode cX9_isSame 60 = .ok (.iload 6, 2) := by decide +kernel
theorem dX9_isSame_62 : decode cX9_isSame 62 = .ok (.iaload, 1) := by decide +kernel
theorem dX9_isSame_63 : decode cX9_isSame 63 = .ok (.if_icmp .ne 24, 3) := by decide +kernel
theorem dX9_isSame_66 : decode cX9_isSame 66 = .ok (.aload_n 0, 1) := by decide +kernel
theorem dX9_isSame_67 : decode cX9_isSame 67 = .ok (.getfield 31, 3) := by decide +kernel
theorem dX9_isSame_70 : decode cX9_isSame 70 = .ok (.iload 5, 2) := by decide +kernel
theorem dX9_isSame_72 : decode cX9_isSame 72 = .ok (.iaload, 1) := by decide +kernel
theorem dX9_isSame_73 : decode cX9_isSame 73 = .ok (.aload_n 0, 1) := by decide +kernel
theorem dX9_isSame_74 : decode cX9_isSame 74 = .ok (.getfield 31, 3) := by decide +kernel
theorem dX9_isSame_77 : decode cX9_isSame 77 = .ok (.iload 6, 2) := by decide +kernel
theorem dX9_isSame_79 : decode cX9_isSame 79 = .ok (.iaload, 1) := by decide +kernel
theorem dX9_isSame_80 : decode cX9_isSame 80 = .ok (.if_icmp .ne 7, 3) := by decide +kernel
theorem dX9_isSame_83 : decode cX9_isSame 83 = .ok (.iconst 1, 1) := by decide +kernel
theorem dX9_isSame_84 : decode cX9_isSame 84 = .ok (.goto 4, 3) := by decide +kernel
theorem dX9_isSame_87 : decode cX9_isSame 87 = .ok (.iconst 0, 1) := by decide +kernel
theorem dX9_isSame_88 : decode cX9_isSame 88 = .ok (.istore 7, 2) := by decide +kernel
theorem dX9_isSame_90 : decode cX9_isSame 90 = .ok (.iconst 0, 1) := by decide +kernel
theorem dX9_isSame_91 : decode cX9_isSame 91 = .ok (.istore 8, 2) := by decide +kernel
theorem dX9_isSame_93 : decode cX9_isSame 93 = .ok (.iload 8, 2) := by decide +kernel
theorem dX9_isSame_95 : decode cX9_isSame 95 = .ok (.aload_n 0, 1) := by decide +kernel
theorem dX9_isSame_96 : decode cX9_isSame 96 = .ok (.getfield 31, 3) := by decide +kernel
theorem dX9_isSame_99 : decode cX9_isSame 99 = .ok (.iload 5, 2) := by decide +kernel
theorem dX9_isSame_101 : decode cX9_isSame 101 = .ok (.iaload, 1) := by decide +kernel
theorem dX9_isSame_102 : decode cX9_isSame 102 = .ok (.if_icmp .ge 66, 3) := by decide +kernel
theorem dX9_isSame_105 : decode cX9_isSame 105 = .ok (.iload 7, 2) := by decide +kernel
theorem dX9_isSame_107 : decode cX9_isSame 107 = .ok (.ifCond .eq 61, 3) := by decide +kernel
theorem dX9_isSame_110 : decode cX9_isSame 110 = .ok (.aload_n 0, 1) := by decide +kernel
theorem dX9_isSame_111 : decode cX9_isSame 111 = .ok (.getfield 39, 3) := by decide +kernel
theorem dX9_isSame_114 : decode cX9_isSame 114 = .ok (.sipush 8000, 3) := by decide +kernel
theorem dX9_isSame_117 : decode cX9_isSame 117 = .ok (.iload_n 1, 1) := by decide +kernel
theorem dX9_isSame_118 : decode cX9_isSame 118 = .ok (.imul, 1) := by decide +kernel
theorem dX9_isSame_119 : decode cX9_isSame 119 = .ok (.aload_n 0, 1) := by decide +kernel
theorem dX9_isSame_120 : decode cX9_isSame 120 = .ok (.getfield 28, 3) := by decide +kernel
theorem dX9_isSame_123 : decode cX9_isSame 123 = .ok (.iload 5, 2) := by decide +kernel
theorem dX9_isSame_125 : decode cX9_isSame 125 = .ok (.iaload, 1) := by decide +kernel
theorem dX9_isSame_126 : decode cX9_isSame 126 = .ok (.iadd, 1) := by decide +kernel
theorem dX9_isSame_127 : decode cX9_isSame 127 = .ok (.iload 8, 2) := by decide +kernel
theorem dX9_isSame_129 : decode cX9_isSame 129 = .ok (.iadd, 1) := by decide +kernel
theorem dX9_isSame_130 : decode cX9_isSame 130 = .ok (.iaload, 1) := by decide +kernel
theorem dX9_isSame_131 : decode cX9_isSame 131 = .ok (.aload_n 0, 1) := by decide +kernel
theorem dX9_isSame_132 : decode cX9_isSame 132 = .ok (.getfield 39, 3) := by decide +kernel
theorem dX9_isSame_135 : decode cX9_isSame 135 = .ok (.sipush 8000, 3) := by decide +kernel
theorem dX9_isSame_138 : decode cX9_isSame 138 = .ok (.iload_n 3, 1) := by decide +kernel
theorem dX9_isSame_139 : decode cX9_isSame 139 = .ok (.imul, 1) := by decide +kernel
theorem dX9_isSame_140 : decode cX9_isSame 140 = .ok (.aload_n 0, 1) := by decide +kernel
theorem dX9_isSame_141 : decode cX9_isSame 141 = .ok (.getfield 28, 3) := by decide +kernel
theorem dX9_isSame_144 : decode cX9_isSame 144 = .ok (.iload 6, 2) := by decide +kernel
theorem dX9_isSame_146 : decode cX9_isSame 146 = .ok (.iaload, 1) := by decide +kernel
theorem dX9_isSame_147 : decode cX9_isSame 147 = .ok (.iadd, 1) := by decide +kernel
theorem dX9_isSame_148 : decode cX9_isSame 148 = .ok (.iload 8, 2) := by decide +kernel
theorem dX9_isSame_150 : decode cX9_isSame 150 = .ok (.iadd, 1) := by decide +kernel
theorem dX9_isSame_151 : decode cX9_isSame 151 = .ok (.iaload, 1) := by decide +kernel
theorem dX9_isSame_152 : decode cX9_isSame 152 = .ok (.if_icmp .ne 7, 3) := by decide +kernel
theorem dX9_isSame_155 : decode cX9_isSame 155 = .ok (.iconst 1, 1) := by decide +kernel
theorem dX9_isSame_156 : decode cX9_isSame 156 = .ok (.goto 4, 3) := by decide +kernel
theorem dX9_isSame_159 : decode cX9_isSame 159 = .ok (.iconst 0, 1) := by decide +kernel
theorem dX9_isSame_160 : decode cX9_isSame 160 = .ok (.istore 7, 2) := by decide +kernel
theorem dX9_isSame_162 : decode cX9_isSame 162 = .ok (.iinc 8 1, 3) := by decide +kernel
theorem dX9_isSame_165 : decode cX9_isSame 165 = .ok (.goto (-72), 3) := by decide +kernel
theorem dX9_isSame_168 : decode cX9_isSame 168 = .ok (.iload 7, 2) := by decide +kernel
theorem dX9_isSame_170 : decode cX9_isSame 170 = .ok (.ireturn, 1) := by decide +kernel
set_option maxRecDepth 20000 in
theorem ggX9_join_X9_empty : GoodIn wsX9_join wsX9_empty := goodIn_r _ [6, 1, 7, 37, 38, 39, 40, 41, 42, 43, 44, 45, 46, 47, 48, 49, 50, 51, 52, 53, 54, 55, 56, 57, 58, 59, 60] (by decide +kernel) (by decide +kernel)
set_option maxRecDepth 20000 in
theorem gX9_join_X9_empty : GoodIn wsX9_join (wsV RX9 68 RX9 yX9_empty wsX9_empty) := goodIn_app (goodIn_of _ (by decide +kernel)) ggX9_join_X9_empty
set_option maxRecDepth 20000 in
theorem ggX9_join_X9_orderOf : GoodIn wsX9_join wsX9_orderOf := goodIn_r _ [11, 12, 13, 14, 15, 5, 16, 17, 18, 19, 20, 21, 22, 37, 38, 39, 40, 41, 42, 43, 44, 45, 46, 47, 48, 49, 50, 51, 52, 53, 54, 55, 56, 57, 58, 59, 60] (by decide +kernel) (by decide +kernel)
set_option maxRecDepth 20000 in
theorem gX9_join_X9_orderOf : GoodIn wsX9_join (wsV RX9 84 RX9 yX9_orderOf wsX9_orderOf) := goodIn_app (goodIn_of _ (by decide +kernel)) ggX9_join_X9_orderOf
set_option maxRecDepth 20000 in
theorem ggX9_join_X9_isSame : GoodIn wsX9_join wsX9_isSame := goodIn_r _ [26, 27, 28, 29, 30, 31, 32, 14, 15, 5, 16, 37, 38, 39, 40, 41, 42, 43, 44, 45, 46, 47, 48, 49, 50, 51, 52, 53, 54, 55, 56, 57, 58, 59, 60] (by decide +kernel) (by decide +kernel)
set_option maxRecDepth 20000 in
theorem gX9_join_X9_isSame : GoodIn wsX9_join (wsV RX9 88 RX9 yX9_isSame wsX9_isSame) := goodIn_app (goodIn_of _ (by decide +kernel)) ggX9_join_X9_isSame
set_option maxRecDepth 20000 in
theorem ggX9_join_X9_append : GoodIn wsX9_join wsX9_append := goodIn_r _ [36, 1, 27, 28, 29, 13, 12, 30, 32, 7, 31, 14, 15, 5, 16, 37, 38, 39, 40, 41, 42, 43, 44, 45, 46, 47, 48, 49, 50, 51, 52, 53, 54, 55, 56, 57, 58, 59, 60] (by decide +kernel) (by decide +kernel)
set_option maxRecDepth 20000 in
theorem gX9_join_X9_append : GoodIn wsX9_join (wsV RX9 72 RX9 yX9_append wsX9_append) := goodIn_app (goodIn_of _ (by decide +kernel)) ggX9_join_X9_append
theorem dX9_join_0 : decode cX9_join 0 = .ok (.iload 4, 2) := by decide +kernel
theorem dX9_join_2 : decode cX9_join 2 = .ok (.ifCond .lt 9, 3) := by decide +kernel
theorem dX9_join_5 : decode cX9_join 5 = .ok (.aload_n 0, 1) := by decide +kernel
theorem dX9_join_6 : decode cX9_join 6 = .ok (.iload 4, 2) := by decide +kernel
theorem dX9_join_8 : decode cX9_join 8 = .ok (.invokevirtual 68, 3) := by decide +kernel
theorem dX9_join_11 : decode cX9_join 11 = .ok (.iconst 0, 1) := by decide +kernel
theorem dX9_join_12 : decode cX9_join 12 = .ok (.istore 5, 2) := by decide +kernel
theorem dX9_join_14 : decode cX9_join 14 = .ok (.iconst 0, 1) := by decide +kernel
theorem dX9_join_15 : decode cX9_join 15 = .ok (.istore 6, 2) := by decide +kernel
theorem dX9_join_17 : decode cX9_join 17 = .ok (.iconst 0, 1) := by decide +kernel
theorem dX9_join_18 : decode cX9_join 18 = .ok (.istore 7, 2) := by decide +kernel
theorem dX9_join_20 : decode cX9_join 20 = .ok (.iload 5, 2) := by decide +kernel
theorem dX9_join_22 : decode cX9_join 22 = .ok (.aload_n 0, 1) := by decide +kernel
theorem dX9_join_23 : decode cX9_join 23 = .ok (.getfield 7, 3) := by decide +kernel
theorem dX9_join_26 : decode cX9_join 26 = .ok (.iload_n 1, 1) := by decide +kernel
theorem dX9_join_27 : decode cX9_join 27 = .ok (.iaload, 1) := by decide +kernel
theorem dX9_join_28 : decode cX9_join 28 = .ok (.if_icmp .lt 14, 3) := by decide +kernel
theorem dX9_join_31 : decode cX9_join 31 = .ok (.iload 6, 2) := by decide +kernel
theorem dX9_join_33 : decode cX9_join 33 = .ok (.aload_n 0, 1) := by decide +kernel
theorem dX9_join_34 : decode cX9_join 34 = .ok (.getfield 7, 3) := by decide +kernel
theorem dX9_join_37 : decode cX9_join 37 = .ok (.iload_n 2, 1) := by decide +kernel
theorem dX9_join_38 : decode cX9_join 38 = .ok (.iaload, 1) := by decide +kernel
theorem dX9_join_39 : decode cX9_join 39 = .ok (.if_icmp .ge 184, 3) := by decide +kernel
theorem dX9_join_42 : decode cX9_join 42 = .ok (.iload 5, 2) := by decide +kernel
theorem dX9_join_44 : decode cX9_join 44 = .ok (.aload_n 0, 1) := by decide +kernel
theorem dX9_join_45 : decode cX9_join 45 = .ok (.getfield 7, 3) := by decide +kernel
theorem dX9_join_48 : decode cX9_join 48 = .ok (.iload_n 1, 1) := by decide +kernel
theorem dX9_join_49 : decode cX9_join 49 = .ok (.iaload, 1) := by decide +kernel
theorem dX9_join_50 : decode cX9_join 50 = .ok (.if_icmp .ne 7, 3) := by decide +kernel
theorem dX9_join_53 : decode cX9_join 53 = .ok (.iconst 1, 1) := by decide +kernel
theorem dX9_join_54 : decode cX9_join 54 = .ok (.goto 28, 3) := by decide +kernel
theorem dX9_join_57 : decode cX9_join 57 = .ok (.iload 6, 2) := by decide +kernel
theorem dX9_join_59 : decode cX9_join 59 = .ok (.aload_n 0, 1) := by decide +kernel
theorem dX9_join_60 : decode cX9_join 60 = .ok (.getfield 7, 3) := by decide +kernel
theorem dX9_join_63 : decode cX9_join 63 = .ok (.iload_n 2, 1) := by decide +kernel
theorem dX9_join_64 : decode cX9_join 64 = .ok (.iaload, 1) := by decide +kernel
theorem dX9_join_65 : decode cX9_join 65 = .ok (.if_icmp .ne 7, 3) := by decide +kernel
theorem dX9_join_68 : decode cX9_join 68 = .ok (.iconst (-1), 1) := by decide +kernel
theorem dX9_join_69 : decode cX9_join 69 = .ok (.goto 13, 3) := by decide +kernel
theorem dX9_join_72 : decode cX9_join 72 = .ok (.aload_n 0, 1) := by decide +kernel
theorem dX9_join_73 : decode cX9_join 73 = .ok (.iload_n 1, 1) := by decide +kernel
theorem dX9_join_74 : decode cX9_join 74 = .ok (.iload 5, 2) := by decide +kernel
theorem dX9_join_76 : decode cX9_join 76 = .ok (.iload_n 2, 1) := by decide +kernel
theorem dX9_join_77 : decode cX9_join 77 = .ok (.iload 6, 2) := by decide +kernel
theorem dX9_join_79 : decode cX9_join 79 = .ok (.invokevirtual 84, 3) := by decide +kernel
theorem dX9_join_82 : decode cX9_join 82 = .ok (.istore 8, 2) := by decide +kernel
theorem dX9_join_84 : decode cX9_join 84 = .ok (.iload 8, 2) := by decide +kernel
theorem dX9_join_86 : decode cX9_join 86 = .ok (.ifCond .ne 16, 3) := by decide +kernel
theorem dX9_join_89 : decode cX9_join 89 = .ok (.aload_n 0, 1) := by decide +kernel
theorem dX9_join_90 : decode cX9_join 90 = .ok (.iload_n 1, 1) := by decide +kernel
theorem dX9_join_91 : decode cX9_join 91 = .ok (.iload 5, 2) := by decide +kernel
theorem dX9_join_93 : decode cX9_join 93 = .ok (.iload_n 2, 1) := by decide +kernel
theorem dX9_join_94 : decode cX9_join 94 = .ok (.iload 6, 2) := by decide +kernel
theorem dX9_join_96 : decode cX9_join 96 = .ok (.invokevirtual 88, 3) := by decide +kernel
theorem dX9_join_99 : decode cX9_join 99 = .ok (.ifCond .ne 7, 3) := by decide +kernel
theorem dX9_join_102 : decode cX9_join 102 = .ok (.iconst 1, 1) := by decide +kernel
theorem dX9_join_103 : decode cX9_join 103 = .ok (.goto 4, 3) := by decide +kernel
theorem dX9_join_106 : decode cX9_join 106 = .ok (.iconst 0, 1) := by decide +kernel
theorem dX9_join_107 : decode cX9_join 107 = .ok (.istore 9, 2) := by decide +kernel
theorem dX9_join_109 : decode cX9_join 109 = .ok (.iload 9, 2) := by decide +kernel
theorem dX9_join_111 : decode cX9_join 111 = .ok (.ifCond .eq 13, 3) := by decide +kernel
theorem dX9_join_114 : decode cX9_join 114 = .ok (.iload 7, 2) := by decide +kernel
theorem dX9_join_116 : decode cX9_join 116 = .ok (.iload_n 3, 1) := by decide +kernel
theorem dX9_join_117 : decode cX9_join 117 = .ok (.if_icmp .ge 7, 3) := by decide +kernel
theorem dX9_join_120 : decode cX9_join 120 = .ok (.iconst 1, 1) := by decide +kernel
theorem dX9_join_121 : decode cX9_join 121 = .ok (.goto 4, 3) := by decide +kernel
theorem dX9_join_124 : decode cX9_join 124 = .ok (.iconst 0, 1) := by decide +kernel
theorem dX9_join_125 : decode cX9_join 125 = .ok (.istore 10, 2) := by decide +kernel
theorem dX9_join_127 : decode cX9_join 127 = .ok (.iload 4, 2) := by decide +kernel
theorem dX9_join_129 : decode cX9_join 129 = .ok (.ifCond .lt 22, 3) := by decide +kernel
theorem dX9_join_132 : decode cX9_join 132 = .ok (.iload 10, 2) := by decide +kernel
theorem dX9_join_134 : decode cX9_join 134 = .ok (.ifCond .eq 17, 3) := by decide +kernel
theorem dX9_join_137 : decode cX9_join 137 = .ok (.iload 8, 2) := by decide +kernel
theorem dX9_join_139 : decode cX9_join 139 = .ok (.ifCond .lt 12, 3) := by decide +kernel
theorem dX9_join_142 : decode cX9_join 142 = .ok (.aload_n 0, 1) := by decide +kernel
theorem dX9_join_143 : decode cX9_join 143 = .ok (.iload_n 2, 1) := by decide +kernel
theorem dX9_join_144 : decode cX9_join 144 = .ok (.iload 6, 2) := by decide +kernel
theorem dX9_join_146 : decode cX9_join 146 = .ok (.iload 4, 2) := by decide +kernel
theorem dX9_join_148 : decode cX9_join 148 = .ok (.invokevirtual 72, 3) := by decide +kernel
theorem dX9_join_151 : decode cX9_join 151 = .ok (.iload 4, 2) := by decide +kernel
theorem dX9_join_153 : decode cX9_join 153 = .ok (.ifCond .lt 22, 3) := by decide +kernel
theorem dX9_join_156 : decode cX9_join 156 = .ok (.iload 10, 2) := by decide +kernel
theorem dX9_join_158 : decode cX9_join 158 = .ok (.ifCond .ne 17, 3) := by decide +kernel
theorem dX9_join_161 : decode cX9_join 161 = .ok (.iload 8, 2) := by decide +kernel
theorem dX9_join_163 : decode cX9_join 163 = .ok (.ifCond .gt 12, 3) := by decide +kernel
theorem dX9_join_166 : decode cX9_join 166 = .ok (.aload_n 0, 1) := by decide +kernel
theorem dX9_join_167 : decode cX9_join 167 = .ok (.iload_n 1, 1) := by decide +kernel
theorem dX9_join_168 : decode cX9_join 168 = .ok (.iload 5, 2) := by decide +kernel
theorem dX9_join_170 : decode cX9_join 170 = .ok (.iload 4, 2) := by decide +kernel
theorem dX9_join_172 : decode cX9_join 172 = .ok (.invokevirtual 72, 3) := by decide +kernel
theorem dX9_join_175 : decode cX9_join 175 = .ok (.iload 7, 2) := by decide +kernel
theorem dX9_join_177 : decode cX9_join 177 = .ok (.iload 9, 2) := by decide +kernel
theorem dX9_join_179 : decode cX9_join 179 = .ok (.ifCond .eq 7, 3) := by decide +kernel
theorem dX9_join_182 : decode cX9_join 182 = .ok (.iconst 1, 1) := by decide +kernel
theorem dX9_join_183 : decode cX9_join 183 = .ok (.goto 4, 3) := by decide +kernel
theorem dX9_join_186 : decode cX9_join 186 = .ok (.iconst 0, 1) := by decide +kernel
theorem dX9_join_187 : decode cX9_join 187 = .ok (.iadd, 1) := by decide +kernel
theorem dX9_join_188 : decode cX9_join 188 = .ok (.istore 7, 2) := by decide +kernel
theorem dX9_join_190 : decode cX9_join 190 = .ok (.iload 5, 2) := by decide +kernel
theorem dX9_join_192 : decode cX9_join 192 = .ok (.iload 8, 2) := by decide +kernel
theorem dX9_join_194 : decode cX9_join 194 = .ok (.ifCond .gt 7, 3) := by decide +kernel
theorem dX9_join_197 : decode cX9_join 197 = .ok (.iconst 1, 1) := by decide +kernel
theorem dX9_join_198 : decode cX9_join 198 = .ok (.goto 4, 3) := by decide +kernel
theorem dX9_join_201 : decode cX9_join 201 = .ok (.iconst 0, 1) := by decide +kernel
theorem dX9_join_202 : decode cX9_join 202 = .ok (.iadd, 1) := by decide +kernel
theorem dX9_join_203 : decode cX9_join 203 = .ok (.istore 5, 2) := by decide +kernel
theorem dX9_join_205 : decode cX9_join 205 = .ok (.iload 6, 2) := by decide +kernel
theorem dX9_join_207 : decode cX9_join 207 = .ok (.iload 8, 2) := by decide +kernel
theorem dX9_join_209 : decode cX9_join 209 = .ok (.ifCond .lt 7, 3) := by decide +kernel
theorem dX9_join_212 : decode cX9_join 212 = .ok (.iconst 1, 1) := by decide +kernel
theorem dX9_join_213 : decode cX9_join 213 = .ok (.goto 4, 3) := by decide +kernel
theorem dX9_join_216 : decode cX9_join 216 = .ok (.iconst 0, 1) := by decide +kernel
theorem dX9_join_217 : decode cX9_join 217 = .ok (.iadd, 1) := by decide +kernel
theorem dX9_join_218 : decode cX9_join 218 = .ok (.istore 6, 2) := by decide +kernel
theorem dX9_join_220 : decode cX9_join 220 = .ok (.goto (-200), 3) := by decide +kernel
theorem dX9_join_223 : decode cX9_join 223 = .ok (.iload 7, 2) := by decide +kernel
theorem dX9_join_225 : decode cX9_join 225 = .ok (.ireturn, 1) := by decide +kernel
theorem dX9_isName_0 : decode cX9_isName 0 = .ok (.iload_n 2, 1) := by decide +kernel
theorem dX9_isName_1 : decode cX9_isName 1 = .ok (.iconst 1, 1) := by decide +kernel
theorem dX9_isName_2 : decode cX9_isName 2 = .ok (.if_icmp .lt 9, 3) := by decide +kernel
theorem dX9_isName_5 : decode cX9_isName 5 = .ok (.iload_n 2, 1) := by decide +kernel
theorem dX9_isName_6 : decode cX9_isName 6 = .ok (.bipush 24, 2) := by decide +kernel
theorem dX9_isName_8 : decode cX9_isName 8 = .ok (.if_icmp .le 5, 3) := by decide +kernel
theorem dX9_isName_11 : decode cX9_isName 11 = .ok (.iconst 0, 1) := by decide +kernel
theorem dX9_isName_12 : decode cX9_isName 12 = .ok (.ireturn, 1) := by decide +kernel
theorem dX9_isName_13 : decode cX9_isName 13 = .ok (.aload_n 0, 1) := by decide +kernel
theorem dX9_isName_14 : decode cX9_isName 14 = .ok (.iload_n 1, 1) := by decide +kernel
theorem dX9_isName_15 : decode cX9_isName 15 = .ok (.iaload, 1) := by decide +kernel
theorem dX9_isName_16 : decode cX9_isName 16 = .ok (.bipush 46, 2) := by decide +kernel
theorem dX9_isName_18 : decode cX9_isName 18 = .ok (.if_icmp .ne 27, 3) := by decide +kernel
theorem dX9_isName_21 : decode cX9_isName 21 = .ok (.iload_n 2, 1) := by decide +kernel
theorem dX9_isName_22 : decode cX9_isName 22 = .ok (.iconst 1, 1) := by decide +kernel
theorem dX9_isName_23 : decode cX9_isName 23 = .ok (.if_icmp .eq 18, 3) := by decide +kernel
theorem dX9_isName_26 : decode cX9_isName 26 = .ok (.iload_n 2, 1) := by decide +kernel
theorem dX9_isName_27 : decode cX9_isName 27 = .ok (.iconst 2, 1) := by decide +kernel
theorem dX9_isName_28 : decode cX9_isName 28 = .ok (.if_icmp .ne 17, 3) := by decide +kernel
theorem dX9_isName_31 : decode cX9_isName 31 = .ok (.aload_n 0, 1) := by decide +kernel
theorem dX9_isName_32 : decode cX9_isName 32 = .ok (.iload_n 1, 1) := by decide +kernel
theorem dX9_isName_33 : decode cX9_isName 33 = .ok (.iconst 1, 1) := by decide +kernel
theorem dX9_isName_34 : decode cX9_isName 34 = .ok (.iadd, 1) := by decide +kernel
theorem dX9_isName_35 : decode cX9_isName 35 = .ok (.iaload, 1) := by decide +kernel
theorem dX9_isName_36 : decode cX9_isName 36 = .ok (.bipush 46, 2) := by decide +kernel
theorem dX9_isName_38 : decode cX9_isName 38 = .ok (.if_icmp .ne 7, 3) := by decide +kernel
theorem dX9_isName_41 : decode cX9_isName 41 = .ok (.iconst 1, 1) := by decide +kernel
theorem dX9_isName_42 : decode cX9_isName 42 = .ok (.goto 4, 3) := by decide +kernel
theorem dX9_isName_45 : decode cX9_isName 45 = .ok (.iconst 0, 1) := by decide +kernel
theorem dX9_isName_46 : decode cX9_isName 46 = .ok (.istore_n 3, 1) := by decide +kernel
theorem dX9_isName_47 : decode cX9_isName 47 = .ok (.iconst 0, 1) := by decide +kernel
theorem dX9_isName_48 : decode cX9_isName 48 = .ok (.istore 4, 2) := by decide +kernel
theorem dX9_isName_50 : decode cX9_isName 50 = .ok (.iconst 0, 1) := by decide +kernel
theorem dX9_isName_51 : decode cX9_isName 51 = .ok (.istore 5, 2) := by decide +kernel
theorem dX9_isName_53 : decode cX9_isName 53 = .ok (.iload 5, 2) := by decide +kernel
theorem dX9_isName_55 : decode cX9_isName 55 = .ok (.iload_n 2, 1) := by decide +kernel
theorem dX9_isName_56 : decode cX9_isName 56 = .ok (.if_icmp .ge 30, 3) := by decide +kernel
theorem dX9_isName_59 : decode cX9_isName 59 = .ok (.iload 4, 2) := by decide +kernel
theorem dX9_isName_61 : decode cX9_isName 61 = .ok (.ifCond .ne 12, 3) := by decide +kernel
theorem dX9_isName_64 : decode cX9_isName 64 = .ok (.aload_n 0, 1) := by decide +kernel
theorem dX9_isName_65 : decode cX9_isName 65 = .ok (.iload_n 1, 1) := by decide +kernel
theorem dX9_isName_66 : decode cX9_isName 66 = .ok (.iload 5, 2) := by decide +kernel
theorem dX9_isName_68 : decode cX9_isName 68 = .ok (.iadd, 1) := by decide +kernel
theorem dX9_isName_69 : decode cX9_isName 69 = .ok (.iaload, 1) := by decide +kernel
theorem dX9_isName_70 : decode cX9_isName 70 = .ok (.ifCond .ne 7, 3) := by decide +kernel
theorem dX9_isName_73 : decode cX9_isName 73 = .ok (.iconst 1, 1) := by decide +kernel
theorem dX9_isName_74 : decode cX9_isName 74 = .ok (.goto 4, 3) := by decide +kernel
theorem dX9_isName_77 : decode cX9_isName 77 = .ok (.iconst 0, 1) := by decide +kernel
theorem dX9_isName_78 : decode cX9_isName 78 = .ok (.istore 4, 2) := by decide +kernel
theorem dX9_isName_80 : decode cX9_isName 80 = .ok (.iinc 5 1, 3) := by decide +kernel
theorem dX9_isName_83 : decode cX9_isName 83 = .ok (.goto (-30), 3) := by decide +kernel
theorem dX9_isName_86 : decode cX9_isName 86 = .ok (.iload_n 3, 1) := by decide +kernel
theorem dX9_isName_87 : decode cX9_isName 87 = .ok (.ifCond .ne 12, 3) := by decide +kernel
theorem dX9_isName_90 : decode cX9_isName 90 = .ok (.iload 4, 2) := by decide +kernel
theorem dX9_isName_92 : decode cX9_isName 92 = .ok (.ifCond .ne 7, 3) := by decide +kernel
theorem dX9_isName_95 : decode cX9_isName 95 = .ok (.iconst 1, 1) := by decide +kernel
theorem dX9_isName_96 : decode cX9_isName 96 = .ok (.goto 4, 3) := by decide +kernel
theorem dX9_isName_99 : decode cX9_isName 99 = .ok (.iconst 0, 1) := by decide +kernel
theorem dX9_isName_100 : decode cX9_isName 100 = .ok (.ireturn, 1) := by decide +kernel
set_option maxRecDepth 20000 in
theorem ggX9_isPath_X9_isName : GoodIn wsX9_isPath wsX9_isName := goodIn_r _ [5] (by decide +kernel) (by decide +kernel)
set_option maxRecDepth 20000 in
theorem gX9_isPath_X9_isName : GoodIn wsX9_isPath (va_wsS RX9 92 yX9_isName wsX9_isName) := goodIn_app (goodIn_of _ (by decide +kernel)) ggX9_isPath_X9_isName
theorem dX9_isPath_0 : decode cX9_isPath 0 = .ok (.iconst 0, 1) := by decide +kernel
theorem dX9_isPath_1 : decode cX9_isPath 1 = .ok (.istore_n 2, 1) := by decide +kernel
theorem dX9_isPath_2 : decode cX9_isPath 2 = .ok (.iconst 0, 1) := by decide +kernel
theorem dX9_isPath_3 : decode cX9_isPath 3 = .ok (.istore_n 3, 1) := by decide +kernel
theorem dX9_isPath_4 : decode cX9_isPath 4 = .ok (.iconst 1, 1) := by decide +kernel
theorem dX9_isPath_5 : decode cX9_isPath 5 = .ok (.istore 4, 2) := by decide +kernel
theorem dX9_isPath_7 : decode cX9_isPath 7 = .ok (.iconst 0, 1) := by decide +kernel
theorem dX9_isPath_8 : decode cX9_isPath 8 = .ok (.istore 5, 2) := by decide +kernel
theorem dX9_isPath_10 : decode cX9_isPath 10 = .ok (.iload 5, 2) := by decide +kernel
theorem dX9_isPath_12 : decode cX9_isPath 12 = .ok (.iload_n 1, 1) := by decide +kernel
theorem dX9_isPath_13 : decode cX9_isPath 13 = .ok (.if_icmp .gt 57, 3) := by decide +kernel
theorem dX9_isPath_16 : decode cX9_isPath 16 = .ok (.iload 4, 2) := by decide +kernel
theorem dX9_isPath_18 : decode cX9_isPath 18 = .ok (.ifCond .eq 52, 3) := by decide +kernel
theorem dX9_isPath_21 : decode cX9_isPath 21 = .ok (.iload 5, 2) := by decide +kernel
theorem dX9_isPath_23 : decode cX9_isPath 23 = .ok (.iload_n 1, 1) := by decide +kernel
theorem dX9_isPath_24 : decode cX9_isPath 24 = .ok (.if_icmp .ge 18, 3) := by decide +kernel
theorem dX9_isPath_27 : decode cX9_isPath 27 = .ok (.aload_n 0, 1) := by decide +kernel
theorem dX9_isPath_28 : decode cX9_isPath 28 = .ok (.getfield 45, 3) := by decide +kernel
theorem dX9_isPath_31 : decode cX9_isPath 31 = .ok (.iload 5, 2) := by decide +kernel
theorem dX9_isPath_33 : decode cX9_isPath 33 = .ok (.iaload, 1) := by decide +kernel
theorem dX9_isPath_34 : decode cX9_isPath 34 = .ok (.bipush 47, 2) := by decide +kernel
theorem dX9_isPath_36 : decode cX9_isPath 36 = .ok (.if_icmp .eq 6, 3) := by decide +kernel
theorem dX9_isPath_39 : decode cX9_isPath 39 = .ok (.goto 25, 3) := by decide +kernel
theorem dX9_isPath_42 : decode cX9_isPath 42 = .ok (.aload_n 0, 1) := by decide +kernel
theorem dX9_isPath_43 : decode cX9_isPath 43 = .ok (.getfield 45, 3) := by decide +kernel
theorem dX9_isPath_46 : decode cX9_isPath 46 = .ok (.iload_n 3, 1) := by decide +kernel
theorem dX9_isPath_47 : decode cX9_isPath 47 = .ok (.iload 5, 2) := by decide +kernel
theorem dX9_isPath_49 : decode cX9_isPath 49 = .ok (.iload_n 3, 1) := by decide +kernel
theorem dX9_isPath_50 : decode cX9_isPath 50 = .ok (.isub, 1) := by decide +kernel
theorem dX9_isPath_51 : decode cX9_isPath 51 = .ok (.invokestatic 92, 3) := by decide +kernel
theorem dX9_isPath_54 : decode cX9_isPath 54 = .ok (.istore 4, 2) := by decide +kernel
theorem dX9_isPath_56 : decode cX9_isPath 56 = .ok (.iinc 2 1, 3) := by decide +kernel
theorem dX9_isPath_59 : decode cX9_isPath 59 = .ok (.iload 5, 2) := by decide +kernel
theorem dX9_isPath_61 : decode cX9_isPath 61 = .ok (.iconst 1, 1) := by decide +kernel
theorem dX9_isPath_62 : decode cX9_isPath 62 = .ok (.iadd, 1) := by decide +kernel
theorem dX9_isPath_63 : decode cX9_isPath 63 = .ok (.istore_n 3, 1) := by decide +kernel
theorem dX9_isPath_64 : decode cX9_isPath 64 = .ok (.iinc 5 1, 3) := by decide +kernel
theorem dX9_isPath_67 : decode cX9_isPath 67 = .ok (.goto (-57), 3) := by decide +kernel
theorem dX9_isPath_70 : decode cX9_isPath 70 = .ok (.iload 4, 2) := by decide +kernel
theorem dX9_isPath_72 : decode cX9_isPath 72 = .ok (.ifCond .eq 13, 3) := by decide +kernel
theorem dX9_isPath_75 : decode cX9_isPath 75 = .ok (.iload_n 2, 1) := by decide +kernel
theorem dX9_isPath_76 : decode cX9_isPath 76 = .ok (.bipush 6, 2) := by decide +kernel
theorem dX9_isPath_78 : decode cX9_isPath 78 = .ok (.if_icmp .gt 7, 3) := by decide +kernel
theorem dX9_isPath_81 : decode cX9_isPath 81 = .ok (.iconst 1, 1) := by decide +kernel
theorem dX9_isPath_82 : decode cX9_isPath 82 = .ok (.goto 4, 3) := by decide +kernel
theorem dX9_isPath_85 : decode cX9_isPath 85 = .ok (.iconst 0, 1) := by decide +kernel
theorem dX9_isPath_86 : decode cX9_isPath 86 = .ok (.ireturn, 1) := by decide +kernel
theorem dX9_chooseTape_0 : decode cX9_chooseTape 0 = .ok (.aload_n 0, 1) := by decide +kernel
theorem dX9_chooseTape_1 : decode cX9_chooseTape 1 = .ok (.iconst 1, 1) := by decide +kernel
theorem dX9_chooseTape_2 : decode cX9_chooseTape 2 = .ok (.putfield 96, 3) := by decide +kernel
theorem dX9_chooseTape_5 : decode cX9_chooseTape 5 = .ok (.aload_n 0, 1) := by decide +kernel
theorem dX9_chooseTape_6 : decode cX9_chooseTape 6 = .ok (.iload_n 1, 1) := by decide +kernel
theorem dX9_chooseTape_7 : decode cX9_chooseTape 7 = .ok (.putfield 100, 3) := by decide +kernel
theorem dX9_chooseTape_10 : decode cX9_chooseTape 10 = .ok (.iconst 0, 1) := by decide +kernel
theorem dX9_chooseTape_11 : decode cX9_chooseTape 11 = .ok (.istore_n 2, 1) := by decide +kernel
theorem dX9_chooseTape_12 : decode cX9_chooseTape 12 = .ok (.iload_n 2, 1) := by decide +kernel
theorem dX9_chooseTape_13 : decode cX9_chooseTape 13 = .ok (.iload_n 1, 1) := by decide +kernel
theorem dX9_chooseTape_14 : decode cX9_chooseTape 14 = .ok (.if_icmp .ge 21, 3) := by decide +kernel
theorem dX9_chooseTape_17 : decode cX9_chooseTape 17 = .ok (.aload_n 0, 1) := by decide +kernel
theorem dX9_chooseTape_18 : decode cX9_chooseTape 18 = .ok (.getfield 54, 3) := by decide +kernel
theorem dX9_chooseTape_21 : decode cX9_chooseTape 21 = .ok (.iload_n 2, 1) := by decide +kernel
theorem dX9_chooseTape_22 : decode cX9_chooseTape 22 = .ok (.aload_n 0, 1) := by decide +kernel
theorem dX9_chooseTape_23 : decode cX9_chooseTape 23 = .ok (.getfield 45, 3) := by decide +kernel
theorem dX9_chooseTape_26 : decode cX9_chooseTape 26 = .ok (.iload_n 2, 1) := by decide +kernel
theorem dX9_chooseTape_27 : decode cX9_chooseTape 27 = .ok (.iaload, 1) := by decide +kernel
theorem dX9_chooseTape_28 : decode cX9_chooseTape 28 = .ok (.iastore, 1) := by decide +kernel
theorem dX9_chooseTape_29 : decode cX9_chooseTape 29 = .ok (.iinc 2 1, 3) := by decide +kernel
theorem dX9_chooseTape_32 : decode cX9_chooseTape 32 = .ok (.goto (-20), 3) := by decide +kernel
theorem dX9_chooseTape_35 : decode cX9_chooseTape 35 = .ok (.return_, 1) := by decide +kernel
set_option maxRecDepth 20000 in
theorem ggX9_hasDirectory_X9_find : GoodIn wsX9_hasDirectory wsX9_find := goodIn_r _ [7, 8, 9, 10, 11, 12, 6, 13, 14, 15, 16, 17, 18, 19, 20, 21, 22, 23, 24, 25, 26, 27, 28, 29, 30, 31, 32, 33, 34, 35, 36, 37, 38, 39, 40, 41, 42, 43] (by decide +kernel) (by decide +kernel)
set_option maxRecDepth 20000 in
theorem gX9_hasDirectory_X9_find : GoodIn wsX9_hasDirectory (wsV RX9 103 RX9 yX9_find wsX9_find) := goodIn_app (goodIn_of _ (by decide +kernel)) ggX9_hasDirectory_X9_find
set_option maxRecDepth 20000 in
theorem ggX9_hasDirectory_X9_place : GoodIn wsX9_hasDirectory wsX9_place := goodIn_r _ [13] (by decide +kernel) (by decide +kernel)
set_option maxRecDepth 20000 in
theorem gX9_hasDirectory_X9_place : GoodIn wsX9_hasDirectory (va_wsS RX9 64 yX9_place wsX9_place) := goodIn_app (goodIn_of _ (by decide +kernel)) ggX9_hasDirectory_X9_place
theorem dX9_hasDirectory_0 : decode cX9_hasDirectory 0 = .ok (.iload_n 1, 1) := by decide +kernel
theorem dX9_hasDirectory_1 : decode cX9_hasDirectory 1 = .ok (.iconst 1, 1) := by decide +kernel
theorem dX9_hasDirectory_2 : decode cX9_hasDirectory 2 = .ok (.isub, 1) := by decide +kernel
theorem dX9_hasDirectory_3 : decode cX9_hasDirectory 3 = .ok (.istore_n 2, 1) := by decide +kernel
theorem dX9_hasDirectory_4 : decode cX9_hasDirectory 4 = .ok (.iload_n 2, 1) := by decide +kernel
theorem dX9_hasDirectory_5 : decode cX9_hasDirectory 5 = .ok (.ifCond .lt 20, 3) := by decide +kernel
theorem dX9_hasDirectory_8 : decode cX9_hasDirectory 8 = .ok (.aload_n 0, 1) := by decide +kernel
theorem dX9_hasDirectory_9 : decode cX9_hasDirectory 9 = .ok (.getfield 45, 3) := by decide +kernel
theorem dX9_hasDirectory_12 : decode cX9_hasDirectory 12 = .ok (.iload_n 2, 1) := by decide +kernel
theorem dX9_hasDirectory_13 : decode cX9_hasDirectory 13 = .ok (.iaload, 1) := by decide +kernel
theorem dX9_hasDirectory_14 : decode cX9_hasDirectory 14 = .ok (.bipush 47, 2) := by decide +kernel
theorem dX9_hasDirectory_16 : decode cX9_hasDirectory 16 = .ok (.if_icmp .eq 9, 3) := by decide +kernel
theorem dX9_hasDirectory_19 : decode cX9_hasDirectory 19 = .ok (.iinc 2 (-1), 3) := by decide +kernel
theorem dX9_hasDirectory_22 : decode cX9_hasDirectory 22 = .ok (.goto (-18), 3) := by decide +kernel
theorem dX9_hasDirectory_25 : decode cX9_hasDirectory 25 = .ok (.iload_n 2, 1) := by decide +kernel
theorem dX9_hasDirectory_26 : decode cX9_hasDirectory 26 = .ok (.ifCond .ge 5, 3) := by decide +kernel
theorem dX9_hasDirectory_29 : decode cX9_hasDirectory 29 = .ok (.iconst 1, 1) := by decide +kernel
theorem dX9_hasDirectory_30 : decode cX9_hasDirectory 30 = .ok (.ireturn, 1) := by decide +kernel
theorem dX9_hasDirectory_31 : decode cX9_hasDirectory 31 = .ok (.aload_n 0, 1) := by decide +kernel
theorem dX9_hasDirectory_32 : decode cX9_hasDirectory 32 = .ok (.iconst 0, 1) := by decide +kernel
theorem dX9_hasDirectory_33 : decode cX9_hasDirectory 33 = .ok (.aload_n 0, 1) := by decide +kernel
theorem dX9_hasDirectory_34 : decode cX9_hasDirectory 34 = .ok (.getfield 45, 3) := by decide +kernel
theorem dX9_hasDirectory_37 : decode cX9_hasDirectory 37 = .ok (.iload_n 2, 1) := by decide +kernel
theorem dX9_hasDirectory_38 : decode cX9_hasDirectory 38 = .ok (.invokevirtual 103, 3) := by decide +kernel
theorem dX9_hasDirectory_41 : decode cX9_hasDirectory 41 = .ok (.istore_n 3, 1) := by decide +kernel
theorem dX9_hasDirectory_42 : decode cX9_hasDirectory 42 = .ok (.iload_n 3, 1) := by decide +kernel
theorem dX9_hasDirectory_43 : decode cX9_hasDirectory 43 = .ok (.ifCond .lt 21, 3) := by decide +kernel
theorem dX9_hasDirectory_46 : decode cX9_hasDirectory 46 = .ok (.aload_n 0, 1) := by decide +kernel
theorem dX9_hasDirectory_47 : decode cX9_hasDirectory 47 = .ok (.getfield 16, 3) := by decide +kernel
theorem dX9_hasDirectory_50 : decode cX9_hasDirectory 50 = .ok (.iconst 0, 1) := by decide +kernel
theorem dX9_hasDirectory_51 : decode cX9_hasDirectory 51 = .ok (.iload_n 3, 1) := by decide +kernel
theorem dX9_hasDirectory_52 : decode cX9_hasDirectory 52 = .ok (.invokestatic 64, 3) := by decide +kernel
theorem dX9_hasDirectory_55 : decode cX9_hasDirectory 55 = .ok (.iaload, 1) := by decide +kernel
theorem dX9_hasDirectory_56 : decode cX9_hasDirectory 56 = .ok (.iconst 2, 1) := by decide +kernel
theorem dX9_hasDirectory_57 : decode cX9_hasDirectory 57 = .ok (.if_icmp .ne 7, 3) := by decide +kernel
theorem dX9_hasDirectory_60 : decode cX9_hasDirectory 60 = .ok (.iconst 1, 1) := by decide +kernel
theorem dX9_hasDirectory_61 : decode cX9_hasDirectory 61 = .ok (.goto 4, 3) := by decide +kernel
theorem dX9_hasDirectory_64 : decode cX9_hasDirectory 64 = .ok (.iconst 0, 1) := by decide +kernel
theorem dX9_hasDirectory_65 : decode cX9_hasDirectory 65 = .ok (.ireturn, 1) := by decide +kernel
set_option maxRecDepth 20000 in
theorem ggX9_make_X9_isPath : GoodIn wsX9_make wsX9_isPath := goodIn_r _ [18, 4, 19, 20, 17, 21, 59, 60, 61, 62, 63, 64, 65, 66, 67, 68, 69, 70, 71, 72, 73, 74, 75, 76, 77, 78, 79, 80, 81, 82] (by decide +kernel) (by decide +kernel)
set_option maxRecDepth 20000 in
theorem gX9_make_X9_isPath : GoodIn wsX9_make (wsV RX9 110 RX9 yX9_isPath wsX9_isPath) := goodIn_app (goodIn_of _ (by decide +kernel)) ggX9_make_X9_isPath
set_option maxRecDepth 20000 in
theorem ggX9_make_X9_find : GoodIn wsX9_make wsX9_find := goodIn_r _ [25, 5, 6, 7, 26, 27, 17, 28, 29, 30, 31, 32, 33, 34, 59, 60, 61, 62, 63, 64, 65, 66, 67, 68, 69, 70, 71, 72, 73, 74, 75, 76, 77, 78, 79, 80, 81, 82] (by decide +kernel) (by decide +kernel)
set_option maxRecDepth 20000 in
theorem gX9_make_X9_find : GoodIn wsX9_make (wsV RX9 103 RX9 yX9_find wsX9_find) := goodIn_app (goodIn_of _ (by decide +kernel)) ggX9_make_X9_find
set_option maxRecDepth 20000 in
theorem ggX9_make_X9_hasDirectory : GoodIn wsX9_make wsX9_hasDirectory := goodIn_r _ [38, 4, 8, 22, 23, 24, 17, 25, 5, 6, 7, 26, 27, 28, 29, 30, 31, 32, 33, 34, 59, 60, 61, 62, 63, 64, 65, 66, 67, 68, 69, 70, 71, 72, 73, 74, 75, 76, 77, 78, 79, 80, 81, 82] (by decide +kernel) (by decide +kernel)
set_option maxRecDepth 20000 in
theorem gX9_make_X9_hasDirectory : GoodIn wsX9_make (wsV RX9 114 RX9 yX9_hasDirectory wsX9_hasDirectory) := goodIn_app (goodIn_of _ (by decide +kernel)) ggX9_make_X9_hasDirectory
set_option maxRecDepth 20000 in
theorem ggX9_make_X9_empty : GoodIn wsX9_make wsX9_empty := goodIn_r _ [42, 5, 13, 59, 60, 61, 62, 63, 64, 65, 66, 67, 68, 69, 70, 71, 72, 73, 74, 75, 76, 77, 78, 79, 80, 81, 82] (by decide +kernel) (by decide +kernel)
set_option maxRecDepth 20000 in
theorem gX9_make_X9_empty : GoodIn wsX9_make (wsV RX9 68 RX9 yX9_empty wsX9_empty) := goodIn_app (goodIn_of _ (by decide +kernel)) ggX9_make_X9_empty
set_option maxRecDepth 20000 in
theorem ggX9_make_X9_place : GoodIn wsX9_make wsX9_place := goodIn_r _ [28] (by decide +kernel) (by decide +kernel)
set_option maxRecDepth 20000 in
theorem gX9_make_X9_place : GoodIn wsX9_make (va_wsS RX9 64 yX9_place wsX9_place) := goodIn_app (goodIn_of _ (by decide +kernel)) ggX9_make_X9_place
set_option maxRecDepth 20000 in
theorem ggX9_make_X9_order : GoodIn wsX9_make wsX9_order := goodIn_r _ [31, 32, 33, 17, 34] (by decide +kernel) (by decide +kernel)
set_option maxRecDepth 20000 in
theorem gX9_make_X9_order : GoodIn wsX9_make (va_wsS RX9 80 yX9_order wsX9_order) := goodIn_app (goodIn_of _ (by decide +kernel)) ggX9_make_X9_order
set_option maxRecDepth 20000 in
theorem ggX9_make_X9_append : GoodIn wsX9_make wsX9_append := goodIn_r _ [46, 5, 8, 9, 10, 7, 6, 11, 12, 13, 47, 26, 27, 17, 28, 59, 60, 61, 62, 63, 64, 65, 66, 67, 68, 69, 70, 71, 72, 73, 74, 75, 76, 77, 78, 79, 80, 81, 82] (by decide +kernel) (by decide +kernel)
set_option maxRecDepth 20000 in
theorem gX9_make_X9_append : GoodIn wsX9_make (wsV RX9 72 RX9 yX9_append wsX9_append) := goodIn_app (goodIn_of _ (by decide +kernel)) ggX9_make_X9_append
set_option maxRecDepth 20000 in
theorem ggX9_make_X9_copy : GoodIn wsX9_make wsX9_copy := goodIn_r _ [51, 5, 39, 40, 41, 17, 42, 13, 43, 44, 45, 46, 8, 9, 10, 7, 6, 11, 12, 47, 26, 27, 28, 59, 60, 61, 62, 63, 64, 65, 66, 67, 68, 69, 70, 71, 72, 73, 74, 75, 76, 77, 78, 79, 80, 81, 82] (by decide +kernel) (by decide +kernel)
set_option maxRecDepth 20000 in
theorem gX9_make_X9_copy : GoodIn wsX9_make (wsV RX9 117 RX9 yX9_copy wsX9_copy) := goodIn_app (goodIn_of _ (by decide +kernel)) ggX9_make_X9_copy
set_option maxRecDepth 20000 in
theorem ggX9_make_X9_chooseTape : GoodIn wsX9_make wsX9_chooseTape := goodIn_r _ [55, 56, 57, 58, 4, 59, 60, 61, 62, 63, 64, 65, 66, 67, 68, 69, 70, 71, 72, 73, 74, 75, 76, 77, 78, 79, 80, 81, 82] (by decide +kernel) (by decide +kernel)
set_option maxRecDepth 20000 in
theorem gX9_make_X9_chooseTape : GoodIn wsX9_make (wsV RX9 121 RX9 yX9_chooseTape wsX9_chooseTape) := goodIn_app (goodIn_of _ (by decide +kernel)) ggX9_make_X9_chooseTape
theorem dX9_make_0 : decode cX9_make 0 = .ok (.aload_n 0, 1) := by decide +kernel
theorem dX9_make_1 : decode cX9_make 1 = .ok (.aload_n 0, 1) := by decide +kernel
theorem dX9_make_2 : decode cX9_make 2 = .ok (.getfield 107, 3) := by decide +kernel
theorem dX9_make_5 : decode cX9_make 5 = .ok (.iconst 1, 1) := by decide +kernel
theorem dX9_make_6 : decode cX9_make 6 = .ok (.if_icmp .ne 7, 3) := by decide +kernel
theorem dX9_make_9 : decode cX9_make 9 = .ok (.iconst 2, 1) := by decide +kernel
theorem dX9_make_10 : decode cX9_make 10 = .ok (.goto 4, 3) := by decide +kernel
theorem dX9_make_13 : decode cX9_make 13 = .ok (.iconst 0, 1) := by decide +kernel
theorem dX9_make_14 : decode cX9_make 14 = .ok (.putfield 57, 3) := by decide +kernel
theorem dX9_make_17 : decode cX9_make 17 = .ok (.aload_n 0, 1) := by decide +kernel
theorem dX9_make_18 : decode cX9_make 18 = .ok (.getfield 57, 3) := by decide +kernel
theorem dX9_make_21 : decode cX9_make 21 = .ok (.ifCond .le 5, 3) := by decide +kernel
theorem dX9_make_24 : decode cX9_make 24 = .ok (.iconst 0, 1) := by decide +kernel
theorem dX9_make_25 : decode cX9_make 25 = .ok (.ireturn, 1) := by decide +kernel
theorem dX9_make_26 : decode cX9_make 26 = .ok (.aload_n 0, 1) := by decide +kernel
theorem dX9_make_27 : decode cX9_make 27 = .ok (.getfield 61, 3) := by decide +kernel
theorem dX9_make_30 : decode cX9_make 30 = .ok (.istore 4, 2) := by decide +kernel
theorem dX9_make_32 : decode cX9_make 32 = .ok (.aload_n 0, 1) := by decide +kernel
theorem dX9_make_33 : decode cX9_make 33 = .ok (.iconst 0, 1) := by decide +kernel
theorem dX9_make_34 : decode cX9_make 34 = .ok (.putfield 61, 3) := by decide +kernel
theorem dX9_make_37 : decode cX9_make 37 = .ok (.iload_n 1, 1) := by decide +kernel
theorem dX9_make_38 : decode cX9_make 38 = .ok (.iconst 1, 1) := by decide +kernel
theorem dX9_make_39 : decode cX9_make 39 = .ok (.if_icmp .lt 36, 3) := by decide +kernel
theorem dX9_make_42 : decode cX9_make 42 = .ok (.iload_n 1, 1) := by decide +kernel
theorem dX9_make_43 : decode cX9_make 43 = .ok (.iconst 3, 1) := by decide +kernel
theorem dX9_make_44 : decode cX9_make 44 = .ok (.if_icmp .gt 31, 3) := by decide +kernel
theorem dX9_make_47 : decode cX9_make 47 = .ok (.iload_n 2, 1) := by decide +kernel
theorem dX9_make_48 : decode cX9_make 48 = .ok (.ifCond .lt 27, 3) := by decide +kernel
theorem dX9_make_51 : decode cX9_make 51 = .ok (.iload_n 2, 1) := by decide +kernel
theorem dX9_make_52 : decode cX9_make 52 = .ok (.sipush 4096, 3) := by decide +kernel
theorem dX9_make_55 : decode cX9_make 55 = .ok (.if_icmp .ge 20, 3) := by decide +kernel
theorem dX9_make_58 : decode cX9_make 58 = .ok (.iload_n 3, 1) := by decide +kernel
theorem dX9_make_59 : decode cX9_make 59 = .ok (.ifCond .lt 16, 3) := by decide +kernel
theorem dX9_make_62 : decode cX9_make 62 = .ok (.aload_n 0, 1) := by decide +kernel
theorem dX9_make_63 : decode cX9_make 63 = .ok (.iload 4, 2) := by decide +kernel
theorem dX9_make_65 : decode cX9_make 65 = .ok (.invokevirtual 110, 3) := by decide +kernel
theorem dX9_make_68 : decode cX9_make 68 = .ok (.ifCond .eq 7, 3) := by decide +kernel
theorem dX9_make_71 : decode cX9_make 71 = .ok (.iconst 1, 1) := by decide +kernel
theorem dX9_make_72 : decode cX9_make 72 = .ok (.goto 4, 3) := by decide +kernel
theorem dX9_make_75 : decode cX9_make 75 = .ok (.iconst 0, 1) := by decide +kernel
theorem dX9_make_76 : decode cX9_make 76 = .ok (.istore 5, 2) := by decide +kernel
theorem dX9_make_78 : decode cX9_make 78 = .ok (.aload_n 0, 1) := by decide +kernel
theorem dX9_make_79 : decode cX9_make 79 = .ok (.iload 5, 2) := by decide +kernel
theorem dX9_make_81 : decode cX9_make 81 = .ok (.ifCond .ne 7, 3) := by decide +kernel
theorem dX9_make_84 : decode cX9_make 84 = .ok (.iconst 1, 1) := by decide +kernel
theorem dX9_make_85 : decode cX9_make 85 = .ok (.goto 42, 3) := by decide +kernel
theorem dX9_make_88 : decode cX9_make 88 = .ok (.aload_n 0, 1) := by decide +kernel
theorem dX9_make_89 : decode cX9_make 89 = .ok (.iconst 0, 1) := by decide +kernel
theorem dX9_make_90 : decode cX9_make 90 = .ok (.aload_n 0, 1) := by decide +kernel
theorem dX9_make_91 : decode cX9_make 91 = .ok (.getfield 45, 3) := by decide +kernel
theorem dX9_make_94 : decode cX9_make 94 = .ok (.iload 4, 2) := by decide +kernel
theorem dX9_make_96 : decode cX9_make 96 = .ok (.invokevirtual 103, 3) := by decide +kernel
theorem dX9_make_99 : decode cX9_make 99 = .ok (.ifCond .ge 23, 3) := by decide +kernel
theorem dX9_make_102 : decode cX9_make 102 = .ok (.aload_n 0, 1) := by decide +kernel
theorem dX9_make_103 : decode cX9_make 103 = .ok (.iload 4, 2) := by decide +kernel
theorem dX9_make_105 : decode cX9_make 105 = .ok (.invokevirtual 114, 3) := by decide +kernel
theorem dX9_make_108 : decode cX9_make 108 = .ok (.ifCond .eq 14, 3) := by decide +kernel
theorem dX9_make_111 : decode cX9_make 111 = .ok (.aload_n 0, 1) := by decide +kernel
theorem dX9_make_112 : decode cX9_make 112 = .ok (.getfield 7, 3) := by decide +kernel
theorem dX9_make_115 : decode cX9_make 115 = .ok (.iconst 0, 1) := by decide +kernel
theorem dX9_make_116 : decode cX9_make 116 = .ok (.iaload, 1) := by decide +kernel
theorem dX9_make_117 : decode cX9_make 117 = .ok (.bipush 60, 2) := by decide +kernel
theorem dX9_make_119 : decode cX9_make 119 = .ok (.if_icmp .ne 7, 3) := by decide +kernel
theorem dX9_make_122 : decode cX9_make 122 = .ok (.iconst 2, 1) := by decide +kernel
theorem dX9_make_123 : decode cX9_make 123 = .ok (.goto 4, 3) := by decide +kernel
theorem dX9_make_126 : decode cX9_make 126 = .ok (.iconst 0, 1) := by decide +kernel
theorem dX9_make_127 : decode cX9_make 127 = .ok (.putfield 57, 3) := by decide +kernel
theorem dX9_make_130 : decode cX9_make 130 = .ok (.aload_n 0, 1) := by decide +kernel
theorem dX9_make_131 : decode cX9_make 131 = .ok (.getfield 57, 3) := by decide +kernel
theorem dX9_make_134 : decode cX9_make 134 = .ok (.ifCond .le 5, 3) := by decide +kernel
theorem dX9_make_137 : decode cX9_make 137 = .ok (.iconst 0, 1) := by decide +kernel
theorem dX9_make_138 : decode cX9_make 138 = .ok (.ireturn, 1) := by decide +kernel
theorem dX9_make_139 : decode cX9_make 139 = .ok (.aload_n 0, 1) := by decide +kernel
theorem dX9_make_140 : decode cX9_make 140 = .ok (.iconst 5, 1) := by decide +kernel
theorem dX9_make_141 : decode cX9_make 141 = .ok (.invokevirtual 68, 3) := by decide +kernel
theorem dX9_make_144 : decode cX9_make 144 = .ok (.iconst 0, 1) := by decide +kernel
theorem dX9_make_145 : decode cX9_make 145 = .ok (.istore 6, 2) := by decide +kernel
theorem dX9_make_147 : decode cX9_make 147 = .ok (.iload 6, 2) := by decide +kernel
theorem dX9_make_149 : decode cX9_make 149 = .ok (.aload_n 0, 1) := by decide +kernel
theorem dX9_make_150 : decode cX9_make 150 = .ok (.getfield 7, 3) := by decide +kernel
theorem dX9_make_153 : decode cX9_make 153 = .ok (.iconst 0, 1) := by decide +kernel
theorem dX9_make_154 : decode cX9_make 154 = .ok (.iaload, 1) := by decide +kernel
theorem dX9_make_155 : decode cX9_make 155 = .ok (.if_icmp .ge 55, 3) := by decide +kernel
theorem dX9_make_158 : decode cX9_make 158 = .ok (.aload_n 0, 1) := by decide +kernel
theorem dX9_make_159 : decode cX9_make 159 = .ok (.getfield 35, 3) := by decide +kernel
theorem dX9_make_162 : decode cX9_make 162 = .ok (.sipush 150, 3) := by decide +kernel
theorem dX9_make_165 : decode cX9_make 165 = .ok (.iconst 0, 1) := by decide +kernel
theorem dX9_make_166 : decode cX9_make 166 = .ok (.iload 6, 2) := by decide +kernel
theorem dX9_make_168 : decode cX9_make 168 = .ok (.invokestatic 64, 3) := by decide +kernel
theorem dX9_make_171 : decode cX9_make 171 = .ok (.imul, 1) := by decide +kernel
theorem dX9_make_172 : decode cX9_make 172 = .ok (.aload_n 0, 1) := by decide +kernel
theorem dX9_make_173 : decode cX9_make 173 = .ok (.getfield 25, 3) := by decide +kernel
theorem dX9_make_176 : decode cX9_make 176 = .ok (.iconst 0, 1) := by decide +kernel
theorem dX9_make_177 : decode cX9_make 177 = .ok (.iload 6, 2) := by decide +kernel
theorem dX9_make_179 : decode cX9_make 179 = .ok (.invokestatic 64, 3) := by decide +kernel
theorem dX9_make_182 : decode cX9_make 182 = .ok (.iaload, 1) := by decide +kernel
theorem dX9_make_183 : decode cX9_make 183 = .ok (.aload_n 0, 1) := by decide +kernel
theorem dX9_make_184 : decode cX9_make 184 = .ok (.getfield 45, 3) := by decide +kernel
theorem dX9_make_187 : decode cX9_make 187 = .ok (.iconst 0, 1) := by decide +kernel
theorem dX9_make_188 : decode cX9_make 188 = .ok (.iload 4, 2) := by decide +kernel
theorem dX9_make_190 : decode cX9_make 190 = .ok (.invokestatic 80, 3) := by decide +kernel
theorem dX9_make_193 : decode cX9_make 193 = .ok (.ifCond .ge 17, 3) := by decide +kernel
theorem dX9_make_196 : decode cX9_make 196 = .ok (.aload_n 0, 1) := by decide +kernel
theorem dX9_make_197 : decode cX9_make 197 = .ok (.iconst 0, 1) := by decide +kernel
theorem dX9_make_198 : decode cX9_make 198 = .ok (.iload 6, 2) := by decide +kernel
theorem dX9_make_200 : decode cX9_make 200 = .ok (.iconst 5, 1) := by decide +kernel
theorem dX9_make_201 : decode cX9_make 201 = .ok (.invokevirtual 72, 3) := by decide +kernel
theorem dX9_make_204 : decode cX9_make 204 = .ok (.iinc 6 1, 3) := by decide +kernel
theorem dX9_make_207 : decode cX9_make 207 = .ok (.goto (-60), 3) := by decide +kernel
theorem dX9_make_210 : decode cX9_make 210 = .ok (.iconst 5, 1) := by decide +kernel
theorem dX9_make_211 : decode cX9_make 211 = .ok (.aload_n 0, 1) := by decide +kernel
theorem dX9_make_212 : decode cX9_make 212 = .ok (.getfield 7, 3) := by decide +kernel
theorem dX9_make_215 : decode cX9_make 215 = .ok (.iconst 5, 1) := by decide +kernel
theorem dX9_make_216 : decode cX9_make 216 = .ok (.iaload, 1) := by decide +kernel
theorem dX9_make_217 : decode cX9_make 217 = .ok (.invokestatic 64, 3) := by decide +kernel
theorem dX9_make_220 : decode cX9_make 220 = .ok (.istore 7, 2) := by decide +kernel
theorem dX9_make_222 : decode cX9_make 222 = .ok (.aload_n 0, 1) := by decide +kernel
theorem dX9_make_223 : decode cX9_make 223 = .ok (.getfield 16, 3) := by decide +kernel
theorem dX9_make_226 : decode cX9_make 226 = .ok (.iload 7, 2) := by decide +kernel
theorem dX9_make_228 : decode cX9_make 228 = .ok (.iload_n 1, 1) := by decide +kernel
theorem dX9_make_229 : decode cX9_make 229 = .ok (.iastore, 1) := by decide +kernel
theorem dX9_make_230 : decode cX9_make 230 = .ok (.aload_n 0, 1) := by decide +kernel
theorem dX9_make_231 : decode cX9_make 231 = .ok (.getfield 19, 3) := by decide +kernel
theorem dX9_make_234 : decode cX9_make 234 = .ok (.iload 7, 2) := by decide +kernel
theorem dX9_make_236 : decode cX9_make 236 = .ok (.iload_n 2, 1) := by decide +kernel
theorem dX9_make_237 : decode cX9_make 237 = .ok (.iastore, 1) := by decide +kernel
theorem dX9_make_238 : decode cX9_make 238 = .ok (.aload_n 0, 1) := by decide +kernel
theorem dX9_make_239 : decode cX9_make 239 = .ok (.getfield 22, 3) := by decide +kernel
theorem dX9_make_242 : decode cX9_make 242 = .ok (.iload 7, 2) := by decide +kernel
theorem dX9_make_244 : decode cX9_make 244 = .ok (.iload_n 3, 1) := by decide +kernel
theorem dX9_make_245 : decode cX9_make 245 = .ok (.iastore, 1) := by decide +kernel
theorem dX9_make_246 : decode cX9_make 246 = .ok (.aload_n 0, 1) := by decide +kernel
theorem dX9_make_247 : decode cX9_make 247 = .ok (.getfield 25, 3) := by decide +kernel
theorem dX9_make_250 : decode cX9_make 250 = .ok (.iload 7, 2) := by decide +kernel
theorem dX9_make_252 : decode cX9_make 252 = .ok (.iload 4, 2) := by decide +kernel
theorem dX9_make_254 : decode cX9_make 254 = .ok (.iastore, 1) := by decide +kernel
theorem dX9_make_255 : decode cX9_make 255 = .ok (.iconst 0, 1) := by decide +kernel
theorem dX9_make_256 : decode cX9_make 256 = .ok (.istore 8, 2) := by decide +kernel
theorem dX9_make_258 : decode cX9_make 258 = .ok (.iload 8, 2) := by decide +kernel
theorem dX9_make_260 : decode cX9_make 260 = .ok (.iload 4, 2) := by decide +kernel
theorem dX9_make_262 : decode cX9_make 262 = .ok (.if_icmp .ge 30, 3) := by decide +kernel
theorem dX9_make_265 : decode cX9_make 265 = .ok (.aload_n 0, 1) := by decide +kernel
theorem dX9_make_266 : decode cX9_make 266 = .ok (.getfield 35, 3) := by decide +kernel
theorem dX9_make_269 : decode cX9_make 269 = .ok (.sipush 150, 3) := by decide +kernel
theorem dX9_make_272 : decode cX9_make 272 = .ok (.iload 7, 2) := by decide +kernel
theorem dX9_make_274 : decode cX9_make 274 = .ok (.imul, 1) := by decide +kernel
theorem dX9_make_275 : decode cX9_make 275 = .ok (.iload 8, 2) := by decide +kernel
theorem dX9_make_277 : decode cX9_make 277 = .ok (.iadd, 1) := by decide +kernel
theorem dX9_make_278 : decode cX9_make 278 = .ok (.aload_n 0, 1) := by decide +kernel
theorem dX9_make_279 : decode cX9_make 279 = .ok (.getfield 45, 3) := by decide +kernel
theorem dX9_make_282 : decode cX9_make 282 = .ok (.iload 8, 2) := by decide +kernel
theorem dX9_make_284 : decode cX9_make 284 = .ok (.iaload, 1) := by decide +kernel
theorem dX9_make_285 : decode cX9_make 285 = .ok (.iastore, 1) := by decide +kernel
theorem dX9_make_286 : decode cX9_make 286 = .ok (.iinc 8 1, 3) := by decide +kernel
theorem dX9_make_289 : decode cX9_make 289 = .ok (.goto (-31), 3) := by decide +kernel
theorem dX9_make_292 : decode cX9_make 292 = .ok (.aload_n 0, 1) := by decide +kernel
theorem dX9_make_293 : decode cX9_make 293 = .ok (.getfield 31, 3) := by decide +kernel
theorem dX9_make_296 : decode cX9_make 296 = .ok (.iload 7, 2) := by decide +kernel
theorem dX9_make_298 : decode cX9_make 298 = .ok (.iconst 0, 1) := by decide +kernel
theorem dX9_make_299 : decode cX9_make 299 = .ok (.iastore, 1) := by decide +kernel
theorem dX9_make_300 : decode cX9_make 300 = .ok (.aload_n 0, 1) := by decide +kernel
theorem dX9_make_301 : decode cX9_make 301 = .ok (.getfield 28, 3) := by decide +kernel
theorem dX9_make_304 : decode cX9_make 304 = .ok (.iload 7, 2) := by decide +kernel
theorem dX9_make_306 : decode cX9_make 306 = .ok (.aload_n 0, 1) := by decide +kernel
theorem dX9_make_307 : decode cX9_make 307 = .ok (.getfield 13, 3) := by decide +kernel
theorem dX9_make_310 : decode cX9_make 310 = .ok (.iconst 5, 1) := by decide +kernel
theorem dX9_make_311 : decode cX9_make 311 = .ok (.iaload, 1) := by decide +kernel
theorem dX9_make_312 : decode cX9_make 312 = .ok (.iastore, 1) := by decide +kernel
theorem dX9_make_313 : decode cX9_make 313 = .ok (.aload_n 0, 1) := by decide +kernel
theorem dX9_make_314 : decode cX9_make 314 = .ok (.getfield 7, 3) := by decide +kernel
theorem dX9_make_317 : decode cX9_make 317 = .ok (.iconst 5, 1) := by decide +kernel
theorem dX9_make_318 : decode cX9_make 318 = .ok (.dup2, 1) := by decide +kernel
theorem dX9_make_319 : decode cX9_make 319 = .ok (.iaload, 1) := by decide +kernel
theorem dX9_make_320 : decode cX9_make 320 = .ok (.iconst 1, 1) := by decide +kernel
theorem dX9_make_321 : decode cX9_make 321 = .ok (.iadd, 1) := by decide +kernel
theorem dX9_make_322 : decode cX9_make 322 = .ok (.iastore, 1) := by decide +kernel
theorem dX9_make_323 : decode cX9_make 323 = .ok (.iload 6, 2) := by decide +kernel
theorem dX9_make_325 : decode cX9_make 325 = .ok (.aload_n 0, 1) := by decide +kernel
theorem dX9_make_326 : decode cX9_make 326 = .ok (.getfield 7, 3) := by decide +kernel
theorem dX9_make_329 : decode cX9_make 329 = .ok (.iconst 0, 1) := by decide +kernel
theorem dX9_make_330 : decode cX9_make 330 = .ok (.iaload, 1) := by decide +kernel
theorem dX9_make_331 : decode cX9_make 331 = .ok (.if_icmp .ge 17, 3) := by decide +kernel
theorem dX9_make_334 : decode cX9_make 334 = .ok (.aload_n 0, 1) := by decide +kernel
theorem dX9_make_335 : decode cX9_make 335 = .ok (.iconst 0, 1) := by decide +kernel
theorem dX9_make_336 : decode cX9_make 336 = .ok (.iload 6, 2) := by decide +kernel
end
section
theorem dX9_make_338 : decode cX9_make 338 = .ok (.iconst 5, 1) := by decide +kernel
theorem dX9_make_339 : decode cX9_make 339 = .ok (.invokevirtual 72, 3) := by decide +kernel
theorem dX9_make_342 : decode cX9_make 342 = .ok (.iinc 6 1, 3) := by decide +kernel
theorem dX9_make_345 : decode cX9_make 345 = .ok (.goto (-22), 3) := by decide +kernel
theorem dX9_make_348 : decode cX9_make 348 = .ok (.aload_n 0, 1) := by decide +kernel
theorem dX9_make_349 : decode cX9_make 349 = .ok (.iconst 5, 1) := by decide +kernel
theorem dX9_make_350 : decode cX9_make 350 = .ok (.iconst 0, 1) := by decide +kernel
theorem dX9_make_351 : decode cX9_make 351 = .ok (.invokevirtual 117, 3) := by decide +kernel
theorem dX9_make_354 : decode cX9_make 354 = .ok (.aload_n 0, 1) := by decide +kernel
theorem dX9_make_355 : decode cX9_make 355 = .ok (.iload 4, 2) := by decide +kernel
theorem dX9_make_357 : decode cX9_make 357 = .ok (.invokevirtual 121, 3) := by decide +kernel
theorem dX9_make_360 : decode cX9_make 360 = .ok (.aload_n 0, 1) := by decide +kernel
theorem dX9_make_361 : decode cX9_make 361 = .ok (.getfield 7, 3) := by decide +kernel
theorem dX9_make_364 : decode cX9_make 364 = .ok (.iconst 0, 1) := by decide +kernel
theorem dX9_make_365 : decode cX9_make 365 = .ok (.iaload, 1) := by decide +kernel
theorem dX9_make_366 : decode cX9_make 366 = .ok (.ireturn, 1) := by decide +kernel
set_option maxRecDepth 20000 in
theorem ggX9_choose_X9_find : GoodIn wsX9_choose wsX9_find := goodIn_r _ [10, 11, 12, 13, 14, 15, 9, 16, 17, 18, 19, 20, 21, 22, 29, 30, 31, 32, 33, 34, 35, 36, 37, 38, 39, 40, 41, 42, 43, 44, 45, 46, 47, 48, 49, 50, 51, 52] (by decide +kernel) (by decide +kernel)
set_option maxRecDepth 20000 in
theorem gX9_choose_X9_find : GoodIn wsX9_choose (wsV RX9 103 RX9 yX9_find wsX9_find) := goodIn_app (goodIn_of _ (by decide +kernel)) ggX9_choose_X9_find
set_option maxRecDepth 20000 in
theorem ggX9_choose_X9_chooseTape : GoodIn wsX9_choose wsX9_chooseTape := goodIn_r _ [26, 4, 27, 28, 3, 29, 30, 31, 32, 33, 34, 35, 36, 37, 38, 39, 40, 41, 42, 43, 44, 45, 46, 47, 48, 49, 50, 51, 52] (by decide +kernel) (by decide +kernel)
set_option maxRecDepth 20000 in
theorem gX9_choose_X9_chooseTape : GoodIn wsX9_choose (wsV RX9 121 RX9 yX9_chooseTape wsX9_chooseTape) := goodIn_app (goodIn_of _ (by decide +kernel)) ggX9_choose_X9_chooseTape
set_option maxRecDepth 20000 in
theorem ggX9_choose_X9_place : GoodIn wsX9_choose wsX9_place := goodIn_r _ [16] (by decide +kernel) (by decide +kernel)
set_option maxRecDepth 20000 in
theorem gX9_choose_X9_place : GoodIn wsX9_choose (va_wsS RX9 64 yX9_place wsX9_place) := goodIn_app (goodIn_of _ (by decide +kernel)) ggX9_choose_X9_place
theorem dX9_choose_0 : decode cX9_choose 0 = .ok (.aload_n 0, 1) := by decide +kernel
theorem dX9_choose_1 : decode cX9_choose 1 = .ok (.iconst 0, 1) := by decide +kernel
theorem dX9_choose_2 : decode cX9_choose 2 = .ok (.putfield 57, 3) := by decide +kernel
theorem dX9_choose_5 : decode cX9_choose 5 = .ok (.aload_n 0, 1) := by decide +kernel
theorem dX9_choose_6 : decode cX9_choose 6 = .ok (.getfield 61, 3) := by decide +kernel
theorem dX9_choose_9 : decode cX9_choose 9 = .ok (.istore_n 1, 1) := by decide +kernel
theorem dX9_choose_10 : decode cX9_choose 10 = .ok (.aload_n 0, 1) := by decide +kernel
theorem dX9_choose_11 : decode cX9_choose 11 = .ok (.iconst 0, 1) := by decide +kernel
theorem dX9_choose_12 : decode cX9_choose 12 = .ok (.putfield 61, 3) := by decide +kernel
theorem dX9_choose_15 : decode cX9_choose 15 = .ok (.aload_n 0, 1) := by decide +kernel
theorem dX9_choose_16 : decode cX9_choose 16 = .ok (.iconst 0, 1) := by decide +kernel
theorem dX9_choose_17 : decode cX9_choose 17 = .ok (.aload_n 0, 1) := by decide +kernel
theorem dX9_choose_18 : decode cX9_choose 18 = .ok (.getfield 45, 3) := by decide +kernel
theorem dX9_choose_21 : decode cX9_choose 21 = .ok (.iload_n 1, 1) := by decide +kernel
theorem dX9_choose_22 : decode cX9_choose 22 = .ok (.invokevirtual 103, 3) := by decide +kernel
theorem dX9_choose_25 : decode cX9_choose 25 = .ok (.istore_n 2, 1) := by decide +kernel
theorem dX9_choose_26 : decode cX9_choose 26 = .ok (.aload_n 0, 1) := by decide +kernel
theorem dX9_choose_27 : decode cX9_choose 27 = .ok (.iload_n 2, 1) := by decide +kernel
theorem dX9_choose_28 : decode cX9_choose 28 = .ok (.ifCond .lt 7, 3) := by decide +kernel
theorem dX9_choose_31 : decode cX9_choose 31 = .ok (.iconst 1, 1) := by decide +kernel
theorem dX9_choose_32 : decode cX9_choose 32 = .ok (.goto 4, 3) := by decide +kernel
theorem dX9_choose_35 : decode cX9_choose 35 = .ok (.iconst 0, 1) := by decide +kernel
theorem dX9_choose_36 : decode cX9_choose 36 = .ok (.putfield 96, 3) := by decide +kernel
theorem dX9_choose_39 : decode cX9_choose 39 = .ok (.iload_n 2, 1) := by decide +kernel
theorem dX9_choose_40 : decode cX9_choose 40 = .ok (.ifCond .ge 5, 3) := by decide +kernel
theorem dX9_choose_43 : decode cX9_choose 43 = .ok (.iconst (-1), 1) := by decide +kernel
theorem dX9_choose_44 : decode cX9_choose 44 = .ok (.ireturn, 1) := by decide +kernel
theorem dX9_choose_45 : decode cX9_choose 45 = .ok (.aload_n 0, 1) := by decide +kernel
theorem dX9_choose_46 : decode cX9_choose 46 = .ok (.iload_n 1, 1) := by decide +kernel
theorem dX9_choose_47 : decode cX9_choose 47 = .ok (.invokevirtual 121, 3) := by decide +kernel
theorem dX9_choose_50 : decode cX9_choose 50 = .ok (.aload_n 0, 1) := by decide +kernel
theorem dX9_choose_51 : decode cX9_choose 51 = .ok (.getfield 16, 3) := by decide +kernel
theorem dX9_choose_54 : decode cX9_choose 54 = .ok (.iconst 0, 1) := by decide +kernel
theorem dX9_choose_55 : decode cX9_choose 55 = .ok (.iload_n 2, 1) := by decide +kernel
theorem dX9_choose_56 : decode cX9_choose 56 = .ok (.invokestatic 64, 3) := by decide +kernel
theorem dX9_choose_59 : decode cX9_choose 59 = .ok (.iaload, 1) := by decide +kernel
theorem dX9_choose_60 : decode cX9_choose 60 = .ok (.ireturn, 1) := by decide +kernel
set_option maxRecDepth 20000 in
theorem ggX9_chosenAt_X9_find : GoodIn wsX9_chosenAt wsX9_find := goodIn_r _ [8, 9, 10, 11, 12, 13, 7, 14, 15, 16, 17, 18, 19, 20, 21, 22, 23, 24, 25, 26, 27, 28, 29, 30, 31, 32, 33, 34, 35, 36, 37, 38, 39, 40, 41, 42, 43, 44] (by decide +kernel) (by decide +kernel)
set_option maxRecDepth 20000 in
theorem gX9_chosenAt_X9_find : GoodIn wsX9_chosenAt (wsV RX9 103 RX9 yX9_find wsX9_find) := goodIn_app (goodIn_of _ (by decide +kernel)) ggX9_chosenAt_X9_find
theorem dX9_chosenAt_0 : decode cX9_chosenAt 0 = .ok (.aload_n 0, 1) := by decide +kernel
theorem dX9_chosenAt_1 : decode cX9_chosenAt 1 = .ok (.getfield 96, 3) := by decide +kernel
theorem dX9_chosenAt_4 : decode cX9_chosenAt 4 = .ok (.ifCond .eq 19, 3) := by decide +kernel
theorem dX9_chosenAt_7 : decode cX9_chosenAt 7 = .ok (.aload_n 0, 1) := by decide +kernel
theorem dX9_chosenAt_8 : decode cX9_chosenAt 8 = .ok (.iconst 0, 1) := by decide +kernel
theorem dX9_chosenAt_9 : decode cX9_chosenAt 9 = .ok (.aload_n 0, 1) := by decide +kernel
theorem dX9_chosenAt_10 : decode cX9_chosenAt 10 = .ok (.getfield 54, 3) := by decide +kernel
theorem dX9_chosenAt_13 : decode cX9_chosenAt 13 = .ok (.aload_n 0, 1) := by decide +kernel
theorem dX9_chosenAt_14 : decode cX9_chosenAt 14 = .ok (.getfield 100, 3) := by decide +kernel
theorem dX9_chosenAt_17 : decode cX9_chosenAt 17 = .ok (.invokevirtual 103, 3) := by decide +kernel
theorem dX9_chosenAt_20 : decode cX9_chosenAt 20 = .ok (.goto 4, 3) := by decide +kernel
theorem dX9_chosenAt_23 : decode cX9_chosenAt 23 = .ok (.iconst (-1), 1) := by decide +kernel
theorem dX9_chosenAt_24 : decode cX9_chosenAt 24 = .ok (.ireturn, 1) := by decide +kernel
set_option maxRecDepth 20000 in
theorem ggX9_change_X9_empty : GoodIn wsX9_change wsX9_empty := goodIn_r _ [12, 1, 6, 29, 30, 31, 32, 33, 34, 35, 36, 37, 38, 39, 40, 41, 42, 43, 44, 45, 46, 47, 48, 49, 50, 51, 52] (by decide +kernel) (by decide +kernel)
set_option maxRecDepth 20000 in
theorem gX9_change_X9_empty : GoodIn wsX9_change (wsV RX9 68 RX9 yX9_empty wsX9_empty) := goodIn_app (goodIn_of _ (by decide +kernel)) ggX9_change_X9_empty
set_option maxRecDepth 20000 in
theorem ggX9_change_X9_append : GoodIn wsX9_change wsX9_append := goodIn_r _ [16, 1, 17, 18, 19, 20, 21, 7, 3, 6, 4, 22, 23, 11, 24, 29, 30, 31, 32, 33, 34, 35, 36, 37, 38, 39, 40, 41, 42, 43, 44, 45, 46, 47, 48, 49, 50, 51, 52] (by decide +kernel) (by decide +kernel)
set_option maxRecDepth 20000 in
theorem gX9_change_X9_append : GoodIn wsX9_change (wsV RX9 72 RX9 yX9_append wsX9_append) := goodIn_app (goodIn_of _ (by decide +kernel)) ggX9_change_X9_append
set_option maxRecDepth 20000 in
theorem ggX9_change_X9_place : GoodIn wsX9_change wsX9_place := goodIn_r _ [24] (by decide +kernel) (by decide +kernel)
set_option maxRecDepth 20000 in
theorem gX9_change_X9_place : GoodIn wsX9_change (va_wsS RX9 64 yX9_place wsX9_place) := goodIn_app (goodIn_of _ (by decide +kernel)) ggX9_change_X9_place
set_option maxRecDepth 20000 in
theorem ggX9_change_X9_copy : GoodIn wsX9_change wsX9_copy := goodIn_r _ [28, 1, 8, 9, 10, 11, 12, 6, 13, 14, 15, 16, 17, 18, 19, 20, 21, 7, 3, 4, 22, 23, 24, 29, 30, 31, 32, 33, 34, 35, 36, 37, 38, 39, 40, 41, 42, 43, 44, 45, 46, 47, 48, 49, 50, 51, 52] (by decide +kernel) (by decide +kernel)
set_option maxRecDepth 20000 in
theorem gX9_change_X9_copy : GoodIn wsX9_change (wsV RX9 117 RX9 yX9_copy wsX9_copy) := goodIn_app (goodIn_of _ (by decide +kernel)) ggX9_change_X9_copy
theorem dX9_change_0 : decode cX9_change 0 = .ok (.aload_n 0, 1) := by decide +kernel
theorem dX9_change_1 : decode cX9_change 1 = .ok (.iconst 5, 1) := by decide +kernel
theorem dX9_change_2 : decode cX9_change 2 = .ok (.invokevirtual 68, 3) := by decide +kernel
theorem dX9_change_5 : decode cX9_change 5 = .ok (.iconst 0, 1) := by decide +kernel
theorem dX9_change_6 : decode cX9_change 6 = .ok (.istore 5, 2) := by decide +kernel
theorem dX9_change_8 : decode cX9_change 8 = .ok (.iload 5, 2) := by decide +kernel
theorem dX9_change_10 : decode cX9_change 10 = .ok (.aload_n 0, 1) := by decide +kernel
theorem dX9_change_11 : decode cX9_change 11 = .ok (.getfield 7, 3) := by decide +kernel
theorem dX9_change_14 : decode cX9_change 14 = .ok (.iconst 0, 1) := by decide +kernel
theorem dX9_change_15 : decode cX9_change 15 = .ok (.iaload, 1) := by decide +kernel
theorem dX9_change_16 : decode cX9_change 16 = .ok (.if_icmp .ge 107, 3) := by decide +kernel
theorem dX9_change_19 : decode cX9_change 19 = .ok (.aload_n 0, 1) := by decide +kernel
theorem dX9_change_20 : decode cX9_change 20 = .ok (.iconst 0, 1) := by decide +kernel
theorem dX9_change_21 : decode cX9_change 21 = .ok (.iload 5, 2) := by decide +kernel
theorem dX9_change_23 : decode cX9_change 23 = .ok (.iconst 5, 1) := by decide +kernel
theorem dX9_change_24 : decode cX9_change 24 = .ok (.invokevirtual 72, 3) := by decide +kernel
theorem dX9_change_27 : decode cX9_change 27 = .ok (.iload 5, 2) := by decide +kernel
theorem dX9_change_29 : decode cX9_change 29 = .ok (.iload_n 1, 1) := by decide +kernel
theorem dX9_change_30 : decode cX9_change 30 = .ok (.if_icmp .eq 6, 3) := by decide +kernel
theorem dX9_change_33 : decode cX9_change 33 = .ok (.goto 84, 3) := by decide +kernel
theorem dX9_change_36 : decode cX9_change 36 = .ok (.iconst 5, 1) := by decide +kernel
theorem dX9_change_37 : decode cX9_change 37 = .ok (.iload 5, 2) := by decide +kernel
theorem dX9_change_39 : decode cX9_change 39 = .ok (.invokestatic 64, 3) := by decide +kernel
theorem dX9_change_42 : decode cX9_change 42 = .ok (.istore 6, 2) := by decide +kernel
theorem dX9_change_44 : decode cX9_change 44 = .ok (.ldc 124, 2) := by decide +kernel
theorem dX9_change_46 : decode cX9_change 46 = .ok (.aload_n 0, 1) := by decide +kernel
theorem dX9_change_47 : decode cX9_change 47 = .ok (.getfield 28, 3) := by decide +kernel
theorem dX9_change_50 : decode cX9_change 50 = .ok (.iload 6, 2) := by decide +kernel
theorem dX9_change_52 : decode cX9_change 52 = .ok (.iaload, 1) := by decide +kernel
theorem dX9_change_53 : decode cX9_change 53 = .ok (.iadd, 1) := by decide +kernel
theorem dX9_change_54 : decode cX9_change 54 = .ok (.istore 7, 2) := by decide +kernel
theorem dX9_change_56 : decode cX9_change 56 = .ok (.iconst 0, 1) := by decide +kernel
theorem dX9_change_57 : decode cX9_change 57 = .ok (.istore 8, 2) := by decide +kernel
theorem dX9_change_59 : decode cX9_change 59 = .ok (.iload 8, 2) := by decide +kernel
theorem dX9_change_61 : decode cX9_change 61 = .ok (.iload 4, 2) := by decide +kernel
theorem dX9_change_63 : decode cX9_change 63 = .ok (.if_icmp .ge 28, 3) := by decide +kernel
theorem dX9_change_66 : decode cX9_change 66 = .ok (.aload_n 0, 1) := by decide +kernel
theorem dX9_change_67 : decode cX9_change 67 = .ok (.getfield 39, 3) := by decide +kernel
theorem dX9_change_70 : decode cX9_change 70 = .ok (.iload 7, 2) := by decide +kernel
theorem dX9_change_72 : decode cX9_change 72 = .ok (.iload_n 3, 1) := by decide +kernel
theorem dX9_change_73 : decode cX9_change 73 = .ok (.iadd, 1) := by decide +kernel
theorem dX9_change_74 : decode cX9_change 74 = .ok (.iload 8, 2) := by decide +kernel
theorem dX9_change_76 : decode cX9_change 76 = .ok (.iadd, 1) := by decide +kernel
theorem dX9_change_77 : decode cX9_change 77 = .ok (.aload_n 0, 1) := by decide +kernel
theorem dX9_change_78 : decode cX9_change 78 = .ok (.getfield 45, 3) := by decide +kernel
theorem dX9_change_81 : decode cX9_change 81 = .ok (.iload 8, 2) := by decide +kernel
theorem dX9_change_83 : decode cX9_change 83 = .ok (.iaload, 1) := by decide +kernel
theorem dX9_change_84 : decode cX9_change 84 = .ok (.iastore, 1) := by decide +kernel
theorem dX9_change_85 : decode cX9_change 85 = .ok (.iinc 8 1, 3) := by decide +kernel
theorem dX9_change_88 : decode cX9_change 88 = .ok (.goto (-29), 3) := by decide +kernel
theorem dX9_change_91 : decode cX9_change 91 = .ok (.aload_n 0, 1) := by decide +kernel
theorem dX9_change_92 : decode cX9_change 92 = .ok (.getfield 13, 3) := by decide +kernel
theorem dX9_change_95 : decode cX9_change 95 = .ok (.iconst 5, 1) := by decide +kernel
theorem dX9_change_96 : decode cX9_change 96 = .ok (.dup2, 1) := by decide +kernel
theorem dX9_change_97 : decode cX9_change 97 = .ok (.iaload, 1) := by decide +kernel
theorem dX9_change_98 : decode cX9_change 98 = .ok (.iload_n 2, 1) := by decide +kernel
theorem dX9_change_99 : decode cX9_change 99 = .ok (.aload_n 0, 1) := by decide +kernel
theorem dX9_change_100 : decode cX9_change 100 = .ok (.getfield 31, 3) := by decide +kernel
theorem dX9_change_103 : decode cX9_change 103 = .ok (.iload 6, 2) := by decide +kernel
theorem dX9_change_105 : decode cX9_change 105 = .ok (.iaload, 1) := by decide +kernel
theorem dX9_change_106 : decode cX9_change 106 = .ok (.isub, 1) := by decide +kernel
theorem dX9_change_107 : decode cX9_change 107 = .ok (.iadd, 1) := by decide +kernel
theorem dX9_change_108 : decode cX9_change 108 = .ok (.iastore, 1) := by decide +kernel
theorem dX9_change_109 : decode cX9_change 109 = .ok (.aload_n 0, 1) := by decide +kernel
theorem dX9_change_110 : decode cX9_change 110 = .ok (.getfield 31, 3) := by decide +kernel
theorem dX9_change_113 : decode cX9_change 113 = .ok (.iload 6, 2) := by decide +kernel
theorem dX9_change_115 : decode cX9_change 115 = .ok (.iload_n 2, 1) := by decide +kernel
theorem dX9_change_116 : decode cX9_change 116 = .ok (.iastore, 1) := by decide +kernel
theorem dX9_change_117 : decode cX9_change 117 = .ok (.iinc 5 1, 3) := by decide +kernel
theorem dX9_change_120 : decode cX9_change 120 = .ok (.goto (-112), 3) := by decide +kernel
theorem dX9_change_123 : decode cX9_change 123 = .ok (.aload_n 0, 1) := by decide +kernel
theorem dX9_change_124 : decode cX9_change 124 = .ok (.iconst 5, 1) := by decide +kernel
theorem dX9_change_125 : decode cX9_change 125 = .ok (.iconst 0, 1) := by decide +kernel
theorem dX9_change_126 : decode cX9_change 126 = .ok (.invokevirtual 117, 3) := by decide +kernel
theorem dX9_change_129 : decode cX9_change 129 = .ok (.return_, 1) := by decide +kernel
set_option maxRecDepth 20000 in
theorem ggX9_write_X9_chosenAt : GoodIn wsX9_write wsX9_chosenAt := goodIn_r _ [12, 13, 14, 15, 16, 17, 18, 11, 19, 20, 21, 22, 23, 24, 25, 26, 27, 28, 29, 30, 31, 54, 55, 56, 57, 58, 59, 60, 61, 62, 63, 64, 65, 66, 67, 68, 69, 70, 71, 72, 73, 74, 75, 76, 77] (by decide +kernel) (by decide +kernel)
set_option maxRecDepth 20000 in
theorem gX9_write_X9_chosenAt : GoodIn wsX9_write (wsV RX9 125 RX9 yX9_chosenAt wsX9_chosenAt) := goodIn_app (goodIn_of _ (by decide +kernel)) ggX9_write_X9_chosenAt
set_option maxRecDepth 20000 in
theorem ggX9_write_X9_place : GoodIn wsX9_write wsX9_place := goodIn_r _ [25] (by decide +kernel) (by decide +kernel)
set_option maxRecDepth 20000 in
theorem gX9_write_X9_place : GoodIn wsX9_write (va_wsS RX9 64 yX9_place wsX9_place) := goodIn_app (goodIn_of _ (by decide +kernel)) ggX9_write_X9_place
set_option maxRecDepth 20000 in
theorem ggX9_write_X9_change : GoodIn wsX9_write wsX9_change := goodIn_r _ [35, 20, 36, 37, 38, 39, 6, 5, 40, 41, 42, 11, 43, 44, 45, 46, 47, 4, 48, 49, 22, 21, 23, 24, 25, 50, 51, 52, 53, 54, 55, 56, 57, 58, 59, 60, 61, 62, 63, 64, 65, 66, 67, 68, 69, 70, 71, 72, 73, 74, 75, 76, 77] (by decide +kernel) (by decide +kernel)
set_option maxRecDepth 20000 in
theorem gX9_write_X9_change : GoodIn wsX9_write (wsV RX9 131 RX9 yX9_change wsX9_change) := goodIn_app (goodIn_of _ (by decide +kernel)) ggX9_write_X9_change
theorem dX9_write_0 : decode cX9_write 0 = .ok (.aload_n 0, 1) := by decide +kernel
theorem dX9_write_1 : decode cX9_write 1 = .ok (.aload_n 0, 1) := by decide +kernel
theorem dX9_write_2 : decode cX9_write 2 = .ok (.getfield 107, 3) := by decide +kernel
theorem dX9_write_5 : decode cX9_write 5 = .ok (.iconst 1, 1) := by decide +kernel
theorem dX9_write_6 : decode cX9_write 6 = .ok (.if_icmp .ne 7, 3) := by decide +kernel
theorem dX9_write_9 : decode cX9_write 9 = .ok (.iconst 2, 1) := by decide +kernel
theorem dX9_write_10 : decode cX9_write 10 = .ok (.goto 4, 3) := by decide +kernel
theorem dX9_write_13 : decode cX9_write 13 = .ok (.iconst 0, 1) := by decide +kernel
theorem dX9_write_14 : decode cX9_write 14 = .ok (.putfield 57, 3) := by decide +kernel
theorem dX9_write_17 : decode cX9_write 17 = .ok (.aload_n 0, 1) := by decide +kernel
theorem dX9_write_18 : decode cX9_write 18 = .ok (.getfield 57, 3) := by decide +kernel
theorem dX9_write_21 : decode cX9_write 21 = .ok (.ifCond .le 5, 3) := by decide +kernel
theorem dX9_write_24 : decode cX9_write 24 = .ok (.iconst 0, 1) := by decide +kernel
theorem dX9_write_25 : decode cX9_write 25 = .ok (.ireturn, 1) := by decide +kernel
theorem dX9_write_26 : decode cX9_write 26 = .ok (.aload_n 0, 1) := by decide +kernel
theorem dX9_write_27 : decode cX9_write 27 = .ok (.getfield 61, 3) := by decide +kernel
theorem dX9_write_30 : decode cX9_write 30 = .ok (.istore_n 2, 1) := by decide +kernel
theorem dX9_write_31 : decode cX9_write 31 = .ok (.aload_n 0, 1) := by decide +kernel
theorem dX9_write_32 : decode cX9_write 32 = .ok (.iconst 0, 1) := by decide +kernel
theorem dX9_write_33 : decode cX9_write 33 = .ok (.putfield 61, 3) := by decide +kernel
theorem dX9_write_36 : decode cX9_write 36 = .ok (.aload_n 0, 1) := by decide +kernel
theorem dX9_write_37 : decode cX9_write 37 = .ok (.invokevirtual 125, 3) := by decide +kernel
theorem dX9_write_40 : decode cX9_write 40 = .ok (.istore_n 3, 1) := by decide +kernel
theorem dX9_write_41 : decode cX9_write 41 = .ok (.iload_n 3, 1) := by decide +kernel
theorem dX9_write_42 : decode cX9_write 42 = .ok (.ifCond .ge 7, 3) := by decide +kernel
theorem dX9_write_45 : decode cX9_write 45 = .ok (.iconst 2, 1) := by decide +kernel
theorem dX9_write_46 : decode cX9_write 46 = .ok (.goto 13, 3) := by decide +kernel
theorem dX9_write_49 : decode cX9_write 49 = .ok (.aload_n 0, 1) := by decide +kernel
theorem dX9_write_50 : decode cX9_write 50 = .ok (.getfield 16, 3) := by decide +kernel
theorem dX9_write_53 : decode cX9_write 53 = .ok (.iconst 0, 1) := by decide +kernel
theorem dX9_write_54 : decode cX9_write 54 = .ok (.iload_n 3, 1) := by decide +kernel
theorem dX9_write_55 : decode cX9_write 55 = .ok (.invokestatic 64, 3) := by decide +kernel
theorem dX9_write_58 : decode cX9_write 58 = .ok (.iaload, 1) := by decide +kernel
theorem dX9_write_59 : decode cX9_write 59 = .ok (.istore 4, 2) := by decide +kernel
theorem dX9_write_61 : decode cX9_write 61 = .ok (.aload_n 0, 1) := by decide +kernel
theorem dX9_write_62 : decode cX9_write 62 = .ok (.iload 4, 2) := by decide +kernel
theorem dX9_write_64 : decode cX9_write 64 = .ok (.iconst 2, 1) := by decide +kernel
theorem dX9_write_65 : decode cX9_write 65 = .ok (.if_icmp .ne 7, 3) := by decide +kernel
theorem dX9_write_68 : decode cX9_write 68 = .ok (.iconst 2, 1) := by decide +kernel
theorem dX9_write_69 : decode cX9_write 69 = .ok (.goto 4, 3) := by decide +kernel
theorem dX9_write_72 : decode cX9_write 72 = .ok (.iconst 0, 1) := by decide +kernel
theorem dX9_write_73 : decode cX9_write 73 = .ok (.putfield 57, 3) := by decide +kernel
theorem dX9_write_76 : decode cX9_write 76 = .ok (.aload_n 0, 1) := by decide +kernel
theorem dX9_write_77 : decode cX9_write 77 = .ok (.getfield 57, 3) := by decide +kernel
theorem dX9_write_80 : decode cX9_write 80 = .ok (.ifCond .le 5, 3) := by decide +kernel
theorem dX9_write_83 : decode cX9_write 83 = .ok (.iconst 0, 1) := by decide +kernel
theorem dX9_write_84 : decode cX9_write 84 = .ok (.ireturn, 1) := by decide +kernel
theorem dX9_write_85 : decode cX9_write 85 = .ok (.aload_n 0, 1) := by decide +kernel
theorem dX9_write_86 : decode cX9_write 86 = .ok (.getfield 31, 3) := by decide +kernel
theorem dX9_write_89 : decode cX9_write 89 = .ok (.iconst 0, 1) := by decide +kernel
theorem dX9_write_90 : decode cX9_write 90 = .ok (.iload_n 3, 1) := by decide +kernel
theorem dX9_write_91 : decode cX9_write 91 = .ok (.invokestatic 64, 3) := by decide +kernel
theorem dX9_write_94 : decode cX9_write 94 = .ok (.iaload, 1) := by decide +kernel
theorem dX9_write_95 : decode cX9_write 95 = .ok (.istore 5, 2) := by decide +kernel
theorem dX9_write_97 : decode cX9_write 97 = .ok (.iload_n 1, 1) := by decide +kernel
theorem dX9_write_98 : decode cX9_write 98 = .ok (.i2l, 1) := by decide +kernel
theorem dX9_write_99 : decode cX9_write 99 = .ok (.iload_n 2, 1) := by decide +kernel
theorem dX9_write_100 : decode cX9_write 100 = .ok (.i2l, 1) := by decide +kernel
theorem dX9_write_101 : decode cX9_write 101 = .ok (.ladd, 1) := by decide +kernel
theorem dX9_write_102 : decode cX9_write 102 = .ok (.lstore 6, 2) := by decide +kernel
theorem dX9_write_104 : decode cX9_write 104 = .ok (.lload 6, 2) := by decide +kernel
theorem dX9_write_106 : decode cX9_write 106 = .ok (.iload 5, 2) := by decide +kernel
theorem dX9_write_108 : decode cX9_write 108 = .ok (.i2l, 1) := by decide +kernel
theorem dX9_write_109 : decode cX9_write 109 = .ok (.lcmp, 1) := by decide +kernel
theorem dX9_write_110 : decode cX9_write 110 = .ok (.ifCond .le 8, 3) := by decide +kernel
theorem dX9_write_113 : decode cX9_write 113 = .ok (.lload 6, 2) := by decide +kernel
theorem dX9_write_115 : decode cX9_write 115 = .ok (.goto 6, 3) := by decide +kernel
theorem dX9_write_118 : decode cX9_write 118 = .ok (.iload 5, 2) := by decide +kernel
theorem dX9_write_120 : decode cX9_write 120 = .ok (.i2l, 1) := by decide +kernel
theorem dX9_write_121 : decode cX9_write 121 = .ok (.lstore 8, 2) := by decide +kernel
theorem dX9_write_123 : decode cX9_write 123 = .ok (.lload 8, 2) := by decide +kernel
theorem dX9_write_125 : decode cX9_write 125 = .ok (.iload 4, 2) := by decide +kernel
theorem dX9_write_127 : decode cX9_write 127 = .ok (.iconst 1, 1) := by decide +kernel
theorem dX9_write_128 : decode cX9_write 128 = .ok (.if_icmp .ne 9, 3) := by decide +kernel
theorem dX9_write_131 : decode cX9_write 131 = .ok (.sipush 1500, 3) := by decide +kernel
theorem dX9_write_134 : decode cX9_write 134 = .ok (.goto 5, 3) := by decide +kernel
theorem dX9_write_137 : decode cX9_write 137 = .ok (.bipush 100, 2) := by decide +kernel
theorem dX9_write_139 : decode cX9_write 139 = .ok (.i2l, 1) := by decide +kernel
theorem dX9_write_140 : decode cX9_write 140 = .ok (.lcmp, 1) := by decide +kernel
theorem dX9_write_141 : decode cX9_write 141 = .ok (.ifCond .gt 23, 3) := by decide +kernel
theorem dX9_write_144 : decode cX9_write 144 = .ok (.aload_n 0, 1) := by decide +kernel
theorem dX9_write_145 : decode cX9_write 145 = .ok (.getfield 13, 3) := by decide +kernel
theorem dX9_write_148 : decode cX9_write 148 = .ok (.iconst 0, 1) := by decide +kernel
theorem dX9_write_149 : decode cX9_write 149 = .ok (.iaload, 1) := by decide +kernel
theorem dX9_write_150 : decode cX9_write 150 = .ok (.iload 5, 2) := by decide +kernel
theorem dX9_write_152 : decode cX9_write 152 = .ok (.isub, 1) := by decide +kernel
theorem dX9_write_153 : decode cX9_write 153 = .ok (.i2l, 1) := by decide +kernel
theorem dX9_write_154 : decode cX9_write 154 = .ok (.lload 8, 2) := by decide +kernel
theorem dX9_write_156 : decode cX9_write 156 = .ok (.ladd, 1) := by decide +kernel
theorem dX9_write_157 : decode cX9_write 157 = .ok (.ldc2_w 129, 3) := by decide +kernel
theorem dX9_write_160 : decode cX9_write 160 = .ok (.lcmp, 1) := by decide +kernel
theorem dX9_write_161 : decode cX9_write 161 = .ok (.ifCond .le 11, 3) := by decide +kernel
theorem dX9_write_164 : decode cX9_write 164 = .ok (.aload_n 0, 1) := by decide +kernel
theorem dX9_write_165 : decode cX9_write 165 = .ok (.iconst 2, 1) := by decide +kernel
theorem dX9_write_166 : decode cX9_write 166 = .ok (.putfield 57, 3) := by decide +kernel
theorem dX9_write_169 : decode cX9_write 169 = .ok (.goto 18, 3) := by decide +kernel
theorem dX9_write_172 : decode cX9_write 172 = .ok (.iload_n 1, 1) := by decide +kernel
theorem dX9_write_173 : decode cX9_write 173 = .ok (.ifCond .lt 9, 3) := by decide +kernel
theorem dX9_write_176 : decode cX9_write 176 = .ok (.iload_n 1, 1) := by decide +kernel
theorem dX9_write_177 : decode cX9_write 177 = .ok (.iload 5, 2) := by decide +kernel
theorem dX9_write_179 : decode cX9_write 179 = .ok (.if_icmp .le 8, 3) := by decide +kernel
theorem dX9_write_182 : decode cX9_write 182 = .ok (.aload_n 0, 1) := by decide +kernel
theorem dX9_write_183 : decode cX9_write 183 = .ok (.iconst 1, 1) := by decide +kernel
theorem dX9_write_184 : decode cX9_write 184 = .ok (.putfield 57, 3) := by decide +kernel
theorem dX9_write_187 : decode cX9_write 187 = .ok (.aload_n 0, 1) := by decide +kernel
theorem dX9_write_188 : decode cX9_write 188 = .ok (.getfield 57, 3) := by decide +kernel
theorem dX9_write_191 : decode cX9_write 191 = .ok (.ifCond .le 5, 3) := by decide +kernel
theorem dX9_write_194 : decode cX9_write 194 = .ok (.iconst 0, 1) := by decide +kernel
theorem dX9_write_195 : decode cX9_write 195 = .ok (.ireturn, 1) := by decide +kernel
theorem dX9_write_196 : decode cX9_write 196 = .ok (.aload_n 0, 1) := by decide +kernel
theorem dX9_write_197 : decode cX9_write 197 = .ok (.iload_n 3, 1) := by decide +kernel
theorem dX9_write_198 : decode cX9_write 198 = .ok (.lload 8, 2) := by decide +kernel
theorem dX9_write_200 : decode cX9_write 200 = .ok (.l2i, 1) := by decide +kernel
theorem dX9_write_201 : decode cX9_write 201 = .ok (.iload_n 1, 1) := by decide +kernel
theorem dX9_write_202 : decode cX9_write 202 = .ok (.iload_n 2, 1) := by decide +kernel
theorem dX9_write_203 : decode cX9_write 203 = .ok (.invokevirtual 131, 3) := by decide +kernel
theorem dX9_write_206 : decode cX9_write 206 = .ok (.lload 8, 2) := by decide +kernel
theorem dX9_write_208 : decode cX9_write 208 = .ok (.l2i, 1) := by decide +kernel
theorem dX9_write_209 : decode cX9_write 209 = .ok (.ireturn, 1) := by decide +kernel
set_option maxRecDepth 20000 in
theorem ggX9_cut_X9_chosenAt : GoodIn wsX9_cut wsX9_chosenAt := goodIn_r _ [9, 10, 11, 12, 13, 14, 15, 8, 16, 17, 18, 19, 20, 21, 22, 23, 24, 25, 26, 27, 28, 52, 53, 54, 55, 56, 57, 58, 59, 60, 61, 62, 63, 64, 65, 66, 67, 68, 69, 70, 71, 72, 73, 74, 75] (by decide +kernel) (by decide +kernel)
set_option maxRecDepth 20000 in
theorem gX9_cut_X9_chosenAt : GoodIn wsX9_cut (wsV RX9 125 RX9 yX9_chosenAt wsX9_chosenAt) := goodIn_app (goodIn_of _ (by decide +kernel)) ggX9_cut_X9_chosenAt
set_option maxRecDepth 20000 in
theorem ggX9_cut_X9_place : GoodIn wsX9_cut wsX9_place := goodIn_r _ [22] (by decide +kernel) (by decide +kernel)
set_option maxRecDepth 20000 in
theorem gX9_cut_X9_place : GoodIn wsX9_cut (va_wsS RX9 64 yX9_place wsX9_place) := goodIn_app (goodIn_of _ (by decide +kernel)) ggX9_cut_X9_place
set_option maxRecDepth 20000 in
theorem ggX9_cut_X9_change : GoodIn wsX9_cut wsX9_change := goodIn_r _ [32, 17, 33, 34, 35, 36, 37, 3, 38, 39, 40, 8, 41, 42, 43, 44, 45, 2, 46, 47, 19, 18, 20, 21, 22, 48, 49, 50, 51, 52, 53, 54, 55, 56, 57, 58, 59, 60, 61, 62, 63, 64, 65, 66, 67, 68, 69, 70, 71, 72, 73, 74, 75] (by decide +kernel) (by decide +kernel)
set_option maxRecDepth 20000 in
theorem gX9_cut_X9_change : GoodIn wsX9_cut (wsV RX9 131 RX9 yX9_change wsX9_change) := goodIn_app (goodIn_of _ (by decide +kernel)) ggX9_cut_X9_change
theorem dX9_cut_0 : decode cX9_cut 0 = .ok (.aload_n 0, 1) := by decide +kernel
theorem dX9_cut_1 : decode cX9_cut 1 = .ok (.invokevirtual 125, 3) := by decide +kernel
theorem dX9_cut_4 : decode cX9_cut 4 = .ok (.istore_n 2, 1) := by decide +kernel
theorem dX9_cut_5 : decode cX9_cut 5 = .ok (.aload_n 0, 1) := by decide +kernel
theorem dX9_cut_6 : decode cX9_cut 6 = .ok (.aload_n 0, 1) := by decide +kernel
theorem dX9_cut_7 : decode cX9_cut 7 = .ok (.getfield 107, 3) := by decide +kernel
theorem dX9_cut_10 : decode cX9_cut 10 = .ok (.iconst 1, 1) := by decide +kernel
theorem dX9_cut_11 : decode cX9_cut 11 = .ok (.if_icmp .eq 21, 3) := by decide +kernel
theorem dX9_cut_14 : decode cX9_cut 14 = .ok (.iload_n 2, 1) := by decide +kernel
theorem dX9_cut_15 : decode cX9_cut 15 = .ok (.ifCond .lt 17, 3) := by decide +kernel
theorem dX9_cut_18 : decode cX9_cut 18 = .ok (.aload_n 0, 1) := by decide +kernel
theorem dX9_cut_19 : decode cX9_cut 19 = .ok (.getfield 16, 3) := by decide +kernel
theorem dX9_cut_22 : decode cX9_cut 22 = .ok (.iconst 0, 1) := by decide +kernel
theorem dX9_cut_23 : decode cX9_cut 23 = .ok (.iload_n 2, 1) := by decide +kernel
theorem dX9_cut_24 : decode cX9_cut 24 = .ok (.invokestatic 64, 3) := by decide +kernel
theorem dX9_cut_27 : decode cX9_cut 27 = .ok (.iaload, 1) := by decide +kernel
theorem dX9_cut_28 : decode cX9_cut 28 = .ok (.iconst 2, 1) := by decide +kernel
theorem dX9_cut_29 : decode cX9_cut 29 = .ok (.if_icmp .ne 7, 3) := by decide +kernel
theorem dX9_cut_32 : decode cX9_cut 32 = .ok (.iconst 2, 1) := by decide +kernel
theorem dX9_cut_33 : decode cX9_cut 33 = .ok (.goto 26, 3) := by decide +kernel
theorem dX9_cut_36 : decode cX9_cut 36 = .ok (.iload_n 1, 1) := by decide +kernel
theorem dX9_cut_37 : decode cX9_cut 37 = .ok (.ifCond .lt 17, 3) := by decide +kernel
theorem dX9_cut_40 : decode cX9_cut 40 = .ok (.iload_n 1, 1) := by decide +kernel
theorem dX9_cut_41 : decode cX9_cut 41 = .ok (.aload_n 0, 1) := by decide +kernel
theorem dX9_cut_42 : decode cX9_cut 42 = .ok (.getfield 31, 3) := by decide +kernel
theorem dX9_cut_45 : decode cX9_cut 45 = .ok (.iconst 0, 1) := by decide +kernel
theorem dX9_cut_46 : decode cX9_cut 46 = .ok (.iload_n 2, 1) := by decide +kernel
theorem dX9_cut_47 : decode cX9_cut 47 = .ok (.invokestatic 64, 3) := by decide +kernel
theorem dX9_cut_50 : decode cX9_cut 50 = .ok (.iaload, 1) := by decide +kernel
theorem dX9_cut_51 : decode cX9_cut 51 = .ok (.if_icmp .le 7, 3) := by decide +kernel
theorem dX9_cut_54 : decode cX9_cut 54 = .ok (.iconst 1, 1) := by decide +kernel
theorem dX9_cut_55 : decode cX9_cut 55 = .ok (.goto 4, 3) := by decide +kernel
theorem dX9_cut_58 : decode cX9_cut 58 = .ok (.iconst 0, 1) := by decide +kernel
theorem dX9_cut_59 : decode cX9_cut 59 = .ok (.putfield 57, 3) := by decide +kernel
theorem dX9_cut_62 : decode cX9_cut 62 = .ok (.aload_n 0, 1) := by decide +kernel
theorem dX9_cut_63 : decode cX9_cut 63 = .ok (.getfield 57, 3) := by decide +kernel
theorem dX9_cut_66 : decode cX9_cut 66 = .ok (.ifCond .ne 11, 3) := by decide +kernel
theorem dX9_cut_69 : decode cX9_cut 69 = .ok (.aload_n 0, 1) := by decide +kernel
theorem dX9_cut_70 : decode cX9_cut 70 = .ok (.iload_n 2, 1) := by decide +kernel
theorem dX9_cut_71 : decode cX9_cut 71 = .ok (.iload_n 1, 1) := by decide +kernel
theorem dX9_cut_72 : decode cX9_cut 72 = .ok (.iconst 0, 1) := by decide +kernel
theorem dX9_cut_73 : decode cX9_cut 73 = .ok (.iconst 0, 1) := by decide +kernel
theorem dX9_cut_74 : decode cX9_cut 74 = .ok (.invokevirtual 131, 3) := by decide +kernel
theorem dX9_cut_77 : decode cX9_cut 77 = .ok (.return_, 1) := by decide +kernel
set_option maxRecDepth 20000 in
theorem ggX9_set_X9_chosenAt : GoodIn wsX9_set wsX9_chosenAt := goodIn_r _ [9, 10, 11, 12, 13, 14, 15, 8, 16, 17, 18, 19, 20, 21, 22, 23, 24, 25, 26, 27, 28, 29, 30, 31, 32, 33, 34, 35, 36, 37, 38, 39, 40, 41, 42, 43, 44, 45, 46, 47, 48, 49, 50, 51, 52] (by decide +kernel) (by decide +kernel)
set_option maxRecDepth 20000 in
theorem gX9_set_X9_chosenAt : GoodIn wsX9_set (wsV RX9 125 RX9 yX9_chosenAt wsX9_chosenAt) := goodIn_app (goodIn_of _ (by decide +kernel)) ggX9_set_X9_chosenAt
set_option maxRecDepth 20000 in
theorem ggX9_set_X9_place : GoodIn wsX9_set wsX9_place := goodIn_r _ [22] (by decide +kernel) (by decide +kernel)
set_option maxRecDepth 20000 in
theorem gX9_set_X9_place : GoodIn wsX9_set (va_wsS RX9 64 yX9_place wsX9_place) := goodIn_app (goodIn_of _ (by decide +kernel)) ggX9_set_X9_place
theorem dX9_set_0 : decode cX9_set 0 = .ok (.aload_n 0, 1) := by decide +kernel
theorem dX9_set_1 : decode cX9_set 1 = .ok (.invokevirtual 125, 3) := by decide +kernel
theorem dX9_set_4 : decode cX9_set 4 = .ok (.istore_n 3, 1) := by decide +kernel
theorem dX9_set_5 : decode cX9_set 5 = .ok (.aload_n 0, 1) := by decide +kernel
theorem dX9_set_6 : decode cX9_set 6 = .ok (.aload_n 0, 1) := by decide +kernel
theorem dX9_set_7 : decode cX9_set 7 = .ok (.getfield 107, 3) := by decide +kernel
theorem dX9_set_10 : decode cX9_set 10 = .ok (.iconst 1, 1) := by decide +kernel
theorem dX9_set_11 : decode cX9_set 11 = .ok (.if_icmp .eq 7, 3) := by decide +kernel
theorem dX9_set_14 : decode cX9_set 14 = .ok (.iload_n 3, 1) := by decide +kernel
theorem dX9_set_15 : decode cX9_set 15 = .ok (.ifCond .ge 7, 3) := by decide +kernel
theorem dX9_set_18 : decode cX9_set 18 = .ok (.iconst 2, 1) := by decide +kernel
theorem dX9_set_19 : decode cX9_set 19 = .ok (.goto 23, 3) := by decide +kernel
theorem dX9_set_22 : decode cX9_set 22 = .ok (.iload_n 1, 1) := by decide +kernel
theorem dX9_set_23 : decode cX9_set 23 = .ok (.ifCond .lt 14, 3) := by decide +kernel
theorem dX9_set_26 : decode cX9_set 26 = .ok (.iload_n 1, 1) := by decide +kernel
theorem dX9_set_27 : decode cX9_set 27 = .ok (.sipush 4095, 3) := by decide +kernel
theorem dX9_set_30 : decode cX9_set 30 = .ok (.if_icmp .gt 7, 3) := by decide +kernel
theorem dX9_set_33 : decode cX9_set 33 = .ok (.iload_n 2, 1) := by decide +kernel
theorem dX9_set_34 : decode cX9_set 34 = .ok (.ifCond .ge 7, 3) := by decide +kernel
theorem dX9_set_37 : decode cX9_set 37 = .ok (.iconst 1, 1) := by decide +kernel
theorem dX9_set_38 : decode cX9_set 38 = .ok (.goto 4, 3) := by decide +kernel
theorem dX9_set_41 : decode cX9_set 41 = .ok (.iconst 0, 1) := by decide +kernel
theorem dX9_set_42 : decode cX9_set 42 = .ok (.putfield 57, 3) := by decide +kernel
theorem dX9_set_45 : decode cX9_set 45 = .ok (.aload_n 0, 1) := by decide +kernel
theorem dX9_set_46 : decode cX9_set 46 = .ok (.getfield 57, 3) := by decide +kernel
theorem dX9_set_49 : decode cX9_set 49 = .ok (.ifCond .le 4, 3) := by decide +kernel
theorem dX9_set_52 : decode cX9_set 52 = .ok (.return_, 1) := by decide +kernel
theorem dX9_set_53 : decode cX9_set 53 = .ok (.aload_n 0, 1) := by decide +kernel
theorem dX9_set_54 : decode cX9_set 54 = .ok (.getfield 19, 3) := by decide +kernel
theorem dX9_set_57 : decode cX9_set 57 = .ok (.iconst 0, 1) := by decide +kernel
theorem dX9_set_58 : decode cX9_set 58 = .ok (.iload_n 3, 1) := by decide +kernel
theorem dX9_set_59 : decode cX9_set 59 = .ok (.invokestatic 64, 3) := by decide +kernel
theorem dX9_set_62 : decode cX9_set 62 = .ok (.iload_n 1, 1) := by decide +kernel
theorem dX9_set_63 : decode cX9_set 63 = .ok (.iastore, 1) := by decide +kernel
theorem dX9_set_64 : decode cX9_set 64 = .ok (.aload_n 0, 1) := by decide +kernel
theorem dX9_set_65 : decode cX9_set 65 = .ok (.getfield 22, 3) := by decide +kernel
theorem dX9_set_68 : decode cX9_set 68 = .ok (.iconst 0, 1) := by decide +kernel
theorem dX9_set_69 : decode cX9_set 69 = .ok (.iload_n 3, 1) := by decide +kernel
theorem dX9_set_70 : decode cX9_set 70 = .ok (.invokestatic 64, 3) := by decide +kernel
theorem dX9_set_73 : decode cX9_set 73 = .ok (.iload_n 2, 1) := by decide +kernel
theorem dX9_set_74 : decode cX9_set 74 = .ok (.iastore, 1) := by decide +kernel
theorem dX9_set_75 : decode cX9_set 75 = .ok (.return_, 1) := by decide +kernel
set_option maxRecDepth 20000 in
theorem ggX9_isBelow_X9_place : GoodIn wsX9_isBelow wsX9_place := goodIn_r _ [8] (by decide +kernel) (by decide +kernel)
set_option maxRecDepth 20000 in
theorem gX9_isBelow_X9_place : GoodIn wsX9_isBelow (va_wsS RX9 64 yX9_place wsX9_place) := goodIn_app (goodIn_of _ (by decide +kernel)) ggX9_isBelow_X9_place
theorem dX9_isBelow_0 : decode cX9_isBelow 0 = .ok (.iconst 0, 1) := by decide +kernel
theorem dX9_isBelow_1 : decode cX9_isBelow 1 = .ok (.iload_n 1, 1) := by decide +kernel
theorem dX9_isBelow_2 : decode cX9_isBelow 2 = .ok (.invokestatic 64, 3) := by decide +kernel
theorem dX9_isBelow_5 : decode cX9_isBelow 5 = .ok (.istore_n 2, 1) := by decide +kernel
theorem dX9_isBelow_6 : decode cX9_isBelow 6 = .ok (.aload_n 0, 1) := by decide +kernel
theorem dX9_isBelow_7 : decode cX9_isBelow 7 = .ok (.getfield 25, 3) := by decide +kernel
theorem dX9_isBelow_10 : decode cX9_isBelow 10 = .ok (.iload_n 2, 1) := by decide +kernel
theorem dX9_isBelow_11 : decode cX9_isBelow 11 = .ok (.iaload, 1) := by decide +kernel
theorem dX9_isBelow_12 : decode cX9_isBelow 12 = .ok (.aload_n 0, 1) := by decide +kernel
theorem dX9_isBelow_13 : decode cX9_isBelow 13 = .ok (.getfield 100, 3) := by decide +kernel
theorem dX9_isBelow_16 : decode cX9_isBelow 16 = .ok (.if_icmp .eq 36, 3) := by decide +kernel
theorem dX9_isBelow_19 : decode cX9_isBelow 19 = .ok (.aload_n 0, 1) := by decide +kernel
theorem dX9_isBelow_20 : decode cX9_isBelow 20 = .ok (.getfield 25, 3) := by decide +kernel
theorem dX9_isBelow_23 : decode cX9_isBelow 23 = .ok (.iload_n 2, 1) := by decide +kernel
theorem dX9_isBelow_24 : decode cX9_isBelow 24 = .ok (.iaload, 1) := by decide +kernel
theorem dX9_isBelow_25 : decode cX9_isBelow 25 = .ok (.aload_n 0, 1) := by decide +kernel
theorem dX9_isBelow_26 : decode cX9_isBelow 26 = .ok (.getfield 100, 3) := by decide +kernel
theorem dX9_isBelow_29 : decode cX9_isBelow 29 = .ok (.if_icmp .le 27, 3) := by decide +kernel
theorem dX9_isBelow_32 : decode cX9_isBelow 32 = .ok (.aload_n 0, 1) := by decide +kernel
theorem dX9_isBelow_33 : decode cX9_isBelow 33 = .ok (.getfield 35, 3) := by decide +kernel
theorem dX9_isBelow_36 : decode cX9_isBelow 36 = .ok (.sipush 150, 3) := by decide +kernel
theorem dX9_isBelow_39 : decode cX9_isBelow 39 = .ok (.iload_n 2, 1) := by decide +kernel
theorem dX9_isBelow_40 : decode cX9_isBelow 40 = .ok (.imul, 1) := by decide +kernel
theorem dX9_isBelow_41 : decode cX9_isBelow 41 = .ok (.aload_n 0, 1) := by decide +kernel
theorem dX9_isBelow_42 : decode cX9_isBelow 42 = .ok (.getfield 100, 3) := by decide +kernel
theorem dX9_isBelow_45 : decode cX9_isBelow 45 = .ok (.iadd, 1) := by decide +kernel
theorem dX9_isBelow_46 : decode cX9_isBelow 46 = .ok (.iaload, 1) := by decide +kernel
theorem dX9_isBelow_47 : decode cX9_isBelow 47 = .ok (.bipush 47, 2) := by decide +kernel
theorem dX9_isBelow_49 : decode cX9_isBelow 49 = .ok (.if_icmp .ne 7, 3) := by decide +kernel
theorem dX9_isBelow_52 : decode cX9_isBelow 52 = .ok (.iconst 1, 1) := by decide +kernel
theorem dX9_isBelow_53 : decode cX9_isBelow 53 = .ok (.goto 4, 3) := by decide +kernel
theorem dX9_isBelow_56 : decode cX9_isBelow 56 = .ok (.iconst 0, 1) := by decide +kernel
theorem dX9_isBelow_57 : decode cX9_isBelow 57 = .ok (.istore_n 3, 1) := by decide +kernel
theorem dX9_isBelow_58 : decode cX9_isBelow 58 = .ok (.iconst 0, 1) := by decide +kernel
theorem dX9_isBelow_59 : decode cX9_isBelow 59 = .ok (.istore 4, 2) := by decide +kernel
theorem dX9_isBelow_61 : decode cX9_isBelow 61 = .ok (.iload 4, 2) := by decide +kernel
theorem dX9_isBelow_63 : decode cX9_isBelow 63 = .ok (.aload_n 0, 1) := by decide +kernel
theorem dX9_isBelow_64 : decode cX9_isBelow 64 = .ok (.getfield 100, 3) := by decide +kernel
theorem dX9_isBelow_67 : decode cX9_isBelow 67 = .ok (.if_icmp .ge 42, 3) := by decide +kernel
theorem dX9_isBelow_70 : decode cX9_isBelow 70 = .ok (.iload_n 3, 1) := by decide +kernel
theorem dX9_isBelow_71 : decode cX9_isBelow 71 = .ok (.ifCond .eq 38, 3) := by decide +kernel
theorem dX9_isBelow_74 : decode cX9_isBelow 74 = .ok (.aload_n 0, 1) := by decide +kernel
theorem dX9_isBelow_75 : decode cX9_isBelow 75 = .ok (.getfield 35, 3) := by decide +kernel
theorem dX9_isBelow_78 : decode cX9_isBelow 78 = .ok (.sipush 150, 3) := by decide +kernel
theorem dX9_isBelow_81 : decode cX9_isBelow 81 = .ok (.iload_n 2, 1) := by decide +kernel
theorem dX9_isBelow_82 : decode cX9_isBelow 82 = .ok (.imul, 1) := by decide +kernel
theorem dX9_isBelow_83 : decode cX9_isBelow 83 = .ok (.iload 4, 2) := by decide +kernel
theorem dX9_isBelow_85 : decode cX9_isBelow 85 = .ok (.iadd, 1) := by decide +kernel
theorem dX9_isBelow_86 : decode cX9_isBelow 86 = .ok (.iaload, 1) := by decide +kernel
theorem dX9_isBelow_87 : decode cX9_isBelow 87 = .ok (.aload_n 0, 1) := by decide +kernel
theorem dX9_isBelow_88 : decode cX9_isBelow 88 = .ok (.getfield 54, 3) := by decide +kernel
theorem dX9_isBelow_91 : decode cX9_isBelow 91 = .ok (.iload 4, 2) := by decide +kernel
theorem dX9_isBelow_93 : decode cX9_isBelow 93 = .ok (.iaload, 1) := by decide +kernel
theorem dX9_isBelow_94 : decode cX9_isBelow 94 = .ok (.if_icmp .ne 7, 3) := by decide +kernel
theorem dX9_isBelow_97 : decode cX9_isBelow 97 = .ok (.iconst 1, 1) := by decide +kernel
theorem dX9_isBelow_98 : decode cX9_isBelow 98 = .ok (.goto 4, 3) := by decide +kernel
theorem dX9_isBelow_101 : decode cX9_isBelow 101 = .ok (.iconst 0, 1) := by decide +kernel
theorem dX9_isBelow_102 : decode cX9_isBelow 102 = .ok (.istore_n 3, 1) := by decide +kernel
theorem dX9_isBelow_103 : decode cX9_isBelow 103 = .ok (.iinc 4 1, 3) := by decide +kernel
theorem dX9_isBelow_106 : decode cX9_isBelow 106 = .ok (.goto (-45), 3) := by decide +kernel
theorem dX9_isBelow_109 : decode cX9_isBelow 109 = .ok (.iload_n 3, 1) := by decide +kernel
theorem dX9_isBelow_110 : decode cX9_isBelow 110 = .ok (.ireturn, 1) := by decide +kernel
set_option maxRecDepth 20000 in
theorem ggX9_remove_X9_chosenAt : GoodIn wsX9_remove wsX9_chosenAt := goodIn_r _ [9, 4, 10, 11, 12, 13, 14, 8, 15, 3, 16, 17, 18, 19, 20, 21, 22, 23, 24, 25, 26, 50, 51, 52, 53, 54, 55, 56, 57, 58, 59, 60, 61, 62, 63, 64, 65, 66, 67, 68, 69, 70, 71, 72, 73] (by decide +kernel) (by decide +kernel)
set_option maxRecDepth 20000 in
theorem gX9_remove_X9_chosenAt : GoodIn wsX9_remove (wsV RX9 125 RX9 yX9_chosenAt wsX9_chosenAt) := goodIn_app (goodIn_of _ (by decide +kernel)) ggX9_remove_X9_chosenAt
set_option maxRecDepth 20000 in
theorem ggX9_remove_X9_empty : GoodIn wsX9_remove wsX9_empty := goodIn_r _ [30, 3, 31, 50, 51, 52, 53, 54, 55, 56, 57, 58, 59, 60, 61, 62, 63, 64, 65, 66, 67, 68, 69, 70, 71, 72, 73] (by decide +kernel) (by decide +kernel)
set_option maxRecDepth 20000 in
theorem gX9_remove_X9_empty : GoodIn wsX9_remove (wsV RX9 68 RX9 yX9_empty wsX9_empty) := goodIn_app (goodIn_of _ (by decide +kernel)) ggX9_remove_X9_empty
set_option maxRecDepth 20000 in
theorem ggX9_remove_X9_isBelow : GoodIn wsX9_remove wsX9_isBelow := goodIn_r _ [35, 17, 11, 16, 10, 18, 19, 8, 20, 50, 51, 52, 53, 54, 55, 56, 57, 58, 59, 60, 61, 62, 63, 64, 65, 66, 67, 68, 69, 70, 71, 72, 73] (by decide +kernel) (by decide +kernel)
set_option maxRecDepth 20000 in
theorem gX9_remove_X9_isBelow : GoodIn wsX9_remove (wsV RX9 135 RX9 yX9_isBelow wsX9_isBelow) := goodIn_app (goodIn_of _ (by decide +kernel)) ggX9_remove_X9_isBelow
set_option maxRecDepth 20000 in
theorem ggX9_remove_X9_append : GoodIn wsX9_remove wsX9_append := goodIn_r _ [39, 3, 40, 41, 42, 17, 16, 43, 44, 31, 45, 18, 19, 8, 20, 50, 51, 52, 53, 54, 55, 56, 57, 58, 59, 60, 61, 62, 63, 64, 65, 66, 67, 68, 69, 70, 71, 72, 73] (by decide +kernel) (by decide +kernel)
set_option maxRecDepth 20000 in
theorem gX9_remove_X9_append : GoodIn wsX9_remove (wsV RX9 72 RX9 yX9_append wsX9_append) := goodIn_app (goodIn_of _ (by decide +kernel)) ggX9_remove_X9_append
set_option maxRecDepth 20000 in
theorem ggX9_remove_X9_copy : GoodIn wsX9_remove wsX9_copy := goodIn_r _ [49, 3, 27, 28, 29, 8, 30, 31, 36, 37, 38, 39, 40, 41, 42, 17, 16, 43, 44, 45, 18, 19, 20, 50, 51, 52, 53, 54, 55, 56, 57, 58, 59, 60, 61, 62, 63, 64, 65, 66, 67, 68, 69, 70, 71, 72, 73] (by decide +kernel) (by decide +kernel)
set_option maxRecDepth 20000 in
theorem gX9_remove_X9_copy : GoodIn wsX9_remove (wsV RX9 117 RX9 yX9_copy wsX9_copy) := goodIn_app (goodIn_of _ (by decide +kernel)) ggX9_remove_X9_copy
theorem dX9_remove_0 : decode cX9_remove 0 = .ok (.aload_n 0, 1) := by decide +kernel
theorem dX9_remove_1 : decode cX9_remove 1 = .ok (.aload_n 0, 1) := by decide +kernel
theorem dX9_remove_2 : decode cX9_remove 2 = .ok (.getfield 107, 3) := by decide +kernel
theorem dX9_remove_5 : decode cX9_remove 5 = .ok (.iconst 1, 1) := by decide +kernel
theorem dX9_remove_6 : decode cX9_remove 6 = .ok (.if_icmp .eq 10, 3) := by decide +kernel
theorem dX9_remove_9 : decode cX9_remove 9 = .ok (.aload_n 0, 1) := by decide +kernel
theorem dX9_remove_10 : decode cX9_remove 10 = .ok (.invokevirtual 125, 3) := by decide +kernel
theorem dX9_remove_13 : decode cX9_remove 13 = .ok (.ifCond .ge 7, 3) := by decide +kernel
theorem dX9_remove_16 : decode cX9_remove 16 = .ok (.iconst 1, 1) := by decide +kernel
theorem dX9_remove_17 : decode cX9_remove 17 = .ok (.goto 4, 3) := by decide +kernel
theorem dX9_remove_20 : decode cX9_remove 20 = .ok (.iconst 0, 1) := by decide +kernel
theorem dX9_remove_21 : decode cX9_remove 21 = .ok (.putfield 57, 3) := by decide +kernel
theorem dX9_remove_24 : decode cX9_remove 24 = .ok (.aload_n 0, 1) := by decide +kernel
theorem dX9_remove_25 : decode cX9_remove 25 = .ok (.getfield 57, 3) := by decide +kernel
theorem dX9_remove_28 : decode cX9_remove 28 = .ok (.ifCond .le 5, 3) := by decide +kernel
theorem dX9_remove_31 : decode cX9_remove 31 = .ok (.iconst 0, 1) := by decide +kernel
theorem dX9_remove_32 : decode cX9_remove 32 = .ok (.ireturn, 1) := by decide +kernel
theorem dX9_remove_33 : decode cX9_remove 33 = .ok (.aload_n 0, 1) := by decide +kernel
theorem dX9_remove_34 : decode cX9_remove 34 = .ok (.iconst 5, 1) := by decide +kernel
theorem dX9_remove_35 : decode cX9_remove 35 = .ok (.invokevirtual 68, 3) := by decide +kernel
theorem dX9_remove_38 : decode cX9_remove 38 = .ok (.iconst 0, 1) := by decide +kernel
theorem dX9_remove_39 : decode cX9_remove 39 = .ok (.istore_n 1, 1) := by decide +kernel
theorem dX9_remove_40 : decode cX9_remove 40 = .ok (.iload_n 1, 1) := by decide +kernel
theorem dX9_remove_41 : decode cX9_remove 41 = .ok (.aload_n 0, 1) := by decide +kernel
theorem dX9_remove_42 : decode cX9_remove 42 = .ok (.getfield 7, 3) := by decide +kernel
theorem dX9_remove_45 : decode cX9_remove 45 = .ok (.iconst 0, 1) := by decide +kernel
theorem dX9_remove_46 : decode cX9_remove 46 = .ok (.iaload, 1) := by decide +kernel
theorem dX9_remove_47 : decode cX9_remove 47 = .ok (.if_icmp .ge 24, 3) := by decide +kernel
theorem dX9_remove_50 : decode cX9_remove 50 = .ok (.aload_n 0, 1) := by decide +kernel
theorem dX9_remove_51 : decode cX9_remove 51 = .ok (.iload_n 1, 1) := by decide +kernel
theorem dX9_remove_52 : decode cX9_remove 52 = .ok (.invokevirtual 135, 3) := by decide +kernel
theorem dX9_remove_55 : decode cX9_remove 55 = .ok (.ifCond .ne 10, 3) := by decide +kernel
theorem dX9_remove_58 : decode cX9_remove 58 = .ok (.aload_n 0, 1) := by decide +kernel
theorem dX9_remove_59 : decode cX9_remove 59 = .ok (.iconst 0, 1) := by decide +kernel
theorem dX9_remove_60 : decode cX9_remove 60 = .ok (.iload_n 1, 1) := by decide +kernel
theorem dX9_remove_61 : decode cX9_remove 61 = .ok (.iconst 5, 1) := by decide +kernel
theorem dX9_remove_62 : decode cX9_remove 62 = .ok (.invokevirtual 72, 3) := by decide +kernel
theorem dX9_remove_65 : decode cX9_remove 65 = .ok (.iinc 1 1, 3) := by decide +kernel
theorem dX9_remove_68 : decode cX9_remove 68 = .ok (.goto (-28), 3) := by decide +kernel
theorem dX9_remove_71 : decode cX9_remove 71 = .ok (.aload_n 0, 1) := by decide +kernel
theorem dX9_remove_72 : decode cX9_remove 72 = .ok (.getfield 7, 3) := by decide +kernel
theorem dX9_remove_75 : decode cX9_remove 75 = .ok (.iconst 0, 1) := by decide +kernel
theorem dX9_remove_76 : decode cX9_remove 76 = .ok (.iaload, 1) := by decide +kernel
theorem dX9_remove_77 : decode cX9_remove 77 = .ok (.aload_n 0, 1) := by decide +kernel
theorem dX9_remove_78 : decode cX9_remove 78 = .ok (.getfield 7, 3) := by decide +kernel
theorem dX9_remove_81 : decode cX9_remove 81 = .ok (.iconst 5, 1) := by decide +kernel
theorem dX9_remove_82 : decode cX9_remove 82 = .ok (.iaload, 1) := by decide +kernel
theorem dX9_remove_83 : decode cX9_remove 83 = .ok (.isub, 1) := by decide +kernel
theorem dX9_remove_84 : decode cX9_remove 84 = .ok (.istore_n 1, 1) := by decide +kernel
theorem dX9_remove_85 : decode cX9_remove 85 = .ok (.aload_n 0, 1) := by decide +kernel
theorem dX9_remove_86 : decode cX9_remove 86 = .ok (.iconst 5, 1) := by decide +kernel
theorem dX9_remove_87 : decode cX9_remove 87 = .ok (.iconst 0, 1) := by decide +kernel
theorem dX9_remove_88 : decode cX9_remove 88 = .ok (.invokevirtual 117, 3) := by decide +kernel
theorem dX9_remove_91 : decode cX9_remove 91 = .ok (.aload_n 0, 1) := by decide +kernel
theorem dX9_remove_92 : decode cX9_remove 92 = .ok (.iconst 0, 1) := by decide +kernel
theorem dX9_remove_93 : decode cX9_remove 93 = .ok (.putfield 96, 3) := by decide +kernel
theorem dX9_remove_96 : decode cX9_remove 96 = .ok (.iload_n 1, 1) := by decide +kernel
theorem dX9_remove_97 : decode cX9_remove 97 = .ok (.ireturn, 1) := by decide +kernel
set_option maxRecDepth 20000 in
theorem ggX9_begin_X9_copy : GoodIn wsX9_begin wsX9_copy := goodIn_r _ [12, 13, 14, 15, 16, 11, 17, 18, 19, 20, 21, 22, 23, 24, 25, 26, 27, 28, 29, 30, 31, 32, 33, 52, 53, 54, 55, 56, 57, 58, 59, 60, 61, 62, 63, 64, 65, 66, 67, 68, 69, 70, 71, 72, 73, 74, 75] (by decide +kernel) (by decide +kernel)
set_option maxRecDepth 20000 in
theorem gX9_begin_X9_copy : GoodIn wsX9_begin (wsV RX9 117 RX9 yX9_copy wsX9_copy) := goodIn_app (goodIn_of _ (by decide +kernel)) ggX9_begin_X9_copy
set_option maxRecDepth 20000 in
theorem ggX9_begin_X9_join : GoodIn wsX9_begin wsX9_join := goodIn_r _ [37, 13, 14, 15, 16, 11, 17, 18, 38, 39, 40, 41, 27, 26, 31, 32, 33, 42, 43, 44, 45, 46, 47, 48, 49, 50, 51, 23, 24, 25, 28, 30, 29, 19, 20, 21, 22, 52, 53, 54, 55, 56, 57, 58, 59, 60, 61, 62, 63, 64, 65, 66, 67, 68, 69, 70, 71, 72, 73, 74, 75] (by decide +kernel) (by decide +kernel)
set_option maxRecDepth 20000 in
theorem gX9_begin_X9_join : GoodIn wsX9_begin (wsV RX9 147 RX9 yX9_join wsX9_join) := goodIn_app (goodIn_of _ (by decide +kernel)) ggX9_begin_X9_join
theorem dX9_begin_0 : decode cX9_begin 0 = .ok (.aload_n 0, 1) := by decide +kernel
theorem dX9_begin_1 : decode cX9_begin 1 = .ok (.aload_n 0, 1) := by decide +kernel
theorem dX9_begin_2 : decode cX9_begin 2 = .ok (.getfield 107, 3) := by decide +kernel
theorem dX9_begin_5 : decode cX9_begin 5 = .ok (.ifCond .ne 12, 3) := by decide +kernel
theorem dX9_begin_8 : decode cX9_begin 8 = .ok (.aload_n 0, 1) := by decide +kernel
theorem dX9_begin_9 : decode cX9_begin 9 = .ok (.getfield 138, 3) := by decide +kernel
theorem dX9_begin_12 : decode cX9_begin 12 = .ok (.bipush 40, 2) := by decide +kernel
theorem dX9_begin_14 : decode cX9_begin 14 = .ok (.if_icmp .ne 7, 3) := by decide +kernel
theorem dX9_begin_17 : decode cX9_begin 17 = .ok (.iconst 2, 1) := by decide +kernel
theorem dX9_begin_18 : decode cX9_begin 18 = .ok (.goto 34, 3) := by decide +kernel
theorem dX9_begin_21 : decode cX9_begin 21 = .ok (.iload_n 1, 1) := by decide +kernel
theorem dX9_begin_22 : decode cX9_begin 22 = .ok (.ifCond .lt 25, 3) := by decide +kernel
theorem dX9_begin_25 : decode cX9_begin 25 = .ok (.aload_n 0, 1) := by decide +kernel
theorem dX9_begin_26 : decode cX9_begin 26 = .ok (.getfield 138, 3) := by decide +kernel
theorem dX9_begin_29 : decode cX9_begin 29 = .ok (.ifCond .le 22, 3) := by decide +kernel
theorem dX9_begin_32 : decode cX9_begin 32 = .ok (.iload_n 1, 1) := by decide +kernel
theorem dX9_begin_33 : decode cX9_begin 33 = .ok (.aload_n 0, 1) := by decide +kernel
theorem dX9_begin_34 : decode cX9_begin 34 = .ok (.getfield 48, 3) := by decide +kernel
theorem dX9_begin_37 : decode cX9_begin 37 = .ok (.aload_n 0, 1) := by decide +kernel
theorem dX9_begin_38 : decode cX9_begin 38 = .ok (.getfield 138, 3) := by decide +kernel
theorem dX9_begin_41 : decode cX9_begin 41 = .ok (.iconst 1, 1) := by decide +kernel
theorem dX9_begin_42 : decode cX9_begin 42 = .ok (.isub, 1) := by decide +kernel
theorem dX9_begin_43 : decode cX9_begin 43 = .ok (.iaload, 1) := by decide +kernel
theorem dX9_begin_44 : decode cX9_begin 44 = .ok (.if_icmp .gt 7, 3) := by decide +kernel
theorem dX9_begin_47 : decode cX9_begin 47 = .ok (.iconst 1, 1) := by decide +kernel
theorem dX9_begin_48 : decode cX9_begin 48 = .ok (.goto 4, 3) := by decide +kernel
theorem dX9_begin_51 : decode cX9_begin 51 = .ok (.iconst 0, 1) := by decide +kernel
theorem dX9_begin_52 : decode cX9_begin 52 = .ok (.putfield 57, 3) := by decide +kernel
theorem dX9_begin_55 : decode cX9_begin 55 = .ok (.aload_n 0, 1) := by decide +kernel
theorem dX9_begin_56 : decode cX9_begin 56 = .ok (.getfield 57, 3) := by decide +kernel
theorem dX9_begin_59 : decode cX9_begin 59 = .ok (.ifCond .le 5, 3) := by decide +kernel
theorem dX9_begin_62 : decode cX9_begin 62 = .ok (.iconst 0, 1) := by decide +kernel
theorem dX9_begin_63 : decode cX9_begin 63 = .ok (.ireturn, 1) := by decide +kernel
theorem dX9_begin_64 : decode cX9_begin 64 = .ok (.aload_n 0, 1) := by decide +kernel
theorem dX9_begin_65 : decode cX9_begin 65 = .ok (.iconst 1, 1) := by decide +kernel
theorem dX9_begin_66 : decode cX9_begin 66 = .ok (.putfield 107, 3) := by decide +kernel
theorem dX9_begin_69 : decode cX9_begin 69 = .ok (.aload_n 0, 1) := by decide +kernel
theorem dX9_begin_70 : decode cX9_begin 70 = .ok (.iconst 0, 1) := by decide +kernel
theorem dX9_begin_71 : decode cX9_begin 71 = .ok (.putfield 141, 3) := by decide +kernel
theorem dX9_begin_74 : decode cX9_begin 74 = .ok (.aload_n 0, 1) := by decide +kernel
theorem dX9_begin_75 : decode cX9_begin 75 = .ok (.iload_n 1, 1) := by decide +kernel
theorem dX9_begin_76 : decode cX9_begin 76 = .ok (.putfield 144, 3) := by decide +kernel
theorem dX9_begin_79 : decode cX9_begin 79 = .ok (.aload_n 0, 1) := by decide +kernel
theorem dX9_begin_80 : decode cX9_begin 80 = .ok (.iconst 1, 1) := by decide +kernel
theorem dX9_begin_81 : decode cX9_begin 81 = .ok (.iconst 3, 1) := by decide +kernel
theorem dX9_begin_82 : decode cX9_begin 82 = .ok (.invokevirtual 117, 3) := by decide +kernel
theorem dX9_begin_85 : decode cX9_begin 85 = .ok (.aload_n 0, 1) := by decide +kernel
theorem dX9_begin_86 : decode cX9_begin 86 = .ok (.iconst 0, 1) := by decide +kernel
theorem dX9_begin_87 : decode cX9_begin 87 = .ok (.iconst 4, 1) := by decide +kernel
theorem dX9_begin_88 : decode cX9_begin 88 = .ok (.invokevirtual 117, 3) := by decide +kernel
theorem dX9_begin_91 : decode cX9_begin 91 = .ok (.aload_n 0, 1) := by decide +kernel
theorem dX9_begin_92 : decode cX9_begin 92 = .ok (.aload_n 0, 1) := by decide +kernel
theorem dX9_begin_93 : decode cX9_begin 93 = .ok (.iconst 3, 1) := by decide +kernel
theorem dX9_begin_94 : decode cX9_begin 94 = .ok (.iconst 4, 1) := by decide +kernel
theorem dX9_begin_95 : decode cX9_begin 95 = .ok (.iconst 0, 1) := by decide +kernel
theorem dX9_begin_96 : decode cX9_begin 96 = .ok (.iconst (-1), 1) := by decide +kernel
theorem dX9_begin_97 : decode cX9_begin 97 = .ok (.invokevirtual 147, 3) := by decide +kernel
theorem dX9_begin_100 : decode cX9_begin 100 = .ok (.putfield 150, 3) := by decide +kernel
theorem dX9_begin_103 : decode cX9_begin 103 = .ok (.iconst 2, 1) := by decide +kernel
theorem dX9_begin_104 : decode cX9_begin 104 = .ok (.aload_n 0, 1) := by decide +kernel
theorem dX9_begin_105 : decode cX9_begin 105 = .ok (.getfield 150, 3) := by decide +kernel
theorem dX9_begin_108 : decode cX9_begin 108 = .ok (.imul, 1) := by decide +kernel
theorem dX9_begin_109 : decode cX9_begin 109 = .ok (.iconst 3, 1) := by decide +kernel
theorem dX9_begin_110 : decode cX9_begin 110 = .ok (.iadd, 1) := by decide +kernel
theorem dX9_begin_111 : decode cX9_begin 111 = .ok (.ireturn, 1) := by decide +kernel
theorem dX9_updates_0 : decode cX9_updates 0 = .ok (.aload_n 0, 1) := by decide +kernel
theorem dX9_updates_1 : decode cX9_updates 1 = .ok (.getfield 141, 3) := by decide +kernel
theorem dX9_updates_4 : decode cX9_updates 4 = .ok (.iconst 1, 1) := by decide +kernel
theorem dX9_updates_5 : decode cX9_updates 5 = .ok (.if_icmp .ge 7, 3) := by decide +kernel
theorem dX9_updates_8 : decode cX9_updates 8 = .ok (.iconst 0, 1) := by decide +kernel
theorem dX9_updates_9 : decode cX9_updates 9 = .ok (.goto 33, 3) := by decide +kernel
theorem dX9_updates_12 : decode cX9_updates 12 = .ok (.aload_n 0, 1) := by decide +kernel
theorem dX9_updates_13 : decode cX9_updates 13 = .ok (.getfield 141, 3) := by decide +kernel
theorem dX9_updates_16 : decode cX9_updates 16 = .ok (.iconst 1, 1) := by decide +kernel
theorem dX9_updates_17 : decode cX9_updates 17 = .ok (.isub, 1) := by decide +kernel
theorem dX9_updates_18 : decode cX9_updates 18 = .ok (.iconst 2, 1) := by decide +kernel
theorem dX9_updates_19 : decode cX9_updates 19 = .ok (.idiv, 1) := by decide +kernel
theorem dX9_updates_20 : decode cX9_updates 20 = .ok (.aload_n 0, 1) := by decide +kernel
theorem dX9_updates_21 : decode cX9_updates 21 = .ok (.getfield 150, 3) := by decide +kernel
theorem dX9_updates_24 : decode cX9_updates 24 = .ok (.if_icmp .ge 14, 3) := by decide +kernel
theorem dX9_updates_27 : decode cX9_updates 27 = .ok (.aload_n 0, 1) := by decide +kernel
theorem dX9_updates_28 : decode cX9_updates 28 = .ok (.getfield 141, 3) := by decide +kernel
theorem dX9_updates_31 : decode cX9_updates 31 = .ok (.iconst 1, 1) := by decide +kernel
theorem dX9_updates_32 : decode cX9_updates 32 = .ok (.isub, 1) := by decide +kernel
theorem dX9_updates_33 : decode cX9_updates 33 = .ok (.iconst 2, 1) := by decide +kernel
theorem dX9_updates_34 : decode cX9_updates 34 = .ok (.idiv, 1) := by decide +kernel
theorem dX9_updates_35 : decode cX9_updates 35 = .ok (.goto 7, 3) := by decide +kernel
theorem dX9_updates_38 : decode cX9_updates 38 = .ok (.aload_n 0, 1) := by decide +kernel
theorem dX9_updates_39 : decode cX9_updates 39 = .ok (.getfield 150, 3) := by decide +kernel
theorem dX9_updates_42 : decode cX9_updates 42 = .ok (.ireturn, 1) := by decide +kernel
theorem dX9_increments_0 : decode cX9_increments 0 = .ok (.aload_n 0, 1) := by decide +kernel
theorem dX9_increments_1 : decode cX9_increments 1 = .ok (.getfield 141, 3) := by decide +kernel
theorem dX9_increments_4 : decode cX9_increments 4 = .ok (.iconst 2, 1) := by decide +kernel
theorem dX9_increments_5 : decode cX9_increments 5 = .ok (.idiv, 1) := by decide +kernel
theorem dX9_increments_6 : decode cX9_increments 6 = .ok (.aload_n 0, 1) := by decide +kernel
theorem dX9_increments_7 : decode cX9_increments 7 = .ok (.getfield 150, 3) := by decide +kernel
theorem dX9_increments_10 : decode cX9_increments 10 = .ok (.if_icmp .ge 12, 3) := by decide +kernel
theorem dX9_increments_13 : decode cX9_increments 13 = .ok (.aload_n 0, 1) := by decide +kernel
theorem dX9_increments_14 : decode cX9_increments 14 = .ok (.getfield 141, 3) := by decide +kernel
theorem dX9_increments_17 : decode cX9_increments 17 = .ok (.iconst 2, 1) := by decide +kernel
theorem dX9_increments_18 : decode cX9_increments 18 = .ok (.idiv, 1) := by decide +kernel
theorem dX9_increments_19 : decode cX9_increments 19 = .ok (.goto 7, 3) := by decide +kernel
theorem dX9_increments_22 : decode cX9_increments 22 = .ok (.aload_n 0, 1) := by decide +kernel
theorem dX9_increments_23 : decode cX9_increments 23 = .ok (.getfield 150, 3) := by decide +kernel
theorem dX9_increments_26 : decode cX9_increments 26 = .ok (.ireturn, 1) := by decide +kernel
set_option maxRecDepth 20000 in
theorem ggX9_mirror_X9_updates : GoodIn wsX9_mirror wsX9_updates := goodIn_r _ [5, 6, 7, 47, 48, 49, 50, 51, 52, 53, 54, 55, 56, 57, 58, 59, 60, 61, 62, 63, 64, 65, 66, 67, 68, 69, 70] (by decide +kernel) (by decide +kernel)
set_option maxRecDepth 20000 in
theorem gX9_mirror_X9_updates : GoodIn wsX9_mirror (wsV RX9 153 RX9 yX9_updates wsX9_updates) := goodIn_app (goodIn_of _ (by decide +kernel)) ggX9_mirror_X9_updates
set_option maxRecDepth 20000 in
theorem ggX9_mirror_X9_join : GoodIn wsX9_mirror wsX9_join := goodIn_r _ [11, 12, 13, 14, 15, 4, 16, 17, 18, 19, 20, 21, 22, 23, 24, 25, 26, 27, 28, 29, 30, 31, 32, 33, 34, 35, 36, 37, 38, 39, 40, 41, 42, 43, 44, 45, 46, 47, 48, 49, 50, 51, 52, 53, 54, 55, 56, 57, 58, 59, 60, 61, 62, 63, 64, 65, 66, 67, 68, 69, 70] (by decide +kernel) (by decide +kernel)
set_option maxRecDepth 20000 in
theorem gX9_mirror_X9_join : GoodIn wsX9_mirror (wsV RX9 147 RX9 yX9_join wsX9_join) := goodIn_app (goodIn_of _ (by decide +kernel)) ggX9_mirror_X9_join
theorem dX9_mirror_0 : decode cX9_mirror 0 = .ok (.aload_n 0, 1) := by decide +kernel
theorem dX9_mirror_1 : decode cX9_mirror 1 = .ok (.iconst 3, 1) := by decide +kernel
theorem dX9_mirror_2 : decode cX9_mirror 2 = .ok (.iconst 4, 1) := by decide +kernel
theorem dX9_mirror_3 : decode cX9_mirror 3 = .ok (.aload_n 0, 1) := by decide +kernel
theorem dX9_mirror_4 : decode cX9_mirror 4 = .ok (.invokevirtual 153, 3) := by decide +kernel
theorem dX9_mirror_7 : decode cX9_mirror 7 = .ok (.iconst 1, 1) := by decide +kernel
theorem dX9_mirror_8 : decode cX9_mirror 8 = .ok (.invokevirtual 147, 3) := by decide +kernel
theorem dX9_mirror_11 : decode cX9_mirror 11 = .ok (.pop, 1) := by decide +kernel
theorem dX9_mirror_12 : decode cX9_mirror 12 = .ok (.return_, 1) := by decide +kernel
set_option maxRecDepth 20000 in
theorem ggX9_step_X9_mirror : GoodIn wsX9_step wsX9_mirror := goodIn_r _ [13, 14, 15, 16, 12, 17, 4, 3, 18, 19, 20, 21, 22, 23, 24, 25, 26, 27, 28, 29, 30, 31, 32, 33, 34, 35, 36, 37, 38, 39, 40, 41, 42, 43, 44, 45, 46, 47, 48, 49, 50, 51, 52, 53, 54, 55, 56, 61, 62, 63, 64, 65, 66, 67, 68, 69, 70, 71, 72, 73, 74, 75, 76, 77, 78, 79, 80, 81, 82, 83, 84] (by decide +kernel) (by decide +kernel)
set_option maxRecDepth 20000 in
theorem gX9_step_X9_mirror : GoodIn wsX9_step (wsV RX9 156 RX9 yX9_mirror wsX9_mirror) := goodIn_app (goodIn_of _ (by decide +kernel)) ggX9_step_X9_mirror
set_option maxRecDepth 20000 in
theorem ggX9_step_X9_copy : GoodIn wsX9_step wsX9_copy := goodIn_r _ [60, 22, 23, 24, 25, 12, 26, 27, 53, 54, 55, 56, 47, 48, 49, 33, 32, 50, 52, 51, 34, 35, 36, 61, 62, 63, 64, 65, 66, 67, 68, 69, 70, 71, 72, 73, 74, 75, 76, 77, 78, 79, 80, 81, 82, 83, 84] (by decide +kernel) (by decide +kernel)
set_option maxRecDepth 20000 in
theorem gX9_step_X9_copy : GoodIn wsX9_step (wsV RX9 117 RX9 yX9_copy wsX9_copy) := goodIn_app (goodIn_of _ (by decide +kernel)) ggX9_step_X9_copy
theorem dX9_step_0 : decode cX9_step 0 = .ok (.aload_n 0, 1) := by decide +kernel
theorem dX9_step_1 : decode cX9_step 1 = .ok (.aload_n 0, 1) := by decide +kernel
theorem dX9_step_2 : decode cX9_step 2 = .ok (.getfield 107, 3) := by decide +kernel
theorem dX9_step_5 : decode cX9_step 5 = .ok (.iconst 1, 1) := by decide +kernel
theorem dX9_step_6 : decode cX9_step 6 = .ok (.if_icmp .eq 7, 3) := by decide +kernel
theorem dX9_step_9 : decode cX9_step 9 = .ok (.iconst 1, 1) := by decide +kernel
theorem dX9_step_10 : decode cX9_step 10 = .ok (.goto 19, 3) := by decide +kernel
theorem dX9_step_13 : decode cX9_step 13 = .ok (.iload_n 1, 1) := by decide +kernel
theorem dX9_step_14 : decode cX9_step 14 = .ok (.ifCond .lt 10, 3) := by decide +kernel
theorem dX9_step_17 : decode cX9_step 17 = .ok (.iload_n 1, 1) := by decide +kernel
theorem dX9_step_18 : decode cX9_step 18 = .ok (.sipush 200, 3) := by decide +kernel
theorem dX9_step_21 : decode cX9_step 21 = .ok (.if_icmp .le 7, 3) := by decide +kernel
theorem dX9_step_24 : decode cX9_step 24 = .ok (.iconst 2, 1) := by decide +kernel
theorem dX9_step_25 : decode cX9_step 25 = .ok (.goto 4, 3) := by decide +kernel
theorem dX9_step_28 : decode cX9_step 28 = .ok (.iconst 0, 1) := by decide +kernel
theorem dX9_step_29 : decode cX9_step 29 = .ok (.putfield 57, 3) := by decide +kernel
theorem dX9_step_32 : decode cX9_step 32 = .ok (.aload_n 0, 1) := by decide +kernel
theorem dX9_step_33 : decode cX9_step 33 = .ok (.getfield 57, 3) := by decide +kernel
theorem dX9_step_36 : decode cX9_step 36 = .ok (.ifCond .le 5, 3) := by decide +kernel
theorem dX9_step_39 : decode cX9_step 39 = .ok (.iconst 0, 1) := by decide +kernel
theorem dX9_step_40 : decode cX9_step 40 = .ok (.ireturn, 1) := by decide +kernel
theorem dX9_step_41 : decode cX9_step 41 = .ok (.iconst 2, 1) := by decide +kernel
theorem dX9_step_42 : decode cX9_step 42 = .ok (.aload_n 0, 1) := by decide +kernel
theorem dX9_step_43 : decode cX9_step 43 = .ok (.getfield 150, 3) := by decide +kernel
theorem dX9_step_46 : decode cX9_step 46 = .ok (.imul, 1) := by decide +kernel
theorem dX9_step_47 : decode cX9_step 47 = .ok (.iconst 3, 1) := by decide +kernel
theorem dX9_step_48 : decode cX9_step 48 = .ok (.iadd, 1) := by decide +kernel
theorem dX9_step_49 : decode cX9_step 49 = .ok (.aload_n 0, 1) := by decide +kernel
theorem dX9_step_50 : decode cX9_step 50 = .ok (.getfield 141, 3) := by decide +kernel
theorem dX9_step_53 : decode cX9_step 53 = .ok (.isub, 1) := by decide +kernel
theorem dX9_step_54 : decode cX9_step 54 = .ok (.istore_n 2, 1) := by decide +kernel
theorem dX9_step_55 : decode cX9_step 55 = .ok (.iload_n 1, 1) := by decide +kernel
theorem dX9_step_56 : decode cX9_step 56 = .ok (.iload_n 2, 1) := by decide +kernel
theorem dX9_step_57 : decode cX9_step 57 = .ok (.if_icmp .ge 7, 3) := by decide +kernel
theorem dX9_step_60 : decode cX9_step 60 = .ok (.iload_n 1, 1) := by decide +kernel
theorem dX9_step_61 : decode cX9_step 61 = .ok (.goto 4, 3) := by decide +kernel
theorem dX9_step_64 : decode cX9_step 64 = .ok (.iload_n 2, 1) := by decide +kernel
theorem dX9_step_65 : decode cX9_step 65 = .ok (.istore_n 3, 1) := by decide +kernel
theorem dX9_step_66 : decode cX9_step 66 = .ok (.aload_n 0, 1) := by decide +kernel
theorem dX9_step_67 : decode cX9_step 67 = .ok (.dup, 1) := by decide +kernel
theorem dX9_step_68 : decode cX9_step 68 = .ok (.getfield 141, 3) := by decide +kernel
theorem dX9_step_71 : decode cX9_step 71 = .ok (.iload_n 3, 1) := by decide +kernel
theorem dX9_step_72 : decode cX9_step 72 = .ok (.iadd, 1) := by decide +kernel
theorem dX9_step_73 : decode cX9_step 73 = .ok (.putfield 141, 3) := by decide +kernel
theorem dX9_step_76 : decode cX9_step 76 = .ok (.aload_n 0, 1) := by decide +kernel
theorem dX9_step_77 : decode cX9_step 77 = .ok (.invokevirtual 156, 3) := by decide +kernel
theorem dX9_step_80 : decode cX9_step 80 = .ok (.iload_n 3, 1) := by decide +kernel
theorem dX9_step_81 : decode cX9_step 81 = .ok (.iload_n 2, 1) := by decide +kernel
theorem dX9_step_82 : decode cX9_step 82 = .ok (.if_icmp .ne 61, 3) := by decide +kernel
theorem dX9_step_85 : decode cX9_step 85 = .ok (.aload_n 0, 1) := by decide +kernel
theorem dX9_step_86 : decode cX9_step 86 = .ok (.getfield 48, 3) := by decide +kernel
theorem dX9_step_89 : decode cX9_step 89 = .ok (.aload_n 0, 1) := by decide +kernel
theorem dX9_step_90 : decode cX9_step 90 = .ok (.getfield 138, 3) := by decide +kernel
theorem dX9_step_93 : decode cX9_step 93 = .ok (.aload_n 0, 1) := by decide +kernel
theorem dX9_step_94 : decode cX9_step 94 = .ok (.getfield 144, 3) := by decide +kernel
theorem dX9_step_97 : decode cX9_step 97 = .ok (.iastore, 1) := by decide +kernel
theorem dX9_step_98 : decode cX9_step 98 = .ok (.aload_n 0, 1) := by decide +kernel
theorem dX9_step_99 : decode cX9_step 99 = .ok (.getfield 51, 3) := by decide +kernel
theorem dX9_step_102 : decode cX9_step 102 = .ok (.aload_n 0, 1) := by decide +kernel
theorem dX9_step_103 : decode cX9_step 103 = .ok (.getfield 138, 3) := by decide +kernel
theorem dX9_step_106 : decode cX9_step 106 = .ok (.aload_n 0, 1) := by decide +kernel
theorem dX9_step_107 : decode cX9_step 107 = .ok (.getfield 150, 3) := by decide +kernel
theorem dX9_step_110 : decode cX9_step 110 = .ok (.iastore, 1) := by decide +kernel
theorem dX9_step_111 : decode cX9_step 111 = .ok (.aload_n 0, 1) := by decide +kernel
theorem dX9_step_112 : decode cX9_step 112 = .ok (.iconst 4, 1) := by decide +kernel
theorem dX9_step_113 : decode cX9_step 113 = .ok (.bipush 6, 2) := by decide +kernel
theorem dX9_step_115 : decode cX9_step 115 = .ok (.aload_n 0, 1) := by decide +kernel
theorem dX9_step_116 : decode cX9_step 116 = .ok (.getfield 138, 3) := by decide +kernel
theorem dX9_step_119 : decode cX9_step 119 = .ok (.iadd, 1) := by decide +kernel
theorem dX9_step_120 : decode cX9_step 120 = .ok (.invokevirtual 117, 3) := by decide +kernel
theorem dX9_step_123 : decode cX9_step 123 = .ok (.aload_n 0, 1) := by decide +kernel
theorem dX9_step_124 : decode cX9_step 124 = .ok (.dup, 1) := by decide +kernel
theorem dX9_step_125 : decode cX9_step 125 = .ok (.getfield 138, 3) := by decide +kernel
theorem dX9_step_128 : decode cX9_step 128 = .ok (.iconst 1, 1) := by decide +kernel
theorem dX9_step_129 : decode cX9_step 129 = .ok (.iadd, 1) := by decide +kernel
theorem dX9_step_130 : decode cX9_step 130 = .ok (.putfield 138, 3) := by decide +kernel
theorem dX9_step_133 : decode cX9_step 133 = .ok (.aload_n 0, 1) := by decide +kernel
theorem dX9_step_134 : decode cX9_step 134 = .ok (.iconst 0, 1) := by decide +kernel
theorem dX9_step_135 : decode cX9_step 135 = .ok (.putfield 107, 3) := by decide +kernel
theorem dX9_step_138 : decode cX9_step 138 = .ok (.aload_n 0, 1) := by decide +kernel
theorem dX9_step_139 : decode cX9_step 139 = .ok (.iconst 0, 1) := by decide +kernel
theorem dX9_step_140 : decode cX9_step 140 = .ok (.putfield 141, 3) := by decide +kernel
theorem dX9_step_143 : decode cX9_step 143 = .ok (.iload_n 3, 1) := by decide +kernel
theorem dX9_step_144 : decode cX9_step 144 = .ok (.ireturn, 1) := by decide +kernel
theorem dX9_crash_0 : decode cX9_crash 0 = .ok (.aload_n 0, 1) := by decide +kernel
theorem dX9_crash_1 : decode cX9_crash 1 = .ok (.aload_n 0, 1) := by decide +kernel
theorem dX9_crash_2 : decode cX9_crash 2 = .ok (.getfield 107, 3) := by decide +kernel
theorem dX9_crash_5 : decode cX9_crash 5 = .ok (.iconst 1, 1) := by decide +kernel
theorem dX9_crash_6 : decode cX9_crash 6 = .ok (.if_icmp .ne 7, 3) := by decide +kernel
theorem dX9_crash_9 : decode cX9_crash 9 = .ok (.iconst 0, 1) := by decide +kernel
theorem dX9_crash_10 : decode cX9_crash 10 = .ok (.goto 4, 3) := by decide +kernel
theorem dX9_crash_13 : decode cX9_crash 13 = .ok (.iconst 1, 1) := by decide +kernel
theorem dX9_crash_14 : decode cX9_crash 14 = .ok (.putfield 57, 3) := by decide +kernel
theorem dX9_crash_17 : decode cX9_crash 17 = .ok (.aload_n 0, 1) := by decide +kernel
theorem dX9_crash_18 : decode cX9_crash 18 = .ok (.getfield 57, 3) := by decide +kernel
theorem dX9_crash_21 : decode cX9_crash 21 = .ok (.ifCond .ne 8, 3) := by decide +kernel
theorem dX9_crash_24 : decode cX9_crash 24 = .ok (.aload_n 0, 1) := by decide +kernel
theorem dX9_crash_25 : decode cX9_crash 25 = .ok (.iconst 2, 1) := by decide +kernel
theorem dX9_crash_26 : decode cX9_crash 26 = .ok (.putfield 107, 3) := by decide +kernel
theorem dX9_crash_29 : decode cX9_crash 29 = .ok (.return_, 1) := by decide +kernel
set_option maxRecDepth 20000 in
theorem ggX9_regress_X9_mirror : GoodIn wsX9_regress wsX9_mirror := goodIn_r _ [8, 9, 10, 11, 7, 12, 3, 13, 14, 15, 16, 17, 18, 19, 20, 21, 22, 23, 24, 25, 26, 27, 28, 29, 30, 31, 32, 33, 34, 35, 36, 37, 38, 39, 40, 41, 42, 43, 44, 45, 46, 47, 48, 49, 50, 51, 52, 53, 54, 55, 56, 57, 58, 59, 60, 61, 62, 63, 64, 65, 66, 67, 68, 69, 70, 71, 72, 73, 74, 75, 76] (by decide +kernel) (by decide +kernel)
set_option maxRecDepth 20000 in
theorem gX9_regress_X9_mirror : GoodIn wsX9_regress (wsV RX9 156 RX9 yX9_mirror wsX9_mirror) := goodIn_app (goodIn_of _ (by decide +kernel)) ggX9_regress_X9_mirror
theorem dX9_regress_0 : decode cX9_regress 0 = .ok (.aload_n 0, 1) := by decide +kernel
theorem dX9_regress_1 : decode cX9_regress 1 = .ok (.aload_n 0, 1) := by decide +kernel
theorem dX9_regress_2 : decode cX9_regress 2 = .ok (.getfield 107, 3) := by decide +kernel
theorem dX9_regress_5 : decode cX9_regress 5 = .ok (.iconst 2, 1) := by decide +kernel
theorem dX9_regress_6 : decode cX9_regress 6 = .ok (.if_icmp .eq 7, 3) := by decide +kernel
theorem dX9_regress_9 : decode cX9_regress 9 = .ok (.iconst 1, 1) := by decide +kernel
theorem dX9_regress_10 : decode cX9_regress 10 = .ok (.goto 19, 3) := by decide +kernel
theorem dX9_regress_13 : decode cX9_regress 13 = .ok (.iload_n 1, 1) := by decide +kernel
theorem dX9_regress_14 : decode cX9_regress 14 = .ok (.ifCond .lt 10, 3) := by decide +kernel
theorem dX9_regress_17 : decode cX9_regress 17 = .ok (.iload_n 1, 1) := by decide +kernel
theorem dX9_regress_18 : decode cX9_regress 18 = .ok (.sipush 200, 3) := by decide +kernel
theorem dX9_regress_21 : decode cX9_regress 21 = .ok (.if_icmp .le 7, 3) := by decide +kernel
theorem dX9_regress_24 : decode cX9_regress 24 = .ok (.iconst 2, 1) := by decide +kernel
theorem dX9_regress_25 : decode cX9_regress 25 = .ok (.goto 4, 3) := by decide +kernel
theorem dX9_regress_28 : decode cX9_regress 28 = .ok (.iconst 0, 1) := by decide +kernel
theorem dX9_regress_29 : decode cX9_regress 29 = .ok (.putfield 57, 3) := by decide +kernel
theorem dX9_regress_32 : decode cX9_regress 32 = .ok (.aload_n 0, 1) := by decide +kernel
theorem dX9_regress_33 : decode cX9_regress 33 = .ok (.getfield 57, 3) := by decide +kernel
theorem dX9_regress_36 : decode cX9_regress 36 = .ok (.ifCond .le 5, 3) := by decide +kernel
theorem dX9_regress_39 : decode cX9_regress 39 = .ok (.iconst 0, 1) := by decide +kernel
theorem dX9_regress_40 : decode cX9_regress 40 = .ok (.ireturn, 1) := by decide +kernel
theorem dX9_regress_41 : decode cX9_regress 41 = .ok (.iload_n 1, 1) := by decide +kernel
theorem dX9_regress_42 : decode cX9_regress 42 = .ok (.aload_n 0, 1) := by decide +kernel
theorem dX9_regress_43 : decode cX9_regress 43 = .ok (.getfield 141, 3) := by decide +kernel
theorem dX9_regress_46 : decode cX9_regress 46 = .ok (.if_icmp .ge 7, 3) := by decide +kernel
theorem dX9_regress_49 : decode cX9_regress 49 = .ok (.iload_n 1, 1) := by decide +kernel
theorem dX9_regress_50 : decode cX9_regress 50 = .ok (.goto 7, 3) := by decide +kernel
theorem dX9_regress_53 : decode cX9_regress 53 = .ok (.aload_n 0, 1) := by decide +kernel
theorem dX9_regress_54 : decode cX9_regress 54 = .ok (.getfield 141, 3) := by decide +kernel
theorem dX9_regress_57 : decode cX9_regress 57 = .ok (.istore_n 2, 1) := by decide +kernel
theorem dX9_regress_58 : decode cX9_regress 58 = .ok (.aload_n 0, 1) := by decide +kernel
theorem dX9_regress_59 : decode cX9_regress 59 = .ok (.dup, 1) := by decide +kernel
theorem dX9_regress_60 : decode cX9_regress 60 = .ok (.getfield 141, 3) := by decide +kernel
theorem dX9_regress_63 : decode cX9_regress 63 = .ok (.iload_n 2, 1) := by decide +kernel
theorem dX9_regress_64 : decode cX9_regress 64 = .ok (.isub, 1) := by decide +kernel
theorem dX9_regress_65 : decode cX9_regress 65 = .ok (.putfield 141, 3) := by decide +kernel
theorem dX9_regress_68 : decode cX9_regress 68 = .ok (.aload_n 0, 1) := by decide +kernel
theorem dX9_regress_69 : decode cX9_regress 69 = .ok (.invokevirtual 156, 3) := by decide +kernel
theorem dX9_regress_72 : decode cX9_regress 72 = .ok (.aload_n 0, 1) := by decide +kernel
theorem dX9_regress_73 : decode cX9_regress 73 = .ok (.aload_n 0, 1) := by decide +kernel
theorem dX9_regress_74 : decode cX9_regress 74 = .ok (.getfield 141, 3) := by decide +kernel
theorem dX9_regress_77 : decode cX9_regress 77 = .ok (.ifCond .ne 7, 3) := by decide +kernel
theorem dX9_regress_80 : decode cX9_regress 80 = .ok (.iconst 0, 1) := by decide +kernel
theorem dX9_regress_81 : decode cX9_regress 81 = .ok (.goto 4, 3) := by decide +kernel
theorem dX9_regress_84 : decode cX9_regress 84 = .ok (.iconst 2, 1) := by decide +kernel
theorem dX9_regress_85 : decode cX9_regress 85 = .ok (.putfield 107, 3) := by decide +kernel
theorem dX9_regress_88 : decode cX9_regress 88 = .ok (.iload_n 2, 1) := by decide +kernel
theorem dX9_regress_89 : decode cX9_regress 89 = .ok (.ireturn, 1) := by decide +kernel
theorem dX9_latest_0 : decode cX9_latest 0 = .ok (.iconst (-1), 1) := by decide +kernel
theorem dX9_latest_1 : decode cX9_latest 1 = .ok (.istore_n 2, 1) := by decide +kernel
theorem dX9_latest_2 : decode cX9_latest 2 = .ok (.iconst 0, 1) := by decide +kernel
theorem dX9_latest_3 : decode cX9_latest 3 = .ok (.istore_n 3, 1) := by decide +kernel
theorem dX9_latest_4 : decode cX9_latest 4 = .ok (.iload_n 3, 1) := by decide +kernel
theorem dX9_latest_5 : decode cX9_latest 5 = .ok (.aload_n 0, 1) := by decide +kernel
theorem dX9_latest_6 : decode cX9_latest 6 = .ok (.getfield 138, 3) := by decide +kernel
theorem dX9_latest_9 : decode cX9_latest 9 = .ok (.if_icmp .ge 25, 3) := by decide +kernel
theorem dX9_latest_12 : decode cX9_latest 12 = .ok (.aload_n 0, 1) := by decide +kernel
theorem dX9_latest_13 : decode cX9_latest 13 = .ok (.getfield 48, 3) := by decide +kernel
theorem dX9_latest_16 : decode cX9_latest 16 = .ok (.iload_n 3, 1) := by decide +kernel
theorem dX9_latest_17 : decode cX9_latest 17 = .ok (.iaload, 1) := by decide +kernel
theorem dX9_latest_18 : decode cX9_latest 18 = .ok (.iload_n 1, 1) := by decide +kernel
theorem dX9_latest_19 : decode cX9_latest 19 = .ok (.if_icmp .gt 7, 3) := by decide +kernel
theorem dX9_latest_22 : decode cX9_latest 22 = .ok (.iload_n 3, 1) := by decide +kernel
theorem dX9_latest_23 : decode cX9_latest 23 = .ok (.goto 4, 3) := by decide +kernel
theorem dX9_latest_26 : decode cX9_latest 26 = .ok (.iload_n 2, 1) := by decide +kernel
theorem dX9_latest_27 : decode cX9_latest 27 = .ok (.istore_n 2, 1) := by decide +kernel
theorem dX9_latest_28 : decode cX9_latest 28 = .ok (.iinc 3 1, 3) := by decide +kernel
theorem dX9_latest_31 : decode cX9_latest 31 = .ok (.goto (-27), 3) := by decide +kernel
theorem dX9_latest_34 : decode cX9_latest 34 = .ok (.iload_n 2, 1) := by decide +kernel
theorem dX9_latest_35 : decode cX9_latest 35 = .ok (.ireturn, 1) := by decide +kernel
set_option maxRecDepth 20000 in
theorem ggX9_restore_X9_latest : GoodIn wsX9_restore wsX9_latest := goodIn_r _ [8, 9, 10, 35, 36, 37, 38, 39, 40, 41, 42, 43, 44, 45, 46, 47, 48, 49, 50, 51, 52, 53, 54, 55, 56, 57, 58] (by decide +kernel) (by decide +kernel)
set_option maxRecDepth 20000 in
theorem gX9_restore_X9_latest : GoodIn wsX9_restore (wsV RX9 159 RX9 yX9_latest wsX9_latest) := goodIn_app (goodIn_of _ (by decide +kernel)) ggX9_restore_X9_latest
set_option maxRecDepth 20000 in
theorem ggX9_restore_X9_copy : GoodIn wsX9_restore wsX9_copy := goodIn_r _ [14, 3, 15, 16, 17, 7, 18, 19, 20, 21, 22, 23, 24, 25, 26, 27, 28, 29, 30, 31, 32, 33, 34, 35, 36, 37, 38, 39, 40, 41, 42, 43, 44, 45, 46, 47, 48, 49, 50, 51, 52, 53, 54, 55, 56, 57, 58] (by decide +kernel) (by decide +kernel)
set_option maxRecDepth 20000 in
theorem gX9_restore_X9_copy : GoodIn wsX9_restore (wsV RX9 117 RX9 yX9_copy wsX9_copy) := goodIn_app (goodIn_of _ (by decide +kernel)) ggX9_restore_X9_copy
theorem dX9_restore_0 : decode cX9_restore 0 = .ok (.aload_n 0, 1) := by decide +kernel
theorem dX9_restore_1 : decode cX9_restore 1 = .ok (.iload_n 1, 1) := by decide +kernel
theorem dX9_restore_2 : decode cX9_restore 2 = .ok (.invokevirtual 159, 3) := by decide +kernel
theorem dX9_restore_5 : decode cX9_restore 5 = .ok (.istore_n 2, 1) := by decide +kernel
theorem dX9_restore_6 : decode cX9_restore 6 = .ok (.aload_n 0, 1) := by decide +kernel
theorem dX9_restore_7 : decode cX9_restore 7 = .ok (.aload_n 0, 1) := by decide +kernel
theorem dX9_restore_8 : decode cX9_restore 8 = .ok (.getfield 107, 3) := by decide +kernel
theorem dX9_restore_11 : decode cX9_restore 11 = .ok (.ifCond .ne 7, 3) := by decide +kernel
theorem dX9_restore_14 : decode cX9_restore 14 = .ok (.iload_n 2, 1) := by decide +kernel
theorem dX9_restore_15 : decode cX9_restore 15 = .ok (.ifCond .ge 7, 3) := by decide +kernel
theorem dX9_restore_18 : decode cX9_restore 18 = .ok (.iconst 1, 1) := by decide +kernel
theorem dX9_restore_19 : decode cX9_restore 19 = .ok (.goto 4, 3) := by decide +kernel
theorem dX9_restore_22 : decode cX9_restore 22 = .ok (.iconst 0, 1) := by decide +kernel
theorem dX9_restore_23 : decode cX9_restore 23 = .ok (.putfield 57, 3) := by decide +kernel
theorem dX9_restore_26 : decode cX9_restore 26 = .ok (.aload_n 0, 1) := by decide +kernel
theorem dX9_restore_27 : decode cX9_restore 27 = .ok (.getfield 57, 3) := by decide +kernel
theorem dX9_restore_30 : decode cX9_restore 30 = .ok (.ifCond .le 5, 3) := by decide +kernel
theorem dX9_restore_33 : decode cX9_restore 33 = .ok (.iconst 0, 1) := by decide +kernel
theorem dX9_restore_34 : decode cX9_restore 34 = .ok (.ireturn, 1) := by decide +kernel
theorem dX9_restore_35 : decode cX9_restore 35 = .ok (.aload_n 0, 1) := by decide +kernel
theorem dX9_restore_36 : decode cX9_restore 36 = .ok (.bipush 6, 2) := by decide +kernel
theorem dX9_restore_38 : decode cX9_restore 38 = .ok (.iload_n 2, 1) := by decide +kernel
theorem dX9_restore_39 : decode cX9_restore 39 = .ok (.iadd, 1) := by decide +kernel
theorem dX9_restore_40 : decode cX9_restore 40 = .ok (.iconst 2, 1) := by decide +kernel
theorem dX9_restore_41 : decode cX9_restore 41 = .ok (.invokevirtual 117, 3) := by decide +kernel
theorem dX9_restore_44 : decode cX9_restore 44 = .ok (.aload_n 0, 1) := by decide +kernel
theorem dX9_restore_45 : decode cX9_restore 45 = .ok (.getfield 7, 3) := by decide +kernel
theorem dX9_restore_48 : decode cX9_restore 48 = .ok (.iconst 2, 1) := by decide +kernel
theorem dX9_restore_49 : decode cX9_restore 49 = .ok (.iaload, 1) := by decide +kernel
theorem dX9_restore_50 : decode cX9_restore 50 = .ok (.ireturn, 1) := by decide +kernel
set_option maxRecDepth 20000 in
theorem ggX9_prune_X9_latest : GoodIn wsX9_prune wsX9_latest := goodIn_r _ [10, 3, 4, 36, 37, 38, 39, 40, 41, 42, 43, 44, 45, 46, 47, 48, 49, 50, 51, 52, 53, 54, 55, 56, 57, 58, 59] (by decide +kernel) (by decide +kernel)
set_option maxRecDepth 20000 in
theorem gX9_prune_X9_latest : GoodIn wsX9_prune (wsV RX9 159 RX9 yX9_latest wsX9_latest) := goodIn_app (goodIn_of _ (by decide +kernel)) ggX9_prune_X9_latest
set_option maxRecDepth 20000 in
theorem ggX9_prune_X9_copy : GoodIn wsX9_prune wsX9_copy := goodIn_r _ [14, 15, 16, 17, 18, 9, 19, 20, 21, 22, 23, 24, 25, 26, 27, 28, 29, 30, 31, 32, 33, 34, 35, 36, 37, 38, 39, 40, 41, 42, 43, 44, 45, 46, 47, 48, 49, 50, 51, 52, 53, 54, 55, 56, 57, 58, 59] (by decide +kernel) (by decide +kernel)
set_option maxRecDepth 20000 in
theorem gX9_prune_X9_copy : GoodIn wsX9_prune (wsV RX9 117 RX9 yX9_copy wsX9_copy) := goodIn_app (goodIn_of _ (by decide +kernel)) ggX9_prune_X9_copy
theorem dX9_prune_0 : decode cX9_prune 0 = .ok (.aload_n 0, 1) := by decide +kernel
theorem dX9_prune_1 : decode cX9_prune 1 = .ok (.aload_n 0, 1) := by decide +kernel
theorem dX9_prune_2 : decode cX9_prune 2 = .ok (.getfield 107, 3) := by decide +kernel
theorem dX9_prune_5 : decode cX9_prune 5 = .ok (.ifCond .eq 7, 3) := by decide +kernel
theorem dX9_prune_8 : decode cX9_prune 8 = .ok (.iconst 1, 1) := by decide +kernel
theorem dX9_prune_9 : decode cX9_prune 9 = .ok (.goto 4, 3) := by decide +kernel
theorem dX9_prune_12 : decode cX9_prune 12 = .ok (.iconst 0, 1) := by decide +kernel
theorem dX9_prune_13 : decode cX9_prune 13 = .ok (.putfield 57, 3) := by decide +kernel
theorem dX9_prune_16 : decode cX9_prune 16 = .ok (.aload_n 0, 1) := by decide +kernel
theorem dX9_prune_17 : decode cX9_prune 17 = .ok (.iload_n 1, 1) := by decide +kernel
theorem dX9_prune_18 : decode cX9_prune 18 = .ok (.invokevirtual 159, 3) := by decide +kernel
theorem dX9_prune_21 : decode cX9_prune 21 = .ok (.istore_n 2, 1) := by decide +kernel
theorem dX9_prune_22 : decode cX9_prune 22 = .ok (.aload_n 0, 1) := by decide +kernel
theorem dX9_prune_23 : decode cX9_prune 23 = .ok (.getfield 57, 3) := by decide +kernel
theorem dX9_prune_26 : decode cX9_prune 26 = .ok (.ifCond .gt 7, 3) := by decide +kernel
theorem dX9_prune_29 : decode cX9_prune 29 = .ok (.iload_n 2, 1) := by decide +kernel
theorem dX9_prune_30 : decode cX9_prune 30 = .ok (.ifCond .gt 5, 3) := by decide +kernel
theorem dX9_prune_33 : decode cX9_prune 33 = .ok (.iconst 0, 1) := by decide +kernel
theorem dX9_prune_34 : decode cX9_prune 34 = .ok (.ireturn, 1) := by decide +kernel
theorem dX9_prune_35 : decode cX9_prune 35 = .ok (.iload_n 2, 1) := by decide +kernel
theorem dX9_prune_36 : decode cX9_prune 36 = .ok (.istore_n 3, 1) := by decide +kernel
theorem dX9_prune_37 : decode cX9_prune 37 = .ok (.iload_n 3, 1) := by decide +kernel
theorem dX9_prune_38 : decode cX9_prune 38 = .ok (.aload_n 0, 1) := by decide +kernel
theorem dX9_prune_39 : decode cX9_prune 39 = .ok (.getfield 138, 3) := by decide +kernel
theorem dX9_prune_42 : decode cX9_prune 42 = .ok (.if_icmp .ge 51, 3) := by decide +kernel
theorem dX9_prune_45 : decode cX9_prune 45 = .ok (.aload_n 0, 1) := by decide +kernel
theorem dX9_prune_46 : decode cX9_prune 46 = .ok (.bipush 6, 2) := by decide +kernel
theorem dX9_prune_48 : decode cX9_prune 48 = .ok (.iload_n 3, 1) := by decide +kernel
theorem dX9_prune_49 : decode cX9_prune 49 = .ok (.iadd, 1) := by decide +kernel
theorem dX9_prune_50 : decode cX9_prune 50 = .ok (.bipush 6, 2) := by decide +kernel
theorem dX9_prune_52 : decode cX9_prune 52 = .ok (.iload_n 3, 1) := by decide +kernel
theorem dX9_prune_53 : decode cX9_prune 53 = .ok (.iadd, 1) := by decide +kernel
theorem dX9_prune_54 : decode cX9_prune 54 = .ok (.iload_n 2, 1) := by decide +kernel
theorem dX9_prune_55 : decode cX9_prune 55 = .ok (.isub, 1) := by decide +kernel
theorem dX9_prune_56 : decode cX9_prune 56 = .ok (.invokevirtual 117, 3) := by decide +kernel
theorem dX9_prune_59 : decode cX9_prune 59 = .ok (.aload_n 0, 1) := by decide +kernel
theorem dX9_prune_60 : decode cX9_prune 60 = .ok (.getfield 48, 3) := by decide +kernel
theorem dX9_prune_63 : decode cX9_prune 63 = .ok (.iload_n 3, 1) := by decide +kernel
theorem dX9_prune_64 : decode cX9_prune 64 = .ok (.iload_n 2, 1) := by decide +kernel
theorem dX9_prune_65 : decode cX9_prune 65 = .ok (.isub, 1) := by decide +kernel
theorem dX9_prune_66 : decode cX9_prune 66 = .ok (.aload_n 0, 1) := by decide +kernel
theorem dX9_prune_67 : decode cX9_prune 67 = .ok (.getfield 48, 3) := by decide +kernel
theorem dX9_prune_70 : decode cX9_prune 70 = .ok (.iload_n 3, 1) := by decide +kernel
theorem dX9_prune_71 : decode cX9_prune 71 = .ok (.iaload, 1) := by decide +kernel
theorem dX9_prune_72 : decode cX9_prune 72 = .ok (.iastore, 1) := by decide +kernel
theorem dX9_prune_73 : decode cX9_prune 73 = .ok (.aload_n 0, 1) := by decide +kernel
theorem dX9_prune_74 : decode cX9_prune 74 = .ok (.getfield 51, 3) := by decide +kernel
theorem dX9_prune_77 : decode cX9_prune 77 = .ok (.iload_n 3, 1) := by decide +kernel
theorem dX9_prune_78 : decode cX9_prune 78 = .ok (.iload_n 2, 1) := by decide +kernel
theorem dX9_prune_79 : decode cX9_prune 79 = .ok (.isub, 1) := by decide +kernel
theorem dX9_prune_80 : decode cX9_prune 80 = .ok (.aload_n 0, 1) := by decide +kernel
theorem dX9_prune_81 : decode cX9_prune 81 = .ok (.getfield 51, 3) := by decide +kernel
theorem dX9_prune_84 : decode cX9_prune 84 = .ok (.iload_n 3, 1) := by decide +kernel
theorem dX9_prune_85 : decode cX9_prune 85 = .ok (.iaload, 1) := by decide +kernel
theorem dX9_prune_86 : decode cX9_prune 86 = .ok (.iastore, 1) := by decide +kernel
theorem dX9_prune_87 : decode cX9_prune 87 = .ok (.iinc 3 1, 3) := by decide +kernel
theorem dX9_prune_90 : decode cX9_prune 90 = .ok (.goto (-53), 3) := by decide +kernel
theorem dX9_prune_93 : decode cX9_prune 93 = .ok (.aload_n 0, 1) := by decide +kernel
theorem dX9_prune_94 : decode cX9_prune 94 = .ok (.dup, 1) := by decide +kernel
theorem dX9_prune_95 : decode cX9_prune 95 = .ok (.getfield 138, 3) := by decide +kernel
theorem dX9_prune_98 : decode cX9_prune 98 = .ok (.iload_n 2, 1) := by decide +kernel
theorem dX9_prune_99 : decode cX9_prune 99 = .ok (.isub, 1) := by decide +kernel
theorem dX9_prune_100 : decode cX9_prune 100 = .ok (.putfield 138, 3) := by decide +kernel
theorem dX9_prune_103 : decode cX9_prune 103 = .ok (.iload_n 2, 1) := by decide +kernel
theorem dX9_prune_104 : decode cX9_prune 104 = .ok (.ireturn, 1) := by decide +kernel
set_option maxRecDepth 20000 in
theorem ggX9_differ_X9_join : GoodIn wsX9_differ wsX9_join := goodIn_r _ [6, 7, 8, 9, 10, 5, 11, 12, 13, 14, 15, 16, 17, 18, 19, 20, 21, 22, 23, 24, 25, 26, 27, 28, 29, 30, 31, 32, 33, 34, 35, 36, 37, 38, 39, 40, 41, 42, 43, 44, 45, 46, 47, 48, 49, 50, 51, 52, 53, 54, 55, 56, 57, 58, 59, 60, 61, 62, 63, 64, 65] (by decide +kernel) (by decide +kernel)
set_option maxRecDepth 20000 in
theorem gX9_differ_X9_join : GoodIn wsX9_differ (wsV RX9 147 RX9 yX9_join wsX9_join) := goodIn_app (goodIn_of _ (by decide +kernel)) ggX9_differ_X9_join
theorem dX9_differ_0 : decode cX9_differ 0 = .ok (.aload_n 0, 1) := by decide +kernel
theorem dX9_differ_1 : decode cX9_differ 1 = .ok (.iconst 0, 1) := by decide +kernel
theorem dX9_differ_2 : decode cX9_differ 2 = .ok (.putfield 57, 3) := by decide +kernel
theorem dX9_differ_5 : decode cX9_differ 5 = .ok (.aload_n 0, 1) := by decide +kernel
theorem dX9_differ_6 : decode cX9_differ 6 = .ok (.iconst 1, 1) := by decide +kernel
theorem dX9_differ_7 : decode cX9_differ 7 = .ok (.iconst 0, 1) := by decide +kernel
theorem dX9_differ_8 : decode cX9_differ 8 = .ok (.iconst 0, 1) := by decide +kernel
theorem dX9_differ_9 : decode cX9_differ 9 = .ok (.iconst (-1), 1) := by decide +kernel
theorem dX9_differ_10 : decode cX9_differ 10 = .ok (.invokevirtual 147, 3) := by decide +kernel
theorem dX9_differ_13 : decode cX9_differ 13 = .ok (.ireturn, 1) := by decide +kernel
theorem dX9_isEntry_0 : decode cX9_isEntry 0 = .ok (.iload_n 1, 1) := by decide +kernel
theorem dX9_isEntry_1 : decode cX9_isEntry 1 = .ok (.ifCond .lt 26, 3) := by decide +kernel
theorem dX9_isEntry_4 : decode cX9_isEntry 4 = .ok (.iload_n 1, 1) := by decide +kernel
theorem dX9_isEntry_5 : decode cX9_isEntry 5 = .ok (.iconst 3, 1) := by decide +kernel
theorem dX9_isEntry_6 : decode cX9_isEntry 6 = .ok (.if_icmp .ge 21, 3) := by decide +kernel
theorem dX9_isEntry_9 : decode cX9_isEntry 9 = .ok (.iload_n 2, 1) := by decide +kernel
theorem dX9_isEntry_10 : decode cX9_isEntry 10 = .ok (.ifCond .lt 17, 3) := by decide +kernel
theorem dX9_isEntry_13 : decode cX9_isEntry 13 = .ok (.iload_n 2, 1) := by decide +kernel
theorem dX9_isEntry_14 : decode cX9_isEntry 14 = .ok (.aload_n 0, 1) := by decide +kernel
theorem dX9_isEntry_15 : decode cX9_isEntry 15 = .ok (.getfield 7, 3) := by decide +kernel
theorem dX9_isEntry_18 : decode cX9_isEntry 18 = .ok (.iload_n 1, 1) := by decide +kernel
theorem dX9_isEntry_19 : decode cX9_isEntry 19 = .ok (.iaload, 1) := by decide +kernel
theorem dX9_isEntry_20 : decode cX9_isEntry 20 = .ok (.if_icmp .ge 7, 3) := by decide +kernel
theorem dX9_isEntry_23 : decode cX9_isEntry 23 = .ok (.iconst 1, 1) := by decide +kernel
theorem dX9_isEntry_24 : decode cX9_isEntry 24 = .ok (.goto 4, 3) := by decide +kernel
theorem dX9_isEntry_27 : decode cX9_isEntry 27 = .ok (.iconst 0, 1) := by decide +kernel
theorem dX9_isEntry_28 : decode cX9_isEntry 28 = .ok (.ireturn, 1) := by decide +kernel
set_option maxRecDepth 20000 in
theorem ggX9_entry_X9_isEntry : GoodIn wsX9_entry wsX9_isEntry := goodIn_r _ [11, 12, 16, 17, 18, 19, 20, 21, 22, 23, 24, 25, 26, 27, 28, 29, 30, 31, 32, 33, 34, 35, 36, 37, 38, 39] (by decide +kernel) (by decide +kernel)
set_option maxRecDepth 20000 in
theorem gX9_entry_X9_isEntry : GoodIn wsX9_entry (wsV RX9 163 RX9 yX9_isEntry wsX9_isEntry) := goodIn_app (goodIn_of _ (by decide +kernel)) ggX9_entry_X9_isEntry
set_option maxRecDepth 20000 in
theorem ggX9_entry_X9_place : GoodIn wsX9_entry wsX9_place := goodIn_r _ [15] (by decide +kernel) (by decide +kernel)
set_option maxRecDepth 20000 in
theorem gX9_entry_X9_place : GoodIn wsX9_entry (va_wsS RX9 64 yX9_place wsX9_place) := goodIn_app (goodIn_of _ (by decide +kernel)) ggX9_entry_X9_place
theorem dX9_entry_0 : decode cX9_entry 0 = .ok (.aload_n 0, 1) := by decide +kernel
theorem dX9_entry_1 : decode cX9_entry 1 = .ok (.iconst 0, 1) := by decide +kernel
theorem dX9_entry_2 : decode cX9_entry 2 = .ok (.putfield 57, 3) := by decide +kernel
theorem dX9_entry_5 : decode cX9_entry 5 = .ok (.aload_n 0, 1) := by decide +kernel
theorem dX9_entry_6 : decode cX9_entry 6 = .ok (.iload_n 1, 1) := by decide +kernel
theorem dX9_entry_7 : decode cX9_entry 7 = .ok (.iload_n 2, 1) := by decide +kernel
theorem dX9_entry_8 : decode cX9_entry 8 = .ok (.invokevirtual 163, 3) := by decide +kernel
theorem dX9_entry_11 : decode cX9_entry 11 = .ok (.ifCond .ne 5, 3) := by decide +kernel
theorem dX9_entry_14 : decode cX9_entry 14 = .ok (.iconst (-1), 1) := by decide +kernel
theorem dX9_entry_15 : decode cX9_entry 15 = .ok (.ireturn, 1) := by decide +kernel
theorem dX9_entry_16 : decode cX9_entry 16 = .ok (.iload_n 1, 1) := by decide +kernel
theorem dX9_entry_17 : decode cX9_entry 17 = .ok (.iload_n 2, 1) := by decide +kernel
theorem dX9_entry_18 : decode cX9_entry 18 = .ok (.invokestatic 64, 3) := by decide +kernel
theorem dX9_entry_21 : decode cX9_entry 21 = .ok (.istore 4, 2) := by decide +kernel
theorem dX9_entry_23 : decode cX9_entry 23 = .ok (.iload_n 3, 1) := by decide +kernel
theorem dX9_entry_24 : decode cX9_entry 24 = .ok (.tableswitch 76 0 4 #[36, 44, 52, 60, 68], 36) := by decide +kernel
theorem dX9_entry_60 : decode cX9_entry 60 = .ok (.aload_n 0, 1) := by decide +kernel
theorem dX9_entry_61 : decode cX9_entry 61 = .ok (.getfield 16, 3) := by decide +kernel
theorem dX9_entry_64 : decode cX9_entry 64 = .ok (.iload 4, 2) := by decide +kernel
theorem dX9_entry_66 : decode cX9_entry 66 = .ok (.iaload, 1) := by decide +kernel
theorem dX9_entry_67 : decode cX9_entry 67 = .ok (.ireturn, 1) := by decide +kernel
theorem dX9_entry_68 : decode cX9_entry 68 = .ok (.aload_n 0, 1) := by decide +kernel
theorem dX9_entry_69 : decode cX9_entry 69 = .ok (.getfield 19, 3) := by decide +kernel
theorem dX9_entry_72 : decode cX9_entry 72 = .ok (.iload 4, 2) := by decide +kernel
theorem dX9_entry_74 : decode cX9_entry 74 = .ok (.iaload, 1) := by decide +kernel
theorem dX9_entry_75 : decode cX9_entry 75 = .ok (.ireturn, 1) := by decide +kernel
theorem dX9_entry_76 : decode cX9_entry 76 = .ok (.aload_n 0, 1) := by decide +kernel
theorem dX9_entry_77 : decode cX9_entry 77 = .ok (.getfield 22, 3) := by decide +kernel
theorem dX9_entry_80 : decode cX9_entry 80 = .ok (.iload 4, 2) := by decide +kernel
theorem dX9_entry_82 : decode cX9_entry 82 = .ok (.iaload, 1) := by decide +kernel
theorem dX9_entry_83 : decode cX9_entry 83 = .ok (.ireturn, 1) := by decide +kernel
theorem dX9_entry_84 : decode cX9_entry 84 = .ok (.aload_n 0, 1) := by decide +kernel
theorem dX9_entry_85 : decode cX9_entry 85 = .ok (.getfield 31, 3) := by decide +kernel
theorem dX9_entry_88 : decode cX9_entry 88 = .ok (.iload 4, 2) := by decide +kernel
theorem dX9_entry_90 : decode cX9_entry 90 = .ok (.iaload, 1) := by decide +kernel
theorem dX9_entry_91 : decode cX9_entry 91 = .ok (.ireturn, 1) := by decide +kernel
theorem dX9_entry_92 : decode cX9_entry 92 = .ok (.aload_n 0, 1) := by decide +kernel
theorem dX9_entry_93 : decode cX9_entry 93 = .ok (.getfield 25, 3) := by decide +kernel
theorem dX9_entry_96 : decode cX9_entry 96 = .ok (.iload 4, 2) := by decide +kernel
theorem dX9_entry_98 : decode cX9_entry 98 = .ok (.iaload, 1) := by decide +kernel
theorem dX9_entry_99 : decode cX9_entry 99 = .ok (.ireturn, 1) := by decide +kernel
theorem dX9_entry_100 : decode cX9_entry 100 = .ok (.iconst (-1), 1) := by decide +kernel
theorem dX9_entry_101 : decode cX9_entry 101 = .ok (.ireturn, 1) := by decide +kernel
set_option maxRecDepth 20000 in
theorem ggX9_at_X9_isEntry : GoodIn wsX9_at wsX9_isEntry := goodIn_r _ [11, 12, 13, 14, 15, 16, 17, 18, 19, 20, 21, 22, 23, 24, 25, 26, 27, 28, 29, 30, 31, 32, 33, 34, 35, 36] (by decide +kernel) (by decide +kernel)
set_option maxRecDepth 20000 in
theorem gX9_at_X9_isEntry : GoodIn wsX9_at (wsV RX9 163 RX9 yX9_isEntry wsX9_isEntry) := goodIn_app (goodIn_of _ (by decide +kernel)) ggX9_at_X9_isEntry
theorem dX9_at_0 : decode cX9_at 0 = .ok (.aload_n 0, 1) := by decide +kernel
theorem dX9_at_1 : decode cX9_at 1 = .ok (.iconst 0, 1) := by decide +kernel
theorem dX9_at_2 : decode cX9_at 2 = .ok (.putfield 57, 3) := by decide +kernel
theorem dX9_at_5 : decode cX9_at 5 = .ok (.aload_n 0, 1) := by decide +kernel
theorem dX9_at_6 : decode cX9_at 6 = .ok (.iload_n 1, 1) := by decide +kernel
theorem dX9_at_7 : decode cX9_at 7 = .ok (.iload_n 2, 1) := by decide +kernel
theorem dX9_at_8 : decode cX9_at 8 = .ok (.invokevirtual 163, 3) := by decide +kernel
theorem dX9_at_11 : decode cX9_at 11 = .ok (.ifCond .eq 8, 3) := by decide +kernel
theorem dX9_at_14 : decode cX9_at 14 = .ok (.iload 4, 2) := by decide +kernel
theorem dX9_at_16 : decode cX9_at 16 = .ok (.ifCond .ge 5, 3) := by decide +kernel
theorem dX9_at_19 : decode cX9_at 19 = .ok (.iconst (-1), 1) := by decide +kernel
theorem dX9_at_20 : decode cX9_at 20 = .ok (.ireturn, 1) := by decide +kernel
theorem dX9_at_21 : decode cX9_at 21 = .ok (.bipush 120, 2) := by decide +kernel
theorem dX9_at_23 : decode cX9_at 23 = .ok (.iload_n 1, 1) := by decide +kernel
theorem dX9_at_24 : decode cX9_at 24 = .ok (.imul, 1) := by decide +kernel
theorem dX9_at_25 : decode cX9_at 25 = .ok (.iload_n 2, 1) := by decide +kernel
theorem dX9_at_26 : decode cX9_at 26 = .ok (.iadd, 1) := by decide +kernel
theorem dX9_at_27 : decode cX9_at 27 = .ok (.istore 5, 2) := by decide +kernel
theorem dX9_at_29 : decode cX9_at 29 = .ok (.iload_n 3, 1) := by decide +kernel
theorem dX9_at_30 : decode cX9_at 30 = .ok (.ifCond .eq 34, 3) := by decide +kernel
theorem dX9_at_33 : decode cX9_at 33 = .ok (.iload 4, 2) := by decide +kernel
theorem dX9_at_35 : decode cX9_at 35 = .ok (.aload_n 0, 1) := by decide +kernel
theorem dX9_at_36 : decode cX9_at 36 = .ok (.getfield 25, 3) := by decide +kernel
theorem dX9_at_39 : decode cX9_at 39 = .ok (.iload 5, 2) := by decide +kernel
theorem dX9_at_41 : decode cX9_at 41 = .ok (.iaload, 1) := by decide +kernel
theorem dX9_at_42 : decode cX9_at 42 = .ok (.if_icmp .ge 20, 3) := by decide +kernel
theorem dX9_at_45 : decode cX9_at 45 = .ok (.aload_n 0, 1) := by decide +kernel
theorem dX9_at_46 : decode cX9_at 46 = .ok (.getfield 35, 3) := by decide +kernel
theorem dX9_at_49 : decode cX9_at 49 = .ok (.sipush 150, 3) := by decide +kernel
theorem dX9_at_52 : decode cX9_at 52 = .ok (.iload 5, 2) := by decide +kernel
theorem dX9_at_54 : decode cX9_at 54 = .ok (.imul, 1) := by decide +kernel
theorem dX9_at_55 : decode cX9_at 55 = .ok (.iload 4, 2) := by decide +kernel
theorem dX9_at_57 : decode cX9_at 57 = .ok (.iadd, 1) := by decide +kernel
theorem dX9_at_58 : decode cX9_at 58 = .ok (.iaload, 1) := by decide +kernel
theorem dX9_at_59 : decode cX9_at 59 = .ok (.goto 4, 3) := by decide +kernel
theorem dX9_at_62 : decode cX9_at 62 = .ok (.iconst (-1), 1) := by decide +kernel
theorem dX9_at_63 : decode cX9_at 63 = .ok (.ireturn, 1) := by decide +kernel
end
section
theorem dX9_at_64 : decode cX9_at 64 = .ok (.iload 4, 2) := by decide +kernel
theorem dX9_at_66 : decode cX9_at 66 = .ok (.aload_n 0, 1) := by decide +kernel
theorem dX9_at_67 : decode cX9_at 67 = .ok (.getfield 31, 3) := by decide +kernel
theorem dX9_at_70 : decode cX9_at 70 = .ok (.iload 5, 2) := by decide +kernel
theorem dX9_at_72 : decode cX9_at 72 = .ok (.iaload, 1) := by decide +kernel
theorem dX9_at_73 : decode cX9_at 73 = .ok (.if_icmp .ge 27, 3) := by decide +kernel
theorem dX9_at_76 : decode cX9_at 76 = .ok (.aload_n 0, 1) := by decide +kernel
theorem dX9_at_77 : decode cX9_at 77 = .ok (.getfield 39, 3) := by decide +kernel
theorem dX9_at_80 : decode cX9_at 80 = .ok (.sipush 8000, 3) := by decide +kernel
theorem dX9_at_83 : decode cX9_at 83 = .ok (.iload_n 1, 1) := by decide +kernel
theorem dX9_at_84 : decode cX9_at 84 = .ok (.imul, 1) := by decide +kernel
theorem dX9_at_85 : decode cX9_at 85 = .ok (.aload_n 0, 1) := by decide +kernel
theorem dX9_at_86 : decode cX9_at 86 = .ok (.getfield 28, 3) := by decide +kernel
theorem dX9_at_89 : decode cX9_at 89 = .ok (.iload 5, 2) := by decide +kernel
theorem dX9_at_91 : decode cX9_at 91 = .ok (.iaload, 1) := by decide +kernel
theorem dX9_at_92 : decode cX9_at 92 = .ok (.iadd, 1) := by decide +kernel
theorem dX9_at_93 : decode cX9_at 93 = .ok (.iload 4, 2) := by decide +kernel
theorem dX9_at_95 : decode cX9_at 95 = .ok (.iadd, 1) := by decide +kernel
theorem dX9_at_96 : decode cX9_at 96 = .ok (.iaload, 1) := by decide +kernel
theorem dX9_at_97 : decode cX9_at 97 = .ok (.goto 4, 3) := by decide +kernel
theorem dX9_at_100 : decode cX9_at 100 = .ok (.iconst (-1), 1) := by decide +kernel
theorem dX9_at_101 : decode cX9_at 101 = .ok (.ireturn, 1) := by decide +kernel
set_option maxRecDepth 20000 in
theorem ggX9_about_X9_increments : GoodIn wsX9_about wsX9_increments := goodIn_r _ [13, 4, 14, 15, 16, 17, 18, 19, 20, 21, 22, 23, 24, 25, 26, 27, 28, 29, 30, 31, 32, 33, 34, 35, 36, 37, 38] (by decide +kernel) (by decide +kernel)
set_option maxRecDepth 20000 in
theorem gX9_about_X9_increments : GoodIn wsX9_about (wsV RX9 167 RX9 yX9_increments wsX9_increments) := goodIn_app (goodIn_of _ (by decide +kernel)) ggX9_about_X9_increments
theorem dX9_about_0 : decode cX9_about 0 = .ok (.aload_n 0, 1) := by decide +kernel
theorem dX9_about_1 : decode cX9_about 1 = .ok (.iconst 0, 1) := by decide +kernel
theorem dX9_about_2 : decode cX9_about 2 = .ok (.putfield 57, 3) := by decide +kernel
theorem dX9_about_5 : decode cX9_about 5 = .ok (.iload_n 1, 1) := by decide +kernel
theorem dX9_about_6 : decode cX9_about 6 = .ok (.tableswitch 141 0 8 #[50, 55, 60, 65, 72, 79, 86, 93, 136], 50) := by decide +kernel
theorem dX9_about_56 : decode cX9_about 56 = .ok (.aload_n 0, 1) := by decide +kernel
theorem dX9_about_57 : decode cX9_about 57 = .ok (.getfield 107, 3) := by decide +kernel
theorem dX9_about_60 : decode cX9_about 60 = .ok (.ireturn, 1) := by decide +kernel
theorem dX9_about_61 : decode cX9_about 61 = .ok (.aload_n 0, 1) := by decide +kernel
theorem dX9_about_62 : decode cX9_about 62 = .ok (.getfield 138, 3) := by decide +kernel
theorem dX9_about_65 : decode cX9_about 65 = .ok (.ireturn, 1) := by decide +kernel
theorem dX9_about_66 : decode cX9_about 66 = .ok (.aload_n 0, 1) := by decide +kernel
theorem dX9_about_67 : decode cX9_about 67 = .ok (.getfield 141, 3) := by decide +kernel
theorem dX9_about_70 : decode cX9_about 70 = .ok (.ireturn, 1) := by decide +kernel
theorem dX9_about_71 : decode cX9_about 71 = .ok (.aload_n 0, 1) := by decide +kernel
theorem dX9_about_72 : decode cX9_about 72 = .ok (.getfield 7, 3) := by decide +kernel
theorem dX9_about_75 : decode cX9_about 75 = .ok (.iconst 0, 1) := by decide +kernel
theorem dX9_about_76 : decode cX9_about 76 = .ok (.iaload, 1) := by decide +kernel
theorem dX9_about_77 : decode cX9_about 77 = .ok (.ireturn, 1) := by decide +kernel
theorem dX9_about_78 : decode cX9_about 78 = .ok (.aload_n 0, 1) := by decide +kernel
theorem dX9_about_79 : decode cX9_about 79 = .ok (.getfield 7, 3) := by decide +kernel
theorem dX9_about_82 : decode cX9_about 82 = .ok (.iconst 1, 1) := by decide +kernel
theorem dX9_about_83 : decode cX9_about 83 = .ok (.iaload, 1) := by decide +kernel
theorem dX9_about_84 : decode cX9_about 84 = .ok (.ireturn, 1) := by decide +kernel
theorem dX9_about_85 : decode cX9_about 85 = .ok (.aload_n 0, 1) := by decide +kernel
theorem dX9_about_86 : decode cX9_about 86 = .ok (.getfield 7, 3) := by decide +kernel
theorem dX9_about_89 : decode cX9_about 89 = .ok (.iconst 2, 1) := by decide +kernel
theorem dX9_about_90 : decode cX9_about 90 = .ok (.iaload, 1) := by decide +kernel
theorem dX9_about_91 : decode cX9_about 91 = .ok (.ireturn, 1) := by decide +kernel
theorem dX9_about_92 : decode cX9_about 92 = .ok (.aload_n 0, 1) := by decide +kernel
theorem dX9_about_93 : decode cX9_about 93 = .ok (.getfield 13, 3) := by decide +kernel
theorem dX9_about_96 : decode cX9_about 96 = .ok (.iconst 0, 1) := by decide +kernel
theorem dX9_about_97 : decode cX9_about 97 = .ok (.iaload, 1) := by decide +kernel
theorem dX9_about_98 : decode cX9_about 98 = .ok (.ireturn, 1) := by decide +kernel
theorem dX9_about_99 : decode cX9_about 99 = .ok (.aload_n 0, 1) := by decide +kernel
theorem dX9_about_100 : decode cX9_about 100 = .ok (.getfield 107, 3) := by decide +kernel
theorem dX9_about_103 : decode cX9_about 103 = .ok (.ifCond .ne 7, 3) := by decide +kernel
theorem dX9_about_106 : decode cX9_about 106 = .ok (.iconst 0, 1) := by decide +kernel
theorem dX9_about_107 : decode cX9_about 107 = .ok (.goto 7, 3) := by decide +kernel
theorem dX9_about_110 : decode cX9_about 110 = .ok (.aload_n 0, 1) := by decide +kernel
theorem dX9_about_111 : decode cX9_about 111 = .ok (.invokevirtual 167, 3) := by decide +kernel
theorem dX9_about_114 : decode cX9_about 114 = .ok (.istore_n 2, 1) := by decide +kernel
theorem dX9_about_115 : decode cX9_about 115 = .ok (.iconst 1, 1) := by decide +kernel
theorem dX9_about_116 : decode cX9_about 116 = .ok (.istore_n 3, 1) := by decide +kernel
theorem dX9_about_117 : decode cX9_about 117 = .ok (.iload_n 3, 1) := by decide +kernel
theorem dX9_about_118 : decode cX9_about 118 = .ok (.aload_n 0, 1) := by decide +kernel
theorem dX9_about_119 : decode cX9_about 119 = .ok (.getfield 138, 3) := by decide +kernel
theorem dX9_about_122 : decode cX9_about 122 = .ok (.if_icmp .ge 18, 3) := by decide +kernel
theorem dX9_about_125 : decode cX9_about 125 = .ok (.iload_n 2, 1) := by decide +kernel
theorem dX9_about_126 : decode cX9_about 126 = .ok (.aload_n 0, 1) := by decide +kernel
theorem dX9_about_127 : decode cX9_about 127 = .ok (.getfield 51, 3) := by decide +kernel
theorem dX9_about_130 : decode cX9_about 130 = .ok (.iload_n 3, 1) := by decide +kernel
theorem dX9_about_131 : decode cX9_about 131 = .ok (.iaload, 1) := by decide +kernel
theorem dX9_about_132 : decode cX9_about 132 = .ok (.iadd, 1) := by decide +kernel
theorem dX9_about_133 : decode cX9_about 133 = .ok (.istore_n 2, 1) := by decide +kernel
theorem dX9_about_134 : decode cX9_about 134 = .ok (.iinc 3 1, 3) := by decide +kernel
theorem dX9_about_137 : decode cX9_about 137 = .ok (.goto (-20), 3) := by decide +kernel
theorem dX9_about_140 : decode cX9_about 140 = .ok (.iload_n 2, 1) := by decide +kernel
theorem dX9_about_141 : decode cX9_about 141 = .ok (.ireturn, 1) := by decide +kernel
theorem dX9_about_142 : decode cX9_about 142 = .ok (.aload_n 0, 1) := by decide +kernel
theorem dX9_about_143 : decode cX9_about 143 = .ok (.getfield 61, 3) := by decide +kernel
theorem dX9_about_146 : decode cX9_about 146 = .ok (.ireturn, 1) := by decide +kernel
theorem dX9_about_147 : decode cX9_about 147 = .ok (.iconst (-1), 1) := by decide +kernel
theorem dX9_about_148 : decode cX9_about 148 = .ok (.ireturn, 1) := by decide +kernel
theorem dX9_session_0 : decode cX9_session 0 = .ok (.aload_n 0, 1) := by decide +kernel
theorem dX9_session_1 : decode cX9_session 1 = .ok (.iconst 0, 1) := by decide +kernel
theorem dX9_session_2 : decode cX9_session 2 = .ok (.putfield 57, 3) := by decide +kernel
theorem dX9_session_5 : decode cX9_session 5 = .ok (.iload_n 1, 1) := by decide +kernel
theorem dX9_session_6 : decode cX9_session 6 = .ok (.ifCond .lt 11, 3) := by decide +kernel
theorem dX9_session_9 : decode cX9_session 9 = .ok (.iload_n 1, 1) := by decide +kernel
theorem dX9_session_10 : decode cX9_session 10 = .ok (.aload_n 0, 1) := by decide +kernel
theorem dX9_session_11 : decode cX9_session 11 = .ok (.getfield 138, 3) := by decide +kernel
theorem dX9_session_14 : decode cX9_session 14 = .ok (.if_icmp .lt 5, 3) := by decide +kernel
theorem dX9_session_17 : decode cX9_session 17 = .ok (.iconst (-1), 1) := by decide +kernel
theorem dX9_session_18 : decode cX9_session 18 = .ok (.ireturn, 1) := by decide +kernel
theorem dX9_session_19 : decode cX9_session 19 = .ok (.iload_n 2, 1) := by decide +kernel
theorem dX9_session_20 : decode cX9_session 20 = .ok (.ifCond .ne 12, 3) := by decide +kernel
theorem dX9_session_23 : decode cX9_session 23 = .ok (.aload_n 0, 1) := by decide +kernel
theorem dX9_session_24 : decode cX9_session 24 = .ok (.getfield 48, 3) := by decide +kernel
theorem dX9_session_27 : decode cX9_session 27 = .ok (.iload_n 1, 1) := by decide +kernel
theorem dX9_session_28 : decode cX9_session 28 = .ok (.iaload, 1) := by decide +kernel
theorem dX9_session_29 : decode cX9_session 29 = .ok (.goto 22, 3) := by decide +kernel
theorem dX9_session_32 : decode cX9_session 32 = .ok (.iload_n 2, 1) := by decide +kernel
theorem dX9_session_33 : decode cX9_session 33 = .ok (.iconst 1, 1) := by decide +kernel
theorem dX9_session_34 : decode cX9_session 34 = .ok (.if_icmp .ne 16, 3) := by decide +kernel
theorem dX9_session_37 : decode cX9_session 37 = .ok (.iload_n 1, 1) := by decide +kernel
theorem dX9_session_38 : decode cX9_session 38 = .ok (.ifCond .le 12, 3) := by decide +kernel
theorem dX9_session_41 : decode cX9_session 41 = .ok (.aload_n 0, 1) := by decide +kernel
theorem dX9_session_42 : decode cX9_session 42 = .ok (.getfield 51, 3) := by decide +kernel
theorem dX9_session_45 : decode cX9_session 45 = .ok (.iload_n 1, 1) := by decide +kernel
theorem dX9_session_46 : decode cX9_session 46 = .ok (.iaload, 1) := by decide +kernel
theorem dX9_session_47 : decode cX9_session 47 = .ok (.goto 4, 3) := by decide +kernel
theorem dX9_session_50 : decode cX9_session 50 = .ok (.iconst (-1), 1) := by decide +kernel
theorem dX9_session_51 : decode cX9_session 51 = .ok (.ireturn, 1) := by decide +kernel
theorem dJ9_max_7cf53_0 : decode cJ9_max_7cf53 0 = .ok (.iload_n 0, 1) := by decide +kernel
theorem dJ9_max_7cf53_1 : decode cJ9_max_7cf53 1 = .ok (.iload_n 1, 1) := by decide +kernel
theorem dJ9_max_7cf53_2 : decode cJ9_max_7cf53 2 = .ok (.if_icmp .lt 7, 3) := by decide +kernel
theorem dJ9_max_7cf53_5 : decode cJ9_max_7cf53 5 = .ok (.iload_n 0, 1) := by decide +kernel
theorem dJ9_max_7cf53_6 : decode cJ9_max_7cf53 6 = .ok (.goto 4, 3) := by decide +kernel
theorem dJ9_max_7cf53_9 : decode cJ9_max_7cf53 9 = .ok (.iload_n 1, 1) := by decide +kernel
theorem dJ9_max_7cf53_10 : decode cJ9_max_7cf53 10 = .ok (.ireturn, 1) := by decide +kernel
theorem dJ9_max_f86c9_0 : decode cJ9_max_f86c9 0 = .ok (.lload_n 0, 1) := by decide +kernel
theorem dJ9_max_f86c9_1 : decode cJ9_max_f86c9 1 = .ok (.lload_n 2, 1) := by decide +kernel
theorem dJ9_max_f86c9_2 : decode cJ9_max_f86c9 2 = .ok (.lcmp, 1) := by decide +kernel
theorem dJ9_max_f86c9_3 : decode cJ9_max_f86c9 3 = .ok (.ifCond .lt 7, 3) := by decide +kernel
theorem dJ9_max_f86c9_6 : decode cJ9_max_f86c9 6 = .ok (.lload_n 0, 1) := by decide +kernel
theorem dJ9_max_f86c9_7 : decode cJ9_max_f86c9 7 = .ok (.goto 4, 3) := by decide +kernel
theorem dJ9_max_f86c9_10 : decode cJ9_max_f86c9 10 = .ok (.lload_n 2, 1) := by decide +kernel
theorem dJ9_max_f86c9_11 : decode cJ9_max_f86c9 11 = .ok (.lreturn, 1) := by decide +kernel
theorem dJ9_min_7cf53_0 : decode cJ9_min_7cf53 0 = .ok (.iload_n 0, 1) := by decide +kernel
theorem dJ9_min_7cf53_1 : decode cJ9_min_7cf53 1 = .ok (.iload_n 1, 1) := by decide +kernel
theorem dJ9_min_7cf53_2 : decode cJ9_min_7cf53 2 = .ok (.if_icmp .gt 7, 3) := by decide +kernel
theorem dJ9_min_7cf53_5 : decode cJ9_min_7cf53 5 = .ok (.iload_n 0, 1) := by decide +kernel
theorem dJ9_min_7cf53_6 : decode cJ9_min_7cf53 6 = .ok (.goto 4, 3) := by decide +kernel
theorem dJ9_min_7cf53_9 : decode cJ9_min_7cf53 9 = .ok (.iload_n 1, 1) := by decide +kernel
theorem dJ9_min_7cf53_10 : decode cJ9_min_7cf53 10 = .ok (.ireturn, 1) := by decide +kernel
theorem dJ7_fill_53178_0 : decode cJ7_fill_53178 0 = .ok (.iconst 0, 1) := by decide +kernel
theorem dJ7_fill_53178_1 : decode cJ7_fill_53178 1 = .ok (.istore_n 2, 1) := by decide +kernel
theorem dJ7_fill_53178_2 : decode cJ7_fill_53178 2 = .ok (.aload_n 0, 1) := by decide +kernel
theorem dJ7_fill_53178_3 : decode cJ7_fill_53178 3 = .ok (.arraylength, 1) := by decide +kernel
theorem dJ7_fill_53178_4 : decode cJ7_fill_53178 4 = .ok (.istore_n 3, 1) := by decide +kernel
theorem dJ7_fill_53178_5 : decode cJ7_fill_53178 5 = .ok (.iload_n 2, 1) := by decide +kernel
theorem dJ7_fill_53178_6 : decode cJ7_fill_53178 6 = .ok (.iload_n 3, 1) := by decide +kernel
theorem dJ7_fill_53178_7 : decode cJ7_fill_53178 7 = .ok (.if_icmp .ge 13, 3) := by decide +kernel
theorem dJ7_fill_53178_10 : decode cJ7_fill_53178 10 = .ok (.aload_n 0, 1) := by decide +kernel
theorem dJ7_fill_53178_11 : decode cJ7_fill_53178 11 = .ok (.iload_n 2, 1) := by decide +kernel
theorem dJ7_fill_53178_12 : decode cJ7_fill_53178 12 = .ok (.iload_n 1, 1) := by decide +kernel
theorem dJ7_fill_53178_13 : decode cJ7_fill_53178 13 = .ok (.iastore, 1) := by decide +kernel
theorem dJ7_fill_53178_14 : decode cJ7_fill_53178 14 = .ok (.iinc 2 1, 3) := by decide +kernel
theorem dJ7_fill_53178_17 : decode cJ7_fill_53178 17 = .ok (.goto (-12), 3) := by decide +kernel
theorem dJ7_fill_53178_20 : decode cJ7_fill_53178 20 = .ok (.return_, 1) := by decide +kernel
theorem dJ7_copyOf_9075b_0 : decode cJ7_copyOf_9075b 0 = .ok (.iload_n 1, 1) := by decide +kernel
theorem dJ7_copyOf_9075b_1 : decode cJ7_copyOf_9075b 1 = .ok (.aload_n 0, 1) := by decide +kernel
theorem dJ7_copyOf_9075b_2 : decode cJ7_copyOf_9075b 2 = .ok (.arraylength, 1) := by decide +kernel
theorem dJ7_copyOf_9075b_3 : decode cJ7_copyOf_9075b 3 = .ok (.if_icmp .ne 11, 3) := by decide +kernel
theorem dJ7_copyOf_9075b_6 : decode cJ7_copyOf_9075b 6 = .ok (.aload_n 0, 1) := by decide +kernel
theorem dJ7_copyOf_9075b_7 : decode cJ7_copyOf_9075b 7 = .ok (.invokevirtual 310, 3) := by decide +kernel
theorem dJ7_copyOf_9075b_10 : decode cJ7_copyOf_9075b 10 = .ok (.checkcast 311, 3) := by decide +kernel
theorem dJ7_copyOf_9075b_13 : decode cJ7_copyOf_9075b 13 = .ok (.areturn, 1) := by decide +kernel
theorem dJ7_copyOf_9075b_14 : decode cJ7_copyOf_9075b 14 = .ok (.iload_n 1, 1) := by decide +kernel
theorem dJ7_copyOf_9075b_15 : decode cJ7_copyOf_9075b 15 = .ok (.newarray .byte, 2) := by decide +kernel
theorem dJ7_copyOf_9075b_17 : decode cJ7_copyOf_9075b 17 = .ok (.astore_n 2, 1) := by decide +kernel
theorem dJ7_copyOf_9075b_18 : decode cJ7_copyOf_9075b 18 = .ok (.aload_n 0, 1) := by decide +kernel
theorem dJ7_copyOf_9075b_19 : decode cJ7_copyOf_9075b 19 = .ok (.iconst 0, 1) := by decide +kernel
theorem dJ7_copyOf_9075b_20 : decode cJ7_copyOf_9075b 20 = .ok (.aload_n 2, 1) := by decide +kernel
theorem dJ7_copyOf_9075b_21 : decode cJ7_copyOf_9075b 21 = .ok (.iconst 0, 1) := by decide +kernel
theorem dJ7_copyOf_9075b_22 : decode cJ7_copyOf_9075b 22 = .ok (.aload_n 0, 1) := by decide +kernel
theorem dJ7_copyOf_9075b_23 : decode cJ7_copyOf_9075b 23 = .ok (.arraylength, 1) := by decide +kernel
theorem dJ7_copyOf_9075b_24 : decode cJ7_copyOf_9075b 24 = .ok (.iload_n 1, 1) := by decide +kernel
theorem dJ7_copyOf_9075b_25 : decode cJ7_copyOf_9075b 25 = .ok (.invokestatic 304, 3) := by decide +kernel
theorem dJ7_copyOf_9075b_28 : decode cJ7_copyOf_9075b 28 = .ok (.invokestatic 150, 3) := by decide +kernel
theorem dJ7_copyOf_9075b_31 : decode cJ7_copyOf_9075b 31 = .ok (.aload_n 2, 1) := by decide +kernel
theorem dJ7_copyOf_9075b_32 : decode cJ7_copyOf_9075b 32 = .ok (.areturn, 1) := by decide +kernel
set_option maxRecDepth 20000 in
theorem ggL_make_X8_make : GoodIn wsL_make wsX8_make := goodIn_ca (goodIn_ca (goodIn_r _ [7, 8, 9, 10, 11, 12, 13, 14, 15, 16, 17, 18, 19, 20, 21, 22, 23, 24, 25, 26, 27, 28, 29, 30, 31, 32, 33, 34, 35, 36, 37, 38, 39, 40, 41, 42, 43, 44, 45, 46, 6, 47, 48, 49, 50, 51, 52, 53, 54, 55, 56, 57, 58, 59, 60, 61, 62, 63, 64, 65, 66, 67, 68, 69, 70, 71, 72, 73, 74, 75, 76, 77, 78, 79, 80, 81, 82, 83, 84, 85, 86, 87, 88, 89, 90, 91, 92, 93, 94, 95, 96, 97, 98, 99, 100, 101, 102, 103, 104, 105, 106, 107, 108, 109, 110, 111, 112, 113, 114, 115, 116, 117, 118, 119, 120, 121, 122, 123, 124, 125, 126, 127, 128, 129, 130, 131, 132, 133, 134, 135, 136, 137, 138, 139, 140] (by decide +kernel) (by decide +kernel)) (goodIn_sub (fun _ h => List.mem_cons_of_mem _ (List.mem_append_left _ (List.mem_append_right _ h))) (by decide +kernel))) (goodIn_sub (fun _ h => List.mem_cons_of_mem _ (List.mem_append_right _ h)) (by decide +kernel))
set_option maxRecDepth 20000 in
theorem gL_make_X8_make : GoodIn wsL_make (wsV RL 7 RX8 yX8_make wsX8_make) := goodIn_app (goodIn_of _ (by decide +kernel)) ggL_make_X8_make
theorem dL_make_0 : decode cL_make 0 = .ok (.aload 4, 2) := by decide +kernel
theorem dL_make_2 : decode cL_make 2 = .ok (.iconst 0, 1) := by decide +kernel
theorem dL_make_3 : decode cL_make 3 = .ok (.aload_n 0, 1) := by decide +kernel
theorem dL_make_4 : decode cL_make 4 = .ok (.iload_n 1, 1) := by decide +kernel
theorem dL_make_5 : decode cL_make 5 = .ok (.iload_n 2, 1) := by decide +kernel
theorem dL_make_6 : decode cL_make 6 = .ok (.iload_n 3, 1) := by decide +kernel
theorem dL_make_7 : decode cL_make 7 = .ok (.invokevirtual 7, 3) := by decide +kernel
theorem dL_make_10 : decode cL_make 10 = .ok (.i2l, 1) := by decide +kernel
theorem dL_make_11 : decode cL_make 11 = .ok (.lastore, 1) := by decide +kernel
theorem dL_make_12 : decode cL_make 12 = .ok (.goto 11, 3) := by decide +kernel
theorem dL_make_15 : decode cL_make 15 = .ok (.astore 5, 2) := by decide +kernel
theorem dL_make_17 : decode cL_make 17 = .ok (.iconst 1, 1) := by decide +kernel
theorem dL_make_18 : decode cL_make 18 = .ok (.ireturn, 1) := by decide +kernel
theorem dL_make_19 : decode cL_make 19 = .ok (.astore 5, 2) := by decide +kernel
theorem dL_make_21 : decode cL_make 21 = .ok (.iconst 2, 1) := by decide +kernel
theorem dL_make_22 : decode cL_make 22 = .ok (.ireturn, 1) := by decide +kernel
theorem dL_make_23 : decode cL_make 23 = .ok (.iconst 0, 1) := by decide +kernel
theorem dL_make_24 : decode cL_make 24 = .ok (.ireturn, 1) := by decide +kernel
set_option maxRecDepth 20000 in
theorem ggL_write_X8_write : GoodIn wsL_write wsX8_write := goodIn_ca (goodIn_ca (goodIn_r _ [7, 8, 9, 10, 11, 12, 13, 14, 15, 16, 17, 18, 19, 20, 21, 22, 23, 24, 25, 26, 27, 28, 29, 30, 31, 32, 33, 34, 35, 36, 37, 38, 39, 40, 41, 42, 43, 44, 45, 46, 47, 48, 49, 50, 51, 52, 53, 54, 55, 56, 6, 57, 58, 59, 60, 61, 62, 63, 64, 65, 66, 67, 68, 69, 70, 71, 72, 73, 74, 75, 76, 77, 78, 79, 80, 81, 82, 83, 84, 85, 86, 87, 88, 89, 90, 91, 92, 93, 94, 95, 96, 97, 98, 99, 100, 101, 102, 103, 104, 105, 106, 107, 108, 109, 110] (by decide +kernel) (by decide +kernel)) (goodIn_sub (fun _ h => List.mem_cons_of_mem _ (List.mem_append_left _ (List.mem_append_right _ h))) (by decide +kernel))) (goodIn_sub (fun _ h => List.mem_cons_of_mem _ (List.mem_append_right _ h)) (by decide +kernel))
set_option maxRecDepth 20000 in
theorem gL_write_X8_write : GoodIn wsL_write (wsV RL 17 RX8 yX8_write wsX8_write) := goodIn_app (goodIn_of _ (by decide +kernel)) ggL_write_X8_write
theorem dL_write_0 : decode cL_write 0 = .ok (.aload_n 2, 1) := by decide +kernel
theorem dL_write_1 : decode cL_write 1 = .ok (.iconst 0, 1) := by decide +kernel
theorem dL_write_2 : decode cL_write 2 = .ok (.aload_n 0, 1) := by decide +kernel
theorem dL_write_3 : decode cL_write 3 = .ok (.iload_n 1, 1) := by decide +kernel
theorem dL_write_4 : decode cL_write 4 = .ok (.invokevirtual 17, 3) := by decide +kernel
theorem dL_write_7 : decode cL_write 7 = .ok (.i2l, 1) := by decide +kernel
theorem dL_write_8 : decode cL_write 8 = .ok (.lastore, 1) := by decide +kernel
theorem dL_write_9 : decode cL_write 9 = .ok (.goto 9, 3) := by decide +kernel
theorem dL_write_12 : decode cL_write 12 = .ok (.astore_n 3, 1) := by decide +kernel
theorem dL_write_13 : decode cL_write 13 = .ok (.iconst 1, 1) := by decide +kernel
theorem dL_write_14 : decode cL_write 14 = .ok (.ireturn, 1) := by decide +kernel
theorem dL_write_15 : decode cL_write 15 = .ok (.astore_n 3, 1) := by decide +kernel
theorem dL_write_16 : decode cL_write 16 = .ok (.iconst 2, 1) := by decide +kernel
theorem dL_write_17 : decode cL_write 17 = .ok (.ireturn, 1) := by decide +kernel
theorem dL_write_18 : decode cL_write 18 = .ok (.iconst 0, 1) := by decide +kernel
theorem dL_write_19 : decode cL_write 19 = .ok (.ireturn, 1) := by decide +kernel
set_option maxRecDepth 20000 in
theorem ggL_cut_X8_cut : GoodIn wsL_cut wsX8_cut := goodIn_ca (goodIn_ca (goodIn_r _ [7, 8, 9, 10, 11, 12, 13, 14, 15, 16, 17, 18, 19, 20, 21, 22, 23, 24, 25, 26, 27, 28, 29, 30, 31, 32, 33, 34, 35, 36, 37, 38, 39, 40, 41, 42, 43, 44, 45, 46, 47, 48, 49, 50, 51, 52, 53, 54, 55, 56, 57, 58, 59, 60, 61, 62, 63, 64, 65, 66, 67, 68, 69, 70, 71, 72, 73, 74, 75, 76, 77, 78, 79, 80] (by decide +kernel) (by decide +kernel)) (goodIn_sub (fun _ h => List.mem_cons_of_mem _ (List.mem_append_left _ (List.mem_append_right _ h))) (by decide +kernel))) (goodIn_sub (fun _ h => List.mem_cons_of_mem _ (List.mem_append_right _ h)) (by decide +kernel))
set_option maxRecDepth 20000 in
theorem gL_cut_X8_cut : GoodIn wsL_cut (wsV RL 21 RX8 yX8_cut wsX8_cut) := goodIn_app (goodIn_of _ (by decide +kernel)) ggL_cut_X8_cut
theorem dL_cut_0 : decode cL_cut 0 = .ok (.aload_n 0, 1) := by decide +kernel
theorem dL_cut_1 : decode cL_cut 1 = .ok (.iload_n 1, 1) := by decide +kernel
theorem dL_cut_2 : decode cL_cut 2 = .ok (.invokevirtual 21, 3) := by decide +kernel
theorem dL_cut_5 : decode cL_cut 5 = .ok (.goto 9, 3) := by decide +kernel
theorem dL_cut_8 : decode cL_cut 8 = .ok (.astore_n 2, 1) := by decide +kernel
theorem dL_cut_9 : decode cL_cut 9 = .ok (.iconst 1, 1) := by decide +kernel
theorem dL_cut_10 : decode cL_cut 10 = .ok (.ireturn, 1) := by decide +kernel
theorem dL_cut_11 : decode cL_cut 11 = .ok (.astore_n 2, 1) := by decide +kernel
theorem dL_cut_12 : decode cL_cut 12 = .ok (.iconst 2, 1) := by decide +kernel
theorem dL_cut_13 : decode cL_cut 13 = .ok (.ireturn, 1) := by decide +kernel
theorem dL_cut_14 : decode cL_cut 14 = .ok (.iconst 0, 1) := by decide +kernel
theorem dL_cut_15 : decode cL_cut 15 = .ok (.ireturn, 1) := by decide +kernel
set_option maxRecDepth 20000 in
theorem ggL_set_X8_set : GoodIn wsL_set wsX8_set := goodIn_ca (goodIn_ca (goodIn_r _ [7, 8, 9, 10, 11, 12, 13, 14, 15, 16, 17, 18, 19, 20, 21, 22, 23, 6, 24, 25, 26, 27, 28, 29, 30, 31, 32, 33, 34, 35, 36, 37, 38, 39, 40, 41, 42, 43, 44, 45, 46, 47, 48, 49, 50, 51, 52, 53, 54, 55, 56, 57, 58, 59, 60, 61, 62, 63, 64, 65] (by decide +kernel) (by decide +kernel)) (goodIn_sub (fun _ h => List.mem_cons_of_mem _ (List.mem_append_left _ (List.mem_append_right _ h))) (by decide +kernel))) (goodIn_sub (fun _ h => List.mem_cons_of_mem _ (List.mem_append_right _ h)) (by decide +kernel))
set_option maxRecDepth 20000 in
theorem gL_set_X8_set : GoodIn wsL_set (wsV RL 25 RX8 yX8_set wsX8_set) := goodIn_app (goodIn_of _ (by decide +kernel)) ggL_set_X8_set
theorem dL_set_0 : decode cL_set 0 = .ok (.aload_n 0, 1) := by decide +kernel
theorem dL_set_1 : decode cL_set 1 = .ok (.iload_n 1, 1) := by decide +kernel
theorem dL_set_2 : decode cL_set 2 = .ok (.iload_n 2, 1) := by decide +kernel
theorem dL_set_3 : decode cL_set 3 = .ok (.invokevirtual 25, 3) := by decide +kernel
theorem dL_set_6 : decode cL_set 6 = .ok (.goto 9, 3) := by decide +kernel
theorem dL_set_9 : decode cL_set 9 = .ok (.astore_n 3, 1) := by decide +kernel
theorem dL_set_10 : decode cL_set 10 = .ok (.iconst 1, 1) := by decide +kernel
theorem dL_set_11 : decode cL_set 11 = .ok (.ireturn, 1) := by decide +kernel
theorem dL_set_12 : decode cL_set 12 = .ok (.astore_n 3, 1) := by decide +kernel
theorem dL_set_13 : decode cL_set 13 = .ok (.iconst 2, 1) := by decide +kernel
theorem dL_set_14 : decode cL_set 14 = .ok (.ireturn, 1) := by decide +kernel
theorem dL_set_15 : decode cL_set 15 = .ok (.iconst 0, 1) := by decide +kernel
theorem dL_set_16 : decode cL_set 16 = .ok (.ireturn, 1) := by decide +kernel
set_option maxRecDepth 20000 in
theorem ggL_remove_X8_remove : GoodIn wsL_remove wsX8_remove := goodIn_ca (goodIn_r _ [6, 7, 8, 9, 10, 11, 12, 13, 14, 15, 16, 17, 18, 19, 20, 21, 22, 23, 24, 25, 26, 27, 28, 29, 30, 31, 32, 33, 34, 35, 36, 37, 38, 39, 40, 41, 42, 43, 44, 45, 46, 47, 48] (by decide +kernel) (by decide +kernel)) (goodIn_sub (fun _ h => List.mem_cons_of_mem _ (List.mem_append_right _ h)) (by decide +kernel))
set_option maxRecDepth 20000 in
theorem gL_remove_X8_remove : GoodIn wsL_remove (wsV RL 29 RX8 yX8_remove wsX8_remove) := goodIn_app (goodIn_of _ (by decide +kernel)) ggL_remove_X8_remove
theorem dL_remove_0 : decode cL_remove 0 = .ok (.aload_n 1, 1) := by decide +kernel
theorem dL_remove_1 : decode cL_remove 1 = .ok (.iconst 0, 1) := by decide +kernel
theorem dL_remove_2 : decode cL_remove 2 = .ok (.aload_n 0, 1) := by decide +kernel
theorem dL_remove_3 : decode cL_remove 3 = .ok (.invokevirtual 29, 3) := by decide +kernel
theorem dL_remove_6 : decode cL_remove 6 = .ok (.i2l, 1) := by decide +kernel
theorem dL_remove_7 : decode cL_remove 7 = .ok (.lastore, 1) := by decide +kernel
theorem dL_remove_8 : decode cL_remove 8 = .ok (.goto 6, 3) := by decide +kernel
theorem dL_remove_11 : decode cL_remove 11 = .ok (.astore_n 2, 1) := by decide +kernel
theorem dL_remove_12 : decode cL_remove 12 = .ok (.iconst 1, 1) := by decide +kernel
theorem dL_remove_13 : decode cL_remove 13 = .ok (.ireturn, 1) := by decide +kernel
theorem dL_remove_14 : decode cL_remove 14 = .ok (.iconst 0, 1) := by decide +kernel
theorem dL_remove_15 : decode cL_remove 15 = .ok (.ireturn, 1) := by decide +kernel
set_option maxRecDepth 20000 in
theorem ggL_begin_X8_begin : GoodIn wsL_begin wsX8_begin := goodIn_ca (goodIn_ca (goodIn_r _ [7, 8, 9, 10, 11, 12, 13, 14, 15, 16, 17, 18, 19, 20, 21, 22, 23, 24, 6, 25, 26, 27, 28, 29, 30, 31, 32, 33, 34, 35, 36, 37, 38, 39, 40, 41, 42, 43, 44, 45, 46, 47, 48, 49, 50, 51, 52, 53, 54, 55, 56, 57, 58, 59, 60, 61, 62, 63, 64, 65, 66, 67, 68, 69, 70, 71, 72, 73, 74, 75, 76, 77, 78, 79, 80, 81, 82, 83, 84, 85, 86, 87, 88, 89, 90, 91, 92, 93, 94, 95, 96, 97, 98, 99, 100, 101, 102, 103, 104, 105, 106, 107, 108, 109, 110, 111, 112, 113, 114, 115, 116, 117, 118, 119, 120, 121, 122, 123, 124, 125, 126, 127, 128, 129] (by decide +kernel) (by decide +kernel)) (goodIn_sub (fun _ h => List.mem_cons_of_mem _ (List.mem_append_left _ (List.mem_append_right _ h))) (by decide +kernel))) (goodIn_sub (fun _ h => List.mem_cons_of_mem _ (List.mem_append_right _ h)) (by decide +kernel))
set_option maxRecDepth 20000 in
theorem gL_begin_X8_begin : GoodIn wsL_begin (wsV RL 33 RX8 yX8_begin wsX8_begin) := goodIn_app (goodIn_of _ (by decide +kernel)) ggL_begin_X8_begin
theorem dL_begin_0 : decode cL_begin 0 = .ok (.aload_n 2, 1) := by decide +kernel
theorem dL_begin_1 : decode cL_begin 1 = .ok (.iconst 0, 1) := by decide +kernel
theorem dL_begin_2 : decode cL_begin 2 = .ok (.aload_n 0, 1) := by decide +kernel
theorem dL_begin_3 : decode cL_begin 3 = .ok (.iload_n 1, 1) := by decide +kernel
theorem dL_begin_4 : decode cL_begin 4 = .ok (.invokevirtual 33, 3) := by decide +kernel
theorem dL_begin_7 : decode cL_begin 7 = .ok (.i2l, 1) := by decide +kernel
theorem dL_begin_8 : decode cL_begin 8 = .ok (.lastore, 1) := by decide +kernel
theorem dL_begin_9 : decode cL_begin 9 = .ok (.goto 9, 3) := by decide +kernel
theorem dL_begin_12 : decode cL_begin 12 = .ok (.astore_n 3, 1) := by decide +kernel
theorem dL_begin_13 : decode cL_begin 13 = .ok (.iconst 1, 1) := by decide +kernel
theorem dL_begin_14 : decode cL_begin 14 = .ok (.ireturn, 1) := by decide +kernel
theorem dL_begin_15 : decode cL_begin 15 = .ok (.astore_n 3, 1) := by decide +kernel
theorem dL_begin_16 : decode cL_begin 16 = .ok (.iconst 2, 1) := by decide +kernel
theorem dL_begin_17 : decode cL_begin 17 = .ok (.ireturn, 1) := by decide +kernel
theorem dL_begin_18 : decode cL_begin 18 = .ok (.iconst 0, 1) := by decide +kernel
theorem dL_begin_19 : decode cL_begin 19 = .ok (.ireturn, 1) := by decide +kernel
set_option maxRecDepth 20000 in
theorem ggL_step_X8_step : GoodIn wsL_step wsX8_step := goodIn_ca (goodIn_ca (goodIn_r _ [7, 8, 9, 10, 11, 12, 13, 14, 15, 16, 17, 18, 19, 20, 21, 6, 22, 23, 24, 25, 26, 27, 28, 29, 30, 31, 32, 33, 34, 35, 36, 37, 38, 39, 40, 41, 42, 43, 44, 45, 46, 47, 48, 49, 50, 51, 52, 53, 54, 55, 56, 57, 58, 59, 60, 61, 62, 63, 64, 65, 66, 67, 68, 69, 70, 71, 72, 73, 74, 75, 76, 77, 78, 79, 80, 81, 82, 83, 84, 85, 86, 87, 88, 89, 90, 91, 92, 93, 94, 95, 96, 97, 98, 99, 100, 101, 102, 103, 104, 105, 106, 107, 108, 109, 110, 111, 112, 113, 114, 115, 116, 117, 118, 119, 120, 121, 122, 123, 124, 125, 126, 127, 128, 129, 130, 131, 132, 133, 134, 135, 136, 137, 138, 139, 140, 141, 142, 143, 144, 145, 146, 147, 148, 149, 150, 151, 152, 153, 154, 155, 156, 157, 158, 159, 160, 161] (by decide +kernel) (by decide +kernel)) (goodIn_sub (fun _ h => List.mem_cons_of_mem _ (List.mem_append_left _ (List.mem_append_right _ h))) (by decide +kernel))) (goodIn_sub (fun _ h => List.mem_cons_of_mem _ (List.mem_append_right _ h)) (by decide +kernel))
set_option maxRecDepth 20000 in
theorem gL_step_X8_step : GoodIn wsL_step (wsV RL 36 RX8 yX8_step wsX8_step) := goodIn_app (goodIn_of _ (by decide +kernel)) ggL_step_X8_step
theorem dL_step_0 : decode cL_step 0 = .ok (.aload_n 2, 1) := by decide +kernel
theorem dL_step_1 : decode cL_step 1 = .ok (.iconst 0, 1) := by decide +kernel
theorem dL_step_2 : decode cL_step 2 = .ok (.aload_n 0, 1) := by decide +kernel
theorem dL_step_3 : decode cL_step 3 = .ok (.iload_n 1, 1) := by decide +kernel
theorem dL_step_4 : decode cL_step 4 = .ok (.invokevirtual 36, 3) := by decide +kernel
theorem dL_step_7 : decode cL_step 7 = .ok (.i2l, 1) := by decide +kernel
theorem dL_step_8 : decode cL_step 8 = .ok (.lastore, 1) := by decide +kernel
theorem dL_step_9 : decode cL_step 9 = .ok (.goto 9, 3) := by decide +kernel
theorem dL_step_12 : decode cL_step 12 = .ok (.astore_n 3, 1) := by decide +kernel
theorem dL_step_13 : decode cL_step 13 = .ok (.iconst 1, 1) := by decide +kernel
theorem dL_step_14 : decode cL_step 14 = .ok (.ireturn, 1) := by decide +kernel
theorem dL_step_15 : decode cL_step 15 = .ok (.astore_n 3, 1) := by decide +kernel
theorem dL_step_16 : decode cL_step 16 = .ok (.iconst 2, 1) := by decide +kernel
theorem dL_step_17 : decode cL_step 17 = .ok (.ireturn, 1) := by decide +kernel
theorem dL_step_18 : decode cL_step 18 = .ok (.iconst 0, 1) := by decide +kernel
theorem dL_step_19 : decode cL_step 19 = .ok (.ireturn, 1) := by decide +kernel
set_option maxRecDepth 20000 in
theorem ggL_crash_X8_crash : GoodIn wsL_crash wsX8_crash := goodIn_ca (goodIn_r _ [6, 7, 8, 9, 10, 11, 12, 13, 14, 15, 16, 17, 18] (by decide +kernel) (by decide +kernel)) (goodIn_sub (fun _ h => List.mem_cons_of_mem _ (List.mem_append_right _ h)) (by decide +kernel))
set_option maxRecDepth 20000 in
theorem gL_crash_X8_crash : GoodIn wsL_crash (wsV RL 39 RX8 yX8_crash wsX8_crash) := goodIn_app (goodIn_of _ (by decide +kernel)) ggL_crash_X8_crash
theorem dL_crash_0 : decode cL_crash 0 = .ok (.aload_n 0, 1) := by decide +kernel
theorem dL_crash_1 : decode cL_crash 1 = .ok (.invokevirtual 39, 3) := by decide +kernel
theorem dL_crash_4 : decode cL_crash 4 = .ok (.goto 6, 3) := by decide +kernel
theorem dL_crash_7 : decode cL_crash 7 = .ok (.astore_n 1, 1) := by decide +kernel
theorem dL_crash_8 : decode cL_crash 8 = .ok (.iconst 1, 1) := by decide +kernel
theorem dL_crash_9 : decode cL_crash 9 = .ok (.ireturn, 1) := by decide +kernel
theorem dL_crash_10 : decode cL_crash 10 = .ok (.iconst 0, 1) := by decide +kernel
theorem dL_crash_11 : decode cL_crash 11 = .ok (.ireturn, 1) := by decide +kernel
set_option maxRecDepth 20000 in
theorem ggL_regress_X8_regress : GoodIn wsL_regress wsX8_regress := goodIn_ca (goodIn_ca (goodIn_r _ [7, 8, 9, 10, 11, 12, 13, 14, 15, 16, 17, 18, 19, 20, 21, 6, 22, 23, 24, 25, 26, 27, 28, 29, 30, 31, 32, 33, 34, 35, 36, 37, 38, 39, 40, 41, 42, 43, 44, 45, 46, 47, 48, 49, 50, 51, 52, 53, 54, 55, 56, 57, 58, 59, 60, 61, 62, 63, 64, 65, 66, 67, 68, 69, 70, 71, 72, 73, 74, 75, 76, 77, 78, 79, 80, 81, 82, 83, 84, 85, 86, 87, 88, 89, 90, 91, 92, 93, 94, 95, 96, 97, 98, 99, 100, 101, 102, 103, 104, 105, 106, 107, 108, 109, 110, 111, 112, 113, 114, 115] (by decide +kernel) (by decide +kernel)) (goodIn_sub (fun _ h => List.mem_cons_of_mem _ (List.mem_append_left _ (List.mem_append_right _ h))) (by decide +kernel))) (goodIn_sub (fun _ h => List.mem_cons_of_mem _ (List.mem_append_right _ h)) (by decide +kernel))
set_option maxRecDepth 20000 in
theorem gL_regress_X8_regress : GoodIn wsL_regress (wsV RL 42 RX8 yX8_regress wsX8_regress) := goodIn_app (goodIn_of _ (by decide +kernel)) ggL_regress_X8_regress
theorem dL_regress_0 : decode cL_regress 0 = .ok (.aload_n 2, 1) := by decide +kernel
theorem dL_regress_1 : decode cL_regress 1 = .ok (.iconst 0, 1) := by decide +kernel
theorem dL_regress_2 : decode cL_regress 2 = .ok (.aload_n 0, 1) := by decide +kernel
theorem dL_regress_3 : decode cL_regress 3 = .ok (.iload_n 1, 1) := by decide +kernel
theorem dL_regress_4 : decode cL_regress 4 = .ok (.invokevirtual 42, 3) := by decide +kernel
theorem dL_regress_7 : decode cL_regress 7 = .ok (.i2l, 1) := by decide +kernel
theorem dL_regress_8 : decode cL_regress 8 = .ok (.lastore, 1) := by decide +kernel
theorem dL_regress_9 : decode cL_regress 9 = .ok (.goto 9, 3) := by decide +kernel
theorem dL_regress_12 : decode cL_regress 12 = .ok (.astore_n 3, 1) := by decide +kernel
theorem dL_regress_13 : decode cL_regress 13 = .ok (.iconst 1, 1) := by decide +kernel
theorem dL_regress_14 : decode cL_regress 14 = .ok (.ireturn, 1) := by decide +kernel
theorem dL_regress_15 : decode cL_regress 15 = .ok (.astore_n 3, 1) := by decide +kernel
theorem dL_regress_16 : decode cL_regress 16 = .ok (.iconst 2, 1) := by decide +kernel
theorem dL_regress_17 : decode cL_regress 17 = .ok (.ireturn, 1) := by decide +kernel
theorem dL_regress_18 : decode cL_regress 18 = .ok (.iconst 0, 1) := by decide +kernel
theorem dL_regress_19 : decode cL_regress 19 = .ok (.ireturn, 1) := by decide +kernel
set_option maxRecDepth 20000 in
theorem ggL_restore_X8_restore : GoodIn wsL_restore wsX8_restore := goodIn_ca (goodIn_r _ [6, 7, 8, 9, 10, 11, 12, 13, 14, 15, 16, 17, 18, 19, 20, 21, 22, 23, 24, 25, 26, 27, 28, 29, 30, 31, 32, 33, 34, 35, 36, 37, 38, 39, 40, 41, 42, 43, 44, 45, 46, 47, 48, 49, 50, 51] (by decide +kernel) (by decide +kernel)) (goodIn_sub (fun _ h => List.mem_cons_of_mem _ (List.mem_append_right _ h)) (by decide +kernel))
set_option maxRecDepth 20000 in
theorem gL_restore_X8_restore : GoodIn wsL_restore (wsV RL 45 RX8 yX8_restore wsX8_restore) := goodIn_app (goodIn_of _ (by decide +kernel)) ggL_restore_X8_restore
theorem dL_restore_0 : decode cL_restore 0 = .ok (.aload_n 2, 1) := by decide +kernel
theorem dL_restore_1 : decode cL_restore 1 = .ok (.iconst 0, 1) := by decide +kernel
theorem dL_restore_2 : decode cL_restore 2 = .ok (.aload_n 0, 1) := by decide +kernel
theorem dL_restore_3 : decode cL_restore 3 = .ok (.iload_n 1, 1) := by decide +kernel
theorem dL_restore_4 : decode cL_restore 4 = .ok (.invokevirtual 45, 3) := by decide +kernel
theorem dL_restore_7 : decode cL_restore 7 = .ok (.i2l, 1) := by decide +kernel
theorem dL_restore_8 : decode cL_restore 8 = .ok (.lastore, 1) := by decide +kernel
theorem dL_restore_9 : decode cL_restore 9 = .ok (.goto 6, 3) := by decide +kernel
theorem dL_restore_12 : decode cL_restore 12 = .ok (.astore_n 3, 1) := by decide +kernel
theorem dL_restore_13 : decode cL_restore 13 = .ok (.iconst 1, 1) := by decide +kernel
theorem dL_restore_14 : decode cL_restore 14 = .ok (.ireturn, 1) := by decide +kernel
theorem dL_restore_15 : decode cL_restore 15 = .ok (.iconst 0, 1) := by decide +kernel
theorem dL_restore_16 : decode cL_restore 16 = .ok (.ireturn, 1) := by decide +kernel
set_option maxRecDepth 20000 in
theorem ggL_prune_X8_prune : GoodIn wsL_prune wsX8_prune := goodIn_ca (goodIn_r _ [6, 7, 8, 9, 10, 11, 12, 13, 14, 15, 16, 17, 18, 19, 20, 21, 22, 23, 24, 25, 26, 27, 28, 29, 30, 31, 32, 33, 34, 35, 36] (by decide +kernel) (by decide +kernel)) (goodIn_sub (fun _ h => List.mem_cons_of_mem _ (List.mem_append_right _ h)) (by decide +kernel))
set_option maxRecDepth 20000 in
theorem gL_prune_X8_prune : GoodIn wsL_prune (wsV RL 48 RX8 yX8_prune wsX8_prune) := goodIn_app (goodIn_of _ (by decide +kernel)) ggL_prune_X8_prune
theorem dL_prune_0 : decode cL_prune 0 = .ok (.aload_n 2, 1) := by decide +kernel
theorem dL_prune_1 : decode cL_prune 1 = .ok (.iconst 0, 1) := by decide +kernel
theorem dL_prune_2 : decode cL_prune 2 = .ok (.aload_n 0, 1) := by decide +kernel
theorem dL_prune_3 : decode cL_prune 3 = .ok (.iload_n 1, 1) := by decide +kernel
theorem dL_prune_4 : decode cL_prune 4 = .ok (.invokevirtual 48, 3) := by decide +kernel
theorem dL_prune_7 : decode cL_prune 7 = .ok (.i2l, 1) := by decide +kernel
theorem dL_prune_8 : decode cL_prune 8 = .ok (.lastore, 1) := by decide +kernel
theorem dL_prune_9 : decode cL_prune 9 = .ok (.goto 6, 3) := by decide +kernel
theorem dL_prune_12 : decode cL_prune 12 = .ok (.astore_n 3, 1) := by decide +kernel
theorem dL_prune_13 : decode cL_prune 13 = .ok (.iconst 1, 1) := by decide +kernel
theorem dL_prune_14 : decode cL_prune 14 = .ok (.ireturn, 1) := by decide +kernel
theorem dL_prune_15 : decode cL_prune 15 = .ok (.iconst 0, 1) := by decide +kernel
theorem dL_prune_16 : decode cL_prune 16 = .ok (.ireturn, 1) := by decide +kernel
theorem dL_law_0 : decode cL_law 0 = .ok (.new 8, 3) := by decide +kernel
theorem dL_law_3 : decode cL_law 3 = .ok (.dup, 1) := by decide +kernel
theorem dL_law_4 : decode cL_law 4 = .ok (.invokespecial 51, 3) := by decide +kernel
theorem dL_law_7 : decode cL_law 7 = .ok (.astore_n 1, 1) := by decide +kernel
theorem dL_law_8 : decode cL_law 8 = .ok (.new 52, 3) := by decide +kernel
theorem dL_law_11 : decode cL_law 11 = .ok (.dup, 1) := by decide +kernel
theorem dL_law_12 : decode cL_law 12 = .ok (.invokespecial 54, 3) := by decide +kernel
theorem dL_law_15 : decode cL_law 15 = .ok (.astore_n 2, 1) := by decide +kernel
theorem dL_law_16 : decode cL_law 16 = .ok (.iconst 1, 1) := by decide +kernel
theorem dL_law_17 : decode cL_law 17 = .ok (.newarray .long, 2) := by decide +kernel
theorem dL_law_19 : decode cL_law 19 = .ok (.astore_n 3, 1) := by decide +kernel
theorem dL_law_20 : decode cL_law 20 = .ok (.iconst 0, 1) := by decide +kernel
theorem dL_law_21 : decode cL_law 21 = .ok (.istore 4, 2) := by decide +kernel
theorem dL_law_23 : decode cL_law 23 = .ok (.iload 4, 2) := by decide +kernel
theorem dL_law_25 : decode cL_law 25 = .ok (.aload_n 0, 1) := by decide +kernel
theorem dL_law_26 : decode cL_law 26 = .ok (.arraylength, 1) := by decide +kernel
theorem dL_law_27 : decode cL_law 27 = .ok (.bipush 6, 2) := by decide +kernel
theorem dL_law_29 : decode cL_law 29 = .ok (.isub, 1) := by decide +kernel
theorem dL_law_30 : decode cL_law 30 = .ok (.if_icmp .gt 986, 3) := by decide +kernel
theorem dL_law_33 : decode cL_law 33 = .ok (.aload_n 0, 1) := by decide +kernel
theorem dL_law_34 : decode cL_law 34 = .ok (.iload 4, 2) := by decide +kernel
theorem dL_law_36 : decode cL_law 36 = .ok (.iaload, 1) := by decide +kernel
theorem dL_law_37 : decode cL_law 37 = .ok (.bipush 31, 2) := by decide +kernel
theorem dL_law_39 : decode cL_law 39 = .ok (.iand, 1) := by decide +kernel
theorem dL_law_40 : decode cL_law 40 = .ok (.tableswitch 970 0 18 #[92, 163, 188, 268, 281, 337, 373, 421, 465, 521, 577, 601, 657, 713, 769, 782, 831, 908, 933], 92) := by decide +kernel
theorem dL_law_132 : decode cL_law 132 = .ok (.aload_n 1, 1) := by decide +kernel
theorem dL_law_133 : decode cL_law 133 = .ok (.aload_n 0, 1) := by decide +kernel
theorem dL_law_134 : decode cL_law 134 = .ok (.iload 4, 2) := by decide +kernel
theorem dL_law_136 : decode cL_law 136 = .ok (.iconst 1, 1) := by decide +kernel
theorem dL_law_137 : decode cL_law 137 = .ok (.iadd, 1) := by decide +kernel
theorem dL_law_138 : decode cL_law 138 = .ok (.iaload, 1) := by decide +kernel
theorem dL_law_139 : decode cL_law 139 = .ok (.aload_n 0, 1) := by decide +kernel
theorem dL_law_140 : decode cL_law 140 = .ok (.iload 4, 2) := by decide +kernel
theorem dL_law_142 : decode cL_law 142 = .ok (.iconst 2, 1) := by decide +kernel
theorem dL_law_143 : decode cL_law 143 = .ok (.iadd, 1) := by decide +kernel
theorem dL_law_144 : decode cL_law 144 = .ok (.iaload, 1) := by decide +kernel
theorem dL_law_145 : decode cL_law 145 = .ok (.aload_n 0, 1) := by decide +kernel
theorem dL_law_146 : decode cL_law 146 = .ok (.iload 4, 2) := by decide +kernel
theorem dL_law_148 : decode cL_law 148 = .ok (.iconst 3, 1) := by decide +kernel
theorem dL_law_149 : decode cL_law 149 = .ok (.iadd, 1) := by decide +kernel
theorem dL_law_150 : decode cL_law 150 = .ok (.iaload, 1) := by decide +kernel
theorem dL_law_151 : decode cL_law 151 = .ok (.aload_n 0, 1) := by decide +kernel
theorem dL_law_152 : decode cL_law 152 = .ok (.iload 4, 2) := by decide +kernel
theorem dL_law_154 : decode cL_law 154 = .ok (.iconst 4, 1) := by decide +kernel
theorem dL_law_155 : decode cL_law 155 = .ok (.iadd, 1) := by decide +kernel
theorem dL_law_156 : decode cL_law 156 = .ok (.iaload, 1) := by decide +kernel
theorem dL_law_157 : decode cL_law 157 = .ok (.aload_n 0, 1) := by decide +kernel
theorem dL_law_158 : decode cL_law 158 = .ok (.iload 4, 2) := by decide +kernel
theorem dL_law_160 : decode cL_law 160 = .ok (.iconst 5, 1) := by decide +kernel
theorem dL_law_161 : decode cL_law 161 = .ok (.iadd, 1) := by decide +kernel
theorem dL_law_162 : decode cL_law 162 = .ok (.iaload, 1) := by decide +kernel
theorem dL_law_163 : decode cL_law 163 = .ok (.invokevirtual 55, 3) := by decide +kernel
theorem dL_law_166 : decode cL_law 166 = .ok (.aload_n 2, 1) := by decide +kernel
theorem dL_law_167 : decode cL_law 167 = .ok (.aload_n 0, 1) := by decide +kernel
theorem dL_law_168 : decode cL_law 168 = .ok (.iload 4, 2) := by decide +kernel
theorem dL_law_170 : decode cL_law 170 = .ok (.iconst 1, 1) := by decide +kernel
theorem dL_law_171 : decode cL_law 171 = .ok (.iadd, 1) := by decide +kernel
theorem dL_law_172 : decode cL_law 172 = .ok (.iaload, 1) := by decide +kernel
theorem dL_law_173 : decode cL_law 173 = .ok (.aload_n 0, 1) := by decide +kernel
theorem dL_law_174 : decode cL_law 174 = .ok (.iload 4, 2) := by decide +kernel
theorem dL_law_176 : decode cL_law 176 = .ok (.iconst 2, 1) := by decide +kernel
theorem dL_law_177 : decode cL_law 177 = .ok (.iadd, 1) := by decide +kernel
theorem dL_law_178 : decode cL_law 178 = .ok (.iaload, 1) := by decide +kernel
theorem dL_law_179 : decode cL_law 179 = .ok (.aload_n 0, 1) := by decide +kernel
theorem dL_law_180 : decode cL_law 180 = .ok (.iload 4, 2) := by decide +kernel
theorem dL_law_182 : decode cL_law 182 = .ok (.iconst 3, 1) := by decide +kernel
theorem dL_law_183 : decode cL_law 183 = .ok (.iadd, 1) := by decide +kernel
theorem dL_law_184 : decode cL_law 184 = .ok (.iaload, 1) := by decide +kernel
theorem dL_law_185 : decode cL_law 185 = .ok (.aload_n 0, 1) := by decide +kernel
theorem dL_law_186 : decode cL_law 186 = .ok (.iload 4, 2) := by decide +kernel
theorem dL_law_188 : decode cL_law 188 = .ok (.iconst 4, 1) := by decide +kernel
theorem dL_law_189 : decode cL_law 189 = .ok (.iadd, 1) := by decide +kernel
theorem dL_law_190 : decode cL_law 190 = .ok (.iaload, 1) := by decide +kernel
theorem dL_law_191 : decode cL_law 191 = .ok (.aload_n 0, 1) := by decide +kernel
theorem dL_law_192 : decode cL_law 192 = .ok (.iload 4, 2) := by decide +kernel
theorem dL_law_194 : decode cL_law 194 = .ok (.iconst 5, 1) := by decide +kernel
theorem dL_law_195 : decode cL_law 195 = .ok (.iadd, 1) := by decide +kernel
theorem dL_law_196 : decode cL_law 196 = .ok (.iaload, 1) := by decide +kernel
theorem dL_law_197 : decode cL_law 197 = .ok (.invokevirtual 59, 3) := by decide +kernel
theorem dL_law_200 : decode cL_law 200 = .ok (.goto 810, 3) := by decide +kernel
theorem dL_law_203 : decode cL_law 203 = .ok (.aload_n 1, 1) := by decide +kernel
theorem dL_law_204 : decode cL_law 204 = .ok (.aload_n 0, 1) := by decide +kernel
theorem dL_law_205 : decode cL_law 205 = .ok (.iload 4, 2) := by decide +kernel
theorem dL_law_207 : decode cL_law 207 = .ok (.iconst 1, 1) := by decide +kernel
theorem dL_law_208 : decode cL_law 208 = .ok (.iadd, 1) := by decide +kernel
theorem dL_law_209 : decode cL_law 209 = .ok (.iaload, 1) := by decide +kernel
theorem dL_law_210 : decode cL_law 210 = .ok (.invokevirtual 60, 3) := by decide +kernel
theorem dL_law_213 : decode cL_law 213 = .ok (.aload_n 2, 1) := by decide +kernel
theorem dL_law_214 : decode cL_law 214 = .ok (.aload_n 0, 1) := by decide +kernel
theorem dL_law_215 : decode cL_law 215 = .ok (.iload 4, 2) := by decide +kernel
theorem dL_law_217 : decode cL_law 217 = .ok (.iconst 1, 1) := by decide +kernel
theorem dL_law_218 : decode cL_law 218 = .ok (.iadd, 1) := by decide +kernel
theorem dL_law_219 : decode cL_law 219 = .ok (.iaload, 1) := by decide +kernel
theorem dL_law_220 : decode cL_law 220 = .ok (.invokevirtual 63, 3) := by decide +kernel
theorem dL_law_223 : decode cL_law 223 = .ok (.if_icmp .eq 787, 3) := by decide +kernel
theorem dL_law_226 : decode cL_law 226 = .ok (.iconst 0, 1) := by decide +kernel
theorem dL_law_227 : decode cL_law 227 = .ok (.ireturn, 1) := by decide +kernel
theorem dL_law_228 : decode cL_law 228 = .ok (.aload_n 1, 1) := by decide +kernel
theorem dL_law_229 : decode cL_law 229 = .ok (.aload_n 0, 1) := by decide +kernel
theorem dL_law_230 : decode cL_law 230 = .ok (.iload 4, 2) := by decide +kernel
theorem dL_law_232 : decode cL_law 232 = .ok (.iconst 1, 1) := by decide +kernel
theorem dL_law_233 : decode cL_law 233 = .ok (.iadd, 1) := by decide +kernel
theorem dL_law_234 : decode cL_law 234 = .ok (.iaload, 1) := by decide +kernel
theorem dL_law_235 : decode cL_law 235 = .ok (.aload_n 0, 1) := by decide +kernel
theorem dL_law_236 : decode cL_law 236 = .ok (.iload 4, 2) := by decide +kernel
theorem dL_law_238 : decode cL_law 238 = .ok (.iconst 2, 1) := by decide +kernel
theorem dL_law_239 : decode cL_law 239 = .ok (.iadd, 1) := by decide +kernel
theorem dL_law_240 : decode cL_law 240 = .ok (.iaload, 1) := by decide +kernel
theorem dL_law_241 : decode cL_law 241 = .ok (.aload_n 0, 1) := by decide +kernel
theorem dL_law_242 : decode cL_law 242 = .ok (.iload 4, 2) := by decide +kernel
theorem dL_law_244 : decode cL_law 244 = .ok (.iconst 3, 1) := by decide +kernel
theorem dL_law_245 : decode cL_law 245 = .ok (.iadd, 1) := by decide +kernel
theorem dL_law_246 : decode cL_law 246 = .ok (.iaload, 1) := by decide +kernel
theorem dL_law_247 : decode cL_law 247 = .ok (.aload_n 3, 1) := by decide +kernel
theorem dL_law_248 : decode cL_law 248 = .ok (.invokestatic 64, 3) := by decide +kernel
theorem dL_law_251 : decode cL_law 251 = .ok (.istore 5, 2) := by decide +kernel
theorem dL_law_253 : decode cL_law 253 = .ok (.aload_n 2, 1) := by decide +kernel
theorem dL_law_254 : decode cL_law 254 = .ok (.aload_n 0, 1) := by decide +kernel
theorem dL_law_255 : decode cL_law 255 = .ok (.iload 4, 2) := by decide +kernel
theorem dL_law_257 : decode cL_law 257 = .ok (.iconst 1, 1) := by decide +kernel
theorem dL_law_258 : decode cL_law 258 = .ok (.iadd, 1) := by decide +kernel
theorem dL_law_259 : decode cL_law 259 = .ok (.iaload, 1) := by decide +kernel
theorem dL_law_260 : decode cL_law 260 = .ok (.aload_n 0, 1) := by decide +kernel
theorem dL_law_261 : decode cL_law 261 = .ok (.iload 4, 2) := by decide +kernel
theorem dL_law_263 : decode cL_law 263 = .ok (.iconst 2, 1) := by decide +kernel
theorem dL_law_264 : decode cL_law 264 = .ok (.iadd, 1) := by decide +kernel
theorem dL_law_265 : decode cL_law 265 = .ok (.iaload, 1) := by decide +kernel
theorem dL_law_266 : decode cL_law 266 = .ok (.aload_n 0, 1) := by decide +kernel
theorem dL_law_267 : decode cL_law 267 = .ok (.iload 4, 2) := by decide +kernel
theorem dL_law_269 : decode cL_law 269 = .ok (.iconst 3, 1) := by decide +kernel
theorem dL_law_270 : decode cL_law 270 = .ok (.iadd, 1) := by decide +kernel
theorem dL_law_271 : decode cL_law 271 = .ok (.iaload, 1) := by decide +kernel
theorem dL_law_272 : decode cL_law 272 = .ok (.invokevirtual 69, 3) := by decide +kernel
theorem dL_law_275 : decode cL_law 275 = .ok (.istore 6, 2) := by decide +kernel
theorem dL_law_277 : decode cL_law 277 = .ok (.aload_n 2, 1) := by decide +kernel
theorem dL_law_278 : decode cL_law 278 = .ok (.invokevirtual 70, 3) := by decide +kernel
theorem dL_law_281 : decode cL_law 281 = .ok (.iload 5, 2) := by decide +kernel
theorem dL_law_283 : decode cL_law 283 = .ok (.if_icmp .eq 5, 3) := by decide +kernel
theorem dL_law_286 : decode cL_law 286 = .ok (.iconst 0, 1) := by decide +kernel
theorem dL_law_287 : decode cL_law 287 = .ok (.ireturn, 1) := by decide +kernel
theorem dL_law_288 : decode cL_law 288 = .ok (.iload 5, 2) := by decide +kernel
theorem dL_law_290 : decode cL_law 290 = .ok (.ifCond .ne 15, 3) := by decide +kernel
theorem dL_law_293 : decode cL_law 293 = .ok (.aload_n 3, 1) := by decide +kernel
theorem dL_law_294 : decode cL_law 294 = .ok (.iconst 0, 1) := by decide +kernel
theorem dL_law_295 : decode cL_law 295 = .ok (.laload, 1) := by decide +kernel
theorem dL_law_296 : decode cL_law 296 = .ok (.iload 6, 2) := by decide +kernel
theorem dL_law_298 : decode cL_law 298 = .ok (.i2l, 1) := by decide +kernel
theorem dL_law_299 : decode cL_law 299 = .ok (.lcmp, 1) := by decide +kernel
theorem dL_law_300 : decode cL_law 300 = .ok (.ifCond .eq 5, 3) := by decide +kernel
theorem dL_law_303 : decode cL_law 303 = .ok (.iconst 0, 1) := by decide +kernel
theorem dL_law_304 : decode cL_law 304 = .ok (.ireturn, 1) := by decide +kernel
theorem dL_law_305 : decode cL_law 305 = .ok (.goto 705, 3) := by decide +kernel
theorem dL_law_308 : decode cL_law 308 = .ok (.aload_n 1, 1) := by decide +kernel
theorem dL_law_309 : decode cL_law 309 = .ok (.invokevirtual 73, 3) := by decide +kernel
theorem dL_law_312 : decode cL_law 312 = .ok (.aload_n 2, 1) := by decide +kernel
theorem dL_law_313 : decode cL_law 313 = .ok (.invokevirtual 76, 3) := by decide +kernel
theorem dL_law_316 : decode cL_law 316 = .ok (.if_icmp .eq 694, 3) := by decide +kernel
theorem dL_law_319 : decode cL_law 319 = .ok (.iconst 0, 1) := by decide +kernel
theorem dL_law_320 : decode cL_law 320 = .ok (.ireturn, 1) := by decide +kernel
theorem dL_law_321 : decode cL_law 321 = .ok (.aload_n 1, 1) := by decide +kernel
theorem dL_law_322 : decode cL_law 322 = .ok (.aload_n 0, 1) := by decide +kernel
theorem dL_law_323 : decode cL_law 323 = .ok (.iload 4, 2) := by decide +kernel
theorem dL_law_325 : decode cL_law 325 = .ok (.iconst 1, 1) := by decide +kernel
theorem dL_law_326 : decode cL_law 326 = .ok (.iadd, 1) := by decide +kernel
theorem dL_law_327 : decode cL_law 327 = .ok (.iaload, 1) := by decide +kernel
theorem dL_law_328 : decode cL_law 328 = .ok (.aload_n 3, 1) := by decide +kernel
theorem dL_law_329 : decode cL_law 329 = .ok (.invokestatic 77, 3) := by decide +kernel
theorem dL_law_332 : decode cL_law 332 = .ok (.istore 5, 2) := by decide +kernel
theorem dL_law_334 : decode cL_law 334 = .ok (.aload_n 2, 1) := by decide +kernel
theorem dL_law_335 : decode cL_law 335 = .ok (.aload_n 0, 1) := by decide +kernel
theorem dL_law_336 : decode cL_law 336 = .ok (.iload 4, 2) := by decide +kernel
theorem dL_law_338 : decode cL_law 338 = .ok (.iconst 1, 1) := by decide +kernel
theorem dL_law_339 : decode cL_law 339 = .ok (.iadd, 1) := by decide +kernel
theorem dL_law_340 : decode cL_law 340 = .ok (.iaload, 1) := by decide +kernel
theorem dL_law_341 : decode cL_law 341 = .ok (.invokevirtual 80, 3) := by decide +kernel
theorem dL_law_344 : decode cL_law 344 = .ok (.istore 6, 2) := by decide +kernel
theorem dL_law_346 : decode cL_law 346 = .ok (.aload_n 2, 1) := by decide +kernel
theorem dL_law_347 : decode cL_law 347 = .ok (.invokevirtual 70, 3) := by decide +kernel
theorem dL_law_350 : decode cL_law 350 = .ok (.iload 5, 2) := by decide +kernel
theorem dL_law_352 : decode cL_law 352 = .ok (.if_icmp .eq 5, 3) := by decide +kernel
theorem dL_law_355 : decode cL_law 355 = .ok (.iconst 0, 1) := by decide +kernel
theorem dL_law_356 : decode cL_law 356 = .ok (.ireturn, 1) := by decide +kernel
theorem dL_law_357 : decode cL_law 357 = .ok (.iload 5, 2) := by decide +kernel
theorem dL_law_359 : decode cL_law 359 = .ok (.ifCond .ne 15, 3) := by decide +kernel
theorem dL_law_362 : decode cL_law 362 = .ok (.aload_n 3, 1) := by decide +kernel
theorem dL_law_363 : decode cL_law 363 = .ok (.iconst 0, 1) := by decide +kernel
theorem dL_law_364 : decode cL_law 364 = .ok (.laload, 1) := by decide +kernel
theorem dL_law_365 : decode cL_law 365 = .ok (.iload 6, 2) := by decide +kernel
theorem dL_law_367 : decode cL_law 367 = .ok (.i2l, 1) := by decide +kernel
theorem dL_law_368 : decode cL_law 368 = .ok (.lcmp, 1) := by decide +kernel
theorem dL_law_369 : decode cL_law 369 = .ok (.ifCond .eq 5, 3) := by decide +kernel
theorem dL_law_372 : decode cL_law 372 = .ok (.iconst 0, 1) := by decide +kernel
theorem dL_law_373 : decode cL_law 373 = .ok (.ireturn, 1) := by decide +kernel
theorem dL_law_374 : decode cL_law 374 = .ok (.goto 636, 3) := by decide +kernel
theorem dL_law_377 : decode cL_law 377 = .ok (.aload_n 1, 1) := by decide +kernel
theorem dL_law_378 : decode cL_law 378 = .ok (.aload_n 0, 1) := by decide +kernel
theorem dL_law_379 : decode cL_law 379 = .ok (.iload 4, 2) := by decide +kernel
theorem dL_law_381 : decode cL_law 381 = .ok (.iconst 1, 1) := by decide +kernel
theorem dL_law_382 : decode cL_law 382 = .ok (.iadd, 1) := by decide +kernel
theorem dL_law_383 : decode cL_law 383 = .ok (.iaload, 1) := by decide +kernel
theorem dL_law_384 : decode cL_law 384 = .ok (.invokestatic 81, 3) := by decide +kernel
theorem dL_law_387 : decode cL_law 387 = .ok (.istore 5, 2) := by decide +kernel
theorem dL_law_389 : decode cL_law 389 = .ok (.aload_n 2, 1) := by decide +kernel
theorem dL_law_390 : decode cL_law 390 = .ok (.aload_n 0, 1) := by decide +kernel
theorem dL_law_391 : decode cL_law 391 = .ok (.iload 4, 2) := by decide +kernel
theorem dL_law_393 : decode cL_law 393 = .ok (.iconst 1, 1) := by decide +kernel
theorem dL_law_394 : decode cL_law 394 = .ok (.iadd, 1) := by decide +kernel
theorem dL_law_395 : decode cL_law 395 = .ok (.iaload, 1) := by decide +kernel
theorem dL_law_396 : decode cL_law 396 = .ok (.invokevirtual 84, 3) := by decide +kernel
theorem dL_law_399 : decode cL_law 399 = .ok (.aload_n 2, 1) := by decide +kernel
theorem dL_law_400 : decode cL_law 400 = .ok (.invokevirtual 70, 3) := by decide +kernel
theorem dL_law_403 : decode cL_law 403 = .ok (.iload 5, 2) := by decide +kernel
theorem dL_law_405 : decode cL_law 405 = .ok (.if_icmp .eq 5, 3) := by decide +kernel
theorem dL_law_408 : decode cL_law 408 = .ok (.iconst 0, 1) := by decide +kernel
theorem dL_law_409 : decode cL_law 409 = .ok (.ireturn, 1) := by decide +kernel
theorem dL_law_410 : decode cL_law 410 = .ok (.goto 600, 3) := by decide +kernel
theorem dL_law_413 : decode cL_law 413 = .ok (.aload_n 1, 1) := by decide +kernel
theorem dL_law_414 : decode cL_law 414 = .ok (.aload_n 0, 1) := by decide +kernel
theorem dL_law_415 : decode cL_law 415 = .ok (.iload 4, 2) := by decide +kernel
theorem dL_law_417 : decode cL_law 417 = .ok (.iconst 1, 1) := by decide +kernel
theorem dL_law_418 : decode cL_law 418 = .ok (.iadd, 1) := by decide +kernel
theorem dL_law_419 : decode cL_law 419 = .ok (.iaload, 1) := by decide +kernel
theorem dL_law_420 : decode cL_law 420 = .ok (.aload_n 0, 1) := by decide +kernel
theorem dL_law_421 : decode cL_law 421 = .ok (.iload 4, 2) := by decide +kernel
theorem dL_law_423 : decode cL_law 423 = .ok (.iconst 2, 1) := by decide +kernel
theorem dL_law_424 : decode cL_law 424 = .ok (.iadd, 1) := by decide +kernel
theorem dL_law_425 : decode cL_law 425 = .ok (.iaload, 1) := by decide +kernel
theorem dL_law_426 : decode cL_law 426 = .ok (.invokestatic 85, 3) := by decide +kernel
theorem dL_law_429 : decode cL_law 429 = .ok (.istore 5, 2) := by decide +kernel
theorem dL_law_431 : decode cL_law 431 = .ok (.aload_n 2, 1) := by decide +kernel
theorem dL_law_432 : decode cL_law 432 = .ok (.aload_n 0, 1) := by decide +kernel
theorem dL_law_433 : decode cL_law 433 = .ok (.iload 4, 2) := by decide +kernel
theorem dL_law_435 : decode cL_law 435 = .ok (.iconst 1, 1) := by decide +kernel
theorem dL_law_436 : decode cL_law 436 = .ok (.iadd, 1) := by decide +kernel
theorem dL_law_437 : decode cL_law 437 = .ok (.iaload, 1) := by decide +kernel
theorem dL_law_438 : decode cL_law 438 = .ok (.aload_n 0, 1) := by decide +kernel
theorem dL_law_439 : decode cL_law 439 = .ok (.iload 4, 2) := by decide +kernel
theorem dL_law_441 : decode cL_law 441 = .ok (.iconst 2, 1) := by decide +kernel
theorem dL_law_442 : decode cL_law 442 = .ok (.iadd, 1) := by decide +kernel
theorem dL_law_443 : decode cL_law 443 = .ok (.iaload, 1) := by decide +kernel
theorem dL_law_444 : decode cL_law 444 = .ok (.invokevirtual 88, 3) := by decide +kernel
theorem dL_law_447 : decode cL_law 447 = .ok (.aload_n 2, 1) := by decide +kernel
theorem dL_law_448 : decode cL_law 448 = .ok (.invokevirtual 70, 3) := by decide +kernel
theorem dL_law_451 : decode cL_law 451 = .ok (.iload 5, 2) := by decide +kernel
theorem dL_law_453 : decode cL_law 453 = .ok (.if_icmp .eq 5, 3) := by decide +kernel
theorem dL_law_456 : decode cL_law 456 = .ok (.iconst 0, 1) := by decide +kernel
theorem dL_law_457 : decode cL_law 457 = .ok (.ireturn, 1) := by decide +kernel
theorem dL_law_458 : decode cL_law 458 = .ok (.goto 552, 3) := by decide +kernel
theorem dL_law_461 : decode cL_law 461 = .ok (.aload_n 1, 1) := by decide +kernel
theorem dL_law_462 : decode cL_law 462 = .ok (.aload_n 3, 1) := by decide +kernel
theorem dL_law_463 : decode cL_law 463 = .ok (.invokestatic 89, 3) := by decide +kernel
theorem dL_law_466 : decode cL_law 466 = .ok (.istore 5, 2) := by decide +kernel
theorem dL_law_468 : decode cL_law 468 = .ok (.aload_n 2, 1) := by decide +kernel
theorem dL_law_469 : decode cL_law 469 = .ok (.invokevirtual 92, 3) := by decide +kernel
theorem dL_law_472 : decode cL_law 472 = .ok (.istore 6, 2) := by decide +kernel
theorem dL_law_474 : decode cL_law 474 = .ok (.aload_n 2, 1) := by decide +kernel
theorem dL_law_475 : decode cL_law 475 = .ok (.invokevirtual 70, 3) := by decide +kernel
theorem dL_law_478 : decode cL_law 478 = .ok (.iload 5, 2) := by decide +kernel
theorem dL_law_480 : decode cL_law 480 = .ok (.if_icmp .eq 5, 3) := by decide +kernel
theorem dL_law_483 : decode cL_law 483 = .ok (.iconst 0, 1) := by decide +kernel
theorem dL_law_484 : decode cL_law 484 = .ok (.ireturn, 1) := by decide +kernel
theorem dL_law_485 : decode cL_law 485 = .ok (.iload 5, 2) := by decide +kernel
theorem dL_law_487 : decode cL_law 487 = .ok (.ifCond .ne 15, 3) := by decide +kernel
theorem dL_law_490 : decode cL_law 490 = .ok (.aload_n 3, 1) := by decide +kernel
theorem dL_law_491 : decode cL_law 491 = .ok (.iconst 0, 1) := by decide +kernel
theorem dL_law_492 : decode cL_law 492 = .ok (.laload, 1) := by decide +kernel
theorem dL_law_493 : decode cL_law 493 = .ok (.iload 6, 2) := by decide +kernel
theorem dL_law_495 : decode cL_law 495 = .ok (.i2l, 1) := by decide +kernel
theorem dL_law_496 : decode cL_law 496 = .ok (.lcmp, 1) := by decide +kernel
theorem dL_law_497 : decode cL_law 497 = .ok (.ifCond .eq 5, 3) := by decide +kernel
theorem dL_law_500 : decode cL_law 500 = .ok (.iconst 0, 1) := by decide +kernel
theorem dL_law_501 : decode cL_law 501 = .ok (.ireturn, 1) := by decide +kernel
theorem dL_law_502 : decode cL_law 502 = .ok (.goto 508, 3) := by decide +kernel
theorem dL_law_505 : decode cL_law 505 = .ok (.aload_n 1, 1) := by decide +kernel
theorem dL_law_506 : decode cL_law 506 = .ok (.aload_n 0, 1) := by decide +kernel
theorem dL_law_507 : decode cL_law 507 = .ok (.iload 4, 2) := by decide +kernel
theorem dL_law_509 : decode cL_law 509 = .ok (.iconst 1, 1) := by decide +kernel
theorem dL_law_510 : decode cL_law 510 = .ok (.iadd, 1) := by decide +kernel
theorem dL_law_511 : decode cL_law 511 = .ok (.iaload, 1) := by decide +kernel
theorem dL_law_512 : decode cL_law 512 = .ok (.aload_n 3, 1) := by decide +kernel
theorem dL_law_513 : decode cL_law 513 = .ok (.invokestatic 93, 3) := by decide +kernel
theorem dL_law_516 : decode cL_law 516 = .ok (.istore 5, 2) := by decide +kernel
theorem dL_law_518 : decode cL_law 518 = .ok (.aload_n 2, 1) := by decide +kernel
theorem dL_law_519 : decode cL_law 519 = .ok (.aload_n 0, 1) := by decide +kernel
theorem dL_law_520 : decode cL_law 520 = .ok (.iload 4, 2) := by decide +kernel
theorem dL_law_522 : decode cL_law 522 = .ok (.iconst 1, 1) := by decide +kernel
theorem dL_law_523 : decode cL_law 523 = .ok (.iadd, 1) := by decide +kernel
theorem dL_law_524 : decode cL_law 524 = .ok (.iaload, 1) := by decide +kernel
theorem dL_law_525 : decode cL_law 525 = .ok (.invokevirtual 95, 3) := by decide +kernel
theorem dL_law_528 : decode cL_law 528 = .ok (.istore 6, 2) := by decide +kernel
theorem dL_law_530 : decode cL_law 530 = .ok (.aload_n 2, 1) := by decide +kernel
theorem dL_law_531 : decode cL_law 531 = .ok (.invokevirtual 70, 3) := by decide +kernel
theorem dL_law_534 : decode cL_law 534 = .ok (.iload 5, 2) := by decide +kernel
theorem dL_law_536 : decode cL_law 536 = .ok (.if_icmp .eq 5, 3) := by decide +kernel
theorem dL_law_539 : decode cL_law 539 = .ok (.iconst 0, 1) := by decide +kernel
theorem dL_law_540 : decode cL_law 540 = .ok (.ireturn, 1) := by decide +kernel
theorem dL_law_541 : decode cL_law 541 = .ok (.iload 5, 2) := by decide +kernel
theorem dL_law_543 : decode cL_law 543 = .ok (.ifCond .ne 15, 3) := by decide +kernel
theorem dL_law_546 : decode cL_law 546 = .ok (.aload_n 3, 1) := by decide +kernel
theorem dL_law_547 : decode cL_law 547 = .ok (.iconst 0, 1) := by decide +kernel
theorem dL_law_548 : decode cL_law 548 = .ok (.laload, 1) := by decide +kernel
theorem dL_law_549 : decode cL_law 549 = .ok (.iload 6, 2) := by decide +kernel
theorem dL_law_551 : decode cL_law 551 = .ok (.i2l, 1) := by decide +kernel
theorem dL_law_552 : decode cL_law 552 = .ok (.lcmp, 1) := by decide +kernel
theorem dL_law_553 : decode cL_law 553 = .ok (.ifCond .eq 5, 3) := by decide +kernel
theorem dL_law_556 : decode cL_law 556 = .ok (.iconst 0, 1) := by decide +kernel
theorem dL_law_557 : decode cL_law 557 = .ok (.ireturn, 1) := by decide +kernel
theorem dL_law_558 : decode cL_law 558 = .ok (.goto 452, 3) := by decide +kernel
theorem dL_law_561 : decode cL_law 561 = .ok (.aload_n 1, 1) := by decide +kernel
theorem dL_law_562 : decode cL_law 562 = .ok (.aload_n 0, 1) := by decide +kernel
theorem dL_law_563 : decode cL_law 563 = .ok (.iload 4, 2) := by decide +kernel
theorem dL_law_565 : decode cL_law 565 = .ok (.iconst 1, 1) := by decide +kernel
theorem dL_law_566 : decode cL_law 566 = .ok (.iadd, 1) := by decide +kernel
theorem dL_law_567 : decode cL_law 567 = .ok (.iaload, 1) := by decide +kernel
theorem dL_law_568 : decode cL_law 568 = .ok (.aload_n 3, 1) := by decide +kernel
theorem dL_law_569 : decode cL_law 569 = .ok (.invokestatic 96, 3) := by decide +kernel
theorem dL_law_572 : decode cL_law 572 = .ok (.istore 5, 2) := by decide +kernel
theorem dL_law_574 : decode cL_law 574 = .ok (.aload_n 2, 1) := by decide +kernel
theorem dL_law_575 : decode cL_law 575 = .ok (.aload_n 0, 1) := by decide +kernel
theorem dL_law_576 : decode cL_law 576 = .ok (.iload 4, 2) := by decide +kernel
theorem dL_law_578 : decode cL_law 578 = .ok (.iconst 1, 1) := by decide +kernel
theorem dL_law_579 : decode cL_law 579 = .ok (.iadd, 1) := by decide +kernel
theorem dL_law_580 : decode cL_law 580 = .ok (.iaload, 1) := by decide +kernel
theorem dL_law_581 : decode cL_law 581 = .ok (.invokevirtual 98, 3) := by decide +kernel
theorem dL_law_584 : decode cL_law 584 = .ok (.istore 6, 2) := by decide +kernel
theorem dL_law_586 : decode cL_law 586 = .ok (.aload_n 2, 1) := by decide +kernel
theorem dL_law_587 : decode cL_law 587 = .ok (.invokevirtual 70, 3) := by decide +kernel
theorem dL_law_590 : decode cL_law 590 = .ok (.iload 5, 2) := by decide +kernel
theorem dL_law_592 : decode cL_law 592 = .ok (.if_icmp .eq 5, 3) := by decide +kernel
theorem dL_law_595 : decode cL_law 595 = .ok (.iconst 0, 1) := by decide +kernel
theorem dL_law_596 : decode cL_law 596 = .ok (.ireturn, 1) := by decide +kernel
theorem dL_law_597 : decode cL_law 597 = .ok (.iload 5, 2) := by decide +kernel
theorem dL_law_599 : decode cL_law 599 = .ok (.ifCond .ne 15, 3) := by decide +kernel
theorem dL_law_602 : decode cL_law 602 = .ok (.aload_n 3, 1) := by decide +kernel
theorem dL_law_603 : decode cL_law 603 = .ok (.iconst 0, 1) := by decide +kernel
theorem dL_law_604 : decode cL_law 604 = .ok (.laload, 1) := by decide +kernel
theorem dL_law_605 : decode cL_law 605 = .ok (.iload 6, 2) := by decide +kernel
theorem dL_law_607 : decode cL_law 607 = .ok (.i2l, 1) := by decide +kernel
theorem dL_law_608 : decode cL_law 608 = .ok (.lcmp, 1) := by decide +kernel
theorem dL_law_609 : decode cL_law 609 = .ok (.ifCond .eq 5, 3) := by decide +kernel
theorem dL_law_612 : decode cL_law 612 = .ok (.iconst 0, 1) := by decide +kernel
theorem dL_law_613 : decode cL_law 613 = .ok (.ireturn, 1) := by decide +kernel
theorem dL_law_614 : decode cL_law 614 = .ok (.goto 396, 3) := by decide +kernel
theorem dL_law_617 : decode cL_law 617 = .ok (.aload_n 1, 1) := by decide +kernel
theorem dL_law_618 : decode cL_law 618 = .ok (.invokestatic 99, 3) := by decide +kernel
theorem dL_law_621 : decode cL_law 621 = .ok (.istore 5, 2) := by decide +kernel
theorem dL_law_623 : decode cL_law 623 = .ok (.aload_n 2, 1) := by decide +kernel
theorem dL_law_624 : decode cL_law 624 = .ok (.invokevirtual 102, 3) := by decide +kernel
theorem dL_law_627 : decode cL_law 627 = .ok (.aload_n 2, 1) := by decide +kernel
theorem dL_law_628 : decode cL_law 628 = .ok (.invokevirtual 70, 3) := by decide +kernel
theorem dL_law_631 : decode cL_law 631 = .ok (.iload 5, 2) := by decide +kernel
theorem dL_law_633 : decode cL_law 633 = .ok (.if_icmp .eq 5, 3) := by decide +kernel
theorem dL_law_636 : decode cL_law 636 = .ok (.iconst 0, 1) := by decide +kernel
theorem dL_law_637 : decode cL_law 637 = .ok (.ireturn, 1) := by decide +kernel
theorem dL_law_638 : decode cL_law 638 = .ok (.goto 372, 3) := by decide +kernel
theorem dL_law_641 : decode cL_law 641 = .ok (.aload_n 1, 1) := by decide +kernel
theorem dL_law_642 : decode cL_law 642 = .ok (.aload_n 0, 1) := by decide +kernel
theorem dL_law_643 : decode cL_law 643 = .ok (.iload 4, 2) := by decide +kernel
theorem dL_law_645 : decode cL_law 645 = .ok (.iconst 1, 1) := by decide +kernel
theorem dL_law_646 : decode cL_law 646 = .ok (.iadd, 1) := by decide +kernel
theorem dL_law_647 : decode cL_law 647 = .ok (.iaload, 1) := by decide +kernel
theorem dL_law_648 : decode cL_law 648 = .ok (.aload_n 3, 1) := by decide +kernel
theorem dL_law_649 : decode cL_law 649 = .ok (.invokestatic 103, 3) := by decide +kernel
theorem dL_law_652 : decode cL_law 652 = .ok (.istore 5, 2) := by decide +kernel
theorem dL_law_654 : decode cL_law 654 = .ok (.aload_n 2, 1) := by decide +kernel
theorem dL_law_655 : decode cL_law 655 = .ok (.aload_n 0, 1) := by decide +kernel
theorem dL_law_656 : decode cL_law 656 = .ok (.iload 4, 2) := by decide +kernel
theorem dL_law_658 : decode cL_law 658 = .ok (.iconst 1, 1) := by decide +kernel
theorem dL_law_659 : decode cL_law 659 = .ok (.iadd, 1) := by decide +kernel
theorem dL_law_660 : decode cL_law 660 = .ok (.iaload, 1) := by decide +kernel
theorem dL_law_661 : decode cL_law 661 = .ok (.invokevirtual 105, 3) := by decide +kernel
theorem dL_law_664 : decode cL_law 664 = .ok (.istore 6, 2) := by decide +kernel
theorem dL_law_666 : decode cL_law 666 = .ok (.aload_n 2, 1) := by decide +kernel
theorem dL_law_667 : decode cL_law 667 = .ok (.invokevirtual 70, 3) := by decide +kernel
theorem dL_law_670 : decode cL_law 670 = .ok (.iload 5, 2) := by decide +kernel
theorem dL_law_672 : decode cL_law 672 = .ok (.if_icmp .eq 5, 3) := by decide +kernel
theorem dL_law_675 : decode cL_law 675 = .ok (.iconst 0, 1) := by decide +kernel
theorem dL_law_676 : decode cL_law 676 = .ok (.ireturn, 1) := by decide +kernel
theorem dL_law_677 : decode cL_law 677 = .ok (.iload 5, 2) := by decide +kernel
theorem dL_law_679 : decode cL_law 679 = .ok (.ifCond .ne 15, 3) := by decide +kernel
theorem dL_law_682 : decode cL_law 682 = .ok (.aload_n 3, 1) := by decide +kernel
theorem dL_law_683 : decode cL_law 683 = .ok (.iconst 0, 1) := by decide +kernel
theorem dL_law_684 : decode cL_law 684 = .ok (.laload, 1) := by decide +kernel
theorem dL_law_685 : decode cL_law 685 = .ok (.iload 6, 2) := by decide +kernel
theorem dL_law_687 : decode cL_law 687 = .ok (.i2l, 1) := by decide +kernel
theorem dL_law_688 : decode cL_law 688 = .ok (.lcmp, 1) := by decide +kernel
theorem dL_law_689 : decode cL_law 689 = .ok (.ifCond .eq 5, 3) := by decide +kernel
theorem dL_law_692 : decode cL_law 692 = .ok (.iconst 0, 1) := by decide +kernel
theorem dL_law_693 : decode cL_law 693 = .ok (.ireturn, 1) := by decide +kernel
theorem dL_law_694 : decode cL_law 694 = .ok (.goto 316, 3) := by decide +kernel
theorem dL_law_697 : decode cL_law 697 = .ok (.aload_n 1, 1) := by decide +kernel
theorem dL_law_698 : decode cL_law 698 = .ok (.aload_n 0, 1) := by decide +kernel
theorem dL_law_699 : decode cL_law 699 = .ok (.iload 4, 2) := by decide +kernel
theorem dL_law_701 : decode cL_law 701 = .ok (.iconst 1, 1) := by decide +kernel
theorem dL_law_702 : decode cL_law 702 = .ok (.iadd, 1) := by decide +kernel
theorem dL_law_703 : decode cL_law 703 = .ok (.iaload, 1) := by decide +kernel
theorem dL_law_704 : decode cL_law 704 = .ok (.aload_n 3, 1) := by decide +kernel
theorem dL_law_705 : decode cL_law 705 = .ok (.invokestatic 106, 3) := by decide +kernel
theorem dL_law_708 : decode cL_law 708 = .ok (.istore 5, 2) := by decide +kernel
theorem dL_law_710 : decode cL_law 710 = .ok (.aload_n 2, 1) := by decide +kernel
theorem dL_law_711 : decode cL_law 711 = .ok (.aload_n 0, 1) := by decide +kernel
theorem dL_law_712 : decode cL_law 712 = .ok (.iload 4, 2) := by decide +kernel
theorem dL_law_714 : decode cL_law 714 = .ok (.iconst 1, 1) := by decide +kernel
theorem dL_law_715 : decode cL_law 715 = .ok (.iadd, 1) := by decide +kernel
theorem dL_law_716 : decode cL_law 716 = .ok (.iaload, 1) := by decide +kernel
theorem dL_law_717 : decode cL_law 717 = .ok (.invokevirtual 108, 3) := by decide +kernel
theorem dL_law_720 : decode cL_law 720 = .ok (.istore 6, 2) := by decide +kernel
theorem dL_law_722 : decode cL_law 722 = .ok (.aload_n 2, 1) := by decide +kernel
theorem dL_law_723 : decode cL_law 723 = .ok (.invokevirtual 70, 3) := by decide +kernel
theorem dL_law_726 : decode cL_law 726 = .ok (.iload 5, 2) := by decide +kernel
theorem dL_law_728 : decode cL_law 728 = .ok (.if_icmp .eq 5, 3) := by decide +kernel
theorem dL_law_731 : decode cL_law 731 = .ok (.iconst 0, 1) := by decide +kernel
theorem dL_law_732 : decode cL_law 732 = .ok (.ireturn, 1) := by decide +kernel
theorem dL_law_733 : decode cL_law 733 = .ok (.iload 5, 2) := by decide +kernel
theorem dL_law_735 : decode cL_law 735 = .ok (.ifCond .ne 15, 3) := by decide +kernel
theorem dL_law_738 : decode cL_law 738 = .ok (.aload_n 3, 1) := by decide +kernel
theorem dL_law_739 : decode cL_law 739 = .ok (.iconst 0, 1) := by decide +kernel
theorem dL_law_740 : decode cL_law 740 = .ok (.laload, 1) := by decide +kernel
theorem dL_law_741 : decode cL_law 741 = .ok (.iload 6, 2) := by decide +kernel
theorem dL_law_743 : decode cL_law 743 = .ok (.i2l, 1) := by decide +kernel
theorem dL_law_744 : decode cL_law 744 = .ok (.lcmp, 1) := by decide +kernel
theorem dL_law_745 : decode cL_law 745 = .ok (.ifCond .eq 5, 3) := by decide +kernel
theorem dL_law_748 : decode cL_law 748 = .ok (.iconst 0, 1) := by decide +kernel
theorem dL_law_749 : decode cL_law 749 = .ok (.ireturn, 1) := by decide +kernel
theorem dL_law_750 : decode cL_law 750 = .ok (.goto 260, 3) := by decide +kernel
theorem dL_law_753 : decode cL_law 753 = .ok (.aload_n 1, 1) := by decide +kernel
theorem dL_law_754 : decode cL_law 754 = .ok (.aload_n 0, 1) := by decide +kernel
theorem dL_law_755 : decode cL_law 755 = .ok (.iload 4, 2) := by decide +kernel
theorem dL_law_757 : decode cL_law 757 = .ok (.iconst 1, 1) := by decide +kernel
theorem dL_law_758 : decode cL_law 758 = .ok (.iadd, 1) := by decide +kernel
theorem dL_law_759 : decode cL_law 759 = .ok (.iaload, 1) := by decide +kernel
theorem dL_law_760 : decode cL_law 760 = .ok (.aload_n 3, 1) := by decide +kernel
theorem dL_law_761 : decode cL_law 761 = .ok (.invokestatic 109, 3) := by decide +kernel
theorem dL_law_764 : decode cL_law 764 = .ok (.istore 5, 2) := by decide +kernel
theorem dL_law_766 : decode cL_law 766 = .ok (.aload_n 2, 1) := by decide +kernel
theorem dL_law_767 : decode cL_law 767 = .ok (.aload_n 0, 1) := by decide +kernel
theorem dL_law_768 : decode cL_law 768 = .ok (.iload 4, 2) := by decide +kernel
theorem dL_law_770 : decode cL_law 770 = .ok (.iconst 1, 1) := by decide +kernel
theorem dL_law_771 : decode cL_law 771 = .ok (.iadd, 1) := by decide +kernel
theorem dL_law_772 : decode cL_law 772 = .ok (.iaload, 1) := by decide +kernel
theorem dL_law_773 : decode cL_law 773 = .ok (.invokevirtual 111, 3) := by decide +kernel
theorem dL_law_776 : decode cL_law 776 = .ok (.istore 6, 2) := by decide +kernel
theorem dL_law_778 : decode cL_law 778 = .ok (.aload_n 2, 1) := by decide +kernel
theorem dL_law_779 : decode cL_law 779 = .ok (.invokevirtual 70, 3) := by decide +kernel
theorem dL_law_782 : decode cL_law 782 = .ok (.iload 5, 2) := by decide +kernel
theorem dL_law_784 : decode cL_law 784 = .ok (.if_icmp .eq 5, 3) := by decide +kernel
theorem dL_law_787 : decode cL_law 787 = .ok (.iconst 0, 1) := by decide +kernel
theorem dL_law_788 : decode cL_law 788 = .ok (.ireturn, 1) := by decide +kernel
theorem dL_law_789 : decode cL_law 789 = .ok (.iload 5, 2) := by decide +kernel
theorem dL_law_791 : decode cL_law 791 = .ok (.ifCond .ne 15, 3) := by decide +kernel
theorem dL_law_794 : decode cL_law 794 = .ok (.aload_n 3, 1) := by decide +kernel
theorem dL_law_795 : decode cL_law 795 = .ok (.iconst 0, 1) := by decide +kernel
theorem dL_law_796 : decode cL_law 796 = .ok (.laload, 1) := by decide +kernel
theorem dL_law_797 : decode cL_law 797 = .ok (.iload 6, 2) := by decide +kernel
theorem dL_law_799 : decode cL_law 799 = .ok (.i2l, 1) := by decide +kernel
theorem dL_law_800 : decode cL_law 800 = .ok (.lcmp, 1) := by decide +kernel
theorem dL_law_801 : decode cL_law 801 = .ok (.ifCond .eq 5, 3) := by decide +kernel
theorem dL_law_804 : decode cL_law 804 = .ok (.iconst 0, 1) := by decide +kernel
theorem dL_law_805 : decode cL_law 805 = .ok (.ireturn, 1) := by decide +kernel
theorem dL_law_806 : decode cL_law 806 = .ok (.goto 204, 3) := by decide +kernel
theorem dL_law_809 : decode cL_law 809 = .ok (.aload_n 1, 1) := by decide +kernel
theorem dL_law_810 : decode cL_law 810 = .ok (.invokevirtual 112, 3) := by decide +kernel
theorem dL_law_813 : decode cL_law 813 = .ok (.aload_n 2, 1) := by decide +kernel
theorem dL_law_814 : decode cL_law 814 = .ok (.invokevirtual 115, 3) := by decide +kernel
theorem dL_law_817 : decode cL_law 817 = .ok (.if_icmp .eq 193, 3) := by decide +kernel
theorem dL_law_820 : decode cL_law 820 = .ok (.iconst 0, 1) := by decide +kernel
theorem dL_law_821 : decode cL_law 821 = .ok (.ireturn, 1) := by decide +kernel
theorem dL_law_822 : decode cL_law 822 = .ok (.aload_n 1, 1) := by decide +kernel
theorem dL_law_823 : decode cL_law 823 = .ok (.aload_n 0, 1) := by decide +kernel
theorem dL_law_824 : decode cL_law 824 = .ok (.iload 4, 2) := by decide +kernel
theorem dL_law_826 : decode cL_law 826 = .ok (.iconst 1, 1) := by decide +kernel
theorem dL_law_827 : decode cL_law 827 = .ok (.iadd, 1) := by decide +kernel
theorem dL_law_828 : decode cL_law 828 = .ok (.iaload, 1) := by decide +kernel
theorem dL_law_829 : decode cL_law 829 = .ok (.aload_n 0, 1) := by decide +kernel
theorem dL_law_830 : decode cL_law 830 = .ok (.iload 4, 2) := by decide +kernel
theorem dL_law_832 : decode cL_law 832 = .ok (.iconst 2, 1) := by decide +kernel
theorem dL_law_833 : decode cL_law 833 = .ok (.iadd, 1) := by decide +kernel
theorem dL_law_834 : decode cL_law 834 = .ok (.iaload, 1) := by decide +kernel
theorem dL_law_835 : decode cL_law 835 = .ok (.aload_n 0, 1) := by decide +kernel
theorem dL_law_836 : decode cL_law 836 = .ok (.iload 4, 2) := by decide +kernel
theorem dL_law_838 : decode cL_law 838 = .ok (.iconst 3, 1) := by decide +kernel
theorem dL_law_839 : decode cL_law 839 = .ok (.iadd, 1) := by decide +kernel
theorem dL_law_840 : decode cL_law 840 = .ok (.iaload, 1) := by decide +kernel
theorem dL_law_841 : decode cL_law 841 = .ok (.invokevirtual 116, 3) := by decide +kernel
theorem dL_law_844 : decode cL_law 844 = .ok (.aload_n 2, 1) := by decide +kernel
theorem dL_law_845 : decode cL_law 845 = .ok (.aload_n 0, 1) := by decide +kernel
theorem dL_law_846 : decode cL_law 846 = .ok (.iload 4, 2) := by decide +kernel
theorem dL_law_848 : decode cL_law 848 = .ok (.iconst 1, 1) := by decide +kernel
theorem dL_law_849 : decode cL_law 849 = .ok (.iadd, 1) := by decide +kernel
theorem dL_law_850 : decode cL_law 850 = .ok (.iaload, 1) := by decide +kernel
theorem dL_law_851 : decode cL_law 851 = .ok (.aload_n 0, 1) := by decide +kernel
theorem dL_law_852 : decode cL_law 852 = .ok (.iload 4, 2) := by decide +kernel
theorem dL_law_854 : decode cL_law 854 = .ok (.iconst 2, 1) := by decide +kernel
theorem dL_law_855 : decode cL_law 855 = .ok (.iadd, 1) := by decide +kernel
theorem dL_law_856 : decode cL_law 856 = .ok (.iaload, 1) := by decide +kernel
theorem dL_law_857 : decode cL_law 857 = .ok (.aload_n 0, 1) := by decide +kernel
theorem dL_law_858 : decode cL_law 858 = .ok (.iload 4, 2) := by decide +kernel
theorem dL_law_860 : decode cL_law 860 = .ok (.iconst 3, 1) := by decide +kernel
theorem dL_law_861 : decode cL_law 861 = .ok (.iadd, 1) := by decide +kernel
theorem dL_law_862 : decode cL_law 862 = .ok (.iaload, 1) := by decide +kernel
theorem dL_law_863 : decode cL_law 863 = .ok (.invokevirtual 119, 3) := by decide +kernel
theorem dL_law_866 : decode cL_law 866 = .ok (.if_icmp .eq 144, 3) := by decide +kernel
theorem dL_law_869 : decode cL_law 869 = .ok (.iconst 0, 1) := by decide +kernel
theorem dL_law_870 : decode cL_law 870 = .ok (.ireturn, 1) := by decide +kernel
theorem dL_law_871 : decode cL_law 871 = .ok (.aload_n 1, 1) := by decide +kernel
theorem dL_law_872 : decode cL_law 872 = .ok (.aload_n 0, 1) := by decide +kernel
theorem dL_law_873 : decode cL_law 873 = .ok (.iload 4, 2) := by decide +kernel
theorem dL_law_875 : decode cL_law 875 = .ok (.iconst 1, 1) := by decide +kernel
theorem dL_law_876 : decode cL_law 876 = .ok (.iadd, 1) := by decide +kernel
theorem dL_law_877 : decode cL_law 877 = .ok (.iaload, 1) := by decide +kernel
theorem dL_law_878 : decode cL_law 878 = .ok (.aload_n 0, 1) := by decide +kernel
theorem dL_law_879 : decode cL_law 879 = .ok (.iload 4, 2) := by decide +kernel
theorem dL_law_881 : decode cL_law 881 = .ok (.iconst 2, 1) := by decide +kernel
theorem dL_law_882 : decode cL_law 882 = .ok (.iadd, 1) := by decide +kernel
theorem dL_law_883 : decode cL_law 883 = .ok (.iaload, 1) := by decide +kernel
theorem dL_law_884 : decode cL_law 884 = .ok (.aload_n 0, 1) := by decide +kernel
theorem dL_law_885 : decode cL_law 885 = .ok (.iload 4, 2) := by decide +kernel
theorem dL_law_887 : decode cL_law 887 = .ok (.iconst 3, 1) := by decide +kernel
theorem dL_law_888 : decode cL_law 888 = .ok (.iadd, 1) := by decide +kernel
theorem dL_law_889 : decode cL_law 889 = .ok (.iaload, 1) := by decide +kernel
theorem dL_law_890 : decode cL_law 890 = .ok (.ifCond .eq 7, 3) := by decide +kernel
theorem dL_law_893 : decode cL_law 893 = .ok (.iconst 1, 1) := by decide +kernel
theorem dL_law_894 : decode cL_law 894 = .ok (.goto 4, 3) := by decide +kernel
theorem dL_law_897 : decode cL_law 897 = .ok (.iconst 0, 1) := by decide +kernel
theorem dL_law_898 : decode cL_law 898 = .ok (.aload_n 0, 1) := by decide +kernel
theorem dL_law_899 : decode cL_law 899 = .ok (.iload 4, 2) := by decide +kernel
theorem dL_law_901 : decode cL_law 901 = .ok (.iconst 4, 1) := by decide +kernel
theorem dL_law_902 : decode cL_law 902 = .ok (.iadd, 1) := by decide +kernel
theorem dL_law_903 : decode cL_law 903 = .ok (.iaload, 1) := by decide +kernel
theorem dL_law_904 : decode cL_law 904 = .ok (.invokevirtual 120, 3) := by decide +kernel
theorem dL_law_907 : decode cL_law 907 = .ok (.aload_n 2, 1) := by decide +kernel
theorem dL_law_908 : decode cL_law 908 = .ok (.aload_n 0, 1) := by decide +kernel
theorem dL_law_909 : decode cL_law 909 = .ok (.iload 4, 2) := by decide +kernel
theorem dL_law_911 : decode cL_law 911 = .ok (.iconst 1, 1) := by decide +kernel
theorem dL_law_912 : decode cL_law 912 = .ok (.iadd, 1) := by decide +kernel
theorem dL_law_913 : decode cL_law 913 = .ok (.iaload, 1) := by decide +kernel
theorem dL_law_914 : decode cL_law 914 = .ok (.aload_n 0, 1) := by decide +kernel
theorem dL_law_915 : decode cL_law 915 = .ok (.iload 4, 2) := by decide +kernel
theorem dL_law_917 : decode cL_law 917 = .ok (.iconst 2, 1) := by decide +kernel
theorem dL_law_918 : decode cL_law 918 = .ok (.iadd, 1) := by decide +kernel
theorem dL_law_919 : decode cL_law 919 = .ok (.iaload, 1) := by decide +kernel
theorem dL_law_920 : decode cL_law 920 = .ok (.aload_n 0, 1) := by decide +kernel
theorem dL_law_921 : decode cL_law 921 = .ok (.iload 4, 2) := by decide +kernel
theorem dL_law_923 : decode cL_law 923 = .ok (.iconst 3, 1) := by decide +kernel
theorem dL_law_924 : decode cL_law 924 = .ok (.iadd, 1) := by decide +kernel
theorem dL_law_925 : decode cL_law 925 = .ok (.iaload, 1) := by decide +kernel
theorem dL_law_926 : decode cL_law 926 = .ok (.ifCond .eq 7, 3) := by decide +kernel
theorem dL_law_929 : decode cL_law 929 = .ok (.iconst 1, 1) := by decide +kernel
theorem dL_law_930 : decode cL_law 930 = .ok (.goto 4, 3) := by decide +kernel
theorem dL_law_933 : decode cL_law 933 = .ok (.iconst 0, 1) := by decide +kernel
theorem dL_law_934 : decode cL_law 934 = .ok (.aload_n 0, 1) := by decide +kernel
theorem dL_law_935 : decode cL_law 935 = .ok (.iload 4, 2) := by decide +kernel
theorem dL_law_937 : decode cL_law 937 = .ok (.iconst 4, 1) := by decide +kernel
theorem dL_law_938 : decode cL_law 938 = .ok (.iadd, 1) := by decide +kernel
theorem dL_law_939 : decode cL_law 939 = .ok (.iaload, 1) := by decide +kernel
theorem dL_law_940 : decode cL_law 940 = .ok (.invokevirtual 124, 3) := by decide +kernel
theorem dL_law_943 : decode cL_law 943 = .ok (.if_icmp .eq 67, 3) := by decide +kernel
theorem dL_law_946 : decode cL_law 946 = .ok (.iconst 0, 1) := by decide +kernel
theorem dL_law_947 : decode cL_law 947 = .ok (.ireturn, 1) := by decide +kernel
theorem dL_law_948 : decode cL_law 948 = .ok (.aload_n 1, 1) := by decide +kernel
theorem dL_law_949 : decode cL_law 949 = .ok (.aload_n 0, 1) := by decide +kernel
theorem dL_law_950 : decode cL_law 950 = .ok (.iload 4, 2) := by decide +kernel
theorem dL_law_952 : decode cL_law 952 = .ok (.iconst 1, 1) := by decide +kernel
theorem dL_law_953 : decode cL_law 953 = .ok (.iadd, 1) := by decide +kernel
theorem dL_law_954 : decode cL_law 954 = .ok (.iaload, 1) := by decide +kernel
theorem dL_law_955 : decode cL_law 955 = .ok (.invokevirtual 125, 3) := by decide +kernel
theorem dL_law_958 : decode cL_law 958 = .ok (.aload_n 2, 1) := by decide +kernel
theorem dL_law_959 : decode cL_law 959 = .ok (.aload_n 0, 1) := by decide +kernel
theorem dL_law_960 : decode cL_law 960 = .ok (.iload 4, 2) := by decide +kernel
theorem dL_law_962 : decode cL_law 962 = .ok (.iconst 1, 1) := by decide +kernel
theorem dL_law_963 : decode cL_law 963 = .ok (.iadd, 1) := by decide +kernel
theorem dL_law_964 : decode cL_law 964 = .ok (.iaload, 1) := by decide +kernel
theorem dL_law_965 : decode cL_law 965 = .ok (.invokevirtual 128, 3) := by decide +kernel
theorem dL_law_968 : decode cL_law 968 = .ok (.if_icmp .eq 42, 3) := by decide +kernel
theorem dL_law_971 : decode cL_law 971 = .ok (.iconst 0, 1) := by decide +kernel
theorem dL_law_972 : decode cL_law 972 = .ok (.ireturn, 1) := by decide +kernel
theorem dL_law_973 : decode cL_law 973 = .ok (.aload_n 1, 1) := by decide +kernel
theorem dL_law_974 : decode cL_law 974 = .ok (.aload_n 0, 1) := by decide +kernel
theorem dL_law_975 : decode cL_law 975 = .ok (.iload 4, 2) := by decide +kernel
theorem dL_law_977 : decode cL_law 977 = .ok (.iconst 1, 1) := by decide +kernel
theorem dL_law_978 : decode cL_law 978 = .ok (.iadd, 1) := by decide +kernel
theorem dL_law_979 : decode cL_law 979 = .ok (.iaload, 1) := by decide +kernel
theorem dL_law_980 : decode cL_law 980 = .ok (.aload_n 0, 1) := by decide +kernel
theorem dL_law_981 : decode cL_law 981 = .ok (.iload 4, 2) := by decide +kernel
theorem dL_law_983 : decode cL_law 983 = .ok (.iconst 2, 1) := by decide +kernel
theorem dL_law_984 : decode cL_law 984 = .ok (.iadd, 1) := by decide +kernel
theorem dL_law_985 : decode cL_law 985 = .ok (.iaload, 1) := by decide +kernel
theorem dL_law_986 : decode cL_law 986 = .ok (.invokevirtual 129, 3) := by decide +kernel
theorem dL_law_989 : decode cL_law 989 = .ok (.aload_n 2, 1) := by decide +kernel
theorem dL_law_990 : decode cL_law 990 = .ok (.aload_n 0, 1) := by decide +kernel
theorem dL_law_991 : decode cL_law 991 = .ok (.iload 4, 2) := by decide +kernel
theorem dL_law_993 : decode cL_law 993 = .ok (.iconst 1, 1) := by decide +kernel
theorem dL_law_994 : decode cL_law 994 = .ok (.iadd, 1) := by decide +kernel
theorem dL_law_995 : decode cL_law 995 = .ok (.iaload, 1) := by decide +kernel
theorem dL_law_996 : decode cL_law 996 = .ok (.aload_n 0, 1) := by decide +kernel
theorem dL_law_997 : decode cL_law 997 = .ok (.iload 4, 2) := by decide +kernel
theorem dL_law_999 : decode cL_law 999 = .ok (.iconst 2, 1) := by decide +kernel
theorem dL_law_1000 : decode cL_law 1000 = .ok (.iadd, 1) := by decide +kernel
theorem dL_law_1001 : decode cL_law 1001 = .ok (.iaload, 1) := by decide +kernel
theorem dL_law_1002 : decode cL_law 1002 = .ok (.invokevirtual 133, 3) := by decide +kernel
theorem dL_law_1005 : decode cL_law 1005 = .ok (.if_icmp .eq 5, 3) := by decide +kernel
theorem dL_law_1008 : decode cL_law 1008 = .ok (.iconst 0, 1) := by decide +kernel
theorem dL_law_1009 : decode cL_law 1009 = .ok (.ireturn, 1) := by decide +kernel
theorem dL_law_1010 : decode cL_law 1010 = .ok (.iinc 4 6, 3) := by decide +kernel
theorem dL_law_1013 : decode cL_law 1013 = .ok (.goto (-990), 3) := by decide +kernel
theorem dL_law_1016 : decode cL_law 1016 = .ok (.iconst 1, 1) := by decide +kernel
theorem dL_law_1017 : decode cL_law 1017 = .ok (.ireturn, 1) := by decide +kernel
abbrev vwCl : List vw_C := [(RX0, TX0, 3), (RX1, TX1, 5), (RX2, TX2, 2), (RX4, TX4, 3), (RX5, TX5, 3), (RX6, TX6, 2), (RX7, TX7, 3), (RX8, TX8, 9), (RX9, TX9, 24)]
end
section
/-! Rows of our own: numbers as naturals, the entry, contracts that change nothing ('pMet') or only cells that are there ('rMet'), their calls and ends. -/
section NNA
variable {p : Program} {l : Launch} {e : Env} {R : Room} {s : State} {m : MethodId} {args : Array Value} {below : List Frame} {meth : Method} {c : Code} {H : Heap} {locs : List Loc} {cells slots : Nat} {Q : State → Prop} {cc : ByteArray} {pc : Nat} {ls : Array Slot} {rest : List Value}
theorem nn_eqi {x y : Int32} (h : x = y) (k : W p l e R s m args below meth c H locs cells slots Q (F0 m pc ls (.int y :: rest))) : W p l e R s m args below meth c H locs cells slots Q (F0 m pc ls (.int x :: rest)) := h ▸ k
theorem nn_eqv {x y : Value} (h : x = y) (k : W p l e R s m args below meth c H locs cells slots Q (F0 m pc ls (y :: rest))) : W p l e R s m args below meth c H locs cells slots Q (F0 m pc ls (x :: rest)) := h ▸ k
theorem nn_entry {av : List Value} {lv : List (Nat × Value)} {n : Nat} (hargs : args = av.toArray) (hn : (lg_sl av).length ≤ n) (hlv : lv_args 0 av = lv) (k : ∀ ls : Array Slot, lv_has ls n lv → W p l e R s m args below meth c H locs cells slots Q (F0 m 0 ls [])) : W p l e R s m args below meth c H locs cells slots Q (entryFrame m args n) := by
  have h := lv_entry av (n := n) hn
  rw [hlv] at h
  have h2 := k _ h
  have e1 : entryFrame m args n = F0 m 0 ((lg_sl av ++ List.replicate (n - (lg_sl av).length) Slot.unset).toArray) [] := by rw [hargs]; exact lg_entry_eq m av n
  rw [e1]; exact h2
theorem nn_add (hx : p.tables.exec = Jvm.exec) (hb : c.code = cc) {a b : Nat} (hdg : decode cc pc = .ok (.iadd, 1)) (k : W p l e R s m args below meth c H locs cells slots Q (F0 m (pc + 1) ls (.int (nI (a + b)) :: rest))) : W p l e R s m args below meth c H locs cells slots Q (F0 m pc ls (.int (nI b) :: .int (nI a) :: rest)) := lv_iadd hx hb hdg (nn_eqi (nI_add a b) k)
theorem nn_sub (hx : p.tables.exec = Jvm.exec) (hb : c.code = cc) {a b : Nat} (h : b ≤ a) (hdg : decode cc pc = .ok (.isub, 1)) (k : W p l e R s m args below meth c H locs cells slots Q (F0 m (pc + 1) ls (.int (nI (a - b)) :: rest))) : W p l e R s m args below meth c H locs cells slots Q (F0 m pc ls (.int (nI b) :: .int (nI a) :: rest)) := lv_isub hx hb hdg (nn_eqi (pk_sub h) k)
theorem nn_mul (hx : p.tables.exec = Jvm.exec) (hb : c.code = cc) {a b : Nat} (hdg : decode cc pc = .ok (.imul, 1)) (k : W p l e R s m args below meth c H locs cells slots Q (F0 m (pc + 1) ls (.int (nI (a * b)) :: rest))) : W p l e R s m args below meth c H locs cells slots Q (F0 m pc ls (.int (nI b) :: .int (nI a) :: rest)) := lv_imul hx hb hdg (nn_eqi (pk_mul a b) k)
theorem nn_lt (hx : p.tables.exec = Jvm.exec) (hb : c.code = cc) {a b : Nat} {off : Int} {tgt : Nat} (hdg : decode cc pc = .ok (.if_icmp .lt off, 3)) (ht : (pc : Int) + off = (tgt : Int)) (ha : a < 2 ^ 31) (h2 : b < 2 ^ 31) (kt : a < b → W p l e R s m args below meth c H locs cells slots Q (F0 m tgt ls rest)) (kf : b ≤ a → W p l e R s m args below meth c H locs cells slots Q (F0 m (pc + 3) ls rest)) : W p l e R s m args below meth c H locs cells slots Q (F0 m pc ls (.int (nI b) :: .int (nI a) :: rest)) :=
  lv_icmp_lt hx hb hdg ht (fun h => kt ((nI_ltI ha h2).mp h)) (fun h => kf (Nat.le_of_not_lt fun q => h ((nI_ltI ha h2).mpr q)))
theorem nn_ge (hx : p.tables.exec = Jvm.exec) (hb : c.code = cc) {a b : Nat} {off : Int} {tgt : Nat} (hdg : decode cc pc = .ok (.if_icmp .ge off, 3)) (ht : (pc : Int) + off = (tgt : Int)) (ha : a < 2 ^ 31) (h2 : b < 2 ^ 31) (kt : b ≤ a → W p l e R s m args below meth c H locs cells slots Q (F0 m tgt ls rest)) (kf : a < b → W p l e R s m args below meth c H locs cells slots Q (F0 m (pc + 3) ls rest)) : W p l e R s m args below meth c H locs cells slots Q (F0 m pc ls (.int (nI b) :: .int (nI a) :: rest)) :=
  lv_icmp_ge hx hb hdg ht (fun h => kt ((nI_leI h2 ha).mp h)) (fun h => kf (Nat.lt_of_not_le fun q => h ((nI_leI h2 ha).mpr q)))
theorem nn_gt (hx : p.tables.exec = Jvm.exec) (hb : c.code = cc) {a b : Nat} {off : Int} {tgt : Nat} (hdg : decode cc pc = .ok (.if_icmp .gt off, 3)) (ht : (pc : Int) + off = (tgt : Int)) (ha : a < 2 ^ 31) (h2 : b < 2 ^ 31) (kt : b < a → W p l e R s m args below meth c H locs cells slots Q (F0 m tgt ls rest)) (kf : a ≤ b → W p l e R s m args below meth c H locs cells slots Q (F0 m (pc + 3) ls rest)) : W p l e R s m args below meth c H locs cells slots Q (F0 m pc ls (.int (nI b) :: .int (nI a) :: rest)) :=
  lv_icmp_gt hx hb hdg ht (fun h => kt ((nI_ltI h2 ha).mp h)) (fun h => kf (Nat.le_of_not_lt fun q => h ((nI_ltI h2 ha).mpr q)))
theorem nn_le (hx : p.tables.exec = Jvm.exec) (hb : c.code = cc) {a b : Nat} {off : Int} {tgt : Nat} (hdg : decode cc pc = .ok (.if_icmp .le off, 3)) (ht : (pc : Int) + off = (tgt : Int)) (ha : a < 2 ^ 31) (h2 : b < 2 ^ 31) (kt : a ≤ b → W p l e R s m args below meth c H locs cells slots Q (F0 m tgt ls rest)) (kf : b < a → W p l e R s m args below meth c H locs cells slots Q (F0 m (pc + 3) ls rest)) : W p l e R s m args below meth c H locs cells slots Q (F0 m pc ls (.int (nI b) :: .int (nI a) :: rest)) :=
  lv_icmp_le hx hb hdg ht (fun h => kt ((nI_leI ha h2).mp h)) (fun h => kf (Nat.lt_of_not_le fun q => h ((nI_leI ha h2).mpr q)))
theorem nn_eq (hx : p.tables.exec = Jvm.exec) (hb : c.code = cc) {a b : Nat} {off : Int} {tgt : Nat} (hdg : decode cc pc = .ok (.if_icmp .eq off, 3)) (ht : (pc : Int) + off = (tgt : Int)) (ha : a < 2 ^ 31) (h2 : b < 2 ^ 31) (kt : a = b → W p l e R s m args below meth c H locs cells slots Q (F0 m tgt ls rest)) (kf : a ≠ b → W p l e R s m args below meth c H locs cells slots Q (F0 m (pc + 3) ls rest)) : W p l e R s m args below meth c H locs cells slots Q (F0 m pc ls (.int (nI b) :: .int (nI a) :: rest)) :=
  lv_icmp_eq hx hb hdg ht (fun h => kt ((nI_eq ha h2).mp h)) (fun h => kf (fun q => h ((nI_eq ha h2).mpr q)))
theorem nn_ne (hx : p.tables.exec = Jvm.exec) (hb : c.code = cc) {a b : Nat} {off : Int} {tgt : Nat} (hdg : decode cc pc = .ok (.if_icmp .ne off, 3)) (ht : (pc : Int) + off = (tgt : Int)) (ha : a < 2 ^ 31) (h2 : b < 2 ^ 31) (kt : a ≠ b → W p l e R s m args below meth c H locs cells slots Q (F0 m tgt ls rest)) (kf : a = b → W p l e R s m args below meth c H locs cells slots Q (F0 m (pc + 3) ls rest)) : W p l e R s m args below meth c H locs cells slots Q (F0 m pc ls (.int (nI b) :: .int (nI a) :: rest)) :=
  lv_icmp_ne hx hb hdg ht (fun h => kt (fun q => h ((nI_eq ha h2).mpr q))) (fun h => kf ((nI_eq ha h2).mp h))
end NNA
/-- what a method's world says of a start: the cells, the tables, the cells apart and in A -/
def rB (G : va_G) (tys : List (ClassId × FieldType)) (A : Nat → Prop) (w : va_W) : State → Prop := fun U => va_P G vwCl w U.heap ∧ va_K G vwCl tys U ∧ va_D A w
def pB (G : va_G) (tys : List (ClassId × FieldType)) (w : va_W) : State → Prop := fun U => va_P G vwCl w U.heap ∧ va_K G vwCl tys U
def rQ (G : va_G) (A : Nat → Prop) (post : Option Value → va_W → Prop) : Array Value → State → Outcome → State → Prop := fun _ st o t => (∃ (r : Option Value) (w : va_W), o = .returned r ∧ post r w ∧ va_P G vwCl w t.heap ∧ va_D A w) ∧ va_F A st t
def pQ (post : Value → Prop) : Array Value → State → Outcome → State → Prop := fun _ st o t => ∃ r : Value, o = .returned (some r) ∧ post r ∧ t.heap = st.heap
/-- a method that changes cells of its world alone and makes none -/
def rMet (l : Launch) (y : MethodName) (ws : List Cond) (rm : Room) (G : va_G) (tys : List (ClassId × FieldType)) (A : Nat → Prop) (As : List Value) (w : va_W) (post : Option Value → va_W → Prop) : Prop := Met l y ws rm (va_Pc As (rB G tys A w)) (rQ G A post) 0 0 A
/-- a method that changes nothing and answers -/
def pMet (l : Launch) (y : MethodName) (ws : List Cond) (rm : Room) (G : va_G) (tys : List (ClassId × FieldType)) (As : List Value) (w : va_W) (post : Value → Prop) : Prop := Met l y ws rm (va_Pc As (pB G tys w)) (pQ post) 0 0 (fun _ => False)
def rR (G : va_G) (A : Nat → Prop) (H0 H : Heap) (locs : List Loc) (w : va_W) : Prop := va_P G vwCl w H ∧ va_D A w ∧ va_S A H0 H locs
theorem rB_blind {G : va_G} {tys : List (ClassId × FieldType)} {A : Nat → Prop} {w : va_W} {As : List Value} : FrameBlind (va_Pc As (rB G tys A w)) := fun a U g mk q => ⟨q.1, q.2.1, va_K.moved (u := U) (U := U.calling g mk a) (Vm.Alike.refl U.vm) q.2.2.1, q.2.2.2⟩
theorem pB_blind {G : va_G} {tys : List (ClassId × FieldType)} {w : va_W} {As : List Value} : FrameBlind (va_Pc As (pB G tys w)) := fun a U g mk q => ⟨q.1, q.2.1, va_K.moved (u := U) (U := U.calling g mk a) (Vm.Alike.refl U.vm) q.2.2⟩
section NNB
variable {p : Program} {l : Launch} {e : Env} {R : Room} {s : State} {m : MethodId} {args : Array Value} {below : List Frame} {meth : Method} {c : Code} {H : Heap} {locs : List Loc} {cells slots : Nat} {Q : State → Prop} {cc : ByteArray} {pc : Nat} {ls : Array Slot} {rest st0 : List Value}
variable {G : va_G} {tys : List (ClassId × FieldType)} {A : Nat → Prop} {w : va_W} {H0 : Heap} {y : MethodName} {ws Ts : List Cond} {rm : Room} {As : List Value} {own C : String} {index maxL nL n b : Nat} {bytes : ByteArray} {ret : Option FieldType}
theorem rf_go {post : Option Value → va_W → Prop} (hr : va_Run p l e R s m args below meth c H locs cells slots 0 0 (F0 m pc ls st0) rest (rQ G A post As.toArray) A) (hR : rR G A H0 H locs w)
    (kk : ∀ (r : Option Value) (w1 : va_W) (H1 : Heap) (locs1 : List Loc), post r w1 → rR G A H0 H1 locs1 w1 → W p l e R s m args below meth c H1 locs1 cells slots Q (F0 m (pc + 3) ls (r.toList ++ rest))) : W p l e R s m args below meth c H locs cells slots Q (F0 m pc ls st0) := by
  intro T hT X
  obtain ⟨v, st₀, t, T', L, h0, X', hL, e1, e2, ⟨⟨r, w1, hv, hp, hP, hD⟩, hz, hk⟩, st⟩ := hr T hT X
  cases hv
  rw [h0] at hz hk
  obtain ⟨-, -, hS⟩ := hR
  obtain ⟨t2, a1, b1⟩ := kk v w1 T'.heap (locs ++ L) hp ⟨by rw [e1]; exact hP, hD, Nat.le_trans hS.1 (by rw [e1]; exact hz), fun q h1 h2 => by rw [e1, hk q (Nat.lt_of_lt_of_le h1 hS.1) h2]; exact hS.2.1 q h1 h2, fun q hq => by
      rcases List.mem_append.mp hq with h | h
      · exact hS.2.2 q h
      · exact hL q h⟩ T' rfl X'
  exact ⟨t2, st t2 a1, b1⟩
theorem rf_callV {post : Option Value → va_W → Prop} (hM : rMet l y ws rm G tys A (.ref b :: As) w post) (S : CallFix p m c cc nL s args Ts own) (cw : CallW R s args own C index y bytes maxL ret ws rm 0 0 n) (hK : va_K G vwCl tys s) (hR : rR G A H0 H locs w)
    (hrc : ∃ cell : Cell, H[b]? = some cell ∧ cell.vm.isStatics = false ∧ s.vm.findClass C = some cell.cls) (hn : As.length = n) (hl : ls.size = nL) (hst : st0 = As.reverse ++ .ref b :: rest) (hw : (rest.map fun v => v.category).sum ≤ 8) (hdg : decode cc pc = .ok (.invokevirtual index, 3)) (hf : cells ≤ R.cells ∧ slots ≤ R.slots)
    (kk : ∀ (r : Option Value) (w1 : va_W) (H1 : Heap) (locs1 : List Loc), post r w1 → rR G A H0 H1 locs1 w1 → W p l e R s m args below meth c H1 locs1 cells slots Q (F0 m (pc + 3) ls (r.toList ++ rest))) : W p l e R s m args below meth c H locs cells slots Q (F0 m pc ls st0) :=
  rf_go (va_runV (rest := rest) S hM cw ⟨rB_blind, hrc, fun U hU hW => ⟨rfl, by rw [hU]; exact hR.1, va_K.moved hW.alike hK, hR.2.1⟩⟩ rfl hn hl hst (lv_room hw) hdg hf) hR kk
theorem pf_go {post : Value → Prop} (hr : va_Run p l e R s m args below meth c H locs cells slots 0 0 (F0 m pc ls st0) rest (pQ post As.toArray) (fun _ => False))
    (kk : ∀ r : Value, post r → W p l e R s m args below meth c H locs cells slots Q (F0 m (pc + 3) ls (r :: rest))) : W p l e R s m args below meth c H locs cells slots Q (F0 m pc ls st0) := by
  intro T hT X
  obtain ⟨v, st₀, t, T', L, h0, X', hL, e1, e2, ⟨r, hv, hp, hh⟩, st⟩ := hr T hT X
  cases hv
  have hL0 : L = [] := by
    cases L with
    | nil => rfl
    | cons a L => exact (hL a List.mem_cons_self).elim
  subst hL0
  rw [List.append_nil] at X'
  obtain ⟨t2, a1, b1⟩ := kk r hp T' (by rw [e1, hh, h0]) X'
  exact ⟨t2, st t2 a1, b1⟩
theorem pf_callV {post : Value → Prop} (hM : pMet l y ws rm G tys (.ref b :: As) w post) (S : CallFix p m c cc nL s args Ts own) (cw : CallW R s args own C index y bytes maxL ret ws rm 0 0 n) (hK : va_K G vwCl tys s) (hP : va_P G vwCl w H)
    (hrc : ∃ cell : Cell, H[b]? = some cell ∧ cell.vm.isStatics = false ∧ s.vm.findClass C = some cell.cls) (hn : As.length = n) (hl : ls.size = nL) (hst : st0 = As.reverse ++ .ref b :: rest) (hw : (rest.map fun v => v.category).sum ≤ 8) (hdg : decode cc pc = .ok (.invokevirtual index, 3)) (hf : cells ≤ R.cells ∧ slots ≤ R.slots)
    (kk : ∀ r : Value, post r → W p l e R s m args below meth c H locs cells slots Q (F0 m (pc + 3) ls (r :: rest))) : W p l e R s m args below meth c H locs cells slots Q (F0 m pc ls st0) :=
  pf_go (va_runV (rest := rest) S hM cw ⟨pB_blind, hrc, fun U hU hW => ⟨rfl, by rw [hU]; exact hP, va_K.moved hW.alike hK⟩⟩ rfl hn hl hst (lv_room hw) hdg hf) kk
theorem pf_callS {post : Value → Prop} (hM : pMet l y ws rm G tys As w post) (S : CallFix p m c cc nL s args Ts own) (cw : CallB R s args own index y bytes maxL ret ws rm 0 0 n ∧ (Cond.static y).before args s = true) (hK : va_K G vwCl tys s) (hP : va_P G vwCl w H)
    (hn : As.length = n) (hl : ls.size = nL) (hst : st0 = As.reverse ++ rest) (hw : (rest.map fun v => v.category).sum ≤ 8) (hdg : decode cc pc = .ok (.invokestatic index, 3)) (hf : cells ≤ R.cells ∧ slots ≤ R.slots)
    (kk : ∀ r : Value, post r → W p l e R s m args below meth c H locs cells slots Q (F0 m (pc + 3) ls (r :: rest))) : W p l e R s m args below meth c H locs cells slots Q (F0 m pc ls st0) :=
  pf_go (va_runS (rest := rest) S hM cw ⟨pB_blind, fun U hU hW => ⟨rfl, by rw [hU]; exact hP, va_K.moved hW.alike hK⟩⟩ rfl hn hl hst (lv_room hw) hdg hf) kk
theorem rf_vret {post : Option Value → va_W → Prop} (hx : p.tables.exec = Jvm.exec) (hb : c.code = cc) (hr : meth.sig.returnType = none) (hlocks : meth.locks = false) (hR : rR G A s.heap H locs w) (hp : post none w) (hdg : decode cc pc = .ok (.return_, 1)) : W p l e R s m args below meth c H locs cells slots (MQ below (rQ G A post) args s cells slots A) (F0 m pc ls []) :=
  W.vret hx hb hr (fun t ht hW => ⟨⟨none, w, rfl, hp, by rw [ht]; exact hR.1, hR.2.1⟩, hR.2.2.F ht⟩) hR.2.2.2.2 hdg hlocks
theorem rf_iret {post : Option Value → va_W → Prop} {v : Int32} (hx : p.tables.exec = Jvm.exec) (hb : c.code = cc) (hr : meth.sig.returnType = some .int) (hlocks : meth.locks = false) (hR : rR G A s.heap H locs w) (hp : post (some (.int v)) w) (hdg : decode cc pc = .ok (.ireturn, 1)) : W p l e R s m args below meth c H locs cells slots (MQ below (rQ G A post) args s cells slots A) (F0 m pc ls [.int v]) :=
  W.iret hx hb hr (fun t ht hW => ⟨⟨_, w, rfl, hp, by rw [ht]; exact hR.1, hR.2.1⟩, hR.2.2.F ht⟩) hR.2.2.2.2 hdg hlocks
theorem pf_iret {post : Value → Prop} {v : Int32} (hx : p.tables.exec = Jvm.exec) (hb : c.code = cc) (hr : meth.sig.returnType = some .int) (hlocks : meth.locks = false) (hp : post (.int v)) (hdg : decode cc pc = .ok (.ireturn, 1)) : W p l e R s m args below meth c s.heap [] cells slots (MQ below (pQ post) args s cells slots (fun _ => False)) (F0 m pc ls [.int v]) :=
  W.iret hx hb hr (fun t ht hW => ⟨_, rfl, hp, ht⟩) (fun q h => by cases h) hdg hlocks
theorem pf_zret {post : Value → Prop} {v : Int32} (hx : p.tables.exec = Jvm.exec) (hb : c.code = cc) (hr : meth.sig.returnType = some .boolean) (hlocks : meth.locks = false) (hz : v = 0 ∨ v = 1) (hp : post (.int v)) (hdg : decode cc pc = .ok (.ireturn, 1)) : W p l e R s m args below meth c s.heap [] cells slots (MQ below (pQ post) args s cells slots (fun _ => False)) (F0 m pc ls [.int v]) :=
  W.zret hx hb hr (by rcases hz with rfl | rfl <;> rfl) (fun t ht hW => ⟨_, rfl, hp, ht⟩) (fun q h => by cases h) hdg hlocks
end NNB
/-- a truth value on the stack -/
def bI (b : Bool) : Int32 := if b = true then 1 else 0
theorem bI_t : bI true = 1 := rfl
theorem bI_f : bI false = 0 := rfl
theorem bI_01 (b : Bool) : bI b = 0 ∨ bI b = 1 := by cases b <;> simp [bI]
section NNC
variable {p : Program} {l : Launch} {e : Env} {R : Room} {s : State} {m : MethodId} {args : Array Value} {below : List Frame} {meth : Method} {c : Code} {H : Heap} {locs : List Loc} {cells slots : Nat} {Q : State → Prop} {cc : ByteArray} {pc : Nat} {ls : Array Slot} {rest : List Value}
theorem nb_ifeq (hx : p.tables.exec = Jvm.exec) (hb : c.code = cc) {b : Bool} {off : Int} {tgt : Nat} (hdg : decode cc pc = .ok (.ifCond .eq off, 3)) (ht : (pc : Int) + off = (tgt : Int)) (kt : b = false → W p l e R s m args below meth c H locs cells slots Q (F0 m tgt ls rest)) (kf : b = true → W p l e R s m args below meth c H locs cells slots Q (F0 m (pc + 3) ls rest)) : W p l e R s m args below meth c H locs cells slots Q (F0 m pc ls (.int (bI b) :: rest)) :=
  lv_if_eq hx hb hdg ht (fun h => kt (by cases b with
    | false => rfl
    | true => exact absurd h (by decide))) (fun h => kf (by cases b with
    | false => exact absurd rfl h
    | true => rfl))
theorem nb_ifne (hx : p.tables.exec = Jvm.exec) (hb : c.code = cc) {b : Bool} {off : Int} {tgt : Nat} (hdg : decode cc pc = .ok (.ifCond .ne off, 3)) (ht : (pc : Int) + off = (tgt : Int)) (kt : b = true → W p l e R s m args below meth c H locs cells slots Q (F0 m tgt ls rest)) (kf : b = false → W p l e R s m args below meth c H locs cells slots Q (F0 m (pc + 3) ls rest)) : W p l e R s m args below meth c H locs cells slots Q (F0 m pc ls (.int (bI b) :: rest)) :=
  lv_if_ne hx hb hdg ht (fun h => kt (by cases b with
    | false => exact absurd rfl h
    | true => rfl)) (fun h => kf (by cases b with
    | false => rfl
    | true => exact absurd h (by decide)))
theorem nz_eq (hx : p.tables.exec = Jvm.exec) (hb : c.code = cc) {a : Nat} {off : Int} {tgt : Nat} (hdg : decode cc pc = .ok (.ifCond .eq off, 3)) (ht : (pc : Int) + off = (tgt : Int)) (ha : a < 2 ^ 31) (kt : a = 0 → W p l e R s m args below meth c H locs cells slots Q (F0 m tgt ls rest)) (kf : 0 < a → W p l e R s m args below meth c H locs cells slots Q (F0 m (pc + 3) ls rest)) : W p l e R s m args below meth c H locs cells slots Q (F0 m pc ls (.int (nI a) :: rest)) :=
  lv_if_eq hx hb hdg ht (fun h => kt (Nat.eq_zero_of_not_pos fun q => nI_ne0 q ha h)) (fun h => kf (Nat.pos_of_ne_zero fun q => h (by rw [q]; rfl)))
theorem nz_ne (hx : p.tables.exec = Jvm.exec) (hb : c.code = cc) {a : Nat} {off : Int} {tgt : Nat} (hdg : decode cc pc = .ok (.ifCond .ne off, 3)) (ht : (pc : Int) + off = (tgt : Int)) (ha : a < 2 ^ 31) (kt : 0 < a → W p l e R s m args below meth c H locs cells slots Q (F0 m tgt ls rest)) (kf : a = 0 → W p l e R s m args below meth c H locs cells slots Q (F0 m (pc + 3) ls rest)) : W p l e R s m args below meth c H locs cells slots Q (F0 m pc ls (.int (nI a) :: rest)) :=
  lv_if_ne hx hb hdg ht (fun h => kt (Nat.pos_of_ne_zero fun q => h (by rw [q]; rfl))) (fun h => kf (Nat.eq_zero_of_not_pos fun q => nI_ne0 q ha h))
theorem nz_lt (hx : p.tables.exec = Jvm.exec) (hb : c.code = cc) {a : Nat} {off : Int} {tgt : Nat} (hdg : decode cc pc = .ok (.ifCond .lt off, 3)) (ht : (pc : Int) + off = (tgt : Int)) (ha : a < 2 ^ 31) (kt : a < 0 → W p l e R s m args below meth c H locs cells slots Q (F0 m tgt ls rest)) (kf : 0 ≤ a → W p l e R s m args below meth c H locs cells slots Q (F0 m (pc + 3) ls rest)) : W p l e R s m args below meth c H locs cells slots Q (F0 m pc ls (.int (nI a) :: rest)) :=
  lv_if_lt hx hb hdg ht (fun h => absurd h (nI_pos ha)) (fun _ => kf (Nat.zero_le _))
theorem nz_ge (hx : p.tables.exec = Jvm.exec) (hb : c.code = cc) {a : Nat} {off : Int} {tgt : Nat} (hdg : decode cc pc = .ok (.ifCond .ge off, 3)) (ht : (pc : Int) + off = (tgt : Int)) (ha : a < 2 ^ 31) (kt : 0 ≤ a → W p l e R s m args below meth c H locs cells slots Q (F0 m tgt ls rest)) (kf : a < 0 → W p l e R s m args below meth c H locs cells slots Q (F0 m (pc + 3) ls rest)) : W p l e R s m args below meth c H locs cells slots Q (F0 m pc ls (.int (nI a) :: rest)) :=
  lv_if_ge hx hb hdg ht (fun _ => kt (Nat.zero_le _)) (fun h => absurd (nI_pos' ha) h)
theorem nz_gt (hx : p.tables.exec = Jvm.exec) (hb : c.code = cc) {a : Nat} {off : Int} {tgt : Nat} (hdg : decode cc pc = .ok (.ifCond .gt off, 3)) (ht : (pc : Int) + off = (tgt : Int)) (ha : a < 2 ^ 31) (kt : 0 < a → W p l e R s m args below meth c H locs cells slots Q (F0 m tgt ls rest)) (kf : a = 0 → W p l e R s m args below meth c H locs cells slots Q (F0 m (pc + 3) ls rest)) : W p l e R s m args below meth c H locs cells slots Q (F0 m pc ls (.int (nI a) :: rest)) :=
  lv_if_gt hx hb hdg ht (fun h => kt (Nat.pos_of_ne_zero fun q => by rw [q] at h; exact absurd h (by decide))) (fun h => kf (Nat.eq_zero_of_not_pos fun q => h (by have := nI_lt q ha; rwa [nI_0] at this)))
theorem nz_le (hx : p.tables.exec = Jvm.exec) (hb : c.code = cc) {a : Nat} {off : Int} {tgt : Nat} (hdg : decode cc pc = .ok (.ifCond .le off, 3)) (ht : (pc : Int) + off = (tgt : Int)) (ha : a < 2 ^ 31) (kt : a = 0 → W p l e R s m args below meth c H locs cells slots Q (F0 m tgt ls rest)) (kf : 0 < a → W p l e R s m args below meth c H locs cells slots Q (F0 m (pc + 3) ls rest)) : W p l e R s m args below meth c H locs cells slots Q (F0 m pc ls (.int (nI a) :: rest)) :=
  lv_if_le hx hb hdg ht (fun h => kt (Nat.eq_zero_of_not_pos fun q => nI_nle q ha h)) (fun h => kf (Nat.pos_of_ne_zero fun q => h (by rw [q]; decide)))
/-- an int array of a world, by its place there -/
theorem nn_iald {G : va_G} {tys : List (ClassId × FieldType)} {w : va_W} {cI : ClassId} {k a n i : Nat} {f : Nat → Int32} (hx : p.tables.exec = Jvm.exec) (hb : c.code = cc) (hK : va_K G vwCl tys s) (hT : tys[1]? = some (cI, .int)) (hP : va_P G vwCl w H) (ha : w[k]? = some (a, .inl (cI, n, .inl f))) (hi : i < n) (hn : n < 2 ^ 31) (hdg : decode cc pc = .ok (.iaload, 1)) (kk : W p l e R s m args below meth c H locs cells slots Q (F0 m (pc + 1) ls (.int (f i) :: rest))) : W p l e R s m args below meth c H locs cells slots Q (F0 m pc ls (.int (nI i) :: .ref a :: rest)) := by
  refine va_iald hx hb hK hP k 1 ha hT (vp_in_nI hi hn) hdg ?_
  rw [nI_clamp (Nat.lt_trans hi hn)]; exact kk
theorem nn_nil {G : va_G} {H : Heap} : va_P G vwCl [] H := fun k q h => by simp at h
end NNC
end
section
/-! The reference object: one cell and fifteen arrays. -/
def rwx (cI : ClassId) (x : Nat) (q : Nat → Nat) (v_thrown v_taped v_state v_operations v_changes v_sessions v_begun v_isChosen v_chosenMany : Int32) (f_many f_bytes f_kinds f_modes f_times f_paths f_contentAt f_contents f_path f_content f_ready f_tape f_sessionTime f_sessionChanges f_chosen : Nat → Int32) : va_W := [(x, .inr (8, [.int v_thrown, .ref (q 0), .ref (q 1), .ref (q 2), .ref (q 3), .ref (q 4), .ref (q 5), .ref (q 6), .ref (q 7), .ref (q 8), .ref (q 9), .ref (q 10), .ref (q 11), .int v_taped, .int v_state, .int v_operations, .int v_changes, .int v_sessions, .int v_begun, .ref (q 12), .ref (q 13), .int v_isChosen, .int v_chosenMany, .ref (q 14)])), (q 0, .inl (cI, 46, .inl f_many)), (q 1, .inl (cI, 46, .inl f_bytes)), (q 2, .inl (cI, 5520, .inl f_kinds)), (q 3, .inl (cI, 5520, .inl f_modes)), (q 4, .inl (cI, 5520, .inl f_times)), (q 5, .inl (cI, 5520, .inl f_paths)), (q 6, .inl (cI, 5520, .inl f_contentAt)), (q 7, .inl (cI, 5520, .inl f_contents)), (q 8, .inl (cI, 828000, .inl f_path)), (q 9, .inl (cI, 368000, .inl f_content)), (q 10, .inl (cI, 20, .inl f_ready)), (q 11, .inl (cI, 400, .inl f_tape)), (q 12, .inl (cI, 40, .inl f_sessionTime)), (q 13, .inl (cI, 40, .inl f_sessionChanges)), (q 14, .inl (cI, 150, .inl f_chosen))]
section RFA
variable {p : Program} {l : Launch} {e : Env} {R : Room} {s : State} {m : MethodId} {args : Array Value} {below : List Frame} {meth : Method} {c : Code} {H H0 : Heap} {locs : List Loc} {cells slots : Nat} {Q : State → Prop} {cc : ByteArray} {pc : Nat} {ls : Array Slot} {rest : List Value} {G : va_G} {tys : List (ClassId × FieldType)} {A : Nat → Prop} {Ts : List Cond} {cI : ClassId} {x : Nat} {q : Nat → Nat} {v_thrown v_taped v_state v_operations v_changes v_sessions v_begun v_isChosen v_chosenMany : Int32} {f_many f_bytes f_kinds f_modes f_times f_paths f_contentAt f_contents f_path f_content f_ready f_tape f_sessionTime f_sessionChanges f_chosen : Nat → Int32}
/-- what a walk over the reference object has at hand -/
def rC (p : Program) (s : State) (m : MethodId) (args : Array Value) (c : Code) (cc : ByteArray) (G : va_G) (tys : List (ClassId × FieldType)) (cI : ClassId) (Ts : List Cond) : Prop := p.tables.exec = Jvm.exec ∧ c.code = cc ∧ (∀ w ∈ Ts, w.before args s = true) ∧ (∀ w ∈ wsX90, w ∈ Ts) ∧ s.vm.findClass RX9 = some m.cls ∧ va_K G vwCl tys s ∧ tys[1]? = some (cI, .int)
theorem rg_thrown (hC : rC p s m args c cc G tys cI Ts) (hP : va_P G vwCl (rwx cI x q v_thrown v_taped v_state v_operations v_changes v_sessions v_begun v_isChosen v_chosenMany f_many f_bytes f_kinds f_modes f_times f_paths f_contentAt f_contents f_path f_content f_ready f_tape f_sessionTime f_sessionChanges f_chosen) H) (hlink : (Cond.fieldLink RX9 57 "MirrorKeepModel" "thrown" "I").before args s = true) (hdg : decode cc pc = .ok (.getfield 57, 3)) (kk : W p l e R s m args below meth c H locs cells slots Q (F0 m (pc + 3) ls (.int v_thrown :: rest))) : W p l e R s m args below meth c H locs cells slots Q (F0 m pc ls (.ref x :: rest)) :=
  va_get (D := G) (ci := 8) (v := .int v_thrown) (C := RX9) (T := TX9) (N := 24) hC.1 hC.2.1 hC.2.2.1 hC.2.2.2.1 hC.2.2.2.2.1 hC.2.2.2.2.2.1 hP 0 rfl rfl 0 (by decide) hlink (fun _ h => h) rfl hdg kk
theorem rp_thrown {z : Int32} (hC : rC p s m args c cc G tys cI Ts) (hR : rR G A H0 H locs (rwx cI x q v_thrown v_taped v_state v_operations v_changes v_sessions v_begun v_isChosen v_chosenMany f_many f_bytes f_kinds f_modes f_times f_paths f_contentAt f_contents f_path f_content f_ready f_tape f_sessionTime f_sessionChanges f_chosen)) (hlink : (Cond.fieldLink RX9 57 "MirrorKeepModel" "thrown" "I").before args s = true) (hdg : decode cc pc = .ok (.putfield 57, 3)) (kk : ∀ (H1 : Heap) (locs1 : List Loc), rR G A H0 H1 locs1 (rwx cI x q z v_taped v_state v_operations v_changes v_sessions v_begun v_isChosen v_chosenMany f_many f_bytes f_kinds f_modes f_times f_paths f_contentAt f_contents f_path f_content f_ready f_tape f_sessionTime f_sessionChanges f_chosen) → W p l e R s m args below meth c H1 locs1 cells slots Q (F0 m (pc + 3) ls rest)) : W p l e R s m args below meth c H locs cells slots Q (F0 m pc ls (.int z :: .ref x :: rest)) :=
  va_put (D := G) (ci := 8) (v := .int z) (ty := .int) (C := RX9) (T := TX9) (N := 24) hC.1 hC.2.1 hC.2.2.1 hC.2.2.2.1 tyX9 tyX9_ok nmX9 hC.2.2.2.2.1 hC.2.2.2.2.2.1 hR.1 hR.2.1 hR.2.2 0 rfl rfl 0 (by decide) hlink (fun _ h => h) rfl (by decide +kernel) rfl rfl (Nat.le_of_ble_eq_true rfl) hdg (fun H1 locs1 hP hD hS => kk H1 locs1 ⟨hP, hD, hS⟩)
theorem rg_many (hC : rC p s m args c cc G tys cI Ts) (hP : va_P G vwCl (rwx cI x q v_thrown v_taped v_state v_operations v_changes v_sessions v_begun v_isChosen v_chosenMany f_many f_bytes f_kinds f_modes f_times f_paths f_contentAt f_contents f_path f_content f_ready f_tape f_sessionTime f_sessionChanges f_chosen) H) (hlink : (Cond.fieldLink RX9 7 "MirrorKeepModel" "many" "[I").before args s = true) (hdg : decode cc pc = .ok (.getfield 7, 3)) (kk : W p l e R s m args below meth c H locs cells slots Q (F0 m (pc + 3) ls (.ref (q 0) :: rest))) : W p l e R s m args below meth c H locs cells slots Q (F0 m pc ls (.ref x :: rest)) :=
  va_get (D := G) (ci := 8) (v := .ref (q 0)) (C := RX9) (T := TX9) (N := 24) hC.1 hC.2.1 hC.2.2.1 hC.2.2.2.1 hC.2.2.2.2.1 hC.2.2.2.2.2.1 hP 0 rfl rfl 1 (by decide) hlink (fun _ h => h) rfl hdg kk
theorem rg_bytes (hC : rC p s m args c cc G tys cI Ts) (hP : va_P G vwCl (rwx cI x q v_thrown v_taped v_state v_operations v_changes v_sessions v_begun v_isChosen v_chosenMany f_many f_bytes f_kinds f_modes f_times f_paths f_contentAt f_contents f_path f_content f_ready f_tape f_sessionTime f_sessionChanges f_chosen) H) (hlink : (Cond.fieldLink RX9 13 "MirrorKeepModel" "bytes" "[I").before args s = true) (hdg : decode cc pc = .ok (.getfield 13, 3)) (kk : W p l e R s m args below meth c H locs cells slots Q (F0 m (pc + 3) ls (.ref (q 1) :: rest))) : W p l e R s m args below meth c H locs cells slots Q (F0 m pc ls (.ref x :: rest)) :=
  va_get (D := G) (ci := 8) (v := .ref (q 1)) (C := RX9) (T := TX9) (N := 24) hC.1 hC.2.1 hC.2.2.1 hC.2.2.2.1 hC.2.2.2.2.1 hC.2.2.2.2.2.1 hP 0 rfl rfl 2 (by decide) hlink (fun _ h => h) rfl hdg kk
theorem rg_kinds (hC : rC p s m args c cc G tys cI Ts) (hP : va_P G vwCl (rwx cI x q v_thrown v_taped v_state v_operations v_changes v_sessions v_begun v_isChosen v_chosenMany f_many f_bytes f_kinds f_modes f_times f_paths f_contentAt f_contents f_path f_content f_ready f_tape f_sessionTime f_sessionChanges f_chosen) H) (hlink : (Cond.fieldLink RX9 16 "MirrorKeepModel" "kinds" "[I").before args s = true) (hdg : decode cc pc = .ok (.getfield 16, 3)) (kk : W p l e R s m args below meth c H locs cells slots Q (F0 m (pc + 3) ls (.ref (q 2) :: rest))) : W p l e R s m args below meth c H locs cells slots Q (F0 m pc ls (.ref x :: rest)) :=
  va_get (D := G) (ci := 8) (v := .ref (q 2)) (C := RX9) (T := TX9) (N := 24) hC.1 hC.2.1 hC.2.2.1 hC.2.2.2.1 hC.2.2.2.2.1 hC.2.2.2.2.2.1 hP 0 rfl rfl 3 (by decide) hlink (fun _ h => h) rfl hdg kk
theorem rg_modes (hC : rC p s m args c cc G tys cI Ts) (hP : va_P G vwCl (rwx cI x q v_thrown v_taped v_state v_operations v_changes v_sessions v_begun v_isChosen v_chosenMany f_many f_bytes f_kinds f_modes f_times f_paths f_contentAt f_contents f_path f_content f_ready f_tape f_sessionTime f_sessionChanges f_chosen) H) (hlink : (Cond.fieldLink RX9 19 "MirrorKeepModel" "modes" "[I").before args s = true) (hdg : decode cc pc = .ok (.getfield 19, 3)) (kk : W p l e R s m args below meth c H locs cells slots Q (F0 m (pc + 3) ls (.ref (q 3) :: rest))) : W p l e R s m args below meth c H locs cells slots Q (F0 m pc ls (.ref x :: rest)) :=
  va_get (D := G) (ci := 8) (v := .ref (q 3)) (C := RX9) (T := TX9) (N := 24) hC.1 hC.2.1 hC.2.2.1 hC.2.2.2.1 hC.2.2.2.2.1 hC.2.2.2.2.2.1 hP 0 rfl rfl 4 (by decide) hlink (fun _ h => h) rfl hdg kk
theorem rg_times (hC : rC p s m args c cc G tys cI Ts) (hP : va_P G vwCl (rwx cI x q v_thrown v_taped v_state v_operations v_changes v_sessions v_begun v_isChosen v_chosenMany f_many f_bytes f_kinds f_modes f_times f_paths f_contentAt f_contents f_path f_content f_ready f_tape f_sessionTime f_sessionChanges f_chosen) H) (hlink : (Cond.fieldLink RX9 22 "MirrorKeepModel" "times" "[I").before args s = true) (hdg : decode cc pc = .ok (.getfield 22, 3)) (kk : W p l e R s m args below meth c H locs cells slots Q (F0 m (pc + 3) ls (.ref (q 4) :: rest))) : W p l e R s m args below meth c H locs cells slots Q (F0 m pc ls (.ref x :: rest)) :=
  va_get (D := G) (ci := 8) (v := .ref (q 4)) (C := RX9) (T := TX9) (N := 24) hC.1 hC.2.1 hC.2.2.1 hC.2.2.2.1 hC.2.2.2.2.1 hC.2.2.2.2.2.1 hP 0 rfl rfl 5 (by decide) hlink (fun _ h => h) rfl hdg kk
theorem rg_paths (hC : rC p s m args c cc G tys cI Ts) (hP : va_P G vwCl (rwx cI x q v_thrown v_taped v_state v_operations v_changes v_sessions v_begun v_isChosen v_chosenMany f_many f_bytes f_kinds f_modes f_times f_paths f_contentAt f_contents f_path f_content f_ready f_tape f_sessionTime f_sessionChanges f_chosen) H) (hlink : (Cond.fieldLink RX9 25 "MirrorKeepModel" "paths" "[I").before args s = true) (hdg : decode cc pc = .ok (.getfield 25, 3)) (kk : W p l e R s m args below meth c H locs cells slots Q (F0 m (pc + 3) ls (.ref (q 5) :: rest))) : W p l e R s m args below meth c H locs cells slots Q (F0 m pc ls (.ref x :: rest)) :=
  va_get (D := G) (ci := 8) (v := .ref (q 5)) (C := RX9) (T := TX9) (N := 24) hC.1 hC.2.1 hC.2.2.1 hC.2.2.2.1 hC.2.2.2.2.1 hC.2.2.2.2.2.1 hP 0 rfl rfl 6 (by decide) hlink (fun _ h => h) rfl hdg kk
theorem rg_contentAt (hC : rC p s m args c cc G tys cI Ts) (hP : va_P G vwCl (rwx cI x q v_thrown v_taped v_state v_operations v_changes v_sessions v_begun v_isChosen v_chosenMany f_many f_bytes f_kinds f_modes f_times f_paths f_contentAt f_contents f_path f_content f_ready f_tape f_sessionTime f_sessionChanges f_chosen) H) (hlink : (Cond.fieldLink RX9 28 "MirrorKeepModel" "contentAt" "[I").before args s = true) (hdg : decode cc pc = .ok (.getfield 28, 3)) (kk : W p l e R s m args below meth c H locs cells slots Q (F0 m (pc + 3) ls (.ref (q 6) :: rest))) : W p l e R s m args below meth c H locs cells slots Q (F0 m pc ls (.ref x :: rest)) :=
  va_get (D := G) (ci := 8) (v := .ref (q 6)) (C := RX9) (T := TX9) (N := 24) hC.1 hC.2.1 hC.2.2.1 hC.2.2.2.1 hC.2.2.2.2.1 hC.2.2.2.2.2.1 hP 0 rfl rfl 7 (by decide) hlink (fun _ h => h) rfl hdg kk
theorem rg_contents (hC : rC p s m args c cc G tys cI Ts) (hP : va_P G vwCl (rwx cI x q v_thrown v_taped v_state v_operations v_changes v_sessions v_begun v_isChosen v_chosenMany f_many f_bytes f_kinds f_modes f_times f_paths f_contentAt f_contents f_path f_content f_ready f_tape f_sessionTime f_sessionChanges f_chosen) H) (hlink : (Cond.fieldLink RX9 31 "MirrorKeepModel" "contents" "[I").before args s = true) (hdg : decode cc pc = .ok (.getfield 31, 3)) (kk : W p l e R s m args below meth c H locs cells slots Q (F0 m (pc + 3) ls (.ref (q 7) :: rest))) : W p l e R s m args below meth c H locs cells slots Q (F0 m pc ls (.ref x :: rest)) :=
  va_get (D := G) (ci := 8) (v := .ref (q 7)) (C := RX9) (T := TX9) (N := 24) hC.1 hC.2.1 hC.2.2.1 hC.2.2.2.1 hC.2.2.2.2.1 hC.2.2.2.2.2.1 hP 0 rfl rfl 8 (by decide) hlink (fun _ h => h) rfl hdg kk
theorem rg_path (hC : rC p s m args c cc G tys cI Ts) (hP : va_P G vwCl (rwx cI x q v_thrown v_taped v_state v_operations v_changes v_sessions v_begun v_isChosen v_chosenMany f_many f_bytes f_kinds f_modes f_times f_paths f_contentAt f_contents f_path f_content f_ready f_tape f_sessionTime f_sessionChanges f_chosen) H) (hlink : (Cond.fieldLink RX9 35 "MirrorKeepModel" "path" "[I").before args s = true) (hdg : decode cc pc = .ok (.getfield 35, 3)) (kk : W p l e R s m args below meth c H locs cells slots Q (F0 m (pc + 3) ls (.ref (q 8) :: rest))) : W p l e R s m args below meth c H locs cells slots Q (F0 m pc ls (.ref x :: rest)) :=
  va_get (D := G) (ci := 8) (v := .ref (q 8)) (C := RX9) (T := TX9) (N := 24) hC.1 hC.2.1 hC.2.2.1 hC.2.2.2.1 hC.2.2.2.2.1 hC.2.2.2.2.2.1 hP 0 rfl rfl 9 (by decide) hlink (fun _ h => h) rfl hdg kk
theorem rg_content (hC : rC p s m args c cc G tys cI Ts) (hP : va_P G vwCl (rwx cI x q v_thrown v_taped v_state v_operations v_changes v_sessions v_begun v_isChosen v_chosenMany f_many f_bytes f_kinds f_modes f_times f_paths f_contentAt f_contents f_path f_content f_ready f_tape f_sessionTime f_sessionChanges f_chosen) H) (hlink : (Cond.fieldLink RX9 39 "MirrorKeepModel" "content" "[I").before args s = true) (hdg : decode cc pc = .ok (.getfield 39, 3)) (kk : W p l e R s m args below meth c H locs cells slots Q (F0 m (pc + 3) ls (.ref (q 9) :: rest))) : W p l e R s m args below meth c H locs cells slots Q (F0 m pc ls (.ref x :: rest)) :=
  va_get (D := G) (ci := 8) (v := .ref (q 9)) (C := RX9) (T := TX9) (N := 24) hC.1 hC.2.1 hC.2.2.1 hC.2.2.2.1 hC.2.2.2.2.1 hC.2.2.2.2.2.1 hP 0 rfl rfl 10 (by decide) hlink (fun _ h => h) rfl hdg kk
theorem rg_ready (hC : rC p s m args c cc G tys cI Ts) (hP : va_P G vwCl (rwx cI x q v_thrown v_taped v_state v_operations v_changes v_sessions v_begun v_isChosen v_chosenMany f_many f_bytes f_kinds f_modes f_times f_paths f_contentAt f_contents f_path f_content f_ready f_tape f_sessionTime f_sessionChanges f_chosen) H) (hlink : (Cond.fieldLink RX9 42 "MirrorKeepModel" "ready" "[I").before args s = true) (hdg : decode cc pc = .ok (.getfield 42, 3)) (kk : W p l e R s m args below meth c H locs cells slots Q (F0 m (pc + 3) ls (.ref (q 10) :: rest))) : W p l e R s m args below meth c H locs cells slots Q (F0 m pc ls (.ref x :: rest)) :=
  va_get (D := G) (ci := 8) (v := .ref (q 10)) (C := RX9) (T := TX9) (N := 24) hC.1 hC.2.1 hC.2.2.1 hC.2.2.2.1 hC.2.2.2.2.1 hC.2.2.2.2.2.1 hP 0 rfl rfl 11 (by decide) hlink (fun _ h => h) rfl hdg kk
theorem rg_tape (hC : rC p s m args c cc G tys cI Ts) (hP : va_P G vwCl (rwx cI x q v_thrown v_taped v_state v_operations v_changes v_sessions v_begun v_isChosen v_chosenMany f_many f_bytes f_kinds f_modes f_times f_paths f_contentAt f_contents f_path f_content f_ready f_tape f_sessionTime f_sessionChanges f_chosen) H) (hlink : (Cond.fieldLink RX9 45 "MirrorKeepModel" "tape" "[I").before args s = true) (hdg : decode cc pc = .ok (.getfield 45, 3)) (kk : W p l e R s m args below meth c H locs cells slots Q (F0 m (pc + 3) ls (.ref (q 11) :: rest))) : W p l e R s m args below meth c H locs cells slots Q (F0 m pc ls (.ref x :: rest)) :=
  va_get (D := G) (ci := 8) (v := .ref (q 11)) (C := RX9) (T := TX9) (N := 24) hC.1 hC.2.1 hC.2.2.1 hC.2.2.2.1 hC.2.2.2.2.1 hC.2.2.2.2.2.1 hP 0 rfl rfl 12 (by decide) hlink (fun _ h => h) rfl hdg kk
theorem rg_taped (hC : rC p s m args c cc G tys cI Ts) (hP : va_P G vwCl (rwx cI x q v_thrown v_taped v_state v_operations v_changes v_sessions v_begun v_isChosen v_chosenMany f_many f_bytes f_kinds f_modes f_times f_paths f_contentAt f_contents f_path f_content f_ready f_tape f_sessionTime f_sessionChanges f_chosen) H) (hlink : (Cond.fieldLink RX9 61 "MirrorKeepModel" "taped" "I").before args s = true) (hdg : decode cc pc = .ok (.getfield 61, 3)) (kk : W p l e R s m args below meth c H locs cells slots Q (F0 m (pc + 3) ls (.int v_taped :: rest))) : W p l e R s m args below meth c H locs cells slots Q (F0 m pc ls (.ref x :: rest)) :=
  va_get (D := G) (ci := 8) (v := .int v_taped) (C := RX9) (T := TX9) (N := 24) hC.1 hC.2.1 hC.2.2.1 hC.2.2.2.1 hC.2.2.2.2.1 hC.2.2.2.2.2.1 hP 0 rfl rfl 13 (by decide) hlink (fun _ h => h) rfl hdg kk
theorem rp_taped {z : Int32} (hC : rC p s m args c cc G tys cI Ts) (hR : rR G A H0 H locs (rwx cI x q v_thrown v_taped v_state v_operations v_changes v_sessions v_begun v_isChosen v_chosenMany f_many f_bytes f_kinds f_modes f_times f_paths f_contentAt f_contents f_path f_content f_ready f_tape f_sessionTime f_sessionChanges f_chosen)) (hlink : (Cond.fieldLink RX9 61 "MirrorKeepModel" "taped" "I").before args s = true) (hdg : decode cc pc = .ok (.putfield 61, 3)) (kk : ∀ (H1 : Heap) (locs1 : List Loc), rR G A H0 H1 locs1 (rwx cI x q v_thrown z v_state v_operations v_changes v_sessions v_begun v_isChosen v_chosenMany f_many f_bytes f_kinds f_modes f_times f_paths f_contentAt f_contents f_path f_content f_ready f_tape f_sessionTime f_sessionChanges f_chosen) → W p l e R s m args below meth c H1 locs1 cells slots Q (F0 m (pc + 3) ls rest)) : W p l e R s m args below meth c H locs cells slots Q (F0 m pc ls (.int z :: .ref x :: rest)) :=
  va_put (D := G) (ci := 8) (v := .int z) (ty := .int) (C := RX9) (T := TX9) (N := 24) hC.1 hC.2.1 hC.2.2.1 hC.2.2.2.1 tyX9 tyX9_ok nmX9 hC.2.2.2.2.1 hC.2.2.2.2.2.1 hR.1 hR.2.1 hR.2.2 0 rfl rfl 13 (by decide) hlink (fun _ h => h) rfl (by decide +kernel) rfl rfl (Nat.le_of_ble_eq_true rfl) hdg (fun H1 locs1 hP hD hS => kk H1 locs1 ⟨hP, hD, hS⟩)
theorem rg_state (hC : rC p s m args c cc G tys cI Ts) (hP : va_P G vwCl (rwx cI x q v_thrown v_taped v_state v_operations v_changes v_sessions v_begun v_isChosen v_chosenMany f_many f_bytes f_kinds f_modes f_times f_paths f_contentAt f_contents f_path f_content f_ready f_tape f_sessionTime f_sessionChanges f_chosen) H) (hlink : (Cond.fieldLink RX9 107 "MirrorKeepModel" "state" "I").before args s = true) (hdg : decode cc pc = .ok (.getfield 107, 3)) (kk : W p l e R s m args below meth c H locs cells slots Q (F0 m (pc + 3) ls (.int v_state :: rest))) : W p l e R s m args below meth c H locs cells slots Q (F0 m pc ls (.ref x :: rest)) :=
  va_get (D := G) (ci := 8) (v := .int v_state) (C := RX9) (T := TX9) (N := 24) hC.1 hC.2.1 hC.2.2.1 hC.2.2.2.1 hC.2.2.2.2.1 hC.2.2.2.2.2.1 hP 0 rfl rfl 14 (by decide) hlink (fun _ h => h) rfl hdg kk
theorem rp_state {z : Int32} (hC : rC p s m args c cc G tys cI Ts) (hR : rR G A H0 H locs (rwx cI x q v_thrown v_taped v_state v_operations v_changes v_sessions v_begun v_isChosen v_chosenMany f_many f_bytes f_kinds f_modes f_times f_paths f_contentAt f_contents f_path f_content f_ready f_tape f_sessionTime f_sessionChanges f_chosen)) (hlink : (Cond.fieldLink RX9 107 "MirrorKeepModel" "state" "I").before args s = true) (hdg : decode cc pc = .ok (.putfield 107, 3)) (kk : ∀ (H1 : Heap) (locs1 : List Loc), rR G A H0 H1 locs1 (rwx cI x q v_thrown v_taped z v_operations v_changes v_sessions v_begun v_isChosen v_chosenMany f_many f_bytes f_kinds f_modes f_times f_paths f_contentAt f_contents f_path f_content f_ready f_tape f_sessionTime f_sessionChanges f_chosen) → W p l e R s m args below meth c H1 locs1 cells slots Q (F0 m (pc + 3) ls rest)) : W p l e R s m args below meth c H locs cells slots Q (F0 m pc ls (.int z :: .ref x :: rest)) :=
  va_put (D := G) (ci := 8) (v := .int z) (ty := .int) (C := RX9) (T := TX9) (N := 24) hC.1 hC.2.1 hC.2.2.1 hC.2.2.2.1 tyX9 tyX9_ok nmX9 hC.2.2.2.2.1 hC.2.2.2.2.2.1 hR.1 hR.2.1 hR.2.2 0 rfl rfl 14 (by decide) hlink (fun _ h => h) rfl (by decide +kernel) rfl rfl (Nat.le_of_ble_eq_true rfl) hdg (fun H1 locs1 hP hD hS => kk H1 locs1 ⟨hP, hD, hS⟩)
theorem rg_operations (hC : rC p s m args c cc G tys cI Ts) (hP : va_P G vwCl (rwx cI x q v_thrown v_taped v_state v_operations v_changes v_sessions v_begun v_isChosen v_chosenMany f_many f_bytes f_kinds f_modes f_times f_paths f_contentAt f_contents f_path f_content f_ready f_tape f_sessionTime f_sessionChanges f_chosen) H) (hlink : (Cond.fieldLink RX9 141 "MirrorKeepModel" "operations" "I").before args s = true) (hdg : decode cc pc = .ok (.getfield 141, 3)) (kk : W p l e R s m args below meth c H locs cells slots Q (F0 m (pc + 3) ls (.int v_operations :: rest))) : W p l e R s m args below meth c H locs cells slots Q (F0 m pc ls (.ref x :: rest)) :=
  va_get (D := G) (ci := 8) (v := .int v_operations) (C := RX9) (T := TX9) (N := 24) hC.1 hC.2.1 hC.2.2.1 hC.2.2.2.1 hC.2.2.2.2.1 hC.2.2.2.2.2.1 hP 0 rfl rfl 15 (by decide) hlink (fun _ h => h) rfl hdg kk
theorem rp_operations {z : Int32} (hC : rC p s m args c cc G tys cI Ts) (hR : rR G A H0 H locs (rwx cI x q v_thrown v_taped v_state v_operations v_changes v_sessions v_begun v_isChosen v_chosenMany f_many f_bytes f_kinds f_modes f_times f_paths f_contentAt f_contents f_path f_content f_ready f_tape f_sessionTime f_sessionChanges f_chosen)) (hlink : (Cond.fieldLink RX9 141 "MirrorKeepModel" "operations" "I").before args s = true) (hdg : decode cc pc = .ok (.putfield 141, 3)) (kk : ∀ (H1 : Heap) (locs1 : List Loc), rR G A H0 H1 locs1 (rwx cI x q v_thrown v_taped v_state z v_changes v_sessions v_begun v_isChosen v_chosenMany f_many f_bytes f_kinds f_modes f_times f_paths f_contentAt f_contents f_path f_content f_ready f_tape f_sessionTime f_sessionChanges f_chosen) → W p l e R s m args below meth c H1 locs1 cells slots Q (F0 m (pc + 3) ls rest)) : W p l e R s m args below meth c H locs cells slots Q (F0 m pc ls (.int z :: .ref x :: rest)) :=
  va_put (D := G) (ci := 8) (v := .int z) (ty := .int) (C := RX9) (T := TX9) (N := 24) hC.1 hC.2.1 hC.2.2.1 hC.2.2.2.1 tyX9 tyX9_ok nmX9 hC.2.2.2.2.1 hC.2.2.2.2.2.1 hR.1 hR.2.1 hR.2.2 0 rfl rfl 15 (by decide) hlink (fun _ h => h) rfl (by decide +kernel) rfl rfl (Nat.le_of_ble_eq_true rfl) hdg (fun H1 locs1 hP hD hS => kk H1 locs1 ⟨hP, hD, hS⟩)
theorem rg_changes (hC : rC p s m args c cc G tys cI Ts) (hP : va_P G vwCl (rwx cI x q v_thrown v_taped v_state v_operations v_changes v_sessions v_begun v_isChosen v_chosenMany f_many f_bytes f_kinds f_modes f_times f_paths f_contentAt f_contents f_path f_content f_ready f_tape f_sessionTime f_sessionChanges f_chosen) H) (hlink : (Cond.fieldLink RX9 150 "MirrorKeepModel" "changes" "I").before args s = true) (hdg : decode cc pc = .ok (.getfield 150, 3)) (kk : W p l e R s m args below meth c H locs cells slots Q (F0 m (pc + 3) ls (.int v_changes :: rest))) : W p l e R s m args below meth c H locs cells slots Q (F0 m pc ls (.ref x :: rest)) :=
  va_get (D := G) (ci := 8) (v := .int v_changes) (C := RX9) (T := TX9) (N := 24) hC.1 hC.2.1 hC.2.2.1 hC.2.2.2.1 hC.2.2.2.2.1 hC.2.2.2.2.2.1 hP 0 rfl rfl 16 (by decide) hlink (fun _ h => h) rfl hdg kk
theorem rp_changes {z : Int32} (hC : rC p s m args c cc G tys cI Ts) (hR : rR G A H0 H locs (rwx cI x q v_thrown v_taped v_state v_operations v_changes v_sessions v_begun v_isChosen v_chosenMany f_many f_bytes f_kinds f_modes f_times f_paths f_contentAt f_contents f_path f_content f_ready f_tape f_sessionTime f_sessionChanges f_chosen)) (hlink : (Cond.fieldLink RX9 150 "MirrorKeepModel" "changes" "I").before args s = true) (hdg : decode cc pc = .ok (.putfield 150, 3)) (kk : ∀ (H1 : Heap) (locs1 : List Loc), rR G A H0 H1 locs1 (rwx cI x q v_thrown v_taped v_state v_operations z v_sessions v_begun v_isChosen v_chosenMany f_many f_bytes f_kinds f_modes f_times f_paths f_contentAt f_contents f_path f_content f_ready f_tape f_sessionTime f_sessionChanges f_chosen) → W p l e R s m args below meth c H1 locs1 cells slots Q (F0 m (pc + 3) ls rest)) : W p l e R s m args below meth c H locs cells slots Q (F0 m pc ls (.int z :: .ref x :: rest)) :=
  va_put (D := G) (ci := 8) (v := .int z) (ty := .int) (C := RX9) (T := TX9) (N := 24) hC.1 hC.2.1 hC.2.2.1 hC.2.2.2.1 tyX9 tyX9_ok nmX9 hC.2.2.2.2.1 hC.2.2.2.2.2.1 hR.1 hR.2.1 hR.2.2 0 rfl rfl 16 (by decide) hlink (fun _ h => h) rfl (by decide +kernel) rfl rfl (Nat.le_of_ble_eq_true rfl) hdg (fun H1 locs1 hP hD hS => kk H1 locs1 ⟨hP, hD, hS⟩)
theorem rg_sessions (hC : rC p s m args c cc G tys cI Ts) (hP : va_P G vwCl (rwx cI x q v_thrown v_taped v_state v_operations v_changes v_sessions v_begun v_isChosen v_chosenMany f_many f_bytes f_kinds f_modes f_times f_paths f_contentAt f_contents f_path f_content f_ready f_tape f_sessionTime f_sessionChanges f_chosen) H) (hlink : (Cond.fieldLink RX9 138 "MirrorKeepModel" "sessions" "I").before args s = true) (hdg : decode cc pc = .ok (.getfield 138, 3)) (kk : W p l e R s m args below meth c H locs cells slots Q (F0 m (pc + 3) ls (.int v_sessions :: rest))) : W p l e R s m args below meth c H locs cells slots Q (F0 m pc ls (.ref x :: rest)) :=
  va_get (D := G) (ci := 8) (v := .int v_sessions) (C := RX9) (T := TX9) (N := 24) hC.1 hC.2.1 hC.2.2.1 hC.2.2.2.1 hC.2.2.2.2.1 hC.2.2.2.2.2.1 hP 0 rfl rfl 17 (by decide) hlink (fun _ h => h) rfl hdg kk
theorem rp_sessions {z : Int32} (hC : rC p s m args c cc G tys cI Ts) (hR : rR G A H0 H locs (rwx cI x q v_thrown v_taped v_state v_operations v_changes v_sessions v_begun v_isChosen v_chosenMany f_many f_bytes f_kinds f_modes f_times f_paths f_contentAt f_contents f_path f_content f_ready f_tape f_sessionTime f_sessionChanges f_chosen)) (hlink : (Cond.fieldLink RX9 138 "MirrorKeepModel" "sessions" "I").before args s = true) (hdg : decode cc pc = .ok (.putfield 138, 3)) (kk : ∀ (H1 : Heap) (locs1 : List Loc), rR G A H0 H1 locs1 (rwx cI x q v_thrown v_taped v_state v_operations v_changes z v_begun v_isChosen v_chosenMany f_many f_bytes f_kinds f_modes f_times f_paths f_contentAt f_contents f_path f_content f_ready f_tape f_sessionTime f_sessionChanges f_chosen) → W p l e R s m args below meth c H1 locs1 cells slots Q (F0 m (pc + 3) ls rest)) : W p l e R s m args below meth c H locs cells slots Q (F0 m pc ls (.int z :: .ref x :: rest)) :=
  va_put (D := G) (ci := 8) (v := .int z) (ty := .int) (C := RX9) (T := TX9) (N := 24) hC.1 hC.2.1 hC.2.2.1 hC.2.2.2.1 tyX9 tyX9_ok nmX9 hC.2.2.2.2.1 hC.2.2.2.2.2.1 hR.1 hR.2.1 hR.2.2 0 rfl rfl 17 (by decide) hlink (fun _ h => h) rfl (by decide +kernel) rfl rfl (Nat.le_of_ble_eq_true rfl) hdg (fun H1 locs1 hP hD hS => kk H1 locs1 ⟨hP, hD, hS⟩)
theorem rg_begun (hC : rC p s m args c cc G tys cI Ts) (hP : va_P G vwCl (rwx cI x q v_thrown v_taped v_state v_operations v_changes v_sessions v_begun v_isChosen v_chosenMany f_many f_bytes f_kinds f_modes f_times f_paths f_contentAt f_contents f_path f_content f_ready f_tape f_sessionTime f_sessionChanges f_chosen) H) (hlink : (Cond.fieldLink RX9 144 "MirrorKeepModel" "begun" "I").before args s = true) (hdg : decode cc pc = .ok (.getfield 144, 3)) (kk : W p l e R s m args below meth c H locs cells slots Q (F0 m (pc + 3) ls (.int v_begun :: rest))) : W p l e R s m args below meth c H locs cells slots Q (F0 m pc ls (.ref x :: rest)) :=
  va_get (D := G) (ci := 8) (v := .int v_begun) (C := RX9) (T := TX9) (N := 24) hC.1 hC.2.1 hC.2.2.1 hC.2.2.2.1 hC.2.2.2.2.1 hC.2.2.2.2.2.1 hP 0 rfl rfl 18 (by decide) hlink (fun _ h => h) rfl hdg kk
theorem rp_begun {z : Int32} (hC : rC p s m args c cc G tys cI Ts) (hR : rR G A H0 H locs (rwx cI x q v_thrown v_taped v_state v_operations v_changes v_sessions v_begun v_isChosen v_chosenMany f_many f_bytes f_kinds f_modes f_times f_paths f_contentAt f_contents f_path f_content f_ready f_tape f_sessionTime f_sessionChanges f_chosen)) (hlink : (Cond.fieldLink RX9 144 "MirrorKeepModel" "begun" "I").before args s = true) (hdg : decode cc pc = .ok (.putfield 144, 3)) (kk : ∀ (H1 : Heap) (locs1 : List Loc), rR G A H0 H1 locs1 (rwx cI x q v_thrown v_taped v_state v_operations v_changes v_sessions z v_isChosen v_chosenMany f_many f_bytes f_kinds f_modes f_times f_paths f_contentAt f_contents f_path f_content f_ready f_tape f_sessionTime f_sessionChanges f_chosen) → W p l e R s m args below meth c H1 locs1 cells slots Q (F0 m (pc + 3) ls rest)) : W p l e R s m args below meth c H locs cells slots Q (F0 m pc ls (.int z :: .ref x :: rest)) :=
  va_put (D := G) (ci := 8) (v := .int z) (ty := .int) (C := RX9) (T := TX9) (N := 24) hC.1 hC.2.1 hC.2.2.1 hC.2.2.2.1 tyX9 tyX9_ok nmX9 hC.2.2.2.2.1 hC.2.2.2.2.2.1 hR.1 hR.2.1 hR.2.2 0 rfl rfl 18 (by decide) hlink (fun _ h => h) rfl (by decide +kernel) rfl rfl (Nat.le_of_ble_eq_true rfl) hdg (fun H1 locs1 hP hD hS => kk H1 locs1 ⟨hP, hD, hS⟩)
theorem rg_sessionTime (hC : rC p s m args c cc G tys cI Ts) (hP : va_P G vwCl (rwx cI x q v_thrown v_taped v_state v_operations v_changes v_sessions v_begun v_isChosen v_chosenMany f_many f_bytes f_kinds f_modes f_times f_paths f_contentAt f_contents f_path f_content f_ready f_tape f_sessionTime f_sessionChanges f_chosen) H) (hlink : (Cond.fieldLink RX9 48 "MirrorKeepModel" "sessionTime" "[I").before args s = true) (hdg : decode cc pc = .ok (.getfield 48, 3)) (kk : W p l e R s m args below meth c H locs cells slots Q (F0 m (pc + 3) ls (.ref (q 12) :: rest))) : W p l e R s m args below meth c H locs cells slots Q (F0 m pc ls (.ref x :: rest)) :=
  va_get (D := G) (ci := 8) (v := .ref (q 12)) (C := RX9) (T := TX9) (N := 24) hC.1 hC.2.1 hC.2.2.1 hC.2.2.2.1 hC.2.2.2.2.1 hC.2.2.2.2.2.1 hP 0 rfl rfl 19 (by decide) hlink (fun _ h => h) rfl hdg kk
theorem rg_sessionChanges (hC : rC p s m args c cc G tys cI Ts) (hP : va_P G vwCl (rwx cI x q v_thrown v_taped v_state v_operations v_changes v_sessions v_begun v_isChosen v_chosenMany f_many f_bytes f_kinds f_modes f_times f_paths f_contentAt f_contents f_path f_content f_ready f_tape f_sessionTime f_sessionChanges f_chosen) H) (hlink : (Cond.fieldLink RX9 51 "MirrorKeepModel" "sessionChanges" "[I").before args s = true) (hdg : decode cc pc = .ok (.getfield 51, 3)) (kk : W p l e R s m args below meth c H locs cells slots Q (F0 m (pc + 3) ls (.ref (q 13) :: rest))) : W p l e R s m args below meth c H locs cells slots Q (F0 m pc ls (.ref x :: rest)) :=
  va_get (D := G) (ci := 8) (v := .ref (q 13)) (C := RX9) (T := TX9) (N := 24) hC.1 hC.2.1 hC.2.2.1 hC.2.2.2.1 hC.2.2.2.2.1 hC.2.2.2.2.2.1 hP 0 rfl rfl 20 (by decide) hlink (fun _ h => h) rfl hdg kk
theorem rg_isChosen (hC : rC p s m args c cc G tys cI Ts) (hP : va_P G vwCl (rwx cI x q v_thrown v_taped v_state v_operations v_changes v_sessions v_begun v_isChosen v_chosenMany f_many f_bytes f_kinds f_modes f_times f_paths f_contentAt f_contents f_path f_content f_ready f_tape f_sessionTime f_sessionChanges f_chosen) H) (hlink : (Cond.fieldLink RX9 96 "MirrorKeepModel" "isChosen" "Z").before args s = true) (hdg : decode cc pc = .ok (.getfield 96, 3)) (kk : W p l e R s m args below meth c H locs cells slots Q (F0 m (pc + 3) ls (.int v_isChosen :: rest))) : W p l e R s m args below meth c H locs cells slots Q (F0 m pc ls (.ref x :: rest)) :=
  va_get (D := G) (ci := 8) (v := .int v_isChosen) (C := RX9) (T := TX9) (N := 24) hC.1 hC.2.1 hC.2.2.1 hC.2.2.2.1 hC.2.2.2.2.1 hC.2.2.2.2.2.1 hP 0 rfl rfl 21 (by decide) hlink (fun _ h => h) rfl hdg kk
theorem rp_isChosen {z : Int32} (hC : rC p s m args c cc G tys cI Ts) (hR : rR G A H0 H locs (rwx cI x q v_thrown v_taped v_state v_operations v_changes v_sessions v_begun v_isChosen v_chosenMany f_many f_bytes f_kinds f_modes f_times f_paths f_contentAt f_contents f_path f_content f_ready f_tape f_sessionTime f_sessionChanges f_chosen)) (hlink : (Cond.fieldLink RX9 96 "MirrorKeepModel" "isChosen" "Z").before args s = true) (hz : z = 0 ∨ z = 1) (hdg : decode cc pc = .ok (.putfield 96, 3)) (kk : ∀ (H1 : Heap) (locs1 : List Loc), rR G A H0 H1 locs1 (rwx cI x q v_thrown v_taped v_state v_operations v_changes v_sessions v_begun z v_chosenMany f_many f_bytes f_kinds f_modes f_times f_paths f_contentAt f_contents f_path f_content f_ready f_tape f_sessionTime f_sessionChanges f_chosen) → W p l e R s m args below meth c H1 locs1 cells slots Q (F0 m (pc + 3) ls rest)) : W p l e R s m args below meth c H locs cells slots Q (F0 m pc ls (.int z :: .ref x :: rest)) :=
  va_put (D := G) (ci := 8) (v := .int z) (ty := .boolean) (C := RX9) (T := TX9) (N := 24) hC.1 hC.2.1 hC.2.2.1 hC.2.2.2.1 tyX9 tyX9_ok nmX9 hC.2.2.2.2.1 hC.2.2.2.2.2.1 hR.1 hR.2.1 hR.2.2 0 rfl rfl 21 (by decide) hlink (fun _ h => h) rfl (by decide +kernel) (by rcases hz with rfl | rfl <;> rfl) (by rcases hz with rfl | rfl <;> rfl) (Nat.le_of_ble_eq_true rfl) hdg (fun H1 locs1 hP hD hS => kk H1 locs1 ⟨hP, hD, hS⟩)
theorem rg_chosenMany (hC : rC p s m args c cc G tys cI Ts) (hP : va_P G vwCl (rwx cI x q v_thrown v_taped v_state v_operations v_changes v_sessions v_begun v_isChosen v_chosenMany f_many f_bytes f_kinds f_modes f_times f_paths f_contentAt f_contents f_path f_content f_ready f_tape f_sessionTime f_sessionChanges f_chosen) H) (hlink : (Cond.fieldLink RX9 100 "MirrorKeepModel" "chosenMany" "I").before args s = true) (hdg : decode cc pc = .ok (.getfield 100, 3)) (kk : W p l e R s m args below meth c H locs cells slots Q (F0 m (pc + 3) ls (.int v_chosenMany :: rest))) : W p l e R s m args below meth c H locs cells slots Q (F0 m pc ls (.ref x :: rest)) :=
  va_get (D := G) (ci := 8) (v := .int v_chosenMany) (C := RX9) (T := TX9) (N := 24) hC.1 hC.2.1 hC.2.2.1 hC.2.2.2.1 hC.2.2.2.2.1 hC.2.2.2.2.2.1 hP 0 rfl rfl 22 (by decide) hlink (fun _ h => h) rfl hdg kk
theorem rp_chosenMany {z : Int32} (hC : rC p s m args c cc G tys cI Ts) (hR : rR G A H0 H locs (rwx cI x q v_thrown v_taped v_state v_operations v_changes v_sessions v_begun v_isChosen v_chosenMany f_many f_bytes f_kinds f_modes f_times f_paths f_contentAt f_contents f_path f_content f_ready f_tape f_sessionTime f_sessionChanges f_chosen)) (hlink : (Cond.fieldLink RX9 100 "MirrorKeepModel" "chosenMany" "I").before args s = true) (hdg : decode cc pc = .ok (.putfield 100, 3)) (kk : ∀ (H1 : Heap) (locs1 : List Loc), rR G A H0 H1 locs1 (rwx cI x q v_thrown v_taped v_state v_operations v_changes v_sessions v_begun v_isChosen z f_many f_bytes f_kinds f_modes f_times f_paths f_contentAt f_contents f_path f_content f_ready f_tape f_sessionTime f_sessionChanges f_chosen) → W p l e R s m args below meth c H1 locs1 cells slots Q (F0 m (pc + 3) ls rest)) : W p l e R s m args below meth c H locs cells slots Q (F0 m pc ls (.int z :: .ref x :: rest)) :=
  va_put (D := G) (ci := 8) (v := .int z) (ty := .int) (C := RX9) (T := TX9) (N := 24) hC.1 hC.2.1 hC.2.2.1 hC.2.2.2.1 tyX9 tyX9_ok nmX9 hC.2.2.2.2.1 hC.2.2.2.2.2.1 hR.1 hR.2.1 hR.2.2 0 rfl rfl 22 (by decide) hlink (fun _ h => h) rfl (by decide +kernel) rfl rfl (Nat.le_of_ble_eq_true rfl) hdg (fun H1 locs1 hP hD hS => kk H1 locs1 ⟨hP, hD, hS⟩)
theorem rg_chosen (hC : rC p s m args c cc G tys cI Ts) (hP : va_P G vwCl (rwx cI x q v_thrown v_taped v_state v_operations v_changes v_sessions v_begun v_isChosen v_chosenMany f_many f_bytes f_kinds f_modes f_times f_paths f_contentAt f_contents f_path f_content f_ready f_tape f_sessionTime f_sessionChanges f_chosen) H) (hlink : (Cond.fieldLink RX9 54 "MirrorKeepModel" "chosen" "[I").before args s = true) (hdg : decode cc pc = .ok (.getfield 54, 3)) (kk : W p l e R s m args below meth c H locs cells slots Q (F0 m (pc + 3) ls (.ref (q 14) :: rest))) : W p l e R s m args below meth c H locs cells slots Q (F0 m pc ls (.ref x :: rest)) :=
  va_get (D := G) (ci := 8) (v := .ref (q 14)) (C := RX9) (T := TX9) (N := 24) hC.1 hC.2.1 hC.2.2.1 hC.2.2.2.1 hC.2.2.2.2.1 hC.2.2.2.2.2.1 hP 0 rfl rfl 23 (by decide) hlink (fun _ h => h) rfl hdg kk
theorem rl_many {i : Nat} (hC : rC p s m args c cc G tys cI Ts) (hP : va_P G vwCl (rwx cI x q v_thrown v_taped v_state v_operations v_changes v_sessions v_begun v_isChosen v_chosenMany f_many f_bytes f_kinds f_modes f_times f_paths f_contentAt f_contents f_path f_content f_ready f_tape f_sessionTime f_sessionChanges f_chosen) H) (hi : i < 46) (hdg : decode cc pc = .ok (.iaload, 1)) (kk : W p l e R s m args below meth c H locs cells slots Q (F0 m (pc + 1) ls (.int (f_many i) :: rest))) : W p l e R s m args below meth c H locs cells slots Q (F0 m pc ls (.int (nI i) :: .ref (q 0) :: rest)) := by
  refine va_iald (a := q 0) hC.1 hC.2.1 hC.2.2.2.2.2.1 hP 1 1 (cA := cI) (n := 46) (f := f_many) rfl hC.2.2.2.2.2.2 (vp_in_nI hi (by decide)) hdg ?_
  rw [nI_clamp (Nat.lt_trans hi (by decide))]; exact kk
theorem rs_many {i : Nat} {z : Int32} (hC : rC p s m args c cc G tys cI Ts) (hR : rR G A H0 H locs (rwx cI x q v_thrown v_taped v_state v_operations v_changes v_sessions v_begun v_isChosen v_chosenMany f_many f_bytes f_kinds f_modes f_times f_paths f_contentAt f_contents f_path f_content f_ready f_tape f_sessionTime f_sessionChanges f_chosen)) (hi : i < 46) (hdg : decode cc pc = .ok (.iastore, 1)) (kk : ∀ (H1 : Heap) (locs1 : List Loc), rR G A H0 H1 locs1 (rwx cI x q v_thrown v_taped v_state v_operations v_changes v_sessions v_begun v_isChosen v_chosenMany (upd f_many i z) f_bytes f_kinds f_modes f_times f_paths f_contentAt f_contents f_path f_content f_ready f_tape f_sessionTime f_sessionChanges f_chosen) → W p l e R s m args below meth c H1 locs1 cells slots Q (F0 m (pc + 1) ls rest)) : W p l e R s m args below meth c H locs cells slots Q (F0 m pc ls (.int z :: .int (nI i) :: .ref (q 0) :: rest)) := by
  refine va_iast (a := q 0) hC.1 hC.2.1 hC.2.2.2.2.2.1 hR.1 hR.2.1 hR.2.2 1 1 (cA := cI) (n := 46) (f := f_many) rfl hC.2.2.2.2.2.2 (vp_in_nI hi (by decide)) hdg ?_
  rw [nI_clamp (Nat.lt_trans hi (by decide))]; exact fun H1 locs1 hP hD hS => kk H1 locs1 ⟨hP, hD, hS⟩
theorem rl_bytes {i : Nat} (hC : rC p s m args c cc G tys cI Ts) (hP : va_P G vwCl (rwx cI x q v_thrown v_taped v_state v_operations v_changes v_sessions v_begun v_isChosen v_chosenMany f_many f_bytes f_kinds f_modes f_times f_paths f_contentAt f_contents f_path f_content f_ready f_tape f_sessionTime f_sessionChanges f_chosen) H) (hi : i < 46) (hdg : decode cc pc = .ok (.iaload, 1)) (kk : W p l e R s m args below meth c H locs cells slots Q (F0 m (pc + 1) ls (.int (f_bytes i) :: rest))) : W p l e R s m args below meth c H locs cells slots Q (F0 m pc ls (.int (nI i) :: .ref (q 1) :: rest)) := by
  refine va_iald (a := q 1) hC.1 hC.2.1 hC.2.2.2.2.2.1 hP 2 1 (cA := cI) (n := 46) (f := f_bytes) rfl hC.2.2.2.2.2.2 (vp_in_nI hi (by decide)) hdg ?_
  rw [nI_clamp (Nat.lt_trans hi (by decide))]; exact kk
theorem rs_bytes {i : Nat} {z : Int32} (hC : rC p s m args c cc G tys cI Ts) (hR : rR G A H0 H locs (rwx cI x q v_thrown v_taped v_state v_operations v_changes v_sessions v_begun v_isChosen v_chosenMany f_many f_bytes f_kinds f_modes f_times f_paths f_contentAt f_contents f_path f_content f_ready f_tape f_sessionTime f_sessionChanges f_chosen)) (hi : i < 46) (hdg : decode cc pc = .ok (.iastore, 1)) (kk : ∀ (H1 : Heap) (locs1 : List Loc), rR G A H0 H1 locs1 (rwx cI x q v_thrown v_taped v_state v_operations v_changes v_sessions v_begun v_isChosen v_chosenMany f_many (upd f_bytes i z) f_kinds f_modes f_times f_paths f_contentAt f_contents f_path f_content f_ready f_tape f_sessionTime f_sessionChanges f_chosen) → W p l e R s m args below meth c H1 locs1 cells slots Q (F0 m (pc + 1) ls rest)) : W p l e R s m args below meth c H locs cells slots Q (F0 m pc ls (.int z :: .int (nI i) :: .ref (q 1) :: rest)) := by
  refine va_iast (a := q 1) hC.1 hC.2.1 hC.2.2.2.2.2.1 hR.1 hR.2.1 hR.2.2 2 1 (cA := cI) (n := 46) (f := f_bytes) rfl hC.2.2.2.2.2.2 (vp_in_nI hi (by decide)) hdg ?_
  rw [nI_clamp (Nat.lt_trans hi (by decide))]; exact fun H1 locs1 hP hD hS => kk H1 locs1 ⟨hP, hD, hS⟩
theorem rl_kinds {i : Nat} (hC : rC p s m args c cc G tys cI Ts) (hP : va_P G vwCl (rwx cI x q v_thrown v_taped v_state v_operations v_changes v_sessions v_begun v_isChosen v_chosenMany f_many f_bytes f_kinds f_modes f_times f_paths f_contentAt f_contents f_path f_content f_ready f_tape f_sessionTime f_sessionChanges f_chosen) H) (hi : i < 5520) (hdg : decode cc pc = .ok (.iaload, 1)) (kk : W p l e R s m args below meth c H locs cells slots Q (F0 m (pc + 1) ls (.int (f_kinds i) :: rest))) : W p l e R s m args below meth c H locs cells slots Q (F0 m pc ls (.int (nI i) :: .ref (q 2) :: rest)) := by
  refine va_iald (a := q 2) hC.1 hC.2.1 hC.2.2.2.2.2.1 hP 3 1 (cA := cI) (n := 5520) (f := f_kinds) rfl hC.2.2.2.2.2.2 (vp_in_nI hi (by decide)) hdg ?_
  rw [nI_clamp (Nat.lt_trans hi (by decide))]; exact kk
theorem rs_kinds {i : Nat} {z : Int32} (hC : rC p s m args c cc G tys cI Ts) (hR : rR G A H0 H locs (rwx cI x q v_thrown v_taped v_state v_operations v_changes v_sessions v_begun v_isChosen v_chosenMany f_many f_bytes f_kinds f_modes f_times f_paths f_contentAt f_contents f_path f_content f_ready f_tape f_sessionTime f_sessionChanges f_chosen)) (hi : i < 5520) (hdg : decode cc pc = .ok (.iastore, 1)) (kk : ∀ (H1 : Heap) (locs1 : List Loc), rR G A H0 H1 locs1 (rwx cI x q v_thrown v_taped v_state v_operations v_changes v_sessions v_begun v_isChosen v_chosenMany f_many f_bytes (upd f_kinds i z) f_modes f_times f_paths f_contentAt f_contents f_path f_content f_ready f_tape f_sessionTime f_sessionChanges f_chosen) → W p l e R s m args below meth c H1 locs1 cells slots Q (F0 m (pc + 1) ls rest)) : W p l e R s m args below meth c H locs cells slots Q (F0 m pc ls (.int z :: .int (nI i) :: .ref (q 2) :: rest)) := by
  refine va_iast (a := q 2) hC.1 hC.2.1 hC.2.2.2.2.2.1 hR.1 hR.2.1 hR.2.2 3 1 (cA := cI) (n := 5520) (f := f_kinds) rfl hC.2.2.2.2.2.2 (vp_in_nI hi (by decide)) hdg ?_
  rw [nI_clamp (Nat.lt_trans hi (by decide))]; exact fun H1 locs1 hP hD hS => kk H1 locs1 ⟨hP, hD, hS⟩
theorem rl_modes {i : Nat} (hC : rC p s m args c cc G tys cI Ts) (hP : va_P G vwCl (rwx cI x q v_thrown v_taped v_state v_operations v_changes v_sessions v_begun v_isChosen v_chosenMany f_many f_bytes f_kinds f_modes f_times f_paths f_contentAt f_contents f_path f_content f_ready f_tape f_sessionTime f_sessionChanges f_chosen) H) (hi : i < 5520) (hdg : decode cc pc = .ok (.iaload, 1)) (kk : W p l e R s m args below meth c H locs cells slots Q (F0 m (pc + 1) ls (.int (f_modes i) :: rest))) : W p l e R s m args below meth c H locs cells slots Q (F0 m pc ls (.int (nI i) :: .ref (q 3) :: rest)) := by
  refine va_iald (a := q 3) hC.1 hC.2.1 hC.2.2.2.2.2.1 hP 4 1 (cA := cI) (n := 5520) (f := f_modes) rfl hC.2.2.2.2.2.2 (vp_in_nI hi (by decide)) hdg ?_
  rw [nI_clamp (Nat.lt_trans hi (by decide))]; exact kk
theorem rs_modes {i : Nat} {z : Int32} (hC : rC p s m args c cc G tys cI Ts) (hR : rR G A H0 H locs (rwx cI x q v_thrown v_taped v_state v_operations v_changes v_sessions v_begun v_isChosen v_chosenMany f_many f_bytes f_kinds f_modes f_times f_paths f_contentAt f_contents f_path f_content f_ready f_tape f_sessionTime f_sessionChanges f_chosen)) (hi : i < 5520) (hdg : decode cc pc = .ok (.iastore, 1)) (kk : ∀ (H1 : Heap) (locs1 : List Loc), rR G A H0 H1 locs1 (rwx cI x q v_thrown v_taped v_state v_operations v_changes v_sessions v_begun v_isChosen v_chosenMany f_many f_bytes f_kinds (upd f_modes i z) f_times f_paths f_contentAt f_contents f_path f_content f_ready f_tape f_sessionTime f_sessionChanges f_chosen) → W p l e R s m args below meth c H1 locs1 cells slots Q (F0 m (pc + 1) ls rest)) : W p l e R s m args below meth c H locs cells slots Q (F0 m pc ls (.int z :: .int (nI i) :: .ref (q 3) :: rest)) := by
  refine va_iast (a := q 3) hC.1 hC.2.1 hC.2.2.2.2.2.1 hR.1 hR.2.1 hR.2.2 4 1 (cA := cI) (n := 5520) (f := f_modes) rfl hC.2.2.2.2.2.2 (vp_in_nI hi (by decide)) hdg ?_
  rw [nI_clamp (Nat.lt_trans hi (by decide))]; exact fun H1 locs1 hP hD hS => kk H1 locs1 ⟨hP, hD, hS⟩
theorem rl_times {i : Nat} (hC : rC p s m args c cc G tys cI Ts) (hP : va_P G vwCl (rwx cI x q v_thrown v_taped v_state v_operations v_changes v_sessions v_begun v_isChosen v_chosenMany f_many f_bytes f_kinds f_modes f_times f_paths f_contentAt f_contents f_path f_content f_ready f_tape f_sessionTime f_sessionChanges f_chosen) H) (hi : i < 5520) (hdg : decode cc pc = .ok (.iaload, 1)) (kk : W p l e R s m args below meth c H locs cells slots Q (F0 m (pc + 1) ls (.int (f_times i) :: rest))) : W p l e R s m args below meth c H locs cells slots Q (F0 m pc ls (.int (nI i) :: .ref (q 4) :: rest)) := by
  refine va_iald (a := q 4) hC.1 hC.2.1 hC.2.2.2.2.2.1 hP 5 1 (cA := cI) (n := 5520) (f := f_times) rfl hC.2.2.2.2.2.2 (vp_in_nI hi (by decide)) hdg ?_
  rw [nI_clamp (Nat.lt_trans hi (by decide))]; exact kk
theorem rs_times {i : Nat} {z : Int32} (hC : rC p s m args c cc G tys cI Ts) (hR : rR G A H0 H locs (rwx cI x q v_thrown v_taped v_state v_operations v_changes v_sessions v_begun v_isChosen v_chosenMany f_many f_bytes f_kinds f_modes f_times f_paths f_contentAt f_contents f_path f_content f_ready f_tape f_sessionTime f_sessionChanges f_chosen)) (hi : i < 5520) (hdg : decode cc pc = .ok (.iastore, 1)) (kk : ∀ (H1 : Heap) (locs1 : List Loc), rR G A H0 H1 locs1 (rwx cI x q v_thrown v_taped v_state v_operations v_changes v_sessions v_begun v_isChosen v_chosenMany f_many f_bytes f_kinds f_modes (upd f_times i z) f_paths f_contentAt f_contents f_path f_content f_ready f_tape f_sessionTime f_sessionChanges f_chosen) → W p l e R s m args below meth c H1 locs1 cells slots Q (F0 m (pc + 1) ls rest)) : W p l e R s m args below meth c H locs cells slots Q (F0 m pc ls (.int z :: .int (nI i) :: .ref (q 4) :: rest)) := by
  refine va_iast (a := q 4) hC.1 hC.2.1 hC.2.2.2.2.2.1 hR.1 hR.2.1 hR.2.2 5 1 (cA := cI) (n := 5520) (f := f_times) rfl hC.2.2.2.2.2.2 (vp_in_nI hi (by decide)) hdg ?_
  rw [nI_clamp (Nat.lt_trans hi (by decide))]; exact fun H1 locs1 hP hD hS => kk H1 locs1 ⟨hP, hD, hS⟩
theorem rl_paths {i : Nat} (hC : rC p s m args c cc G tys cI Ts) (hP : va_P G vwCl (rwx cI x q v_thrown v_taped v_state v_operations v_changes v_sessions v_begun v_isChosen v_chosenMany f_many f_bytes f_kinds f_modes f_times f_paths f_contentAt f_contents f_path f_content f_ready f_tape f_sessionTime f_sessionChanges f_chosen) H) (hi : i < 5520) (hdg : decode cc pc = .ok (.iaload, 1)) (kk : W p l e R s m args below meth c H locs cells slots Q (F0 m (pc + 1) ls (.int (f_paths i) :: rest))) : W p l e R s m args below meth c H locs cells slots Q (F0 m pc ls (.int (nI i) :: .ref (q 5) :: rest)) := by
  refine va_iald (a := q 5) hC.1 hC.2.1 hC.2.2.2.2.2.1 hP 6 1 (cA := cI) (n := 5520) (f := f_paths) rfl hC.2.2.2.2.2.2 (vp_in_nI hi (by decide)) hdg ?_
  rw [nI_clamp (Nat.lt_trans hi (by decide))]; exact kk
theorem rs_paths {i : Nat} {z : Int32} (hC : rC p s m args c cc G tys cI Ts) (hR : rR G A H0 H locs (rwx cI x q v_thrown v_taped v_state v_operations v_changes v_sessions v_begun v_isChosen v_chosenMany f_many f_bytes f_kinds f_modes f_times f_paths f_contentAt f_contents f_path f_content f_ready f_tape f_sessionTime f_sessionChanges f_chosen)) (hi : i < 5520) (hdg : decode cc pc = .ok (.iastore, 1)) (kk : ∀ (H1 : Heap) (locs1 : List Loc), rR G A H0 H1 locs1 (rwx cI x q v_thrown v_taped v_state v_operations v_changes v_sessions v_begun v_isChosen v_chosenMany f_many f_bytes f_kinds f_modes f_times (upd f_paths i z) f_contentAt f_contents f_path f_content f_ready f_tape f_sessionTime f_sessionChanges f_chosen) → W p l e R s m args below meth c H1 locs1 cells slots Q (F0 m (pc + 1) ls rest)) : W p l e R s m args below meth c H locs cells slots Q (F0 m pc ls (.int z :: .int (nI i) :: .ref (q 5) :: rest)) := by
  refine va_iast (a := q 5) hC.1 hC.2.1 hC.2.2.2.2.2.1 hR.1 hR.2.1 hR.2.2 6 1 (cA := cI) (n := 5520) (f := f_paths) rfl hC.2.2.2.2.2.2 (vp_in_nI hi (by decide)) hdg ?_
  rw [nI_clamp (Nat.lt_trans hi (by decide))]; exact fun H1 locs1 hP hD hS => kk H1 locs1 ⟨hP, hD, hS⟩
theorem rl_contentAt {i : Nat} (hC : rC p s m args c cc G tys cI Ts) (hP : va_P G vwCl (rwx cI x q v_thrown v_taped v_state v_operations v_changes v_sessions v_begun v_isChosen v_chosenMany f_many f_bytes f_kinds f_modes f_times f_paths f_contentAt f_contents f_path f_content f_ready f_tape f_sessionTime f_sessionChanges f_chosen) H) (hi : i < 5520) (hdg : decode cc pc = .ok (.iaload, 1)) (kk : W p l e R s m args below meth c H locs cells slots Q (F0 m (pc + 1) ls (.int (f_contentAt i) :: rest))) : W p l e R s m args below meth c H locs cells slots Q (F0 m pc ls (.int (nI i) :: .ref (q 6) :: rest)) := by
  refine va_iald (a := q 6) hC.1 hC.2.1 hC.2.2.2.2.2.1 hP 7 1 (cA := cI) (n := 5520) (f := f_contentAt) rfl hC.2.2.2.2.2.2 (vp_in_nI hi (by decide)) hdg ?_
  rw [nI_clamp (Nat.lt_trans hi (by decide))]; exact kk
theorem rs_contentAt {i : Nat} {z : Int32} (hC : rC p s m args c cc G tys cI Ts) (hR : rR G A H0 H locs (rwx cI x q v_thrown v_taped v_state v_operations v_changes v_sessions v_begun v_isChosen v_chosenMany f_many f_bytes f_kinds f_modes f_times f_paths f_contentAt f_contents f_path f_content f_ready f_tape f_sessionTime f_sessionChanges f_chosen)) (hi : i < 5520) (hdg : decode cc pc = .ok (.iastore, 1)) (kk : ∀ (H1 : Heap) (locs1 : List Loc), rR G A H0 H1 locs1 (rwx cI x q v_thrown v_taped v_state v_operations v_changes v_sessions v_begun v_isChosen v_chosenMany f_many f_bytes f_kinds f_modes f_times f_paths (upd f_contentAt i z) f_contents f_path f_content f_ready f_tape f_sessionTime f_sessionChanges f_chosen) → W p l e R s m args below meth c H1 locs1 cells slots Q (F0 m (pc + 1) ls rest)) : W p l e R s m args below meth c H locs cells slots Q (F0 m pc ls (.int z :: .int (nI i) :: .ref (q 6) :: rest)) := by
  refine va_iast (a := q 6) hC.1 hC.2.1 hC.2.2.2.2.2.1 hR.1 hR.2.1 hR.2.2 7 1 (cA := cI) (n := 5520) (f := f_contentAt) rfl hC.2.2.2.2.2.2 (vp_in_nI hi (by decide)) hdg ?_
  rw [nI_clamp (Nat.lt_trans hi (by decide))]; exact fun H1 locs1 hP hD hS => kk H1 locs1 ⟨hP, hD, hS⟩
theorem rl_contents {i : Nat} (hC : rC p s m args c cc G tys cI Ts) (hP : va_P G vwCl (rwx cI x q v_thrown v_taped v_state v_operations v_changes v_sessions v_begun v_isChosen v_chosenMany f_many f_bytes f_kinds f_modes f_times f_paths f_contentAt f_contents f_path f_content f_ready f_tape f_sessionTime f_sessionChanges f_chosen) H) (hi : i < 5520) (hdg : decode cc pc = .ok (.iaload, 1)) (kk : W p l e R s m args below meth c H locs cells slots Q (F0 m (pc + 1) ls (.int (f_contents i) :: rest))) : W p l e R s m args below meth c H locs cells slots Q (F0 m pc ls (.int (nI i) :: .ref (q 7) :: rest)) := by
  refine va_iald (a := q 7) hC.1 hC.2.1 hC.2.2.2.2.2.1 hP 8 1 (cA := cI) (n := 5520) (f := f_contents) rfl hC.2.2.2.2.2.2 (vp_in_nI hi (by decide)) hdg ?_
  rw [nI_clamp (Nat.lt_trans hi (by decide))]; exact kk
theorem rs_contents {i : Nat} {z : Int32} (hC : rC p s m args c cc G tys cI Ts) (hR : rR G A H0 H locs (rwx cI x q v_thrown v_taped v_state v_operations v_changes v_sessions v_begun v_isChosen v_chosenMany f_many f_bytes f_kinds f_modes f_times f_paths f_contentAt f_contents f_path f_content f_ready f_tape f_sessionTime f_sessionChanges f_chosen)) (hi : i < 5520) (hdg : decode cc pc = .ok (.iastore, 1)) (kk : ∀ (H1 : Heap) (locs1 : List Loc), rR G A H0 H1 locs1 (rwx cI x q v_thrown v_taped v_state v_operations v_changes v_sessions v_begun v_isChosen v_chosenMany f_many f_bytes f_kinds f_modes f_times f_paths f_contentAt (upd f_contents i z) f_path f_content f_ready f_tape f_sessionTime f_sessionChanges f_chosen) → W p l e R s m args below meth c H1 locs1 cells slots Q (F0 m (pc + 1) ls rest)) : W p l e R s m args below meth c H locs cells slots Q (F0 m pc ls (.int z :: .int (nI i) :: .ref (q 7) :: rest)) := by
  refine va_iast (a := q 7) hC.1 hC.2.1 hC.2.2.2.2.2.1 hR.1 hR.2.1 hR.2.2 8 1 (cA := cI) (n := 5520) (f := f_contents) rfl hC.2.2.2.2.2.2 (vp_in_nI hi (by decide)) hdg ?_
  rw [nI_clamp (Nat.lt_trans hi (by decide))]; exact fun H1 locs1 hP hD hS => kk H1 locs1 ⟨hP, hD, hS⟩
theorem rl_path {i : Nat} (hC : rC p s m args c cc G tys cI Ts) (hP : va_P G vwCl (rwx cI x q v_thrown v_taped v_state v_operations v_changes v_sessions v_begun v_isChosen v_chosenMany f_many f_bytes f_kinds f_modes f_times f_paths f_contentAt f_contents f_path f_content f_ready f_tape f_sessionTime f_sessionChanges f_chosen) H) (hi : i < 828000) (hdg : decode cc pc = .ok (.iaload, 1)) (kk : W p l e R s m args below meth c H locs cells slots Q (F0 m (pc + 1) ls (.int (f_path i) :: rest))) : W p l e R s m args below meth c H locs cells slots Q (F0 m pc ls (.int (nI i) :: .ref (q 8) :: rest)) := by
  refine va_iald (a := q 8) hC.1 hC.2.1 hC.2.2.2.2.2.1 hP 9 1 (cA := cI) (n := 828000) (f := f_path) rfl hC.2.2.2.2.2.2 (vp_in_nI hi (by decide)) hdg ?_
  rw [nI_clamp (Nat.lt_trans hi (by decide))]; exact kk
theorem rs_path {i : Nat} {z : Int32} (hC : rC p s m args c cc G tys cI Ts) (hR : rR G A H0 H locs (rwx cI x q v_thrown v_taped v_state v_operations v_changes v_sessions v_begun v_isChosen v_chosenMany f_many f_bytes f_kinds f_modes f_times f_paths f_contentAt f_contents f_path f_content f_ready f_tape f_sessionTime f_sessionChanges f_chosen)) (hi : i < 828000) (hdg : decode cc pc = .ok (.iastore, 1)) (kk : ∀ (H1 : Heap) (locs1 : List Loc), rR G A H0 H1 locs1 (rwx cI x q v_thrown v_taped v_state v_operations v_changes v_sessions v_begun v_isChosen v_chosenMany f_many f_bytes f_kinds f_modes f_times f_paths f_contentAt f_contents (upd f_path i z) f_content f_ready f_tape f_sessionTime f_sessionChanges f_chosen) → W p l e R s m args below meth c H1 locs1 cells slots Q (F0 m (pc + 1) ls rest)) : W p l e R s m args below meth c H locs cells slots Q (F0 m pc ls (.int z :: .int (nI i) :: .ref (q 8) :: rest)) := by
  refine va_iast (a := q 8) hC.1 hC.2.1 hC.2.2.2.2.2.1 hR.1 hR.2.1 hR.2.2 9 1 (cA := cI) (n := 828000) (f := f_path) rfl hC.2.2.2.2.2.2 (vp_in_nI hi (by decide)) hdg ?_
  rw [nI_clamp (Nat.lt_trans hi (by decide))]; exact fun H1 locs1 hP hD hS => kk H1 locs1 ⟨hP, hD, hS⟩
theorem rl_content {i : Nat} (hC : rC p s m args c cc G tys cI Ts) (hP : va_P G vwCl (rwx cI x q v_thrown v_taped v_state v_operations v_changes v_sessions v_begun v_isChosen v_chosenMany f_many f_bytes f_kinds f_modes f_times f_paths f_contentAt f_contents f_path f_content f_ready f_tape f_sessionTime f_sessionChanges f_chosen) H) (hi : i < 368000) (hdg : decode cc pc = .ok (.iaload, 1)) (kk : W p l e R s m args below meth c H locs cells slots Q (F0 m (pc + 1) ls (.int (f_content i) :: rest))) : W p l e R s m args below meth c H locs cells slots Q (F0 m pc ls (.int (nI i) :: .ref (q 9) :: rest)) := by
  refine va_iald (a := q 9) hC.1 hC.2.1 hC.2.2.2.2.2.1 hP 10 1 (cA := cI) (n := 368000) (f := f_content) rfl hC.2.2.2.2.2.2 (vp_in_nI hi (by decide)) hdg ?_
  rw [nI_clamp (Nat.lt_trans hi (by decide))]; exact kk
theorem rs_content {i : Nat} {z : Int32} (hC : rC p s m args c cc G tys cI Ts) (hR : rR G A H0 H locs (rwx cI x q v_thrown v_taped v_state v_operations v_changes v_sessions v_begun v_isChosen v_chosenMany f_many f_bytes f_kinds f_modes f_times f_paths f_contentAt f_contents f_path f_content f_ready f_tape f_sessionTime f_sessionChanges f_chosen)) (hi : i < 368000) (hdg : decode cc pc = .ok (.iastore, 1)) (kk : ∀ (H1 : Heap) (locs1 : List Loc), rR G A H0 H1 locs1 (rwx cI x q v_thrown v_taped v_state v_operations v_changes v_sessions v_begun v_isChosen v_chosenMany f_many f_bytes f_kinds f_modes f_times f_paths f_contentAt f_contents f_path (upd f_content i z) f_ready f_tape f_sessionTime f_sessionChanges f_chosen) → W p l e R s m args below meth c H1 locs1 cells slots Q (F0 m (pc + 1) ls rest)) : W p l e R s m args below meth c H locs cells slots Q (F0 m pc ls (.int z :: .int (nI i) :: .ref (q 9) :: rest)) := by
  refine va_iast (a := q 9) hC.1 hC.2.1 hC.2.2.2.2.2.1 hR.1 hR.2.1 hR.2.2 10 1 (cA := cI) (n := 368000) (f := f_content) rfl hC.2.2.2.2.2.2 (vp_in_nI hi (by decide)) hdg ?_
  rw [nI_clamp (Nat.lt_trans hi (by decide))]; exact fun H1 locs1 hP hD hS => kk H1 locs1 ⟨hP, hD, hS⟩
theorem rl_ready {i : Nat} (hC : rC p s m args c cc G tys cI Ts) (hP : va_P G vwCl (rwx cI x q v_thrown v_taped v_state v_operations v_changes v_sessions v_begun v_isChosen v_chosenMany f_many f_bytes f_kinds f_modes f_times f_paths f_contentAt f_contents f_path f_content f_ready f_tape f_sessionTime f_sessionChanges f_chosen) H) (hi : i < 20) (hdg : decode cc pc = .ok (.iaload, 1)) (kk : W p l e R s m args below meth c H locs cells slots Q (F0 m (pc + 1) ls (.int (f_ready i) :: rest))) : W p l e R s m args below meth c H locs cells slots Q (F0 m pc ls (.int (nI i) :: .ref (q 10) :: rest)) := by
  refine va_iald (a := q 10) hC.1 hC.2.1 hC.2.2.2.2.2.1 hP 11 1 (cA := cI) (n := 20) (f := f_ready) rfl hC.2.2.2.2.2.2 (vp_in_nI hi (by decide)) hdg ?_
  rw [nI_clamp (Nat.lt_trans hi (by decide))]; exact kk
theorem rs_ready {i : Nat} {z : Int32} (hC : rC p s m args c cc G tys cI Ts) (hR : rR G A H0 H locs (rwx cI x q v_thrown v_taped v_state v_operations v_changes v_sessions v_begun v_isChosen v_chosenMany f_many f_bytes f_kinds f_modes f_times f_paths f_contentAt f_contents f_path f_content f_ready f_tape f_sessionTime f_sessionChanges f_chosen)) (hi : i < 20) (hdg : decode cc pc = .ok (.iastore, 1)) (kk : ∀ (H1 : Heap) (locs1 : List Loc), rR G A H0 H1 locs1 (rwx cI x q v_thrown v_taped v_state v_operations v_changes v_sessions v_begun v_isChosen v_chosenMany f_many f_bytes f_kinds f_modes f_times f_paths f_contentAt f_contents f_path f_content (upd f_ready i z) f_tape f_sessionTime f_sessionChanges f_chosen) → W p l e R s m args below meth c H1 locs1 cells slots Q (F0 m (pc + 1) ls rest)) : W p l e R s m args below meth c H locs cells slots Q (F0 m pc ls (.int z :: .int (nI i) :: .ref (q 10) :: rest)) := by
  refine va_iast (a := q 10) hC.1 hC.2.1 hC.2.2.2.2.2.1 hR.1 hR.2.1 hR.2.2 11 1 (cA := cI) (n := 20) (f := f_ready) rfl hC.2.2.2.2.2.2 (vp_in_nI hi (by decide)) hdg ?_
  rw [nI_clamp (Nat.lt_trans hi (by decide))]; exact fun H1 locs1 hP hD hS => kk H1 locs1 ⟨hP, hD, hS⟩
theorem rl_tape {i : Nat} (hC : rC p s m args c cc G tys cI Ts) (hP : va_P G vwCl (rwx cI x q v_thrown v_taped v_state v_operations v_changes v_sessions v_begun v_isChosen v_chosenMany f_many f_bytes f_kinds f_modes f_times f_paths f_contentAt f_contents f_path f_content f_ready f_tape f_sessionTime f_sessionChanges f_chosen) H) (hi : i < 400) (hdg : decode cc pc = .ok (.iaload, 1)) (kk : W p l e R s m args below meth c H locs cells slots Q (F0 m (pc + 1) ls (.int (f_tape i) :: rest))) : W p l e R s m args below meth c H locs cells slots Q (F0 m pc ls (.int (nI i) :: .ref (q 11) :: rest)) := by
  refine va_iald (a := q 11) hC.1 hC.2.1 hC.2.2.2.2.2.1 hP 12 1 (cA := cI) (n := 400) (f := f_tape) rfl hC.2.2.2.2.2.2 (vp_in_nI hi (by decide)) hdg ?_
  rw [nI_clamp (Nat.lt_trans hi (by decide))]; exact kk
theorem rs_tape {i : Nat} {z : Int32} (hC : rC p s m args c cc G tys cI Ts) (hR : rR G A H0 H locs (rwx cI x q v_thrown v_taped v_state v_operations v_changes v_sessions v_begun v_isChosen v_chosenMany f_many f_bytes f_kinds f_modes f_times f_paths f_contentAt f_contents f_path f_content f_ready f_tape f_sessionTime f_sessionChanges f_chosen)) (hi : i < 400) (hdg : decode cc pc = .ok (.iastore, 1)) (kk : ∀ (H1 : Heap) (locs1 : List Loc), rR G A H0 H1 locs1 (rwx cI x q v_thrown v_taped v_state v_operations v_changes v_sessions v_begun v_isChosen v_chosenMany f_many f_bytes f_kinds f_modes f_times f_paths f_contentAt f_contents f_path f_content f_ready (upd f_tape i z) f_sessionTime f_sessionChanges f_chosen) → W p l e R s m args below meth c H1 locs1 cells slots Q (F0 m (pc + 1) ls rest)) : W p l e R s m args below meth c H locs cells slots Q (F0 m pc ls (.int z :: .int (nI i) :: .ref (q 11) :: rest)) := by
  refine va_iast (a := q 11) hC.1 hC.2.1 hC.2.2.2.2.2.1 hR.1 hR.2.1 hR.2.2 12 1 (cA := cI) (n := 400) (f := f_tape) rfl hC.2.2.2.2.2.2 (vp_in_nI hi (by decide)) hdg ?_
  rw [nI_clamp (Nat.lt_trans hi (by decide))]; exact fun H1 locs1 hP hD hS => kk H1 locs1 ⟨hP, hD, hS⟩
theorem rl_sessionTime {i : Nat} (hC : rC p s m args c cc G tys cI Ts) (hP : va_P G vwCl (rwx cI x q v_thrown v_taped v_state v_operations v_changes v_sessions v_begun v_isChosen v_chosenMany f_many f_bytes f_kinds f_modes f_times f_paths f_contentAt f_contents f_path f_content f_ready f_tape f_sessionTime f_sessionChanges f_chosen) H) (hi : i < 40) (hdg : decode cc pc = .ok (.iaload, 1)) (kk : W p l e R s m args below meth c H locs cells slots Q (F0 m (pc + 1) ls (.int (f_sessionTime i) :: rest))) : W p l e R s m args below meth c H locs cells slots Q (F0 m pc ls (.int (nI i) :: .ref (q 12) :: rest)) := by
  refine va_iald (a := q 12) hC.1 hC.2.1 hC.2.2.2.2.2.1 hP 13 1 (cA := cI) (n := 40) (f := f_sessionTime) rfl hC.2.2.2.2.2.2 (vp_in_nI hi (by decide)) hdg ?_
  rw [nI_clamp (Nat.lt_trans hi (by decide))]; exact kk
theorem rs_sessionTime {i : Nat} {z : Int32} (hC : rC p s m args c cc G tys cI Ts) (hR : rR G A H0 H locs (rwx cI x q v_thrown v_taped v_state v_operations v_changes v_sessions v_begun v_isChosen v_chosenMany f_many f_bytes f_kinds f_modes f_times f_paths f_contentAt f_contents f_path f_content f_ready f_tape f_sessionTime f_sessionChanges f_chosen)) (hi : i < 40) (hdg : decode cc pc = .ok (.iastore, 1)) (kk : ∀ (H1 : Heap) (locs1 : List Loc), rR G A H0 H1 locs1 (rwx cI x q v_thrown v_taped v_state v_operations v_changes v_sessions v_begun v_isChosen v_chosenMany f_many f_bytes f_kinds f_modes f_times f_paths f_contentAt f_contents f_path f_content f_ready f_tape (upd f_sessionTime i z) f_sessionChanges f_chosen) → W p l e R s m args below meth c H1 locs1 cells slots Q (F0 m (pc + 1) ls rest)) : W p l e R s m args below meth c H locs cells slots Q (F0 m pc ls (.int z :: .int (nI i) :: .ref (q 12) :: rest)) := by
  refine va_iast (a := q 12) hC.1 hC.2.1 hC.2.2.2.2.2.1 hR.1 hR.2.1 hR.2.2 13 1 (cA := cI) (n := 40) (f := f_sessionTime) rfl hC.2.2.2.2.2.2 (vp_in_nI hi (by decide)) hdg ?_
  rw [nI_clamp (Nat.lt_trans hi (by decide))]; exact fun H1 locs1 hP hD hS => kk H1 locs1 ⟨hP, hD, hS⟩
theorem rl_sessionChanges {i : Nat} (hC : rC p s m args c cc G tys cI Ts) (hP : va_P G vwCl (rwx cI x q v_thrown v_taped v_state v_operations v_changes v_sessions v_begun v_isChosen v_chosenMany f_many f_bytes f_kinds f_modes f_times f_paths f_contentAt f_contents f_path f_content f_ready f_tape f_sessionTime f_sessionChanges f_chosen) H) (hi : i < 40) (hdg : decode cc pc = .ok (.iaload, 1)) (kk : W p l e R s m args below meth c H locs cells slots Q (F0 m (pc + 1) ls (.int (f_sessionChanges i) :: rest))) : W p l e R s m args below meth c H locs cells slots Q (F0 m pc ls (.int (nI i) :: .ref (q 13) :: rest)) := by
  refine va_iald (a := q 13) hC.1 hC.2.1 hC.2.2.2.2.2.1 hP 14 1 (cA := cI) (n := 40) (f := f_sessionChanges) rfl hC.2.2.2.2.2.2 (vp_in_nI hi (by decide)) hdg ?_
  rw [nI_clamp (Nat.lt_trans hi (by decide))]; exact kk
theorem rs_sessionChanges {i : Nat} {z : Int32} (hC : rC p s m args c cc G tys cI Ts) (hR : rR G A H0 H locs (rwx cI x q v_thrown v_taped v_state v_operations v_changes v_sessions v_begun v_isChosen v_chosenMany f_many f_bytes f_kinds f_modes f_times f_paths f_contentAt f_contents f_path f_content f_ready f_tape f_sessionTime f_sessionChanges f_chosen)) (hi : i < 40) (hdg : decode cc pc = .ok (.iastore, 1)) (kk : ∀ (H1 : Heap) (locs1 : List Loc), rR G A H0 H1 locs1 (rwx cI x q v_thrown v_taped v_state v_operations v_changes v_sessions v_begun v_isChosen v_chosenMany f_many f_bytes f_kinds f_modes f_times f_paths f_contentAt f_contents f_path f_content f_ready f_tape f_sessionTime (upd f_sessionChanges i z) f_chosen) → W p l e R s m args below meth c H1 locs1 cells slots Q (F0 m (pc + 1) ls rest)) : W p l e R s m args below meth c H locs cells slots Q (F0 m pc ls (.int z :: .int (nI i) :: .ref (q 13) :: rest)) := by
  refine va_iast (a := q 13) hC.1 hC.2.1 hC.2.2.2.2.2.1 hR.1 hR.2.1 hR.2.2 14 1 (cA := cI) (n := 40) (f := f_sessionChanges) rfl hC.2.2.2.2.2.2 (vp_in_nI hi (by decide)) hdg ?_
  rw [nI_clamp (Nat.lt_trans hi (by decide))]; exact fun H1 locs1 hP hD hS => kk H1 locs1 ⟨hP, hD, hS⟩
theorem rl_chosen {i : Nat} (hC : rC p s m args c cc G tys cI Ts) (hP : va_P G vwCl (rwx cI x q v_thrown v_taped v_state v_operations v_changes v_sessions v_begun v_isChosen v_chosenMany f_many f_bytes f_kinds f_modes f_times f_paths f_contentAt f_contents f_path f_content f_ready f_tape f_sessionTime f_sessionChanges f_chosen) H) (hi : i < 150) (hdg : decode cc pc = .ok (.iaload, 1)) (kk : W p l e R s m args below meth c H locs cells slots Q (F0 m (pc + 1) ls (.int (f_chosen i) :: rest))) : W p l e R s m args below meth c H locs cells slots Q (F0 m pc ls (.int (nI i) :: .ref (q 14) :: rest)) := by
  refine va_iald (a := q 14) hC.1 hC.2.1 hC.2.2.2.2.2.1 hP 15 1 (cA := cI) (n := 150) (f := f_chosen) rfl hC.2.2.2.2.2.2 (vp_in_nI hi (by decide)) hdg ?_
  rw [nI_clamp (Nat.lt_trans hi (by decide))]; exact kk
theorem rs_chosen {i : Nat} {z : Int32} (hC : rC p s m args c cc G tys cI Ts) (hR : rR G A H0 H locs (rwx cI x q v_thrown v_taped v_state v_operations v_changes v_sessions v_begun v_isChosen v_chosenMany f_many f_bytes f_kinds f_modes f_times f_paths f_contentAt f_contents f_path f_content f_ready f_tape f_sessionTime f_sessionChanges f_chosen)) (hi : i < 150) (hdg : decode cc pc = .ok (.iastore, 1)) (kk : ∀ (H1 : Heap) (locs1 : List Loc), rR G A H0 H1 locs1 (rwx cI x q v_thrown v_taped v_state v_operations v_changes v_sessions v_begun v_isChosen v_chosenMany f_many f_bytes f_kinds f_modes f_times f_paths f_contentAt f_contents f_path f_content f_ready f_tape f_sessionTime f_sessionChanges (upd f_chosen i z)) → W p l e R s m args below meth c H1 locs1 cells slots Q (F0 m (pc + 1) ls rest)) : W p l e R s m args below meth c H locs cells slots Q (F0 m pc ls (.int z :: .int (nI i) :: .ref (q 14) :: rest)) := by
  refine va_iast (a := q 14) hC.1 hC.2.1 hC.2.2.2.2.2.1 hR.1 hR.2.1 hR.2.2 15 1 (cA := cI) (n := 150) (f := f_chosen) rfl hC.2.2.2.2.2.2 (vp_in_nI hi (by decide)) hdg ?_
  rw [nI_clamp (Nat.lt_trans hi (by decide))]; exact fun H1 locs1 hP hD hS => kk H1 locs1 ⟨hP, hD, hS⟩
theorem r_recv (hK : va_K G vwCl tys s) (hP : va_P G vwCl (rwx cI x q v_thrown v_taped v_state v_operations v_changes v_sessions v_begun v_isChosen v_chosenMany f_many f_bytes f_kinds f_modes f_times f_paths f_contentAt f_contents f_path f_content f_ready f_tape f_sessionTime f_sessionChanges f_chosen) H) : ∃ cell : Cell, H[x]? = some cell ∧ cell.vm.isStatics = false ∧ s.vm.findClass RX9 = some cell.cls := va_recv hK hP (ci := 8) (q0 := 0) rfl rfl
end RFA
end
section
/-! Pure rows. -/
theorem cpy_0 {α : Type} (f g : Nat → α) (sp dp : Nat) : va_cpy f g sp dp 0 = g := by
  funext j
  exact pk_cpy_out (by omega)
theorem cpy_step (f : Nat → Int32) (sp dp k : Nat) (h : sp + k < dp ∨ dp ≤ sp) : upd (va_cpy f f sp dp k) (dp + k) (va_cpy f f sp dp k (sp + k)) = va_cpy f f sp dp (k + 1) := by
  have h1 : va_cpy f f sp dp k (sp + k) = f (sp + k) := pk_cpy_out (by omega)
  rw [h1]
  funext j
  by_cases hj : j = dp + k
  · subst hj
    rw [pk_us, pk_cpy_in (by omega) (by omega)]
    congr 1; omega
  · rw [pk_un hj]
    by_cases hin : dp ≤ j ∧ j < dp + k
    · rw [pk_cpy_in hin.1 hin.2, pk_cpy_in hin.1 (by omega)]
    · rw [pk_cpy_out (by omega), pk_cpy_out (by omega)]
end
section
set_option maxHeartbeats 4000000 in
set_option maxRecDepth 100000 in
theorem m_place (l : Launch) {G : va_G} {tys : List (ClassId × FieldType)} {cI : ClassId} (hT : tys[1]? = some (cI, .int)) (t i : Nat) : pMet l yX9_place wsX9_place ({ frames := 0, cells := 0, slots := 0, locals := 0 } : Room) G tys [.int (nI t), .int (nI i)] [] (fun r => r = .int (nI (120 * t + i))) := by
  refine Met.ofW (cc := cX9_place) (maxL := 2) (ret := (some .int)) (by decide) rfl ?_
  intro p e s m args below meth c s₁ B hml hv
  obtain ⟨hargs, hP, hK⟩ := hv
  have hx := B.exec
  have hb := B.bytes
  have hr := B.returns
  have hts := atoms_spec (ws := wsX9_place) B.pre
  have hown : s.vm.findClass RX9 = some m.cls := findClass_of_methodNamed B.named
  have hlocks := B.notSynchronized
  obtain ⟨Q, hQ⟩ : ∃ Q : State → Prop, Q = MQ below (pQ (fun r => r = .int (nI (120 * t + i)))) args s 0 0 (fun _ => False) := ⟨_, rfl⟩
  change W p l e ({ frames := 0, cells := 0, slots := 0, locals := 0 } : Room) s m args below meth c s.heap [] 0 0 (MQ below (pQ (fun r => r = .int (nI (120 * t + i)))) args s 0 0 (fun _ => False)) (entryFrame m args 2)
  rw [← hQ]
  refine nn_entry hargs (Nat.le_of_ble_eq_true rfl) (lv := [(0, .int (nI t)), (1, .int (nI i))]) rfl (fun ls hl => ?_)
  refine lv_bipush (v := nI 120) hx hb dX9_place_0 (by decide) ?_
  refine lv_iload_n hx hb dX9_place_2 rfl (lv_at hl 0 rfl) ?_
  refine nn_mul hx hb dX9_place_3 ?_
  refine lv_iload_n hx hb dX9_place_4 rfl (lv_at hl 1 rfl) ?_
  refine nn_add hx hb dX9_place_5 ?_
  rw [hQ]
  exact pf_iret hx hb hr hlocks rfl dX9_place_6
set_option maxHeartbeats 4000000 in
set_option maxRecDepth 100000 in
theorem m_empty0 (l : Launch) {G : va_G} {tys : List (ClassId × FieldType)} {cI : ClassId} (hT : tys[1]? = some (cI, .int)) {A : Nat → Prop} {x : Nat} {q : Nat → Nat} {v_thrown v_taped v_state v_operations v_changes v_sessions v_begun v_isChosen v_chosenMany : Int32} {f_many f_bytes f_kinds f_modes f_times f_paths f_contentAt f_contents f_path f_content f_ready f_tape f_sessionTime f_sessionChanges f_chosen : Nat → Int32} (t : Nat) (ht : t < 46) : rMet l yX9_empty wsX9_empty ({ frames := 0, cells := 0, slots := 0, locals := 0 } : Room) G tys A [.ref x, .int (nI t)] (rwx cI x q v_thrown v_taped v_state v_operations v_changes v_sessions v_begun v_isChosen v_chosenMany f_many f_bytes f_kinds f_modes f_times f_paths f_contentAt f_contents f_path f_content f_ready f_tape f_sessionTime f_sessionChanges f_chosen) (fun r w => r = none ∧ w = rwx cI x q v_thrown v_taped v_state v_operations v_changes v_sessions v_begun v_isChosen v_chosenMany (upd f_many t (nI 0)) (upd f_bytes t (nI 0)) f_kinds f_modes f_times f_paths f_contentAt f_contents f_path f_content f_ready f_tape f_sessionTime f_sessionChanges f_chosen) := by
  refine Met.ofW (cc := cX9_empty) (maxL := 2) (ret := none) (by decide) rfl ?_
  intro p e s m args below meth c s₁ B hml hv
  obtain ⟨hargs, hP, hK, hD⟩ := hv
  have hx := B.exec
  have hb := B.bytes
  have hr := B.returns
  have hts := atoms_spec (ws := wsX9_empty) B.pre
  have hown : s.vm.findClass RX9 = some m.cls := findClass_of_methodNamed B.named
  have hlocks := B.notSynchronized
  have hC : rC p s m args c cX9_empty G tys cI wsX9_empty := ⟨hx, hb, hts, (by decide +kernel), hown, hK, hT⟩
  have k_bytes := hts (.fieldLink RX9 13 "MirrorKeepModel" "bytes" "[I") (by decide +kernel)
  have k_many := hts (.fieldLink RX9 7 "MirrorKeepModel" "many" "[I") (by decide +kernel)
  have hR : rR G A s.heap s.heap [] (rwx cI x q v_thrown v_taped v_state v_operations v_changes v_sessions v_begun v_isChosen v_chosenMany f_many f_bytes f_kinds f_modes f_times f_paths f_contentAt f_contents f_path f_content f_ready f_tape f_sessionTime f_sessionChanges f_chosen) := ⟨hP, hD, va_S.rf⟩
  obtain ⟨Q, hQ⟩ : ∃ Q : State → Prop, Q = MQ below (rQ G A (fun r w => r = none ∧ w = rwx cI x q v_thrown v_taped v_state v_operations v_changes v_sessions v_begun v_isChosen v_chosenMany (upd f_many t (nI 0)) (upd f_bytes t (nI 0)) f_kinds f_modes f_times f_paths f_contentAt f_contents f_path f_content f_ready f_tape f_sessionTime f_sessionChanges f_chosen)) args s 0 0 A := ⟨_, rfl⟩
  change W p l e ({ frames := 0, cells := 0, slots := 0, locals := 0 } : Room) s m args below meth c s.heap [] 0 0 (MQ below (rQ G A (fun r w => r = none ∧ w = rwx cI x q v_thrown v_taped v_state v_operations v_changes v_sessions v_begun v_isChosen v_chosenMany (upd f_many t (nI 0)) (upd f_bytes t (nI 0)) f_kinds f_modes f_times f_paths f_contentAt f_contents f_path f_content f_ready f_tape f_sessionTime f_sessionChanges f_chosen)) args s 0 0 A) (entryFrame m args 2)
  rw [← hQ]
  refine nn_entry hargs (Nat.le_of_ble_eq_true rfl) (lv := [(0, .ref x), (1, .int (nI t))]) rfl (fun ls hl => ?_)
  refine lv_aload_n hx hb dX9_empty_0 rfl (lv_at hl 0 rfl) ?_
  refine rg_many hC hR.1 k_many dX9_empty_1 ?_
  refine lv_iload_n hx hb dX9_empty_4 rfl (lv_at hl 1 rfl) ?_
  refine lv_iconst (v := nI 0) hx hb dX9_empty_5 rfl ?_
  refine rs_many hC hR (by omega) dX9_empty_6 (fun H locs hR => ?_)
  refine lv_aload_n hx hb dX9_empty_7 rfl (lv_at hl 0 rfl) ?_
  refine rg_bytes hC hR.1 k_bytes dX9_empty_8 ?_
  refine lv_iload_n hx hb dX9_empty_11 rfl (lv_at hl 1 rfl) ?_
  refine lv_iconst (v := nI 0) hx hb dX9_empty_12 rfl ?_
  refine rs_bytes hC hR (by omega) dX9_empty_13 (fun H locs hR => ?_)
  rw [hQ]
  exact rf_vret hx hb hr hlocks hR ⟨rfl, rfl⟩ dX9_empty_14
set_option maxHeartbeats 4000000 in
set_option maxRecDepth 100000 in
theorem m_append0 (l : Launch) {G : va_G} {tys : List (ClassId × FieldType)} {cI : ClassId} (hT : tys[1]? = some (cI, .int)) {A : Nat → Prop} {x : Nat} {q : Nat → Nat} {v_thrown v_taped v_state v_operations v_changes v_sessions v_begun v_isChosen v_chosenMany : Int32} {f_many f_bytes f_kinds f_modes f_times f_paths f_contentAt f_contents f_path f_content f_ready f_tape f_sessionTime f_sessionChanges f_chosen : Nat → Int32} (fr i to mt pl cl ca bt : Nat) (hfr : fr < 46) (hto : to < 46) (hne : fr ≠ to) (hi : i < 120) (hm : f_many to = nI mt) (hmt : mt < 120) (hp : f_paths (120 * fr + i) = nI pl) (hpl : pl ≤ 150) (hc : f_contents (120 * fr + i) = nI cl) (hca : f_contentAt (120 * fr + i) = nI ca) (hbt : f_bytes to = nI bt) (h1 : ca + cl ≤ 8000) (h2 : bt + cl ≤ 8000) : rMet l yX9_append wsX9_append ({ frames := 1, cells := 0, slots := 0, locals := 21 } : Room) G tys A [.ref x, .int (nI fr), .int (nI i), .int (nI to)] (rwx cI x q v_thrown v_taped v_state v_operations v_changes v_sessions v_begun v_isChosen v_chosenMany f_many f_bytes f_kinds f_modes f_times f_paths f_contentAt f_contents f_path f_content f_ready f_tape f_sessionTime f_sessionChanges f_chosen) (fun r w => r = none ∧ w = rwx cI x q v_thrown v_taped v_state v_operations v_changes v_sessions v_begun v_isChosen v_chosenMany (upd f_many to (nI (mt + 1))) (upd f_bytes to (nI (bt + cl))) (upd f_kinds (120 * to + mt) (f_kinds (120 * fr + i))) (upd f_modes (120 * to + mt) (f_modes (120 * fr + i))) (upd f_times (120 * to + mt) (f_times (120 * fr + i))) (upd f_paths (120 * to + mt) (nI pl)) (upd f_contentAt (120 * to + mt) (nI bt)) (upd f_contents (120 * to + mt) (nI cl)) (va_cpy f_path f_path (150 * (120 * fr + i)) (150 * (120 * to + mt)) pl) (va_cpy f_content f_content (8000 * fr + ca) (8000 * to + bt) cl) f_ready f_tape f_sessionTime f_sessionChanges f_chosen) := by
  refine Met.ofW (cc := cX9_append) (maxL := 7) (ret := none) (by decide) rfl ?_
  intro p e s m args below meth c s₁ B hml hv
  obtain ⟨hargs, hP, hK, hD⟩ := hv
  have hx := B.exec
  have hb := B.bytes
  have hr := B.returns
  have hts := atoms_spec (ws := wsX9_append) B.pre
  have hown : s.vm.findClass RX9 = some m.cls := findClass_of_methodNamed B.named
  have hlocks := B.notSynchronized
  have hC : rC p s m args c cX9_append G tys cI wsX9_append := ⟨hx, hb, hts, (by decide +kernel), hown, hK, hT⟩
  have k_bytes := hts (.fieldLink RX9 13 "MirrorKeepModel" "bytes" "[I") (by decide +kernel)
  have k_content := hts (.fieldLink RX9 39 "MirrorKeepModel" "content" "[I") (by decide +kernel)
  have k_contentAt := hts (.fieldLink RX9 28 "MirrorKeepModel" "contentAt" "[I") (by decide +kernel)
  have k_contents := hts (.fieldLink RX9 31 "MirrorKeepModel" "contents" "[I") (by decide +kernel)
  have k_kinds := hts (.fieldLink RX9 16 "MirrorKeepModel" "kinds" "[I") (by decide +kernel)
  have k_many := hts (.fieldLink RX9 7 "MirrorKeepModel" "many" "[I") (by decide +kernel)
  have k_modes := hts (.fieldLink RX9 19 "MirrorKeepModel" "modes" "[I") (by decide +kernel)
  have k_path := hts (.fieldLink RX9 35 "MirrorKeepModel" "path" "[I") (by decide +kernel)
  have k_paths := hts (.fieldLink RX9 25 "MirrorKeepModel" "paths" "[I") (by decide +kernel)
  have k_times := hts (.fieldLink RX9 22 "MirrorKeepModel" "times" "[I") (by decide +kernel)
  have hR : rR G A s.heap s.heap [] (rwx cI x q v_thrown v_taped v_state v_operations v_changes v_sessions v_begun v_isChosen v_chosenMany f_many f_bytes f_kinds f_modes f_times f_paths f_contentAt f_contents f_path f_content f_ready f_tape f_sessionTime f_sessionChanges f_chosen) := ⟨hP, hD, va_S.rf⟩
  obtain ⟨Q, hQ⟩ : ∃ Q : State → Prop, Q = MQ below (rQ G A (fun r w => r = none ∧ w = rwx cI x q v_thrown v_taped v_state v_operations v_changes v_sessions v_begun v_isChosen v_chosenMany (upd f_many to (nI (mt + 1))) (upd f_bytes to (nI (bt + cl))) (upd f_kinds (120 * to + mt) (f_kinds (120 * fr + i))) (upd f_modes (120 * to + mt) (f_modes (120 * fr + i))) (upd f_times (120 * to + mt) (f_times (120 * fr + i))) (upd f_paths (120 * to + mt) (nI pl)) (upd f_contentAt (120 * to + mt) (nI bt)) (upd f_contents (120 * to + mt) (nI cl)) (va_cpy f_path f_path (150 * (120 * fr + i)) (150 * (120 * to + mt)) pl) (va_cpy f_content f_content (8000 * fr + ca) (8000 * to + bt) cl) f_ready f_tape f_sessionTime f_sessionChanges f_chosen)) args s 0 0 A := ⟨_, rfl⟩
  change W p l e ({ frames := 1, cells := 0, slots := 0, locals := 21 } : Room) s m args below meth c s.heap [] 0 0 (MQ below (rQ G A (fun r w => r = none ∧ w = rwx cI x q v_thrown v_taped v_state v_operations v_changes v_sessions v_begun v_isChosen v_chosenMany (upd f_many to (nI (mt + 1))) (upd f_bytes to (nI (bt + cl))) (upd f_kinds (120 * to + mt) (f_kinds (120 * fr + i))) (upd f_modes (120 * to + mt) (f_modes (120 * fr + i))) (upd f_times (120 * to + mt) (f_times (120 * fr + i))) (upd f_paths (120 * to + mt) (nI pl)) (upd f_contentAt (120 * to + mt) (nI bt)) (upd f_contents (120 * to + mt) (nI cl)) (va_cpy f_path f_path (150 * (120 * fr + i)) (150 * (120 * to + mt)) pl) (va_cpy f_content f_content (8000 * fr + ca) (8000 * to + bt) cl) f_ready f_tape f_sessionTime f_sessionChanges f_chosen)) args s 0 0 A) (entryFrame m args 7)
  rw [← hQ]
  refine nn_entry hargs (Nat.le_of_ble_eq_true rfl) (lv := [(0, .ref x), (1, .int (nI fr)), (2, .int (nI i)), (3, .int (nI to))]) rfl (fun ls hl => ?_)
  have hab : 120 * fr + i ≠ 120 * to + mt := by omega
  refine lv_iload_n hx hb dX9_append_0 rfl (lv_at hl 1 rfl) ?_
  refine lv_iload_n hx hb dX9_append_1 rfl (lv_at hl 2 rfl) ?_
  refine pf_callS (As := [.int (nI fr), .int (nI i)]) (rest := []) (m_place l hT fr i) ⟨hx, hb, hml, hown, hts⟩ (va_cwS 2 hts gX9_append_X9_place rfl rfl rfl (by decide +kernel) ⟨Nat.le_of_ble_eq_true rfl, Nat.le_of_ble_eq_true rfl⟩) hK nn_nil rfl hl.1 rfl (Nat.le_of_ble_eq_true rfl) dX9_append_2 ⟨Nat.le_of_ble_eq_true rfl, Nat.le_of_ble_eq_true rfl⟩ (fun r_1 hr_1 => ?_)
  subst hr_1
  refine lv_istore (lv' := [(4, .int (nI (120 * fr + i))), (0, .ref x), (1, .int (nI fr)), (2, .int (nI i)), (3, .int (nI to))]) hx hb dX9_append_5 hl (by decide) rfl (fun ls hl => ?_)
  refine lv_iload_n hx hb dX9_append_7 rfl (lv_at hl 4 rfl) ?_
  refine lv_aload_n hx hb dX9_append_8 rfl (lv_at hl 1 rfl) ?_
  refine rg_many hC hR.1 k_many dX9_append_9 ?_
  refine lv_iload_n hx hb dX9_append_12 rfl (lv_at hl 4 rfl) ?_
  refine rl_many hC hR.1 (by omega) dX9_append_13 ?_
  refine nn_eqi (y := nI mt) hm ?_
  refine pf_callS (As := [.int (nI to), .int (nI mt)]) (rest := []) (m_place l hT to mt) ⟨hx, hb, hml, hown, hts⟩ (va_cwS 2 hts gX9_append_X9_place rfl rfl rfl (by decide +kernel) ⟨Nat.le_of_ble_eq_true rfl, Nat.le_of_ble_eq_true rfl⟩) hK nn_nil rfl hl.1 rfl (Nat.le_of_ble_eq_true rfl) dX9_append_14 ⟨Nat.le_of_ble_eq_true rfl, Nat.le_of_ble_eq_true rfl⟩ (fun r_2 hr_2 => ?_)
  subst hr_2
  refine lv_istore (lv' := [(5, .int (nI (120 * to + mt))), (4, .int (nI (120 * fr + i))), (0, .ref x), (1, .int (nI fr)), (2, .int (nI i)), (3, .int (nI to))]) hx hb dX9_append_17 hl (by decide) rfl (fun ls hl => ?_)
  refine lv_aload_n hx hb dX9_append_19 rfl (lv_at hl 2 rfl) ?_
  refine rg_kinds hC hR.1 k_kinds dX9_append_20 ?_
  refine lv_iload hx hb dX9_append_23 (lv_at hl 0 rfl) ?_
  refine lv_aload_n hx hb dX9_append_25 rfl (lv_at hl 2 rfl) ?_
  refine rg_kinds hC hR.1 k_kinds dX9_append_26 ?_
  refine lv_iload hx hb dX9_append_29 (lv_at hl 1 rfl) ?_
  refine rl_kinds hC hR.1 (by omega) dX9_append_31 ?_
  refine rs_kinds hC hR (by omega) dX9_append_32 (fun H locs hR => ?_)
  refine lv_aload_n hx hb dX9_append_33 rfl (lv_at hl 2 rfl) ?_
  refine rg_modes hC hR.1 k_modes dX9_append_34 ?_
  refine lv_iload hx hb dX9_append_37 (lv_at hl 0 rfl) ?_
  refine lv_aload_n hx hb dX9_append_39 rfl (lv_at hl 2 rfl) ?_
  refine rg_modes hC hR.1 k_modes dX9_append_40 ?_
  refine lv_iload hx hb dX9_append_43 (lv_at hl 1 rfl) ?_
  refine rl_modes hC hR.1 (by omega) dX9_append_45 ?_
  refine rs_modes hC hR (by omega) dX9_append_46 (fun H locs hR => ?_)
  refine lv_aload_n hx hb dX9_append_47 rfl (lv_at hl 2 rfl) ?_
  refine rg_times hC hR.1 k_times dX9_append_48 ?_
  refine lv_iload hx hb dX9_append_51 (lv_at hl 0 rfl) ?_
  refine lv_aload_n hx hb dX9_append_53 rfl (lv_at hl 2 rfl) ?_
  refine rg_times hC hR.1 k_times dX9_append_54 ?_
  refine lv_iload hx hb dX9_append_57 (lv_at hl 1 rfl) ?_
  refine rl_times hC hR.1 (by omega) dX9_append_59 ?_
  refine rs_times hC hR (by omega) dX9_append_60 (fun H locs hR => ?_)
  refine lv_aload_n hx hb dX9_append_61 rfl (lv_at hl 2 rfl) ?_
  refine rg_paths hC hR.1 k_paths dX9_append_62 ?_
  refine lv_iload hx hb dX9_append_65 (lv_at hl 0 rfl) ?_
  refine lv_aload_n hx hb dX9_append_67 rfl (lv_at hl 2 rfl) ?_
  refine rg_paths hC hR.1 k_paths dX9_append_68 ?_
  refine lv_iload hx hb dX9_append_71 (lv_at hl 1 rfl) ?_
  refine rl_paths hC hR.1 (by omega) dX9_append_73 ?_
  refine nn_eqi (y := nI pl) hp ?_
  refine rs_paths hC hR (by omega) dX9_append_74 (fun H locs hR => ?_)
  refine lv_iconst (v := nI 0) hx hb dX9_append_75 rfl ?_
  refine lv_istore (lv' := [(6, .int (nI 0)), (5, .int (nI (120 * to + mt))), (4, .int (nI (120 * fr + i))), (0, .ref x), (1, .int (nI fr)), (2, .int (nI i)), (3, .int (nI to))]) hx hb dX9_append_76 hl (by decide) rfl (fun ls hl => ?_)
  have lp_78 : ∀ (n_78 : Nat) (k : Nat) (fp : Nat → Int32) (H : Heap) (locs : List Loc) (ls : Array Slot), (pl - k) < n_78 → (k ≤ pl) → (fp = va_cpy f_path f_path (150 * (120 * fr + i)) (150 * (120 * to + mt)) k) → rR G A s.heap H locs (rwx cI x q v_thrown v_taped v_state v_operations v_changes v_sessions v_begun v_isChosen v_chosenMany f_many f_bytes (upd f_kinds (120 * to + mt) (f_kinds (120 * fr + i))) (upd f_modes (120 * to + mt) (f_modes (120 * fr + i))) (upd f_times (120 * to + mt) (f_times (120 * fr + i))) (upd f_paths (120 * to + mt) (nI pl)) f_contentAt f_contents fp f_content f_ready f_tape f_sessionTime f_sessionChanges f_chosen) → lv_has ls 7 [(6, .int (nI k)), (5, .int (nI (120 * to + mt))), (4, .int (nI (120 * fr + i))), (0, .ref x), (1, .int (nI fr)), (2, .int (nI i)), (3, .int (nI to))] → W p l e ({ frames := 1, cells := 0, slots := 0, locals := 21 } : Room) s m args below meth c H locs 0 0 Q (F0 m 78 ls []) := by
    intro n_78
    induction n_78 with
    | zero => intro k fp H locs ls h0; exact absurd h0 (Nat.not_lt_zero _)
    | succ n_78 ih_78 =>
      intro k fp H locs ls hm_78 hk hfp hR hl
      refine lv_iload hx hb dX9_append_78 (lv_at hl 0 rfl) ?_
      refine lv_aload_n hx hb dX9_append_80 rfl (lv_at hl 3 rfl) ?_
      refine rg_paths hC hR.1 k_paths dX9_append_81 ?_
      refine lv_iload hx hb dX9_append_84 (lv_at hl 2 rfl) ?_
      refine rl_paths hC hR.1 (by omega) dX9_append_86 ?_
      refine nn_eqi (y := nI pl) (by rw [pk_un hab]; exact hp) ?_
      refine nn_ge hx hb dX9_append_87 (tgt := 124) (by decide) (by omega) (by omega) (fun c_3 => ?_) (fun c_3 => ?_)
      · have hk1 : k = pl := by omega
        refine lv_aload_n hx hb dX9_append_124 rfl (lv_at hl 3 rfl) ?_
        refine rg_contents hC hR.1 k_contents dX9_append_125 ?_
        refine lv_iload hx hb dX9_append_128 (lv_at hl 1 rfl) ?_
        refine lv_aload_n hx hb dX9_append_130 rfl (lv_at hl 3 rfl) ?_
        refine rg_contents hC hR.1 k_contents dX9_append_131 ?_
        refine lv_iload hx hb dX9_append_134 (lv_at hl 2 rfl) ?_
        refine rl_contents hC hR.1 (by omega) dX9_append_136 ?_
        refine nn_eqi (y := nI cl) hc ?_
        refine rs_contents hC hR (by omega) dX9_append_137 (fun H locs hR => ?_)
        refine lv_aload_n hx hb dX9_append_138 rfl (lv_at hl 3 rfl) ?_
        refine rg_contentAt hC hR.1 k_contentAt dX9_append_139 ?_
        refine lv_iload hx hb dX9_append_142 (lv_at hl 1 rfl) ?_
        refine lv_aload_n hx hb dX9_append_144 rfl (lv_at hl 3 rfl) ?_
        refine rg_bytes hC hR.1 k_bytes dX9_append_145 ?_
        refine lv_iload_n hx hb dX9_append_148 rfl (lv_at hl 6 rfl) ?_
        refine rl_bytes hC hR.1 (by omega) dX9_append_149 ?_
        refine nn_eqi (y := nI bt) hbt ?_
        refine rs_contentAt hC hR (by omega) dX9_append_150 (fun H locs hR => ?_)
        refine lv_iconst (v := nI 0) hx hb dX9_append_151 rfl ?_
        refine lv_istore (lv' := [(6, .int (nI 0)), (5, .int (nI (120 * to + mt))), (4, .int (nI (120 * fr + i))), (0, .ref x), (1, .int (nI fr)), (2, .int (nI i)), (3, .int (nI to))]) hx hb dX9_append_152 hl (by decide) rfl (fun ls hl => ?_)
        have lp_154 : ∀ (n_154 : Nat) (k2 : Nat) (fc : Nat → Int32) (H : Heap) (locs : List Loc) (ls : Array Slot), (cl - k2) < n_154 → (k2 ≤ cl) → (fc = va_cpy f_content f_content (8000 * fr + ca) (8000 * to + bt) k2) → rR G A s.heap H locs (rwx cI x q v_thrown v_taped v_state v_operations v_changes v_sessions v_begun v_isChosen v_chosenMany f_many f_bytes (upd f_kinds (120 * to + mt) (f_kinds (120 * fr + i))) (upd f_modes (120 * to + mt) (f_modes (120 * fr + i))) (upd f_times (120 * to + mt) (f_times (120 * fr + i))) (upd f_paths (120 * to + mt) (nI pl)) (upd f_contentAt (120 * to + mt) (nI bt)) (upd f_contents (120 * to + mt) (nI cl)) fp fc f_ready f_tape f_sessionTime f_sessionChanges f_chosen) → lv_has ls 7 [(6, .int (nI k2)), (5, .int (nI (120 * to + mt))), (4, .int (nI (120 * fr + i))), (0, .ref x), (1, .int (nI fr)), (2, .int (nI i)), (3, .int (nI to))] → W p l e ({ frames := 1, cells := 0, slots := 0, locals := 21 } : Room) s m args below meth c H locs 0 0 Q (F0 m 154 ls []) := by
          intro n_154
          induction n_154 with
          | zero => intro k2 fc H locs ls h0; exact absurd h0 (Nat.not_lt_zero _)
          | succ n_154 ih_154 =>
            intro k2 fc H locs ls hm_154 hk3 hfc hR hl
            refine lv_iload hx hb dX9_append_154 (lv_at hl 0 rfl) ?_
            refine lv_aload_n hx hb dX9_append_156 rfl (lv_at hl 3 rfl) ?_
            refine rg_contents hC hR.1 k_contents dX9_append_157 ?_
            refine lv_iload hx hb dX9_append_160 (lv_at hl 2 rfl) ?_
            refine rl_contents hC hR.1 (by omega) dX9_append_162 ?_
            refine nn_eqi (y := nI cl) (by rw [pk_un hab]; exact hc) ?_
            refine nn_ge hx hb dX9_append_163 (tgt := 213) (by decide) (by omega) (by omega) (fun c_4 => ?_) (fun c_4 => ?_)
            · have hk2 : k2 = cl := by omega
              refine lv_aload_n hx hb dX9_append_213 rfl (lv_at hl 3 rfl) ?_
              refine rg_bytes hC hR.1 k_bytes dX9_append_214 ?_
              refine lv_iload_n hx hb dX9_append_217 rfl (lv_at hl 6 rfl) ?_
              refine lv_dup2_11 hx hb dX9_append_218 rfl rfl ?_
              refine rl_bytes hC hR.1 (by omega) dX9_append_219 ?_
              refine nn_eqi (y := nI bt) hbt ?_
              refine lv_aload_n hx hb dX9_append_220 rfl (lv_at hl 3 rfl) ?_
              refine rg_contents hC hR.1 k_contents dX9_append_221 ?_
              refine lv_iload hx hb dX9_append_224 (lv_at hl 2 rfl) ?_
              refine rl_contents hC hR.1 (by omega) dX9_append_226 ?_
              refine nn_eqi (y := nI cl) (by rw [pk_un hab]; exact hc) ?_
              refine nn_add hx hb dX9_append_227 ?_
              refine rs_bytes hC hR (by omega) dX9_append_228 (fun H locs hR => ?_)
              refine lv_aload_n hx hb dX9_append_229 rfl (lv_at hl 3 rfl) ?_
              refine rg_many hC hR.1 k_many dX9_append_230 ?_
              refine lv_iload_n hx hb dX9_append_233 rfl (lv_at hl 6 rfl) ?_
              refine lv_dup2_11 hx hb dX9_append_234 rfl rfl ?_
              refine rl_many hC hR.1 (by omega) dX9_append_235 ?_
              refine nn_eqi (y := nI mt) hm ?_
              refine lv_iconst (v := nI 1) hx hb dX9_append_236 rfl ?_
              refine nn_add hx hb dX9_append_237 ?_
              refine rs_many hC hR (by omega) dX9_append_238 (fun H locs hR => ?_)
              rw [hQ]
              exact rf_vret hx hb hr hlocks hR ⟨rfl, by rw [hfp, hfc, hk1, hk2]⟩ dX9_append_239
            · refine lv_aload_n hx hb dX9_append_166 rfl (lv_at hl 3 rfl) ?_
              refine rg_content hC hR.1 k_content dX9_append_167 ?_
              refine lv_sipush (v := nI 8000) hx hb dX9_append_170 (by decide) ?_
              refine lv_iload_n hx hb dX9_append_173 rfl (lv_at hl 6 rfl) ?_
              refine nn_mul hx hb dX9_append_174 ?_
              refine lv_aload_n hx hb dX9_append_175 rfl (lv_at hl 3 rfl) ?_
              refine rg_bytes hC hR.1 k_bytes dX9_append_176 ?_
              refine lv_iload_n hx hb dX9_append_179 rfl (lv_at hl 6 rfl) ?_
              refine rl_bytes hC hR.1 (by omega) dX9_append_180 ?_
              refine nn_eqi (y := nI bt) hbt ?_
              refine nn_add hx hb dX9_append_181 ?_
              refine lv_iload hx hb dX9_append_182 (lv_at hl 0 rfl) ?_
              refine nn_add hx hb dX9_append_184 ?_
              refine lv_aload_n hx hb dX9_append_185 rfl (lv_at hl 3 rfl) ?_
              refine rg_content hC hR.1 k_content dX9_append_186 ?_
              refine lv_sipush (v := nI 8000) hx hb dX9_append_189 (by decide) ?_
              refine lv_iload_n hx hb dX9_append_192 rfl (lv_at hl 4 rfl) ?_
              refine nn_mul hx hb dX9_append_193 ?_
              refine lv_aload_n hx hb dX9_append_194 rfl (lv_at hl 3 rfl) ?_
              refine rg_contentAt hC hR.1 k_contentAt dX9_append_195 ?_
              refine lv_iload hx hb dX9_append_198 (lv_at hl 2 rfl) ?_
              refine rl_contentAt hC hR.1 (by omega) dX9_append_200 ?_
              refine nn_eqi (y := nI ca) (by rw [pk_un hab]; exact hca) ?_
              refine nn_add hx hb dX9_append_201 ?_
              refine lv_iload hx hb dX9_append_202 (lv_at hl 0 rfl) ?_
              refine nn_add hx hb dX9_append_204 ?_
              refine rl_content hC hR.1 (by omega) dX9_append_205 ?_
              refine rs_content hC hR (by omega) dX9_append_206 (fun H locs hR => ?_)
              refine lv_iinc (v := nI (k2 + 1)) (lv' := [(6, .int (nI (k2 + 1))), (5, .int (nI (120 * to + mt))), (4, .int (nI (120 * fr + i))), (0, .ref x), (1, .int (nI fr)), (2, .int (nI i)), (3, .int (nI to))]) hx hb dX9_append_207 hl (k := 0) rfl (nI_add k2 1) (by decide) rfl (fun ls hl => ?_)
              refine lv_goto (tgt := 154) hx hb dX9_append_210 (by decide) ?_
              exact ih_154 (k2 + 1) (upd fc (((8000 * to) + bt) + k2) (fc (((8000 * fr) + ca) + k2))) _ _ _ (by omega) (by omega) (by rw [hfc]; exact cpy_step _ _ _ _ (by omega)) hR (lv_sub hl [0, 1, 2, 3, 4, 5, 6] rfl)
        exact lp_154 (((cl - 0)) + 1) 0 f_content _ _ _ (Nat.lt_succ_self _) (Nat.zero_le _) (cpy_0 _ _ _ _).symm hR (lv_sub hl [0, 1, 2, 3, 4, 5, 6] rfl)
      · refine lv_aload_n hx hb dX9_append_90 rfl (lv_at hl 3 rfl) ?_
        refine rg_path hC hR.1 k_path dX9_append_91 ?_
        refine lv_sipush (v := nI 150) hx hb dX9_append_94 (by decide) ?_
        refine lv_iload hx hb dX9_append_97 (lv_at hl 1 rfl) ?_
        refine nn_mul hx hb dX9_append_99 ?_
        refine lv_iload hx hb dX9_append_100 (lv_at hl 0 rfl) ?_
        refine nn_add hx hb dX9_append_102 ?_
        refine lv_aload_n hx hb dX9_append_103 rfl (lv_at hl 3 rfl) ?_
        refine rg_path hC hR.1 k_path dX9_append_104 ?_
        refine lv_sipush (v := nI 150) hx hb dX9_append_107 (by decide) ?_
        refine lv_iload hx hb dX9_append_110 (lv_at hl 2 rfl) ?_
        refine nn_mul hx hb dX9_append_112 ?_
        refine lv_iload hx hb dX9_append_113 (lv_at hl 0 rfl) ?_
        refine nn_add hx hb dX9_append_115 ?_
        refine rl_path hC hR.1 (by omega) dX9_append_116 ?_
        refine rs_path hC hR (by omega) dX9_append_117 (fun H locs hR => ?_)
        refine lv_iinc (v := nI (k + 1)) (lv' := [(6, .int (nI (k + 1))), (5, .int (nI (120 * to + mt))), (4, .int (nI (120 * fr + i))), (0, .ref x), (1, .int (nI fr)), (2, .int (nI i)), (3, .int (nI to))]) hx hb dX9_append_118 hl (k := 0) rfl (nI_add k 1) (by decide) rfl (fun ls hl => ?_)
        refine lv_goto (tgt := 78) hx hb dX9_append_121 (by decide) ?_
        exact ih_78 (k + 1) (upd fp ((150 * (120 * to + mt)) + k) (fp ((150 * (120 * fr + i)) + k))) _ _ _ (by omega) (by omega) (by rw [hfp]; exact cpy_step _ _ _ _ (by omega)) hR (lv_sub hl [0, 1, 2, 3, 4, 5, 6] rfl)
  exact lp_78 (((pl - 0)) + 1) 0 f_path _ _ _ (Nat.lt_succ_self _) (Nat.zero_le _) (cpy_0 _ _ _ _).symm hR (lv_sub hl [0, 1, 2, 3, 4, 5, 6] rfl)
end
