/-! Rows of our own: numbers as naturals, the entry, contracts that change nothing ('pMet') or only cells that are there ('rMet'), their calls and ends. -/
section NNA
variable {p : Program} {l : Launch} {e : Env} {R : Room} {s : State} {m : MethodId} {args : Array Value} {below : List Frame} {meth : Method} {c : Code} {H : Heap} {locs : List Loc} {cells slots : Nat} {Q : State → Prop} {cc : ByteArray} {pc : Nat} {ls : Array Slot} {rest : List Value}
theorem nn_eqi {x y : Int32} (h : x = y) (k : W p l e R s m args below meth c H locs cells slots Q (F0 m pc ls (.int y :: rest))) : W p l e R s m args below meth c H locs cells slots Q (F0 m pc ls (.int x :: rest)) := h ▸ k
theorem nn_eqv {x y : Value} (h : x = y) (k : W p l e R s m args below meth c H locs cells slots Q (F0 m pc ls (y :: rest))) : W p l e R s m args below meth c H locs cells slots Q (F0 m pc ls (x :: rest)) := h ▸ k
theorem nn_entry {av : List Value} {lv : List (Nat × Value)} {n : Nat} (hargs : args = av.toArray) (hn : (lg_sl av).length ≤ n) (hlv : lv_args 0 av = lv) (k : ∀ ls : Array Slot, lv_has ls n lv → W p l e R s m args below meth c H locs cells slots Q (F0 m 0 ls [])) : W p l e R s m args below meth c H locs cells slots Q (entryFrame m args n) := by
  have h := lv_entry av (n := n) hn
  rw [hlv] at h
  have h2 := k _ h
  have e1 : entryFrame m args n = F0 m 0 ((lg_sl av ++ List.replicate (n - (lg_sl av).length) Slot.unset).toArray) [] := by rw [hargs]; exact lg_entry_eq m av n
  rw [e1]; exact h2
theorem nn_add (hx : p.tables.exec = Jvm.exec) (hb : c.code = cc) {a b : Nat} (hdg : decode cc pc = .ok (.iadd, 1)) (k : W p l e R s m args below meth c H locs cells slots Q (F0 m (pc + 1) ls (.int (nI (a + b)) :: rest))) : W p l e R s m args below meth c H locs cells slots Q (F0 m pc ls (.int (nI b) :: .int (nI a) :: rest)) := lv_iadd hx hb hdg (nn_eqi (nI_add a b) k)
theorem nn_add0 (hx : p.tables.exec = Jvm.exec) (hb : c.code = cc) {a : Nat} (hdg : decode cc pc = .ok (.iadd, 1)) (k : W p l e R s m args below meth c H locs cells slots Q (F0 m (pc + 1) ls (.int (nI a) :: rest))) : W p l e R s m args below meth c H locs cells slots Q (F0 m pc ls (.int (nI 0) :: .int (nI a) :: rest)) := lv_iadd hx hb hdg (nn_eqi (nI_add a 0) k)
theorem nn_sub (hx : p.tables.exec = Jvm.exec) (hb : c.code = cc) {a b : Nat} (h : b ≤ a) (hdg : decode cc pc = .ok (.isub, 1)) (k : W p l e R s m args below meth c H locs cells slots Q (F0 m (pc + 1) ls (.int (nI (a - b)) :: rest))) : W p l e R s m args below meth c H locs cells slots Q (F0 m pc ls (.int (nI b) :: .int (nI a) :: rest)) := lv_isub hx hb hdg (nn_eqi (pk_sub h) k)
theorem nn_mul (hx : p.tables.exec = Jvm.exec) (hb : c.code = cc) {a b : Nat} (hdg : decode cc pc = .ok (.imul, 1)) (k : W p l e R s m args below meth c H locs cells slots Q (F0 m (pc + 1) ls (.int (nI (a * b)) :: rest))) : W p l e R s m args below meth c H locs cells slots Q (F0 m pc ls (.int (nI b) :: .int (nI a) :: rest)) := lv_imul hx hb hdg (nn_eqi (pk_mul a b) k)
theorem nn_lt (hx : p.tables.exec = Jvm.exec) (hb : c.code = cc) {a b : Nat} {off : Int} {tgt : Nat} (hdg : decode cc pc = .ok (.if_icmp .lt off, 3)) (ht : (pc : Int) + off = (tgt : Int)) (ha : a < 2 ^ 31) (h2 : b < 2 ^ 31) (kt : a < b → W p l e R s m args below meth c H locs cells slots Q (F0 m tgt ls rest)) (kf : b ≤ a → W p l e R s m args below meth c H locs cells slots Q (F0 m (pc + 3) ls rest)) : W p l e R s m args below meth c H locs cells slots Q (F0 m pc ls (.int (nI b) :: .int (nI a) :: rest)) :=
  lv_icmp_lt hx hb hdg ht (fun h => kt ((nI_ltI ha h2).mp h)) (fun h => kf (Nat.le_of_not_lt fun q => h ((nI_ltI ha h2).mpr q)))
theorem nn_ge (hx : p.tables.exec = Jvm.exec) (hb : c.code = cc) {a b : Nat} {off : Int} {tgt : Nat} (hdg : decode cc pc = .ok (.if_icmp .ge off, 3)) (ht : (pc : Int) + off = (tgt : Int)) (ha : a < 2 ^ 31) (h2 : b < 2 ^ 31) (kt : b ≤ a → W p l e R s m args below meth c H locs cells slots Q (F0 m tgt ls rest)) (kf : a < b → W p l e R s m args below meth c H locs cells slots Q (F0 m (pc + 3) ls rest)) : W p l e R s m args below meth c H locs cells slots Q (F0 m pc ls (.int (nI b) :: .int (nI a) :: rest)) :=
  lv_icmp_ge hx hb hdg ht (fun h => kt ((nI_leI h2 ha).mp h)) (fun h => kf (Nat.lt_of_not_le fun q => h ((nI_leI h2 ha).mpr q)))
theorem nn_gt (hx : p.tables.exec = Jvm.exec) (hb : c.code = cc) {a b : Nat} {off : Int} {tgt : Nat} (hdg : decode cc pc = .ok (.if_icmp .gt off, 3)) (ht : (pc : Int) + off = (tgt : Int)) (ha : a < 2 ^ 31) (h2 : b < 2 ^ 31) (kt : b < a → W p l e R s m args below meth c H locs cells slots Q (F0 m tgt ls rest)) (kf : a ≤ b → W p l e R s m args below meth c H locs cells slots Q (F0 m (pc + 3) ls rest)) : W p l e R s m args below meth c H locs cells slots Q (F0 m pc ls (.int (nI b) :: .int (nI a) :: rest)) :=
  lv_icmp_gt hx hb hdg ht (fun h => kt ((nI_ltI h2 ha).mp h)) (fun h => kf (Nat.le_of_not_lt fun q => h ((nI_ltI h2 ha).mpr q)))
theorem nn_le (hx : p.tables.exec = Jvm.exec) (hb : c.code = cc) {a b : Nat} {off : Int} {tgt : Nat} (hdg : decode cc pc = .ok (.if_icmp .le off, 3)) (ht : (pc : Int) + off = (tgt : Int)) (ha : a < 2 ^ 31) (h2 : b < 2 ^ 31) (kt : a ≤ b → W p l e R s m args below meth c H locs cells slots Q (F0 m tgt ls rest)) (kf : b < a → W p l e R s m args below meth c H locs cells slots Q (F0 m (pc + 3) ls rest)) : W p l e R s m args below meth c H locs cells slots Q (F0 m pc ls (.int (nI b) :: .int (nI a) :: rest)) :=
  lv_icmp_le hx hb hdg ht (fun h => kt ((nI_leI ha h2).mp h)) (fun h => kf (Nat.lt_of_not_le fun q => h ((nI_leI ha h2).mpr q)))
theorem nn_eq (hx : p.tables.exec = Jvm.exec) (hb : c.code = cc) {a b : Nat} {off : Int} {tgt : Nat} (hdg : decode cc pc = .ok (.if_icmp .eq off, 3)) (ht : (pc : Int) + off = (tgt : Int)) (ha : a < 2 ^ 31) (h2 : b < 2 ^ 31) (kt : a = b → W p l e R s m args below meth c H locs cells slots Q (F0 m tgt ls rest)) (kf : a ≠ b → W p l e R s m args below meth c H locs cells slots Q (F0 m (pc + 3) ls rest)) : W p l e R s m args below meth c H locs cells slots Q (F0 m pc ls (.int (nI b) :: .int (nI a) :: rest)) :=
  lv_icmp_eq hx hb hdg ht (fun h => kt ((nI_eq ha h2).mp h)) (fun h => kf (fun q => h ((nI_eq ha h2).mpr q)))
theorem nn_ne (hx : p.tables.exec = Jvm.exec) (hb : c.code = cc) {a b : Nat} {off : Int} {tgt : Nat} (hdg : decode cc pc = .ok (.if_icmp .ne off, 3)) (ht : (pc : Int) + off = (tgt : Int)) (ha : a < 2 ^ 31) (h2 : b < 2 ^ 31) (kt : a ≠ b → W p l e R s m args below meth c H locs cells slots Q (F0 m tgt ls rest)) (kf : a = b → W p l e R s m args below meth c H locs cells slots Q (F0 m (pc + 3) ls rest)) : W p l e R s m args below meth c H locs cells slots Q (F0 m pc ls (.int (nI b) :: .int (nI a) :: rest)) :=
  lv_icmp_ne hx hb hdg ht (fun h => kt (fun q => h ((nI_eq ha h2).mpr q))) (fun h => kf ((nI_eq ha h2).mp h))
end NNA
/-- what a method's world says of a start: the cells, the tables, the cells apart and in A -/
def rB (G : va_G) (tys : List (ClassId × FieldType)) (A : Nat → Prop) (w : va_W) : State → Prop := fun U => va_P G vwCl w U.heap ∧ va_K G vwCl tys U ∧ va_D A w
def pB (G : va_G) (tys : List (ClassId × FieldType)) (w : va_W) : State → Prop := fun U => va_P G vwCl w U.heap ∧ va_K G vwCl tys U
def rQ (G : va_G) (A : Nat → Prop) (post : Option Value → va_W → Prop) : Array Value → State → Outcome → State → Prop := fun _ st o t => (∃ (r : Option Value) (w : va_W), o = .returned r ∧ post r w ∧ va_P G vwCl w t.heap ∧ va_D A w) ∧ va_F A st t
def pQ (post : Value → Prop) : Array Value → State → Outcome → State → Prop := fun _ st o t => ∃ r : Value, o = .returned (some r) ∧ post r ∧ t.heap = st.heap
/-- a method that changes cells of its world alone and makes none -/
def rMet (l : Launch) (y : MethodName) (ws : List Cond) (rm : Room) (G : va_G) (tys : List (ClassId × FieldType)) (A : Nat → Prop) (As : List Value) (w : va_W) (post : Option Value → va_W → Prop) : Prop := Met l y ws rm (va_Pc As (rB G tys A w)) (rQ G A post) 0 0 A
/-- a method that changes nothing and answers -/
def pMet (l : Launch) (y : MethodName) (ws : List Cond) (rm : Room) (G : va_G) (tys : List (ClassId × FieldType)) (As : List Value) (w : va_W) (post : Value → Prop) : Prop := Met l y ws rm (va_Pc As (pB G tys w)) (pQ post) 0 0 (fun _ => False)
def rR (G : va_G) (A : Nat → Prop) (H0 H : Heap) (locs : List Loc) (w : va_W) : Prop := va_P G vwCl w H ∧ va_D A w ∧ va_S A H0 H locs
theorem rB_blind {G : va_G} {tys : List (ClassId × FieldType)} {A : Nat → Prop} {w : va_W} {As : List Value} : FrameBlind (va_Pc As (rB G tys A w)) := fun a U g mk q => ⟨q.1, q.2.1, va_K.moved (u := U) (U := U.calling g mk a) (Vm.Alike.refl U.vm) q.2.2.1, q.2.2.2⟩
theorem pB_blind {G : va_G} {tys : List (ClassId × FieldType)} {w : va_W} {As : List Value} : FrameBlind (va_Pc As (pB G tys w)) := fun a U g mk q => ⟨q.1, q.2.1, va_K.moved (u := U) (U := U.calling g mk a) (Vm.Alike.refl U.vm) q.2.2⟩
section NNB
variable {p : Program} {l : Launch} {e : Env} {R : Room} {s : State} {m : MethodId} {args : Array Value} {below : List Frame} {meth : Method} {c : Code} {H : Heap} {locs : List Loc} {cells slots : Nat} {Q : State → Prop} {cc : ByteArray} {pc : Nat} {ls : Array Slot} {rest st0 : List Value}
variable {G : va_G} {tys : List (ClassId × FieldType)} {A : Nat → Prop} {w : va_W} {H0 : Heap} {y : MethodName} {ws Ts : List Cond} {rm : Room} {As : List Value} {own C : String} {index maxL nL n b : Nat} {bytes : ByteArray} {ret : Option FieldType}
theorem rf_go {post : Option Value → va_W → Prop} (hr : va_Run p l e R s m args below meth c H locs cells slots 0 0 (F0 m pc ls st0) rest (rQ G A post As.toArray) A) (hR : rR G A H0 H locs w)
    (kk : ∀ (r : Option Value) (w1 : va_W) (H1 : Heap) (locs1 : List Loc), post r w1 → rR G A H0 H1 locs1 w1 → W p l e R s m args below meth c H1 locs1 cells slots Q (F0 m (pc + 3) ls (r.toList ++ rest))) : W p l e R s m args below meth c H locs cells slots Q (F0 m pc ls st0) := by
  intro T hT X
  obtain ⟨v, st₀, t, T', L, h0, X', hL, e1, e2, ⟨⟨r, w1, hv, hp, hP, hD⟩, hz, hk⟩, st⟩ := hr T hT X
  cases hv
  rw [h0] at hz hk
  obtain ⟨-, -, hS⟩ := hR
  obtain ⟨t2, a1, b1⟩ := kk v w1 T'.heap (locs ++ L) hp ⟨by rw [e1]; exact hP, hD, Nat.le_trans hS.1 (by rw [e1]; exact hz), fun q h1 h2 => by rw [e1, hk q (Nat.lt_of_lt_of_le h1 hS.1) h2]; exact hS.2.1 q h1 h2, fun q hq => by
      rcases List.mem_append.mp hq with h | h
      · exact hS.2.2 q h
      · exact hL q h⟩ T' rfl X'
  exact ⟨t2, st t2 a1, b1⟩
theorem rf_callV {post : Option Value → va_W → Prop} (hM : rMet l y ws rm G tys A (.ref b :: As) w post) (S : CallFix p m c cc nL s args Ts own) (cw : CallW R s args own C index y bytes maxL ret ws rm 0 0 n) (hK : va_K G vwCl tys s) (hR : rR G A H0 H locs w)
    (hrc : ∃ cell : Cell, H[b]? = some cell ∧ cell.vm.isStatics = false ∧ s.vm.findClass C = some cell.cls) (hn : As.length = n) (hl : ls.size = nL) (hst : st0 = As.reverse ++ .ref b :: rest) (hw : (rest.map fun v => v.category).sum ≤ 8) (hdg : decode cc pc = .ok (.invokevirtual index, 3)) (hf : cells ≤ R.cells ∧ slots ≤ R.slots)
    (kk : ∀ (r : Option Value) (w1 : va_W) (H1 : Heap) (locs1 : List Loc), post r w1 → rR G A H0 H1 locs1 w1 → W p l e R s m args below meth c H1 locs1 cells slots Q (F0 m (pc + 3) ls (r.toList ++ rest))) : W p l e R s m args below meth c H locs cells slots Q (F0 m pc ls st0) :=
  rf_go (va_runV (rest := rest) S hM cw ⟨rB_blind, hrc, fun U hU hW => ⟨rfl, by rw [hU]; exact hR.1, va_K.moved hW.alike hK, hR.2.1⟩⟩ rfl hn hl hst (lv_room hw) hdg hf) hR kk
theorem pf_go {post : Value → Prop} (hr : va_Run p l e R s m args below meth c H locs cells slots 0 0 (F0 m pc ls st0) rest (pQ post As.toArray) (fun _ => False))
    (kk : ∀ r : Value, post r → W p l e R s m args below meth c H locs cells slots Q (F0 m (pc + 3) ls (r :: rest))) : W p l e R s m args below meth c H locs cells slots Q (F0 m pc ls st0) := by
  intro T hT X
  obtain ⟨v, st₀, t, T', L, h0, X', hL, e1, e2, ⟨r, hv, hp, hh⟩, st⟩ := hr T hT X
  cases hv
  have hL0 : L = [] := by
    cases L with
    | nil => rfl
    | cons a L => exact (hL a List.mem_cons_self).elim
  subst hL0
  rw [List.append_nil] at X'
  obtain ⟨t2, a1, b1⟩ := kk r hp T' (by rw [e1, hh, h0]) X'
  exact ⟨t2, st t2 a1, b1⟩
theorem pf_callV {post : Value → Prop} (hM : pMet l y ws rm G tys (.ref b :: As) w post) (S : CallFix p m c cc nL s args Ts own) (cw : CallW R s args own C index y bytes maxL ret ws rm 0 0 n) (hK : va_K G vwCl tys s) (hP : va_P G vwCl w H)
    (hrc : ∃ cell : Cell, H[b]? = some cell ∧ cell.vm.isStatics = false ∧ s.vm.findClass C = some cell.cls) (hn : As.length = n) (hl : ls.size = nL) (hst : st0 = As.reverse ++ .ref b :: rest) (hw : (rest.map fun v => v.category).sum ≤ 8) (hdg : decode cc pc = .ok (.invokevirtual index, 3)) (hf : cells ≤ R.cells ∧ slots ≤ R.slots)
    (kk : ∀ r : Value, post r → W p l e R s m args below meth c H locs cells slots Q (F0 m (pc + 3) ls (r :: rest))) : W p l e R s m args below meth c H locs cells slots Q (F0 m pc ls st0) :=
  pf_go (va_runV (rest := rest) S hM cw ⟨pB_blind, hrc, fun U hU hW => ⟨rfl, by rw [hU]; exact hP, va_K.moved hW.alike hK⟩⟩ rfl hn hl hst (lv_room hw) hdg hf) kk
theorem pf_callS {post : Value → Prop} (hM : pMet l y ws rm G tys As w post) (S : CallFix p m c cc nL s args Ts own) (cw : CallB R s args own index y bytes maxL ret ws rm 0 0 n ∧ (Cond.static y).before args s = true) (hK : va_K G vwCl tys s) (hP : va_P G vwCl w H)
    (hn : As.length = n) (hl : ls.size = nL) (hst : st0 = As.reverse ++ rest) (hw : (rest.map fun v => v.category).sum ≤ 8) (hdg : decode cc pc = .ok (.invokestatic index, 3)) (hf : cells ≤ R.cells ∧ slots ≤ R.slots)
    (kk : ∀ r : Value, post r → W p l e R s m args below meth c H locs cells slots Q (F0 m (pc + 3) ls (r :: rest))) : W p l e R s m args below meth c H locs cells slots Q (F0 m pc ls st0) :=
  pf_go (va_runS (rest := rest) S hM cw ⟨pB_blind, fun U hU hW => ⟨rfl, by rw [hU]; exact hP, va_K.moved hW.alike hK⟩⟩ rfl hn hl hst (lv_room hw) hdg hf) kk
theorem rf_vret {post : Option Value → va_W → Prop} (hx : p.tables.exec = Jvm.exec) (hb : c.code = cc) (hr : meth.sig.returnType = none) (hlocks : meth.locks = false) (hR : rR G A s.heap H locs w) (hp : post none w) (hdg : decode cc pc = .ok (.return_, 1)) : W p l e R s m args below meth c H locs cells slots (MQ below (rQ G A post) args s cells slots A) (F0 m pc ls []) :=
  W.vret hx hb hr (fun t ht hW => ⟨⟨none, w, rfl, hp, by rw [ht]; exact hR.1, hR.2.1⟩, hR.2.2.F ht⟩) hR.2.2.2.2 hdg hlocks
theorem rf_iret {post : Option Value → va_W → Prop} {v : Int32} (hx : p.tables.exec = Jvm.exec) (hb : c.code = cc) (hr : meth.sig.returnType = some .int) (hlocks : meth.locks = false) (hR : rR G A s.heap H locs w) (hp : post (some (.int v)) w) (hdg : decode cc pc = .ok (.ireturn, 1)) : W p l e R s m args below meth c H locs cells slots (MQ below (rQ G A post) args s cells slots A) (F0 m pc ls [.int v]) :=
  W.iret hx hb hr (fun t ht hW => ⟨⟨_, w, rfl, hp, by rw [ht]; exact hR.1, hR.2.1⟩, hR.2.2.F ht⟩) hR.2.2.2.2 hdg hlocks
theorem pf_iret {post : Value → Prop} {v : Int32} (hx : p.tables.exec = Jvm.exec) (hb : c.code = cc) (hr : meth.sig.returnType = some .int) (hlocks : meth.locks = false) (hp : post (.int v)) (hdg : decode cc pc = .ok (.ireturn, 1)) : W p l e R s m args below meth c s.heap [] cells slots (MQ below (pQ post) args s cells slots (fun _ => False)) (F0 m pc ls [.int v]) :=
  W.iret hx hb hr (fun t ht hW => ⟨_, rfl, hp, ht⟩) (fun q h => by cases h) hdg hlocks
theorem pf_zret {post : Value → Prop} {v : Int32} (hx : p.tables.exec = Jvm.exec) (hb : c.code = cc) (hr : meth.sig.returnType = some .boolean) (hlocks : meth.locks = false) (hz : v = 0 ∨ v = 1) (hp : post (.int v)) (hdg : decode cc pc = .ok (.ireturn, 1)) : W p l e R s m args below meth c s.heap [] cells slots (MQ below (pQ post) args s cells slots (fun _ => False)) (F0 m pc ls [.int v]) :=
  W.zret hx hb hr (by rcases hz with rfl | rfl <;> rfl) (fun t ht hW => ⟨_, rfl, hp, ht⟩) (fun q h => by cases h) hdg hlocks
end NNB
/-- a truth value on the stack -/
def bI (b : Bool) : Int32 := if b = true then 1 else 0
theorem bI_t : bI true = 1 := rfl
theorem bI_f : bI false = 0 := rfl
theorem bI_01 (b : Bool) : bI b = 0 ∨ bI b = 1 := by cases b <;> simp [bI]
section NNC
variable {p : Program} {l : Launch} {e : Env} {R : Room} {s : State} {m : MethodId} {args : Array Value} {below : List Frame} {meth : Method} {c : Code} {H : Heap} {locs : List Loc} {cells slots : Nat} {Q : State → Prop} {cc : ByteArray} {pc : Nat} {ls : Array Slot} {rest : List Value}
theorem nb_ifeq (hx : p.tables.exec = Jvm.exec) (hb : c.code = cc) {b : Bool} {off : Int} {tgt : Nat} (hdg : decode cc pc = .ok (.ifCond .eq off, 3)) (ht : (pc : Int) + off = (tgt : Int)) (kt : b = false → W p l e R s m args below meth c H locs cells slots Q (F0 m tgt ls rest)) (kf : b = true → W p l e R s m args below meth c H locs cells slots Q (F0 m (pc + 3) ls rest)) : W p l e R s m args below meth c H locs cells slots Q (F0 m pc ls (.int (bI b) :: rest)) :=
  lv_if_eq hx hb hdg ht (fun h => kt (by cases b with
    | false => rfl
    | true => exact absurd h (by decide))) (fun h => kf (by cases b with
    | false => exact absurd rfl h
    | true => rfl))
theorem nb_ifne (hx : p.tables.exec = Jvm.exec) (hb : c.code = cc) {b : Bool} {off : Int} {tgt : Nat} (hdg : decode cc pc = .ok (.ifCond .ne off, 3)) (ht : (pc : Int) + off = (tgt : Int)) (kt : b = true → W p l e R s m args below meth c H locs cells slots Q (F0 m tgt ls rest)) (kf : b = false → W p l e R s m args below meth c H locs cells slots Q (F0 m (pc + 3) ls rest)) : W p l e R s m args below meth c H locs cells slots Q (F0 m pc ls (.int (bI b) :: rest)) :=
  lv_if_ne hx hb hdg ht (fun h => kt (by cases b with
    | false => exact absurd rfl h
    | true => rfl)) (fun h => kf (by cases b with
    | false => rfl
    | true => exact absurd h (by decide)))
theorem nz_eq (hx : p.tables.exec = Jvm.exec) (hb : c.code = cc) {a : Nat} {off : Int} {tgt : Nat} (hdg : decode cc pc = .ok (.ifCond .eq off, 3)) (ht : (pc : Int) + off = (tgt : Int)) (ha : a < 2 ^ 31) (kt : a = 0 → W p l e R s m args below meth c H locs cells slots Q (F0 m tgt ls rest)) (kf : 0 < a → W p l e R s m args below meth c H locs cells slots Q (F0 m (pc + 3) ls rest)) : W p l e R s m args below meth c H locs cells slots Q (F0 m pc ls (.int (nI a) :: rest)) :=
  lv_if_eq hx hb hdg ht (fun h => kt (Nat.eq_zero_of_not_pos fun q => nI_ne0 q ha h)) (fun h => kf (Nat.pos_of_ne_zero fun q => h (by rw [q]; rfl)))
theorem nz_ne (hx : p.tables.exec = Jvm.exec) (hb : c.code = cc) {a : Nat} {off : Int} {tgt : Nat} (hdg : decode cc pc = .ok (.ifCond .ne off, 3)) (ht : (pc : Int) + off = (tgt : Int)) (ha : a < 2 ^ 31) (kt : 0 < a → W p l e R s m args below meth c H locs cells slots Q (F0 m tgt ls rest)) (kf : a = 0 → W p l e R s m args below meth c H locs cells slots Q (F0 m (pc + 3) ls rest)) : W p l e R s m args below meth c H locs cells slots Q (F0 m pc ls (.int (nI a) :: rest)) :=
  lv_if_ne hx hb hdg ht (fun h => kt (Nat.pos_of_ne_zero fun q => h (by rw [q]; rfl))) (fun h => kf (Nat.eq_zero_of_not_pos fun q => nI_ne0 q ha h))
theorem nz_lt (hx : p.tables.exec = Jvm.exec) (hb : c.code = cc) {a : Nat} {off : Int} {tgt : Nat} (hdg : decode cc pc = .ok (.ifCond .lt off, 3)) (ht : (pc : Int) + off = (tgt : Int)) (ha : a < 2 ^ 31) (kt : a < 0 → W p l e R s m args below meth c H locs cells slots Q (F0 m tgt ls rest)) (kf : 0 ≤ a → W p l e R s m args below meth c H locs cells slots Q (F0 m (pc + 3) ls rest)) : W p l e R s m args below meth c H locs cells slots Q (F0 m pc ls (.int (nI a) :: rest)) :=
  lv_if_lt hx hb hdg ht (fun h => absurd h (nI_pos ha)) (fun _ => kf (Nat.zero_le _))
theorem nz_ge (hx : p.tables.exec = Jvm.exec) (hb : c.code = cc) {a : Nat} {off : Int} {tgt : Nat} (hdg : decode cc pc = .ok (.ifCond .ge off, 3)) (ht : (pc : Int) + off = (tgt : Int)) (ha : a < 2 ^ 31) (kt : 0 ≤ a → W p l e R s m args below meth c H locs cells slots Q (F0 m tgt ls rest)) (kf : a < 0 → W p l e R s m args below meth c H locs cells slots Q (F0 m (pc + 3) ls rest)) : W p l e R s m args below meth c H locs cells slots Q (F0 m pc ls (.int (nI a) :: rest)) :=
  lv_if_ge hx hb hdg ht (fun _ => kt (Nat.zero_le _)) (fun h => absurd (nI_pos' ha) h)
theorem nz_gt (hx : p.tables.exec = Jvm.exec) (hb : c.code = cc) {a : Nat} {off : Int} {tgt : Nat} (hdg : decode cc pc = .ok (.ifCond .gt off, 3)) (ht : (pc : Int) + off = (tgt : Int)) (ha : a < 2 ^ 31) (kt : 0 < a → W p l e R s m args below meth c H locs cells slots Q (F0 m tgt ls rest)) (kf : a = 0 → W p l e R s m args below meth c H locs cells slots Q (F0 m (pc + 3) ls rest)) : W p l e R s m args below meth c H locs cells slots Q (F0 m pc ls (.int (nI a) :: rest)) :=
  lv_if_gt hx hb hdg ht (fun h => kt (Nat.pos_of_ne_zero fun q => by rw [q] at h; exact absurd h (by decide))) (fun h => kf (Nat.eq_zero_of_not_pos fun q => h (by have := nI_lt q ha; rwa [nI_0] at this)))
theorem nz_le (hx : p.tables.exec = Jvm.exec) (hb : c.code = cc) {a : Nat} {off : Int} {tgt : Nat} (hdg : decode cc pc = .ok (.ifCond .le off, 3)) (ht : (pc : Int) + off = (tgt : Int)) (ha : a < 2 ^ 31) (kt : a = 0 → W p l e R s m args below meth c H locs cells slots Q (F0 m tgt ls rest)) (kf : 0 < a → W p l e R s m args below meth c H locs cells slots Q (F0 m (pc + 3) ls rest)) : W p l e R s m args below meth c H locs cells slots Q (F0 m pc ls (.int (nI a) :: rest)) :=
  lv_if_le hx hb hdg ht (fun h => kt (Nat.eq_zero_of_not_pos fun q => nI_nle q ha h)) (fun h => kf (Nat.pos_of_ne_zero fun q => h (by rw [q]; decide)))
/-- an int array of a world, by its place there -/
theorem nn_iald {G : va_G} {tys : List (ClassId × FieldType)} {w : va_W} {cI : ClassId} {k a n i : Nat} {f : Nat → Int32} (hx : p.tables.exec = Jvm.exec) (hb : c.code = cc) (hK : va_K G vwCl tys s) (hT : tys[1]? = some (cI, .int)) (hP : va_P G vwCl w H) (ha : w[k]? = some (a, .inl (cI, n, .inl f))) (hi : i < n) (hn : n < 2 ^ 31) (hdg : decode cc pc = .ok (.iaload, 1)) (kk : W p l e R s m args below meth c H locs cells slots Q (F0 m (pc + 1) ls (.int (f i) :: rest))) : W p l e R s m args below meth c H locs cells slots Q (F0 m pc ls (.int (nI i) :: .ref a :: rest)) := by
  refine va_iald hx hb hK hP k 1 ha hT (vp_in_nI hi hn) hdg ?_
  rw [nI_clamp (Nat.lt_trans hi hn)]; exact kk
theorem zi_lt (hx : p.tables.exec = Jvm.exec) (hb : c.code = cc) {o : Int32} {z : Int} (hz : o.toInt = z) {off : Int} {tgt : Nat} (hdg : decode cc pc = .ok (.ifCond .lt off, 3)) (ht : (pc : Int) + off = (tgt : Int)) (kt : z < 0 → W p l e R s m args below meth c H locs cells slots Q (F0 m tgt ls rest)) (kf : 0 ≤ z → W p l e R s m args below meth c H locs cells slots Q (F0 m (pc + 3) ls rest)) : W p l e R s m args below meth c H locs cells slots Q (F0 m pc ls (.int o :: rest)) := by
  subst hz
  have z0 : (0 : Int32).toInt = 0 := rfl
  refine lv_if_lt hx hb hdg ht (fun h => kt ?_) (fun h => kf ?_)
  · have h1 := Int32.lt_iff_toInt_lt.mp h; omega
  · have h1 := mt Int32.lt_iff_toInt_lt.mpr h; omega
theorem zi_ge (hx : p.tables.exec = Jvm.exec) (hb : c.code = cc) {o : Int32} {z : Int} (hz : o.toInt = z) {off : Int} {tgt : Nat} (hdg : decode cc pc = .ok (.ifCond .ge off, 3)) (ht : (pc : Int) + off = (tgt : Int)) (kt : 0 ≤ z → W p l e R s m args below meth c H locs cells slots Q (F0 m tgt ls rest)) (kf : z < 0 → W p l e R s m args below meth c H locs cells slots Q (F0 m (pc + 3) ls rest)) : W p l e R s m args below meth c H locs cells slots Q (F0 m pc ls (.int o :: rest)) := by
  subst hz
  have z0 : (0 : Int32).toInt = 0 := rfl
  refine lv_if_ge hx hb hdg ht (fun h => kt ?_) (fun h => kf ?_)
  · have h1 := Int32.le_iff_toInt_le.mp h; omega
  · have h1 := mt Int32.le_iff_toInt_le.mpr h; omega
theorem zi_gt (hx : p.tables.exec = Jvm.exec) (hb : c.code = cc) {o : Int32} {z : Int} (hz : o.toInt = z) {off : Int} {tgt : Nat} (hdg : decode cc pc = .ok (.ifCond .gt off, 3)) (ht : (pc : Int) + off = (tgt : Int)) (kt : 0 < z → W p l e R s m args below meth c H locs cells slots Q (F0 m tgt ls rest)) (kf : z ≤ 0 → W p l e R s m args below meth c H locs cells slots Q (F0 m (pc + 3) ls rest)) : W p l e R s m args below meth c H locs cells slots Q (F0 m pc ls (.int o :: rest)) := by
  subst hz
  have z0 : (0 : Int32).toInt = 0 := rfl
  refine lv_if_gt hx hb hdg ht (fun h => kt ?_) (fun h => kf ?_)
  · have h1 := Int32.lt_iff_toInt_lt.mp h; omega
  · have h1 := mt Int32.lt_iff_toInt_lt.mpr h; omega
theorem zi_le (hx : p.tables.exec = Jvm.exec) (hb : c.code = cc) {o : Int32} {z : Int} (hz : o.toInt = z) {off : Int} {tgt : Nat} (hdg : decode cc pc = .ok (.ifCond .le off, 3)) (ht : (pc : Int) + off = (tgt : Int)) (kt : z ≤ 0 → W p l e R s m args below meth c H locs cells slots Q (F0 m tgt ls rest)) (kf : 0 < z → W p l e R s m args below meth c H locs cells slots Q (F0 m (pc + 3) ls rest)) : W p l e R s m args below meth c H locs cells slots Q (F0 m pc ls (.int o :: rest)) := by
  subst hz
  have z0 : (0 : Int32).toInt = 0 := rfl
  refine lv_if_le hx hb hdg ht (fun h => kt ?_) (fun h => kf ?_)
  · have h1 := Int32.le_iff_toInt_le.mp h; omega
  · have h1 := mt Int32.le_iff_toInt_le.mpr h; omega
theorem zi_eq (hx : p.tables.exec = Jvm.exec) (hb : c.code = cc) {o : Int32} {z : Int} (hz : o.toInt = z) {off : Int} {tgt : Nat} (hdg : decode cc pc = .ok (.ifCond .eq off, 3)) (ht : (pc : Int) + off = (tgt : Int)) (kt : z = 0 → W p l e R s m args below meth c H locs cells slots Q (F0 m tgt ls rest)) (kf : z ≠ 0 → W p l e R s m args below meth c H locs cells slots Q (F0 m (pc + 3) ls rest)) : W p l e R s m args below meth c H locs cells slots Q (F0 m pc ls (.int o :: rest)) := by
  subst hz
  have z0 : (0 : Int32).toInt = 0 := rfl
  refine lv_if_eq hx hb hdg ht (fun h => kt ?_) (fun h => kf ?_)
  · rw [h]; rfl
  · exact fun q => h (Int32.toInt_inj.mp (q.trans z0.symm))
theorem zi_ne (hx : p.tables.exec = Jvm.exec) (hb : c.code = cc) {o : Int32} {z : Int} (hz : o.toInt = z) {off : Int} {tgt : Nat} (hdg : decode cc pc = .ok (.ifCond .ne off, 3)) (ht : (pc : Int) + off = (tgt : Int)) (kt : z ≠ 0 → W p l e R s m args below meth c H locs cells slots Q (F0 m tgt ls rest)) (kf : z = 0 → W p l e R s m args below meth c H locs cells slots Q (F0 m (pc + 3) ls rest)) : W p l e R s m args below meth c H locs cells slots Q (F0 m pc ls (.int o :: rest)) := by
  subst hz
  have z0 : (0 : Int32).toInt = 0 := rfl
  refine lv_if_ne hx hb hdg ht (fun h => kt ?_) (fun h => kf ?_)
  · exact fun q => h (Int32.toInt_inj.mp (q.trans z0.symm))
  · rw [h]; rfl
theorem zc_lt (hx : p.tables.exec = Jvm.exec) (hb : c.code = cc) {o1 o2 : Int32} {z1 z2 : Int} (hz1 : o1.toInt = z1) (hz2 : o2.toInt = z2) {off : Int} {tgt : Nat} (hdg : decode cc pc = .ok (.if_icmp .lt off, 3)) (ht : (pc : Int) + off = (tgt : Int)) (kt : z1 < z2 → W p l e R s m args below meth c H locs cells slots Q (F0 m tgt ls rest)) (kf : z2 ≤ z1 → W p l e R s m args below meth c H locs cells slots Q (F0 m (pc + 3) ls rest)) : W p l e R s m args below meth c H locs cells slots Q (F0 m pc ls (.int o2 :: .int o1 :: rest)) := by
  subst hz1; subst hz2
  refine lv_icmp_lt hx hb hdg ht (fun h => kt ?_) (fun h => kf ?_)
  · have h1 := Int32.lt_iff_toInt_lt.mp h; omega
  · have h1 := mt Int32.lt_iff_toInt_lt.mpr h; omega
theorem zc_ge (hx : p.tables.exec = Jvm.exec) (hb : c.code = cc) {o1 o2 : Int32} {z1 z2 : Int} (hz1 : o1.toInt = z1) (hz2 : o2.toInt = z2) {off : Int} {tgt : Nat} (hdg : decode cc pc = .ok (.if_icmp .ge off, 3)) (ht : (pc : Int) + off = (tgt : Int)) (kt : z2 ≤ z1 → W p l e R s m args below meth c H locs cells slots Q (F0 m tgt ls rest)) (kf : z1 < z2 → W p l e R s m args below meth c H locs cells slots Q (F0 m (pc + 3) ls rest)) : W p l e R s m args below meth c H locs cells slots Q (F0 m pc ls (.int o2 :: .int o1 :: rest)) := by
  subst hz1; subst hz2
  refine lv_icmp_ge hx hb hdg ht (fun h => kt ?_) (fun h => kf ?_)
  · have h1 := Int32.le_iff_toInt_le.mp h; omega
  · have h1 := mt Int32.le_iff_toInt_le.mpr h; omega
theorem zc_gt (hx : p.tables.exec = Jvm.exec) (hb : c.code = cc) {o1 o2 : Int32} {z1 z2 : Int} (hz1 : o1.toInt = z1) (hz2 : o2.toInt = z2) {off : Int} {tgt : Nat} (hdg : decode cc pc = .ok (.if_icmp .gt off, 3)) (ht : (pc : Int) + off = (tgt : Int)) (kt : z2 < z1 → W p l e R s m args below meth c H locs cells slots Q (F0 m tgt ls rest)) (kf : z1 ≤ z2 → W p l e R s m args below meth c H locs cells slots Q (F0 m (pc + 3) ls rest)) : W p l e R s m args below meth c H locs cells slots Q (F0 m pc ls (.int o2 :: .int o1 :: rest)) := by
  subst hz1; subst hz2
  refine lv_icmp_gt hx hb hdg ht (fun h => kt ?_) (fun h => kf ?_)
  · have h1 := Int32.lt_iff_toInt_lt.mp h; omega
  · have h1 := mt Int32.lt_iff_toInt_lt.mpr h; omega
theorem zc_le (hx : p.tables.exec = Jvm.exec) (hb : c.code = cc) {o1 o2 : Int32} {z1 z2 : Int} (hz1 : o1.toInt = z1) (hz2 : o2.toInt = z2) {off : Int} {tgt : Nat} (hdg : decode cc pc = .ok (.if_icmp .le off, 3)) (ht : (pc : Int) + off = (tgt : Int)) (kt : z1 ≤ z2 → W p l e R s m args below meth c H locs cells slots Q (F0 m tgt ls rest)) (kf : z2 < z1 → W p l e R s m args below meth c H locs cells slots Q (F0 m (pc + 3) ls rest)) : W p l e R s m args below meth c H locs cells slots Q (F0 m pc ls (.int o2 :: .int o1 :: rest)) := by
  subst hz1; subst hz2
  refine lv_icmp_le hx hb hdg ht (fun h => kt ?_) (fun h => kf ?_)
  · have h1 := Int32.le_iff_toInt_le.mp h; omega
  · have h1 := mt Int32.le_iff_toInt_le.mpr h; omega
theorem zc_eq (hx : p.tables.exec = Jvm.exec) (hb : c.code = cc) {o1 o2 : Int32} {z1 z2 : Int} (hz1 : o1.toInt = z1) (hz2 : o2.toInt = z2) {off : Int} {tgt : Nat} (hdg : decode cc pc = .ok (.if_icmp .eq off, 3)) (ht : (pc : Int) + off = (tgt : Int)) (kt : z1 = z2 → W p l e R s m args below meth c H locs cells slots Q (F0 m tgt ls rest)) (kf : z1 ≠ z2 → W p l e R s m args below meth c H locs cells slots Q (F0 m (pc + 3) ls rest)) : W p l e R s m args below meth c H locs cells slots Q (F0 m pc ls (.int o2 :: .int o1 :: rest)) := by
  subst hz1; subst hz2
  refine lv_icmp_eq hx hb hdg ht (fun h => kt ?_) (fun h => kf ?_)
  · rw [h]
  · exact fun q => h (Int32.toInt_inj.mp q)
theorem zc_ne (hx : p.tables.exec = Jvm.exec) (hb : c.code = cc) {o1 o2 : Int32} {z1 z2 : Int} (hz1 : o1.toInt = z1) (hz2 : o2.toInt = z2) {off : Int} {tgt : Nat} (hdg : decode cc pc = .ok (.if_icmp .ne off, 3)) (ht : (pc : Int) + off = (tgt : Int)) (kt : z1 ≠ z2 → W p l e R s m args below meth c H locs cells slots Q (F0 m tgt ls rest)) (kf : z1 = z2 → W p l e R s m args below meth c H locs cells slots Q (F0 m (pc + 3) ls rest)) : W p l e R s m args below meth c H locs cells slots Q (F0 m pc ls (.int o2 :: .int o1 :: rest)) := by
  subst hz1; subst hz2
  refine lv_icmp_ne hx hb hdg ht (fun h => kt ?_) (fun h => kf ?_)
  · exact fun q => h (Int32.toInt_inj.mp q)
  · rw [h]
theorem zn_ex {x : Int32} (h : 0 ≤ x.toInt) : ∃ j : Nat, x = nI j ∧ (j : Int) = x.toInt ∧ j < 2 ^ 31 := by
  have hn : ¬ x < 0 := fun q => by
    have h1 := Int32.lt_iff_toInt_lt.mp q
    have z0 : (0 : Int32).toInt = 0 := rfl
    omega
  obtain ⟨j, h1, h2⟩ := nI_of hn
  exact ⟨j, h2, by rw [h2, nI_toInt h1], h1⟩
theorem nn_div {a b : Nat} (hx : p.tables.exec = Jvm.exec) (hb : c.code = cc) (ha : a < 2 ^ 31) (h0 : 0 < b) (h2 : b < 2 ^ 31) (hdg : decode cc pc = .ok (.idiv, 1)) (k : W p l e R s m args below meth c H locs cells slots Q (F0 m (pc + 1) ls (.int (nI (a / b)) :: rest))) : W p l e R s m args below meth c H locs cells slots Q (F0 m pc ls (.int (nI b) :: .int (nI a) :: rest)) := lv_idiv hx hb hdg (nI_ne0 h0 h2) (nn_eqi (pk_div ha h0 h2) k)
theorem zl_lt (hx : p.tables.exec = Jvm.exec) (hb : c.code = cc) {o1 o2 : Int64} {z1 z2 : Int} (hz1 : o1.toInt = z1) (hz2 : o2.toInt = z2) {off : Int} {tgt : Nat} (hd1 : decode cc pc = .ok (.lcmp, 1)) (hdg : decode cc (pc + 1) = .ok (.ifCond .lt off, 3)) (ht : ((pc + 1 : Nat) : Int) + off = (tgt : Int)) (kt : z1 < z2 → W p l e R s m args below meth c H locs cells slots Q (F0 m tgt ls rest)) (kf : z2 ≤ z1 → W p l e R s m args below meth c H locs cells slots Q (F0 m (pc + 1 + 3) ls rest)) : W p l e R s m args below meth c H locs cells slots Q (F0 m pc ls (.long o2 :: .long o1 :: rest)) := by
  subst hz1; subst hz2
  refine W.lcmp hx hb hd1 (lv_if_lt hx hb hdg ht (fun h => kt ?_) (fun h => kf ?_))
  · have h1 := Int64.lt_iff_toInt_lt.mp ((lg_cmp_lt o1 o2).mp h); omega
  · have h1 := mt (fun q => (lg_cmp_lt o1 o2).mpr (Int64.lt_iff_toInt_lt.mpr q)) h; omega
theorem zl_ge (hx : p.tables.exec = Jvm.exec) (hb : c.code = cc) {o1 o2 : Int64} {z1 z2 : Int} (hz1 : o1.toInt = z1) (hz2 : o2.toInt = z2) {off : Int} {tgt : Nat} (hd1 : decode cc pc = .ok (.lcmp, 1)) (hdg : decode cc (pc + 1) = .ok (.ifCond .ge off, 3)) (ht : ((pc + 1 : Nat) : Int) + off = (tgt : Int)) (kt : z2 ≤ z1 → W p l e R s m args below meth c H locs cells slots Q (F0 m tgt ls rest)) (kf : z1 < z2 → W p l e R s m args below meth c H locs cells slots Q (F0 m (pc + 1 + 3) ls rest)) : W p l e R s m args below meth c H locs cells slots Q (F0 m pc ls (.long o2 :: .long o1 :: rest)) := by
  subst hz1; subst hz2
  refine W.lcmp hx hb hd1 (lv_if_ge hx hb hdg ht (fun h => kt ?_) (fun h => kf ?_))
  · have h1 := Int64.le_iff_toInt_le.mp ((lg_cmp_ge o1 o2).mp h); omega
  · have h1 := mt (fun q => (lg_cmp_ge o1 o2).mpr (Int64.le_iff_toInt_le.mpr q)) h; omega
theorem zl_gt (hx : p.tables.exec = Jvm.exec) (hb : c.code = cc) {o1 o2 : Int64} {z1 z2 : Int} (hz1 : o1.toInt = z1) (hz2 : o2.toInt = z2) {off : Int} {tgt : Nat} (hd1 : decode cc pc = .ok (.lcmp, 1)) (hdg : decode cc (pc + 1) = .ok (.ifCond .gt off, 3)) (ht : ((pc + 1 : Nat) : Int) + off = (tgt : Int)) (kt : z2 < z1 → W p l e R s m args below meth c H locs cells slots Q (F0 m tgt ls rest)) (kf : z1 ≤ z2 → W p l e R s m args below meth c H locs cells slots Q (F0 m (pc + 1 + 3) ls rest)) : W p l e R s m args below meth c H locs cells slots Q (F0 m pc ls (.long o2 :: .long o1 :: rest)) := by
  subst hz1; subst hz2
  refine W.lcmp hx hb hd1 (lv_if_gt hx hb hdg ht (fun h => kt ?_) (fun h => kf ?_))
  · have h1 := Int64.lt_iff_toInt_lt.mp ((lg_cmp_gt o1 o2).mp h); omega
  · have h1 := mt (fun q => (lg_cmp_gt o1 o2).mpr (Int64.lt_iff_toInt_lt.mpr q)) h; omega
theorem zl_le (hx : p.tables.exec = Jvm.exec) (hb : c.code = cc) {o1 o2 : Int64} {z1 z2 : Int} (hz1 : o1.toInt = z1) (hz2 : o2.toInt = z2) {off : Int} {tgt : Nat} (hd1 : decode cc pc = .ok (.lcmp, 1)) (hdg : decode cc (pc + 1) = .ok (.ifCond .le off, 3)) (ht : ((pc + 1 : Nat) : Int) + off = (tgt : Int)) (kt : z1 ≤ z2 → W p l e R s m args below meth c H locs cells slots Q (F0 m tgt ls rest)) (kf : z2 < z1 → W p l e R s m args below meth c H locs cells slots Q (F0 m (pc + 1 + 3) ls rest)) : W p l e R s m args below meth c H locs cells slots Q (F0 m pc ls (.long o2 :: .long o1 :: rest)) := by
  subst hz1; subst hz2
  refine W.lcmp hx hb hd1 (lv_if_le hx hb hdg ht (fun h => kt ?_) (fun h => kf ?_))
  · have h1 := Int64.le_iff_toInt_le.mp ((lg_cmp_le o1 o2).mp h); omega
  · have h1 := mt (fun q => (lg_cmp_le o1 o2).mpr (Int64.le_iff_toInt_le.mpr q)) h; omega
theorem zl_eq (hx : p.tables.exec = Jvm.exec) (hb : c.code = cc) {o1 o2 : Int64} {z1 z2 : Int} (hz1 : o1.toInt = z1) (hz2 : o2.toInt = z2) {off : Int} {tgt : Nat} (hd1 : decode cc pc = .ok (.lcmp, 1)) (hdg : decode cc (pc + 1) = .ok (.ifCond .eq off, 3)) (ht : ((pc + 1 : Nat) : Int) + off = (tgt : Int)) (kt : z1 = z2 → W p l e R s m args below meth c H locs cells slots Q (F0 m tgt ls rest)) (kf : z1 ≠ z2 → W p l e R s m args below meth c H locs cells slots Q (F0 m (pc + 1 + 3) ls rest)) : W p l e R s m args below meth c H locs cells slots Q (F0 m pc ls (.long o2 :: .long o1 :: rest)) := by
  subst hz1; subst hz2
  refine W.lcmp hx hb hd1 (lv_if_eq hx hb hdg ht (fun h => kt ?_) (fun h => kf ?_))
  · rw [(lg_cmp_eq o1 o2).mp h]
  · exact fun q => h ((lg_cmp_eq o1 o2).mpr (Int64.toInt_inj.mp q))
theorem zl_ne (hx : p.tables.exec = Jvm.exec) (hb : c.code = cc) {o1 o2 : Int64} {z1 z2 : Int} (hz1 : o1.toInt = z1) (hz2 : o2.toInt = z2) {off : Int} {tgt : Nat} (hd1 : decode cc pc = .ok (.lcmp, 1)) (hdg : decode cc (pc + 1) = .ok (.ifCond .ne off, 3)) (ht : ((pc + 1 : Nat) : Int) + off = (tgt : Int)) (kt : z1 ≠ z2 → W p l e R s m args below meth c H locs cells slots Q (F0 m tgt ls rest)) (kf : z1 = z2 → W p l e R s m args below meth c H locs cells slots Q (F0 m (pc + 1 + 3) ls rest)) : W p l e R s m args below meth c H locs cells slots Q (F0 m pc ls (.long o2 :: .long o1 :: rest)) := by
  subst hz1; subst hz2
  refine W.lcmp hx hb hd1 (lv_if_ne hx hb hdg ht (fun h => kt ?_) (fun h => kf ?_))
  · exact fun q => h ((lg_cmp_eq o1 o2).mpr (Int64.toInt_inj.mp q))
  · rw [(lg_cmp_eq o1 o2).mp h]
theorem i64 {v : Int32} {z : Int} (h : v.toInt = z) : v.toInt64.toInt = z := by
  rw [← h]; exact Int32.toInt_toInt64 v
theorem l_add {a b : Int64} {z1 z2 : Int} (h1 : a.toInt = z1) (h2 : b.toInt = z2) (h3 : -2 ^ 40 ≤ z1 + z2) (h4 : z1 + z2 ≤ 2 ^ 40) : (a + b).toInt = z1 + z2 := by
  rw [Int64.toInt_add, h1, h2]
  simp only [Int.bmod]
  split <;> omega
theorem l_i32 {a : Int64} {n : Nat} (h : a.toInt = (n : Int)) (hn : n < 2 ^ 31) : a.toInt32 = nI n := by
  apply Int32.toInt_inj.mp
  rw [nI_toInt hn, Int64.toInt_toInt32, h]
  simp only [Int.bmod]
  split <;> omega
theorem ba_i (a d l2 : Nat) : nI (a + d) + (nI l2 - nI d) = nI (a + l2) := by
  rw [← nI_add a d, ← nI_add a l2, Int32.add_assoc, Int32.add_comm (nI d), Int32.sub_add_cancel]
theorem nn_nil {G : va_G} {H : Heap} : va_P G vwCl [] H := fun k q h => by simp at h
end NNC
