set_option maxHeartbeats 4000000 in
set_option maxRecDepth 100000 in
theorem F_thrown (l : Launch) {G : va_G} {tys : List (ClassId × FieldType)} {cI : ClassId} (hT : tys[1]? = some (cI, .int)) {A : Nat → Prop} {x : Nat} {q : Nat → Nat} {w : va_W} {th : Int32} {Ts : Nat → List En} {tp rd : List Nat} {cs : Bool} {cp : List Nat} {st ops cg ns : Nat} {bg : Int32} {sT sC : Nat → Int32} (hW : RW cI x q w th Ts tp rd cs cp st ops cg ns bg sT sC)  : pMet l yX9_thrown wsX9_thrown ({ frames := 0, cells := 0, slots := 0, locals := 0 } : Room) G tys [.ref x] w (fun r => r = .int th) := by
  obtain ⟨cm, f_many, f_bytes, f_kinds, f_modes, f_times, f_paths, f_contentAt, f_contents, f_path, f_content, f_ready, f_tape, f_chosen, rfl, hRT, ⟨htp, htl, htb⟩, ⟨hrd, hrl, hrb⟩, hch⟩ := hW
  refine Met.ofW (cc := cX9_thrown) (maxL := 1) (ret := (some .int)) (by decide) rfl ?_
  intro p e s m args below meth c s₁ B hml hv
  obtain ⟨hargs, hP, hK⟩ := hv
  have hx := B.exec
  have hb := B.bytes
  have hr := B.returns
  have hts := atoms_spec (ws := wsX9_thrown) B.pre
  have hown : s.vm.findClass RX9 = some m.cls := findClass_of_methodNamed B.named
  have hlocks := B.notSynchronized
  have hC : rC p s m args c cX9_thrown G tys cI wsX9_thrown := ⟨hx, hb, hts, (by decide +kernel), hown, hK, hT⟩
  have k_thrown := hts (.fieldLink RX9 57 "MirrorKeepModel" "thrown" "I") (by decide +kernel)
  obtain ⟨Q, hQ⟩ : ∃ Q : State → Prop, Q = MQ below (pQ (fun r => r = .int th)) args s 0 0 (fun _ => False) := ⟨_, rfl⟩
  change W p l e ({ frames := 0, cells := 0, slots := 0, locals := 0 } : Room) s m args below meth c s.heap [] 0 0 (MQ below (pQ (fun r => r = .int th)) args s 0 0 (fun _ => False)) (entryFrame m args 1)
  rw [← hQ]
  refine nn_entry hargs (Nat.le_of_ble_eq_true rfl) (lv := [(0, .ref x)]) rfl (fun ls hl => ?_)
  refine lv_aload_n hx hb dX9_thrown_0 rfl (lv_at hl 0 rfl) ?_
  refine rg_thrown hC hP k_thrown dX9_thrown_1 ?_
  rw [hQ]
  exact pf_iret hx hb hr hlocks rfl dX9_thrown_4
set_option maxHeartbeats 4000000 in
set_option maxRecDepth 100000 in
theorem F_feed (l : Launch) {G : va_G} {tys : List (ClassId × FieldType)} {cI : ClassId} (hT : tys[1]? = some (cI, .int)) {A : Nat → Prop} {x : Nat} {q : Nat → Nat} {w : va_W} {th : Int32} {Ts : Nat → List En} {tp rd : List Nat} {cs : Bool} {cp : List Nat} {st ops cg ns : Nat} {bg : Int32} {sT sC : Nat → Int32} (hW : RW cI x q w th Ts tp rd cs cp st ops cg ns bg sT sC) (wa wb wc wd we : Int32) : rMet l yX9_feed wsX9_feed ({ frames := 0, cells := 0, slots := 0, locals := 0 } : Room) G tys A [.ref x, .int wa, .int wb, .int wc, .int wd, .int we] w (fun r w => r = none ∧ RW cI x q w (nI 0) Ts tp (feedL wa wb wc wd we) cs cp st ops cg ns bg sT sC) := by
  obtain ⟨cm, f_many, f_bytes, f_kinds, f_modes, f_times, f_paths, f_contentAt, f_contents, f_path, f_content, f_ready, f_tape, f_chosen, rfl, hRT, ⟨htp, htl, htb⟩, ⟨hrd, hrl, hrb⟩, hch⟩ := hW
  refine Met.ofW (cc := cX9_feed) (maxL := 8) (ret := none) (by decide) rfl ?_
  intro p e s m args below meth c s₁ B hml hv
  obtain ⟨hargs, hP, hK, hD⟩ := hv
  have hx := B.exec
  have hb := B.bytes
  have hr := B.returns
  have hts := atoms_spec (ws := wsX9_feed) B.pre
  have hown : s.vm.findClass RX9 = some m.cls := findClass_of_methodNamed B.named
  have hlocks := B.notSynchronized
  have hC : rC p s m args c cX9_feed G tys cI wsX9_feed := ⟨hx, hb, hts, (by decide +kernel), hown, hK, hT⟩
  have k_ready := hts (.fieldLink RX9 42 "MirrorKeepModel" "ready" "[I") (by decide +kernel)
  have k_thrown := hts (.fieldLink RX9 57 "MirrorKeepModel" "thrown" "I") (by decide +kernel)
  have hR : rR G A s.heap s.heap [] (rwx cI x q th (nI tp.length) (nI st) (nI ops) (nI cg) (nI ns) bg (bI cs) cm f_many f_bytes f_kinds f_modes f_times f_paths f_contentAt f_contents f_path f_content f_ready f_tape sT sC f_chosen) := ⟨hP, hD, va_S.rf⟩
  obtain ⟨Q, hQ⟩ : ∃ Q : State → Prop, Q = MQ below (rQ G A (fun r w => r = none ∧ RW cI x q w (nI 0) Ts tp (feedL wa wb wc wd we) cs cp st ops cg ns bg sT sC)) args s 0 0 A := ⟨_, rfl⟩
  change W p l e ({ frames := 0, cells := 0, slots := 0, locals := 0 } : Room) s m args below meth c s.heap [] 0 0 (MQ below (rQ G A (fun r w => r = none ∧ RW cI x q w (nI 0) Ts tp (feedL wa wb wc wd we) cs cp st ops cg ns bg sT sC)) args s 0 0 A) (entryFrame m args 8)
  rw [← hQ]
  refine nn_entry hargs (Nat.le_of_ble_eq_true rfl) (lv := [(0, .ref x), (1, .int wa), (2, .int wb), (3, .int wc), (4, .int wd), (5, .int we)]) rfl (fun ls hl => ?_)
  refine lv_aload_n hx hb dX9_feed_0 rfl (lv_at hl 0 rfl) ?_
  refine lv_iconst (v := nI 0) hx hb dX9_feed_1 rfl ?_
  refine rp_thrown hC hR k_thrown dX9_feed_2 (fun H locs hR => ?_)
  refine lv_iconst (v := nI 0) hx hb dX9_feed_5 rfl ?_
  refine lv_istore (lv' := [(6, .int (nI 0)), (0, .ref x), (1, .int wa), (2, .int wb), (3, .int wc), (4, .int wd), (5, .int we)]) hx hb dX9_feed_6 hl (by decide) rfl (fun ls hl => ?_)
  have lp_8 : ∀ (n_8 : Nat) (k : Nat) (g : Nat → Int32) (H : Heap) (locs : List Loc) (ls : Array Slot), (4 - k) < n_8 → (k ≤ 4) → (∀ j, j < k → g (0 + j) = nI (bt wa j)) → (∀ j, j < k → g (4 + j) = nI (bt wb j)) → (∀ j, j < k → g (8 + j) = nI (bt wc j)) → (∀ j, j < k → g (12 + j) = nI (bt wd j)) → (∀ j, j < k → g (16 + j) = nI (bt we j)) → rR G A s.heap H locs (rwx cI x q (nI 0) (nI tp.length) (nI st) (nI ops) (nI cg) (nI ns) bg (bI cs) cm f_many f_bytes f_kinds f_modes f_times f_paths f_contentAt f_contents f_path f_content g f_tape sT sC f_chosen) → lv_has ls 8 [(0, .ref x), (1, .int wa), (2, .int wb), (3, .int wc), (4, .int wd), (5, .int we), (6, .int (nI k))] → W p l e ({ frames := 0, cells := 0, slots := 0, locals := 0 } : Room) s m args below meth c H locs 0 0 Q (F0 m 8 ls []) := by
    intro n_8
    induction n_8 with
    | zero => intro k g H locs ls h0; exact absurd h0 (Nat.not_lt_zero _)
    | succ n_8 ih_8 =>
      intro k g H locs ls hm_8 hk hg0 hg1 hg2 hg3 hg4 hR hl
      refine lv_iload hx hb dX9_feed_8 (lv_at hl 6 rfl) ?_
      refine lv_iconst (v := nI 4) hx hb dX9_feed_10 rfl ?_
      refine nn_ge hx hb dX9_feed_11 (tgt := 118) (by decide) (by omega) (by omega) (fun c_1 => ?_) (fun c_1 => ?_)
      · have hk4 : k = 4 := by omega
        rw [hQ]
        exact rf_vret hx hb hr hlocks hR ⟨rfl, ⟨_, _, _, _, _, _, _, _, _, _, _, _, _, _, rfl, hRT, ⟨htp, htl, htb⟩, (feed_end hk4 hg0 hg1 hg2 hg3 hg4), hch⟩⟩ dX9_feed_118
      · refine lv_bipush (v := nI 24) hx hb dX9_feed_14 (by decide) ?_
        refine lv_bipush (v := nI 8) hx hb dX9_feed_16 (by decide) ?_
        refine lv_iload hx hb dX9_feed_18 (lv_at hl 6 rfl) ?_
        refine nn_mul hx hb dX9_feed_20 ?_
        refine nn_sub hx hb (by omega) dX9_feed_21 ?_
        refine lv_istore (lv' := [(7, .int (nI (24 - (8 * k)))), (0, .ref x), (1, .int wa), (2, .int wb), (3, .int wc), (4, .int wd), (5, .int we), (6, .int (nI k))]) hx hb dX9_feed_22 hl (by decide) rfl (fun ls hl => ?_)
        refine lv_aload_n hx hb dX9_feed_24 rfl (lv_at hl 1 rfl) ?_
        refine rg_ready hC hR.1 k_ready dX9_feed_25 ?_
        refine lv_iload hx hb dX9_feed_28 (lv_at hl 7 rfl) ?_
        refine lv_iload_n hx hb dX9_feed_30 rfl (lv_at hl 2 rfl) ?_
        refine lv_iload hx hb dX9_feed_31 (lv_at hl 0 rfl) ?_
        refine lv_ishr hx hb dX9_feed_33 ?_
        refine lv_sipush (v := nI 255) hx hb dX9_feed_34 (by decide) ?_
        refine lv_iand hx hb dX9_feed_37 ?_
        refine nn_eqi (y := nI (bt wa k)) (sh_bt wa k (by omega)) ?_
        refine rs_ready hC hR (by omega) dX9_feed_38 (fun H locs hR => ?_)
        refine lv_aload_n hx hb dX9_feed_39 rfl (lv_at hl 1 rfl) ?_
        refine rg_ready hC hR.1 k_ready dX9_feed_40 ?_
        refine lv_iconst (v := nI 4) hx hb dX9_feed_43 rfl ?_
        refine lv_iload hx hb dX9_feed_44 (lv_at hl 7 rfl) ?_
        refine nn_add hx hb dX9_feed_46 ?_
        refine lv_iload_n hx hb dX9_feed_47 rfl (lv_at hl 3 rfl) ?_
        refine lv_iload hx hb dX9_feed_48 (lv_at hl 0 rfl) ?_
        refine lv_ishr hx hb dX9_feed_50 ?_
        refine lv_sipush (v := nI 255) hx hb dX9_feed_51 (by decide) ?_
        refine lv_iand hx hb dX9_feed_54 ?_
        refine nn_eqi (y := nI (bt wb k)) (sh_bt wb k (by omega)) ?_
        refine rs_ready hC hR (by omega) dX9_feed_55 (fun H locs hR => ?_)
        refine lv_aload_n hx hb dX9_feed_56 rfl (lv_at hl 1 rfl) ?_
        refine rg_ready hC hR.1 k_ready dX9_feed_57 ?_
        refine lv_bipush (v := nI 8) hx hb dX9_feed_60 (by decide) ?_
        refine lv_iload hx hb dX9_feed_62 (lv_at hl 7 rfl) ?_
        refine nn_add hx hb dX9_feed_64 ?_
        refine lv_iload_n hx hb dX9_feed_65 rfl (lv_at hl 4 rfl) ?_
        refine lv_iload hx hb dX9_feed_66 (lv_at hl 0 rfl) ?_
        refine lv_ishr hx hb dX9_feed_68 ?_
        refine lv_sipush (v := nI 255) hx hb dX9_feed_69 (by decide) ?_
        refine lv_iand hx hb dX9_feed_72 ?_
        refine nn_eqi (y := nI (bt wc k)) (sh_bt wc k (by omega)) ?_
        refine rs_ready hC hR (by omega) dX9_feed_73 (fun H locs hR => ?_)
        refine lv_aload_n hx hb dX9_feed_74 rfl (lv_at hl 1 rfl) ?_
        refine rg_ready hC hR.1 k_ready dX9_feed_75 ?_
        refine lv_bipush (v := nI 12) hx hb dX9_feed_78 (by decide) ?_
        refine lv_iload hx hb dX9_feed_80 (lv_at hl 7 rfl) ?_
        refine nn_add hx hb dX9_feed_82 ?_
        refine lv_iload hx hb dX9_feed_83 (lv_at hl 5 rfl) ?_
        refine lv_iload hx hb dX9_feed_85 (lv_at hl 0 rfl) ?_
        refine lv_ishr hx hb dX9_feed_87 ?_
        refine lv_sipush (v := nI 255) hx hb dX9_feed_88 (by decide) ?_
        refine lv_iand hx hb dX9_feed_91 ?_
        refine nn_eqi (y := nI (bt wd k)) (sh_bt wd k (by omega)) ?_
        refine rs_ready hC hR (by omega) dX9_feed_92 (fun H locs hR => ?_)
        refine lv_aload_n hx hb dX9_feed_93 rfl (lv_at hl 1 rfl) ?_
        refine rg_ready hC hR.1 k_ready dX9_feed_94 ?_
        refine lv_bipush (v := nI 16) hx hb dX9_feed_97 (by decide) ?_
        refine lv_iload hx hb dX9_feed_99 (lv_at hl 7 rfl) ?_
        refine nn_add hx hb dX9_feed_101 ?_
        refine lv_iload hx hb dX9_feed_102 (lv_at hl 6 rfl) ?_
        refine lv_iload hx hb dX9_feed_104 (lv_at hl 0 rfl) ?_
        refine lv_ishr hx hb dX9_feed_106 ?_
        refine lv_sipush (v := nI 255) hx hb dX9_feed_107 (by decide) ?_
        refine lv_iand hx hb dX9_feed_110 ?_
        refine nn_eqi (y := nI (bt we k)) (sh_bt we k (by omega)) ?_
        refine rs_ready hC hR (by omega) dX9_feed_111 (fun H locs hR => ?_)
        refine lv_iinc (v := nI (k + 1)) (lv' := [(6, .int (nI (k + 1))), (7, .int (nI (24 - (8 * k)))), (0, .ref x), (1, .int wa), (2, .int wb), (3, .int wc), (4, .int wd), (5, .int we)]) hx hb dX9_feed_112 hl (k := 7) rfl (nI_add k 1) (by decide) rfl (fun ls hl => ?_)
        refine lv_goto (tgt := 8) hx hb dX9_feed_115 (by decide) ?_
        exact ih_8 (k + 1) (upd (upd (upd (upd (upd g k (nI (bt wa k))) (4 + k) (nI (bt wb k))) (8 + k) (nI (bt wc k))) (12 + k) (nI (bt wd k))) (16 + k) (nI (bt we k))) _ _ _ (by omega) (by omega) (feed_s0 (by omega) hg0) (feed_s1 (by omega) hg1) (feed_s2 (by omega) hg2) (feed_s3 (by omega) hg3) (feed_s4 (by omega) hg4) hR (lv_sub hl [2, 3, 4, 5, 6, 7, 0] rfl)
  exact lp_8 (((4 - 0)) + 1) 0 f_ready _ _ _ (Nat.lt_succ_self _) (Nat.zero_le _) (fun j h => absurd h (Nat.not_lt_zero _)) (fun j h => absurd h (Nat.not_lt_zero _)) (fun j h => absurd h (Nat.not_lt_zero _)) (fun j h => absurd h (Nat.not_lt_zero _)) (fun j h => absurd h (Nat.not_lt_zero _)) hR (lv_sub hl [1, 2, 3, 4, 5, 6, 0] rfl)
set_option maxHeartbeats 4000000 in
set_option maxRecDepth 100000 in
theorem F_end (l : Launch) {G : va_G} {tys : List (ClassId × FieldType)} {cI : ClassId} (hT : tys[1]? = some (cI, .int)) {A : Nat → Prop} {x : Nat} {q : Nat → Nat} {w : va_W} {th : Int32} {Ts : Nat → List En} {tp rd : List Nat} {cs : Bool} {cp : List Nat} {st ops cg ns : Nat} {bg : Int32} {sT sC : Nat → Int32} (hW : RW cI x q w th Ts tp rd cs cp st ops cg ns bg sT sC) (n0 : Int32) : rMet l yX9_end wsX9_end ({ frames := 0, cells := 0, slots := 0, locals := 0 } : Room) G tys A [.ref x, .int n0] w (fun r w => ((0 ≤ n0.toInt ∧ n0.toInt ≤ 20 ∧ (tp.length : Int) + n0.toInt ≤ 400) ∧ r = some (.int (nI (tp ++ rd.take n0.toInt.toNat).length)) ∧ RW cI x q w (nI 0) Ts (tp ++ rd.take n0.toInt.toNat) (List.replicate 20 0) cs cp st ops cg ns bg sT sC) ∨ (¬ (0 ≤ n0.toInt ∧ n0.toInt ≤ 20 ∧ (tp.length : Int) + n0.toInt ≤ 400) ∧ r = some (.int (-1)) ∧ RW cI x q w (nI 0) Ts tp rd cs cp st ops cg ns bg sT sC)) := by
  obtain ⟨cm, f_many, f_bytes, f_kinds, f_modes, f_times, f_paths, f_contentAt, f_contents, f_path, f_content, f_ready, f_tape, f_chosen, rfl, hRT, ⟨htp, htl, htb⟩, ⟨hrd, hrl, hrb⟩, hch⟩ := hW
  refine Met.ofW (cc := cX9_end) (maxL := 3) (ret := (some .int)) (by decide) rfl ?_
  intro p e s m args below meth c s₁ B hml hv
  obtain ⟨hargs, hP, hK, hD⟩ := hv
  have hx := B.exec
  have hb := B.bytes
  have hr := B.returns
  have hts := atoms_spec (ws := wsX9_end) B.pre
  have hown : s.vm.findClass RX9 = some m.cls := findClass_of_methodNamed B.named
  have hlocks := B.notSynchronized
  have hC : rC p s m args c cX9_end G tys cI wsX9_end := ⟨hx, hb, hts, (by decide +kernel), hown, hK, hT⟩
  have k_ready := hts (.fieldLink RX9 42 "MirrorKeepModel" "ready" "[I") (by decide +kernel)
  have k_tape := hts (.fieldLink RX9 45 "MirrorKeepModel" "tape" "[I") (by decide +kernel)
  have k_taped := hts (.fieldLink RX9 61 "MirrorKeepModel" "taped" "I") (by decide +kernel)
  have k_thrown := hts (.fieldLink RX9 57 "MirrorKeepModel" "thrown" "I") (by decide +kernel)
  have hR : rR G A s.heap s.heap [] (rwx cI x q th (nI tp.length) (nI st) (nI ops) (nI cg) (nI ns) bg (bI cs) cm f_many f_bytes f_kinds f_modes f_times f_paths f_contentAt f_contents f_path f_content f_ready f_tape sT sC f_chosen) := ⟨hP, hD, va_S.rf⟩
  obtain ⟨Q, hQ⟩ : ∃ Q : State → Prop, Q = MQ below (rQ G A (fun r w => ((0 ≤ n0.toInt ∧ n0.toInt ≤ 20 ∧ (tp.length : Int) + n0.toInt ≤ 400) ∧ r = some (.int (nI (tp ++ rd.take n0.toInt.toNat).length)) ∧ RW cI x q w (nI 0) Ts (tp ++ rd.take n0.toInt.toNat) (List.replicate 20 0) cs cp st ops cg ns bg sT sC) ∨ (¬ (0 ≤ n0.toInt ∧ n0.toInt ≤ 20 ∧ (tp.length : Int) + n0.toInt ≤ 400) ∧ r = some (.int (-1)) ∧ RW cI x q w (nI 0) Ts tp rd cs cp st ops cg ns bg sT sC))) args s 0 0 A := ⟨_, rfl⟩
  change W p l e ({ frames := 0, cells := 0, slots := 0, locals := 0 } : Room) s m args below meth c s.heap [] 0 0 (MQ below (rQ G A (fun r w => ((0 ≤ n0.toInt ∧ n0.toInt ≤ 20 ∧ (tp.length : Int) + n0.toInt ≤ 400) ∧ r = some (.int (nI (tp ++ rd.take n0.toInt.toNat).length)) ∧ RW cI x q w (nI 0) Ts (tp ++ rd.take n0.toInt.toNat) (List.replicate 20 0) cs cp st ops cg ns bg sT sC) ∨ (¬ (0 ≤ n0.toInt ∧ n0.toInt ≤ 20 ∧ (tp.length : Int) + n0.toInt ≤ 400) ∧ r = some (.int (-1)) ∧ RW cI x q w (nI 0) Ts tp rd cs cp st ops cg ns bg sT sC))) args s 0 0 A) (entryFrame m args 3)
  rw [← hQ]
  refine nn_entry hargs (Nat.le_of_ble_eq_true rfl) (lv := [(0, .ref x), (1, .int n0)]) rfl (fun ls hl => ?_)
  refine lv_aload_n hx hb dX9_end_0 rfl (lv_at hl 0 rfl) ?_
  refine lv_iconst (v := nI 0) hx hb dX9_end_1 rfl ?_
  refine rp_thrown hC hR k_thrown dX9_end_2 (fun H locs hR => ?_)
  refine lv_iload_n hx hb dX9_end_5 rfl (lv_at hl 1 rfl) ?_
  refine zi_lt hx hb rfl dX9_end_6 (tgt := 27) (by decide) (fun c_1 => ?_) (fun c_1 => ?_)
  · refine lv_iconst (v := (-1)) hx hb dX9_end_27 rfl ?_
    rw [hQ]
    exact rf_iret hx hb hr hlocks hR (Or.inr ⟨by omega, rfl, ⟨_, _, _, _, _, _, _, _, _, _, _, _, _, _, rfl, hRT, ⟨htp, htl, htb⟩, ⟨hrd, hrl, hrb⟩, hch⟩⟩) dX9_end_28
  · refine lv_iload_n hx hb dX9_end_9 rfl (lv_at hl 1 rfl) ?_
    refine lv_bipush (v := nI 20) hx hb dX9_end_10 (by decide) ?_
    refine zc_gt hx hb rfl (nI_toInt (by omega)) dX9_end_12 (tgt := 27) (by decide) (fun c_2 => ?_) (fun c_2 => ?_)
    · refine lv_iconst (v := (-1)) hx hb dX9_end_27 rfl ?_
      rw [hQ]
      exact rf_iret hx hb hr hlocks hR (Or.inr ⟨by omega, rfl, ⟨_, _, _, _, _, _, _, _, _, _, _, _, _, _, rfl, hRT, ⟨htp, htl, htb⟩, ⟨hrd, hrl, hrb⟩, hch⟩⟩) dX9_end_28
    · obtain ⟨n1, hn1, hn12, hn13⟩ := zn_ex (x := n0) (by omega)
      rw [hn1] at hl
      refine lv_aload_n hx hb dX9_end_15 rfl (lv_at hl 0 rfl) ?_
      refine rg_taped hC hR.1 k_taped dX9_end_16 ?_
      refine lv_iload_n hx hb dX9_end_19 rfl (lv_at hl 1 rfl) ?_
      refine nn_add hx hb dX9_end_20 ?_
      refine lv_sipush (v := nI 400) hx hb dX9_end_21 (by decide) ?_
      refine nn_le hx hb dX9_end_24 (tgt := 29) (by decide) (by omega) (by omega) (fun c_3 => ?_) (fun c_3 => ?_)
      · refine lv_iconst (v := nI 0) hx hb dX9_end_29 rfl ?_
        refine lv_istore_n (lv' := [(2, .int (nI 0)), (0, .ref x), (1, .int (nI n1))]) hx hb dX9_end_30 rfl hl (by decide) rfl (fun ls hl => ?_)
        have lp_31 : ∀ (n_31 : Nat) (k : Nat) (g : Nat → Int32) (H : Heap) (locs : List Loc) (ls : Array Slot), (n1 - k) < n_31 → (k ≤ n1) → ((∀ j, j < k → g (tp.length + j) = f_ready j) ∧ ∀ j, j < tp.length → g j = f_tape j) → rR G A s.heap H locs (rwx cI x q (nI 0) (nI tp.length) (nI st) (nI ops) (nI cg) (nI ns) bg (bI cs) cm f_many f_bytes f_kinds f_modes f_times f_paths f_contentAt f_contents f_path f_content f_ready g sT sC f_chosen) → lv_has ls 3 [(2, .int (nI k)), (0, .ref x), (1, .int (nI n1))] → W p l e ({ frames := 0, cells := 0, slots := 0, locals := 0 } : Room) s m args below meth c H locs 0 0 Q (F0 m 31 ls []) := by
          intro n_31
          induction n_31 with
          | zero => intro k g H locs ls h0; exact absurd h0 (Nat.not_lt_zero _)
          | succ n_31 ih_31 =>
            intro k g H locs ls hm_31 hk hg hR hl
            refine lv_iload_n hx hb dX9_end_31 rfl (lv_at hl 0 rfl) ?_
            refine lv_iload_n hx hb dX9_end_32 rfl (lv_at hl 2 rfl) ?_
            refine nn_ge hx hb dX9_end_33 (tgt := 59) (by decide) (by omega) (by omega) (fun c_4 => ?_) (fun c_4 => ?_)
            · refine lv_aload_n hx hb dX9_end_59 rfl (lv_at hl 1 rfl) ?_
              refine lv_dup hx hb dX9_end_60 rfl ?_
              refine rg_taped hC hR.1 k_taped dX9_end_61 ?_
              refine lv_iload_n hx hb dX9_end_64 rfl (lv_at hl 2 rfl) ?_
              refine nn_add hx hb dX9_end_65 ?_
              refine rp_taped hC hR k_taped dX9_end_66 (fun H locs hR => ?_)
              refine lv_iconst (v := nI 0) hx hb dX9_end_69 rfl ?_
              refine lv_istore_n (lv' := [(2, .int (nI 0)), (0, .ref x), (1, .int (nI n1))]) hx hb dX9_end_70 rfl hl (by decide) rfl (fun ls hl => ?_)
              have lp_71 : ∀ (n_71 : Nat) (k2 : Nat) (g2 : Nat → Int32) (H : Heap) (locs : List Loc) (ls : Array Slot), (20 - k2) < n_71 → (k2 ≤ 20) → (∀ j, j < k2 → g2 j = nI 0) → rR G A s.heap H locs (rwx cI x q (nI 0) (nI (tp.length + n1)) (nI st) (nI ops) (nI cg) (nI ns) bg (bI cs) cm f_many f_bytes f_kinds f_modes f_times f_paths f_contentAt f_contents f_path f_content g2 g sT sC f_chosen) → lv_has ls 3 [(2, .int (nI k2)), (0, .ref x), (1, .int (nI n1))] → W p l e ({ frames := 0, cells := 0, slots := 0, locals := 0 } : Room) s m args below meth c H locs 0 0 Q (F0 m 71 ls []) := by
                intro n_71
                induction n_71 with
                | zero => intro k2 g2 H locs ls h0; exact absurd h0 (Nat.not_lt_zero _)
                | succ n_71 ih_71 =>
                  intro k2 g2 H locs ls hm_71 hk2 hg2 hR hl
                  refine lv_iload_n hx hb dX9_end_71 rfl (lv_at hl 0 rfl) ?_
                  refine lv_bipush (v := nI 20) hx hb dX9_end_72 (by decide) ?_
                  refine nn_ge hx hb dX9_end_74 (tgt := 90) (by decide) (by omega) (by omega) (fun c_5 => ?_) (fun c_5 => ?_)
                  · refine lv_aload_n hx hb dX9_end_90 rfl (lv_at hl 1 rfl) ?_
                    refine rg_taped hC hR.1 k_taped dX9_end_91 ?_
                    rw [hQ]
                    have hkk : k = n1 := by omega
                    have hkk2 : k2 = 20 := by omega
                    exact rf_iret hx hb hr hlocks hR (Or.inl ⟨by omega, by rw [show n0.toInt.toNat = n1 by omega]; exact end_r hrl (by omega), by rw [show n0.toInt.toNat = n1 by omega]; exact end_w hrl (by omega) ⟨_, _, _, _, _, _, _, _, _, _, _, _, _, _, rfl, hRT, end_tape htp hrd hrl htl htb hrb (by omega) (by omega) (hkk ▸ hg), end_ready (hkk2 ▸ hg2), hch⟩⟩) dX9_end_94
                  · refine lv_aload_n hx hb dX9_end_77 rfl (lv_at hl 1 rfl) ?_
                    refine rg_ready hC hR.1 k_ready dX9_end_78 ?_
                    refine lv_iload_n hx hb dX9_end_81 rfl (lv_at hl 0 rfl) ?_
                    refine lv_iconst (v := nI 0) hx hb dX9_end_82 rfl ?_
                    refine rs_ready hC hR (by omega) dX9_end_83 (fun H locs hR => ?_)
                    refine lv_iinc (v := nI (k2 + 1)) (lv' := [(2, .int (nI (k2 + 1))), (0, .ref x), (1, .int (nI n1))]) hx hb dX9_end_84 hl (k := 0) rfl (nI_add k2 1) (by decide) rfl (fun ls hl => ?_)
                    refine lv_goto (tgt := 71) hx hb dX9_end_87 (by decide) ?_
                    exact ih_71 (k2 + 1) (upd g2 k2 (nI 0)) _ _ _ (by omega) (by omega) (fun j hj => by by_cases h : j = k2; (subst h; rw [pk_us]); (rw [pk_un h]; exact hg2 j (by omega))) hR (lv_sub hl [0, 1, 2] rfl)
              exact lp_71 (((20 - 0)) + 1) 0 f_ready _ _ _ (Nat.lt_succ_self _) (Nat.zero_le _) (fun j h => absurd h (Nat.not_lt_zero _)) hR (lv_sub hl [0, 1, 2] rfl)
            · refine lv_aload_n hx hb dX9_end_36 rfl (lv_at hl 1 rfl) ?_
              refine rg_tape hC hR.1 k_tape dX9_end_37 ?_
              refine lv_aload_n hx hb dX9_end_40 rfl (lv_at hl 1 rfl) ?_
              refine rg_taped hC hR.1 k_taped dX9_end_41 ?_
              refine lv_iload_n hx hb dX9_end_44 rfl (lv_at hl 0 rfl) ?_
              refine nn_add hx hb dX9_end_45 ?_
              refine lv_aload_n hx hb dX9_end_46 rfl (lv_at hl 1 rfl) ?_
              refine rg_ready hC hR.1 k_ready dX9_end_47 ?_
              refine lv_iload_n hx hb dX9_end_50 rfl (lv_at hl 0 rfl) ?_
              refine rl_ready hC hR.1 (by omega) dX9_end_51 ?_
              refine rs_tape hC hR (by omega) dX9_end_52 (fun H locs hR => ?_)
              refine lv_iinc (v := nI (k + 1)) (lv' := [(2, .int (nI (k + 1))), (0, .ref x), (1, .int (nI n1))]) hx hb dX9_end_53 hl (k := 0) rfl (nI_add k 1) (by decide) rfl (fun ls hl => ?_)
              refine lv_goto (tgt := 31) hx hb dX9_end_56 (by decide) ?_
              exact ih_31 (k + 1) (upd g (tp.length + k) (f_ready k)) _ _ _ (by omega) (by omega) ⟨fun j hj => by by_cases h : j = k; (subst h; rw [pk_us]); (rw [pk_un (by omega)]; exact hg.1 j (by omega)), fun j hj => by rw [pk_un (by omega)]; exact hg.2 j hj⟩ hR (lv_sub hl [0, 1, 2] rfl)
        exact lp_31 (((n1 - 0)) + 1) 0 f_tape _ _ _ (Nat.lt_succ_self _) (Nat.zero_le _) ⟨fun j h => absurd h (Nat.not_lt_zero _), fun _ _ => rfl⟩ hR (lv_sub hl [0, 1, 2] rfl)
      · refine lv_iconst (v := (-1)) hx hb dX9_end_27 rfl ?_
        rw [hQ]
        exact rf_iret hx hb hr hlocks hR (Or.inr ⟨by omega, rfl, ⟨_, _, _, _, _, _, _, _, _, _, _, _, _, _, rfl, hRT, ⟨htp, htl, htb⟩, ⟨hrd, hrl, hrb⟩, hch⟩⟩) dX9_end_28
set_option maxHeartbeats 4000000 in
set_option maxRecDepth 100000 in
theorem F_crash (l : Launch) {G : va_G} {tys : List (ClassId × FieldType)} {cI : ClassId} (hT : tys[1]? = some (cI, .int)) {A : Nat → Prop} {x : Nat} {q : Nat → Nat} {w : va_W} {th : Int32} {Ts : Nat → List En} {tp rd : List Nat} {cs : Bool} {cp : List Nat} {st ops cg ns : Nat} {bg : Int32} {sT sC : Nat → Int32} (hW : RW cI x q w th Ts tp rd cs cp st ops cg ns bg sT sC) (hst : st < 2 ^ 31) : rMet l yX9_crash wsX9_crash ({ frames := 0, cells := 0, slots := 0, locals := 0 } : Room) G tys A [.ref x] w (fun r w => r = none ∧ ((st = 1 ∧ RW cI x q w (nI 0) Ts tp rd cs cp 2 ops cg ns bg sT sC) ∨ (st ≠ 1 ∧ RW cI x q w (nI 1) Ts tp rd cs cp st ops cg ns bg sT sC))) := by
  obtain ⟨cm, f_many, f_bytes, f_kinds, f_modes, f_times, f_paths, f_contentAt, f_contents, f_path, f_content, f_ready, f_tape, f_chosen, rfl, hRT, ⟨htp, htl, htb⟩, ⟨hrd, hrl, hrb⟩, hch⟩ := hW
  refine Met.ofW (cc := cX9_crash) (maxL := 1) (ret := none) (by decide) rfl ?_
  intro p e s m args below meth c s₁ B hml hv
  obtain ⟨hargs, hP, hK, hD⟩ := hv
  have hx := B.exec
  have hb := B.bytes
  have hr := B.returns
  have hts := atoms_spec (ws := wsX9_crash) B.pre
  have hown : s.vm.findClass RX9 = some m.cls := findClass_of_methodNamed B.named
  have hlocks := B.notSynchronized
  have hC : rC p s m args c cX9_crash G tys cI wsX9_crash := ⟨hx, hb, hts, (by decide +kernel), hown, hK, hT⟩
  have k_state := hts (.fieldLink RX9 107 "MirrorKeepModel" "state" "I") (by decide +kernel)
  have k_thrown := hts (.fieldLink RX9 57 "MirrorKeepModel" "thrown" "I") (by decide +kernel)
  have hR : rR G A s.heap s.heap [] (rwx cI x q th (nI tp.length) (nI st) (nI ops) (nI cg) (nI ns) bg (bI cs) cm f_many f_bytes f_kinds f_modes f_times f_paths f_contentAt f_contents f_path f_content f_ready f_tape sT sC f_chosen) := ⟨hP, hD, va_S.rf⟩
  obtain ⟨Q, hQ⟩ : ∃ Q : State → Prop, Q = MQ below (rQ G A (fun r w => r = none ∧ ((st = 1 ∧ RW cI x q w (nI 0) Ts tp rd cs cp 2 ops cg ns bg sT sC) ∨ (st ≠ 1 ∧ RW cI x q w (nI 1) Ts tp rd cs cp st ops cg ns bg sT sC)))) args s 0 0 A := ⟨_, rfl⟩
  change W p l e ({ frames := 0, cells := 0, slots := 0, locals := 0 } : Room) s m args below meth c s.heap [] 0 0 (MQ below (rQ G A (fun r w => r = none ∧ ((st = 1 ∧ RW cI x q w (nI 0) Ts tp rd cs cp 2 ops cg ns bg sT sC) ∨ (st ≠ 1 ∧ RW cI x q w (nI 1) Ts tp rd cs cp st ops cg ns bg sT sC)))) args s 0 0 A) (entryFrame m args 1)
  rw [← hQ]
  refine nn_entry hargs (Nat.le_of_ble_eq_true rfl) (lv := [(0, .ref x)]) rfl (fun ls hl => ?_)
  refine lv_aload_n hx hb dX9_crash_0 rfl (lv_at hl 0 rfl) ?_
  refine lv_aload_n hx hb dX9_crash_1 rfl (lv_at hl 0 rfl) ?_
  refine rg_state hC hR.1 k_state dX9_crash_2 ?_
  refine lv_iconst (v := nI 1) hx hb dX9_crash_5 rfl ?_
  refine nn_ne hx hb dX9_crash_6 (tgt := 13) (by decide) hst (by decide) (fun c_1 => ?_) (fun c_1 => ?_)
  · refine lv_iconst (v := nI 1) hx hb dX9_crash_13 rfl ?_
    refine rp_thrown hC hR k_thrown dX9_crash_14 (fun H locs hR => ?_)
    refine lv_aload_n hx hb dX9_crash_17 rfl (lv_at hl 0 rfl) ?_
    refine rg_thrown hC hR.1 k_thrown dX9_crash_18 ?_
    refine nz_ne hx hb dX9_crash_21 (tgt := 29) (by decide) (by omega) (fun c_2 => ?_) (fun c_2 => ?_)
    · rw [hQ]
      exact rf_vret hx hb hr hlocks hR ⟨rfl, Or.inr ⟨by assumption, ⟨_, _, _, _, _, _, _, _, _, _, _, _, _, _, rfl, hRT, ⟨htp, htl, htb⟩, ⟨hrd, hrl, hrb⟩, hch⟩⟩⟩ dX9_crash_29
    · exact absurd c_2 (by omega)
  · refine lv_iconst (v := nI 0) hx hb dX9_crash_9 rfl ?_
    refine lv_goto (tgt := 14) hx hb dX9_crash_10 (by decide) ?_
    refine rp_thrown hC hR k_thrown dX9_crash_14 (fun H locs hR => ?_)
    refine lv_aload_n hx hb dX9_crash_17 rfl (lv_at hl 0 rfl) ?_
    refine rg_thrown hC hR.1 k_thrown dX9_crash_18 ?_
    refine nz_ne hx hb dX9_crash_21 (tgt := 29) (by decide) (by omega) (fun c_3 => ?_) (fun c_3 => ?_)
    · exact absurd c_3 (by omega)
    · refine lv_aload_n hx hb dX9_crash_24 rfl (lv_at hl 0 rfl) ?_
      refine lv_iconst (v := nI 2) hx hb dX9_crash_25 rfl ?_
      refine rp_state hC hR k_state dX9_crash_26 (fun H locs hR => ?_)
      rw [hQ]
      exact rf_vret hx hb hr hlocks hR ⟨rfl, Or.inl ⟨by assumption, ⟨_, _, _, _, _, _, _, _, _, _, _, _, _, _, rfl, hRT, ⟨htp, htl, htb⟩, ⟨hrd, hrl, hrb⟩, hch⟩⟩⟩ dX9_crash_29
set_option maxHeartbeats 4000000 in
set_option maxRecDepth 100000 in
theorem F_differ (l : Launch) {G : va_G} {tys : List (ClassId × FieldType)} {cI : ClassId} (hT : tys[1]? = some (cI, .int)) {A : Nat → Prop} {x : Nat} {q : Nat → Nat} {w : va_W} {th : Int32} {Ts : Nat → List En} {tp rd : List Nat} {cs : Bool} {cp : List Nat} {st ops cg ns : Nat} {bg : Int32} {sT sC : Nat → Int32} (hW : RW cI x q w th Ts tp rd cs cp st ops cg ns bg sT sC)  : rMet l yX9_differ wsX9_differ ({ frames := 4, cells := 0, slots := 0, locals := 103 } : Room) G tys A [.ref x] w (fun r w => r = some (.int (nI (jn (Ts 1) (Ts 0) 0).1)) ∧ RW cI x q w (nI 0) Ts tp rd cs cp st ops cg ns bg sT sC) := by
  obtain ⟨cm, f_many, f_bytes, f_kinds, f_modes, f_times, f_paths, f_contentAt, f_contents, f_path, f_content, f_ready, f_tape, f_chosen, rfl, hRT, ⟨htp, htl, htb⟩, ⟨hrd, hrl, hrb⟩, hch⟩ := hW
  refine Met.ofW (cc := cX9_differ) (maxL := 1) (ret := (some .int)) (by decide) rfl ?_
  intro p e s m args below meth c s₁ B hml hv
  obtain ⟨hargs, hP, hK, hD⟩ := hv
  have hx := B.exec
  have hb := B.bytes
  have hr := B.returns
  have hts := atoms_spec (ws := wsX9_differ) B.pre
  have hown : s.vm.findClass RX9 = some m.cls := findClass_of_methodNamed B.named
  have hlocks := B.notSynchronized
  have hC : rC p s m args c cX9_differ G tys cI wsX9_differ := ⟨hx, hb, hts, (by decide +kernel), hown, hK, hT⟩
  have k_thrown := hts (.fieldLink RX9 57 "MirrorKeepModel" "thrown" "I") (by decide +kernel)
  have hR : rR G A s.heap s.heap [] (rwx cI x q th (nI tp.length) (nI st) (nI ops) (nI cg) (nI ns) bg (bI cs) cm f_many f_bytes f_kinds f_modes f_times f_paths f_contentAt f_contents f_path f_content f_ready f_tape sT sC f_chosen) := ⟨hP, hD, va_S.rf⟩
  obtain ⟨Q, hQ⟩ : ∃ Q : State → Prop, Q = MQ below (rQ G A (fun r w => r = some (.int (nI (jn (Ts 1) (Ts 0) 0).1)) ∧ RW cI x q w (nI 0) Ts tp rd cs cp st ops cg ns bg sT sC)) args s 0 0 A := ⟨_, rfl⟩
  change W p l e ({ frames := 4, cells := 0, slots := 0, locals := 103 } : Room) s m args below meth c s.heap [] 0 0 (MQ below (rQ G A (fun r w => r = some (.int (nI (jn (Ts 1) (Ts 0) 0).1)) ∧ RW cI x q w (nI 0) Ts tp rd cs cp st ops cg ns bg sT sC)) args s 0 0 A) (entryFrame m args 1)
  rw [← hQ]
  refine nn_entry hargs (Nat.le_of_ble_eq_true rfl) (lv := [(0, .ref x)]) rfl (fun ls hl => ?_)
  refine lv_aload_n hx hb dX9_differ_0 rfl (lv_at hl 0 rfl) ?_
  refine lv_iconst (v := nI 0) hx hb dX9_differ_1 rfl ?_
  refine rp_thrown hC hR k_thrown dX9_differ_2 (fun H locs hR => ?_)
  refine lv_aload_n hx hb dX9_differ_5 rfl (lv_at hl 0 rfl) ?_
  refine lv_iconst (v := nI 1) hx hb dX9_differ_6 rfl ?_
  refine lv_iconst (v := nI 0) hx hb dX9_differ_7 rfl ?_
  refine lv_iconst (v := nI 0) hx hb dX9_differ_8 rfl ?_
  refine lv_iconst (v := (-1)) hx hb dX9_differ_9 rfl ?_
  refine pf_callV (C := RX9) (As := [.int (nI 1), .int (nI 0), .int (nI 0), .int (-1)]) (rest := []) (m_joinB l hT Ts 1 0 0 hRT (by decide) (by decide) (by decide)) ⟨hx, hb, hml, hown, hts⟩ (cwV 4 hts gX9_differ_X9_join rfl rfl rfl (by decide +kernel) ⟨Nat.le_of_ble_eq_true rfl, Nat.le_of_ble_eq_true rfl⟩) hK hR.1 (r_recv hK hR.1) rfl hl.1 rfl (Nat.le_of_ble_eq_true rfl) dX9_differ_10 ⟨Nat.le_of_ble_eq_true rfl, Nat.le_of_ble_eq_true rfl⟩ (fun r_1 hr_1 => ?_)
  subst hr_1
  rw [hQ]
  exact rf_iret hx hb hr hlocks hR ⟨rfl, ⟨_, _, _, _, _, _, _, _, _, _, _, _, _, _, rfl, hRT, ⟨htp, htl, htb⟩, ⟨hrd, hrl, hrb⟩, hch⟩⟩ dX9_differ_13
set_option maxHeartbeats 4000000 in
set_option maxRecDepth 100000 in
theorem F_session (l : Launch) {G : va_G} {tys : List (ClassId × FieldType)} {cI : ClassId} (hT : tys[1]? = some (cI, .int)) {A : Nat → Prop} {x : Nat} {q : Nat → Nat} {w : va_W} {th : Int32} {Ts : Nat → List En} {tp rd : List Nat} {cs : Bool} {cp : List Nat} {st ops cg ns : Nat} {bg : Int32} {sT sC : Nat → Int32} (hW : RW cI x q w th Ts tp rd cs cp st ops cg ns bg sT sC) (i0 w0 : Int32) (hns : ns ≤ 40) : rMet l yX9_session wsX9_session ({ frames := 0, cells := 0, slots := 0, locals := 0 } : Room) G tys A [.ref x, .int i0, .int w0] w (fun r w => r = some (.int (sesA ns sT sC i0 w0)) ∧ RW cI x q w (nI 0) Ts tp rd cs cp st ops cg ns bg sT sC) := by
  obtain ⟨cm, f_many, f_bytes, f_kinds, f_modes, f_times, f_paths, f_contentAt, f_contents, f_path, f_content, f_ready, f_tape, f_chosen, rfl, hRT, ⟨htp, htl, htb⟩, ⟨hrd, hrl, hrb⟩, hch⟩ := hW
  refine Met.ofW (cc := cX9_session) (maxL := 3) (ret := (some .int)) (by decide) rfl ?_
  intro p e s m args below meth c s₁ B hml hv
  obtain ⟨hargs, hP, hK, hD⟩ := hv
  have hx := B.exec
  have hb := B.bytes
  have hr := B.returns
  have hts := atoms_spec (ws := wsX9_session) B.pre
  have hown : s.vm.findClass RX9 = some m.cls := findClass_of_methodNamed B.named
  have hlocks := B.notSynchronized
  have hC : rC p s m args c cX9_session G tys cI wsX9_session := ⟨hx, hb, hts, (by decide +kernel), hown, hK, hT⟩
  have k_sessionChanges := hts (.fieldLink RX9 51 "MirrorKeepModel" "sessionChanges" "[I") (by decide +kernel)
  have k_sessionTime := hts (.fieldLink RX9 48 "MirrorKeepModel" "sessionTime" "[I") (by decide +kernel)
  have k_sessions := hts (.fieldLink RX9 138 "MirrorKeepModel" "sessions" "I") (by decide +kernel)
  have k_thrown := hts (.fieldLink RX9 57 "MirrorKeepModel" "thrown" "I") (by decide +kernel)
  have hR : rR G A s.heap s.heap [] (rwx cI x q th (nI tp.length) (nI st) (nI ops) (nI cg) (nI ns) bg (bI cs) cm f_many f_bytes f_kinds f_modes f_times f_paths f_contentAt f_contents f_path f_content f_ready f_tape sT sC f_chosen) := ⟨hP, hD, va_S.rf⟩
  obtain ⟨Q, hQ⟩ : ∃ Q : State → Prop, Q = MQ below (rQ G A (fun r w => r = some (.int (sesA ns sT sC i0 w0)) ∧ RW cI x q w (nI 0) Ts tp rd cs cp st ops cg ns bg sT sC)) args s 0 0 A := ⟨_, rfl⟩
  change W p l e ({ frames := 0, cells := 0, slots := 0, locals := 0 } : Room) s m args below meth c s.heap [] 0 0 (MQ below (rQ G A (fun r w => r = some (.int (sesA ns sT sC i0 w0)) ∧ RW cI x q w (nI 0) Ts tp rd cs cp st ops cg ns bg sT sC)) args s 0 0 A) (entryFrame m args 3)
  rw [← hQ]
  refine nn_entry hargs (Nat.le_of_ble_eq_true rfl) (lv := [(0, .ref x), (1, .int i0), (2, .int w0)]) rfl (fun ls hl => ?_)
  refine lv_aload_n hx hb dX9_session_0 rfl (lv_at hl 0 rfl) ?_
  refine lv_iconst (v := nI 0) hx hb dX9_session_1 rfl ?_
  refine rp_thrown hC hR k_thrown dX9_session_2 (fun H locs hR => ?_)
  refine lv_iload_n hx hb dX9_session_5 rfl (lv_at hl 1 rfl) ?_
  refine zi_lt hx hb rfl dX9_session_6 (tgt := 17) (by decide) (fun c_1 => ?_) (fun c_1 => ?_)
  · refine lv_iconst (v := (-1)) hx hb dX9_session_17 rfl ?_
    rw [hQ]
    exact rf_iret hx hb hr hlocks hR ⟨by unfold sesA; first | rw [if_neg (by omega)] | (rw [if_pos (by omega), show i0.toInt.toNat = i1 by omega]; first | rw [if_pos (by omega)] | rw [if_neg (by omega), if_pos (by omega)] | rw [if_neg (by omega), if_neg (by omega)]), ⟨_, _, _, _, _, _, _, _, _, _, _, _, _, _, rfl, hRT, ⟨htp, htl, htb⟩, ⟨hrd, hrl, hrb⟩, hch⟩⟩ dX9_session_18
  · refine lv_iload_n hx hb dX9_session_9 rfl (lv_at hl 1 rfl) ?_
    refine lv_aload_n hx hb dX9_session_10 rfl (lv_at hl 0 rfl) ?_
    refine rg_sessions hC hR.1 k_sessions dX9_session_11 ?_
    refine zc_lt hx hb rfl (nI_toInt (by omega)) dX9_session_14 (tgt := 19) (by decide) (fun c_2 => ?_) (fun c_2 => ?_)
    · obtain ⟨i1, hi1, hi12, hi13⟩ := zn_ex (x := i0) (by omega)
      rw [hi1] at hl
      refine lv_iload_n hx hb dX9_session_19 rfl (lv_at hl 2 rfl) ?_
      refine zi_ne hx hb rfl dX9_session_20 (tgt := 32) (by decide) (fun c_3 => ?_) (fun c_3 => ?_)
      · refine lv_iload_n hx hb dX9_session_32 rfl (lv_at hl 2 rfl) ?_
        refine lv_iconst (v := nI 1) hx hb dX9_session_33 rfl ?_
        refine zc_ne hx hb rfl (nI_toInt (by omega)) dX9_session_34 (tgt := 50) (by decide) (fun c_4 => ?_) (fun c_4 => ?_)
        · refine lv_iconst (v := (-1)) hx hb dX9_session_50 rfl ?_
          rw [hQ]
          exact rf_iret hx hb hr hlocks hR ⟨by unfold sesA; first | rw [if_neg (by omega)] | (rw [if_pos (by omega), show i0.toInt.toNat = i1 by omega]; first | rw [if_pos (by omega)] | rw [if_neg (by omega), if_pos (by omega)] | rw [if_neg (by omega), if_neg (by omega)]), ⟨_, _, _, _, _, _, _, _, _, _, _, _, _, _, rfl, hRT, ⟨htp, htl, htb⟩, ⟨hrd, hrl, hrb⟩, hch⟩⟩ dX9_session_51
        · refine lv_iload_n hx hb dX9_session_37 rfl (lv_at hl 1 rfl) ?_
          refine nz_le hx hb dX9_session_38 (tgt := 50) (by decide) (by omega) (fun c_5 => ?_) (fun c_5 => ?_)
          · refine lv_iconst (v := (-1)) hx hb dX9_session_50 rfl ?_
            rw [hQ]
            exact rf_iret hx hb hr hlocks hR ⟨by unfold sesA; first | rw [if_neg (by omega)] | (rw [if_pos (by omega), show i0.toInt.toNat = i1 by omega]; first | rw [if_pos (by omega)] | rw [if_neg (by omega), if_pos (by omega)] | rw [if_neg (by omega), if_neg (by omega)]), ⟨_, _, _, _, _, _, _, _, _, _, _, _, _, _, rfl, hRT, ⟨htp, htl, htb⟩, ⟨hrd, hrl, hrb⟩, hch⟩⟩ dX9_session_51
          · refine lv_aload_n hx hb dX9_session_41 rfl (lv_at hl 0 rfl) ?_
            refine rg_sessionChanges hC hR.1 k_sessionChanges dX9_session_42 ?_
            refine lv_iload_n hx hb dX9_session_45 rfl (lv_at hl 1 rfl) ?_
            refine rl_sessionChanges hC hR.1 (by omega) dX9_session_46 ?_
            refine lv_goto (tgt := 51) hx hb dX9_session_47 (by decide) ?_
            rw [hQ]
            exact rf_iret hx hb hr hlocks hR ⟨by unfold sesA; first | rw [if_neg (by omega)] | (rw [if_pos (by omega), show i0.toInt.toNat = i1 by omega]; first | rw [if_pos (by omega)] | rw [if_neg (by omega), if_pos (by omega)] | rw [if_neg (by omega), if_neg (by omega)]), ⟨_, _, _, _, _, _, _, _, _, _, _, _, _, _, rfl, hRT, ⟨htp, htl, htb⟩, ⟨hrd, hrl, hrb⟩, hch⟩⟩ dX9_session_51
      · refine lv_aload_n hx hb dX9_session_23 rfl (lv_at hl 0 rfl) ?_
        refine rg_sessionTime hC hR.1 k_sessionTime dX9_session_24 ?_
        refine lv_iload_n hx hb dX9_session_27 rfl (lv_at hl 1 rfl) ?_
        refine rl_sessionTime hC hR.1 (by omega) dX9_session_28 ?_
        refine lv_goto (tgt := 51) hx hb dX9_session_29 (by decide) ?_
        rw [hQ]
        exact rf_iret hx hb hr hlocks hR ⟨by unfold sesA; first | rw [if_neg (by omega)] | (rw [if_pos (by omega), show i0.toInt.toNat = i1 by omega]; first | rw [if_pos (by omega)] | rw [if_neg (by omega), if_pos (by omega)] | rw [if_neg (by omega), if_neg (by omega)]), ⟨_, _, _, _, _, _, _, _, _, _, _, _, _, _, rfl, hRT, ⟨htp, htl, htb⟩, ⟨hrd, hrl, hrb⟩, hch⟩⟩ dX9_session_51
    · refine lv_iconst (v := (-1)) hx hb dX9_session_17 rfl ?_
      rw [hQ]
      exact rf_iret hx hb hr hlocks hR ⟨by unfold sesA; first | rw [if_neg (by omega)] | (rw [if_pos (by omega), show i0.toInt.toNat = i1 by omega]; first | rw [if_pos (by omega)] | rw [if_neg (by omega), if_pos (by omega)] | rw [if_neg (by omega), if_neg (by omega)]), ⟨_, _, _, _, _, _, _, _, _, _, _, _, _, _, rfl, hRT, ⟨htp, htl, htb⟩, ⟨hrd, hrl, hrb⟩, hch⟩⟩ dX9_session_18
