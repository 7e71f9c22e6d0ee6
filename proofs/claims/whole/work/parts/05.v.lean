/-! ===== the world of a launch; what holds in a body; V: the machine at (pc, locals, stack) over a light heap ===== -/
def Tys (Y : Nat → ClassId) : List (ClassId × FieldType) := [(Y 0, .int), (Y 1, .long), (Y 2, .boolean), (Y 3, .object "GridStore$Cells"), (Y 4, .object "GridStore$Window")]
abbrev xIAE : String := "java/lang/IllegalArgumentException"
abbrev xIOB : String := "java/lang/IndexOutOfBoundsException"
abbrev xUOE : String := "java/lang/UnsupportedOperationException"
abbrev xNSE : String := "java/util/NoSuchElementException"
abbrev cst5 : List (String × String) := [(xIAE, xIAE), (xIOB, xIOB), (xUOE, xUOE), (xNSE, xNSE), ("[J", "java/lang/Cloneable")]
abbrev ncs : List (String × String) := [(xIAE, xIOB), (xIAE, xUOE), (xIAE, xNSE), (xIOB, xIAE), (xIOB, xUOE), (xIOB, xNSE), (xUOE, xIAE), (xUOE, xIOB), (xUOE, xNSE), (xNSE, xIAE), (xNSE, xIOB), (xNSE, xUOE)]
abbrev dcl : List MethodName := [⟨"java/lang/RuntimeException", "<init>", "()V"⟩, ⟨"java/lang/Exception", "<init>", "()V"⟩, ⟨"java/lang/Throwable", "<init>", "()V"⟩]
def Wk (D : va_G) (Y : Nat → ClassId) (U : State) : Prop := va_K D vwCl (Tys Y) U ∧ va_AO "GridStore$Cells" U ∧ va_AO "GridStore$Window" U ∧ (∀ q ∈ nF, va_Nw (.fieldLinkNest q.1 q.2.1 q.2.2.1 q.2.2.2.1 q.2.2.2.2.1 q.2.2.2.2.2) U) ∧ (∀ q ∈ nM, va_Nw (.methodLinkNest q.1 q.2.1 q.2.2.1 q.2.2.2) U) ∧ (∀ q ∈ cst5, va_Nw (.castable q.1 q.2) U) ∧ (∀ q ∈ ncs, va_Nc q.1 q.2 U) ∧ ∀ q ∈ dcl, va_Nw (.declares q) U
theorem Wk.warm {D : va_G} {Y : Nat → ClassId} {s U : State} (hW : s.WarmedH U.vm) (h : Wk D Y s) : Wk D Y U := by
  obtain ⟨h1, h2, h3, h4, h5, h6, h7, h8⟩ := h
  exact ⟨va_K.moved hW.alike h1, h2.moved hW.alike, h3.moved hW.alike, fun q hq => va_Nw.warmF hW (h4 q hq), fun q hq => va_Nw.warmM hW (h5 q hq), fun q hq => va_Nw.warmC hW (h6 q hq), fun q hq => (h7 q hq).moved hW.alike, fun q hq => va_Nw.warmD hW (h8 q hq)⟩
def Wd (D : va_G) (Y : Nat → ClassId) (b0 : Nat) (U : State) : Prop := Wk D Y U ∧ vx_Zq Bundle.tN "UNASSIGNED_STACK" Bundle.steD (fun q => b0 ≤ q) U U.heap ∧ vx_Zq Bundle.tN "SUPPRESSED_SENTINEL" Bundle.listD (fun q => b0 ≤ q) U U.heap ∧ b0 ≤ U.heap.size
def rmO (d mc ms : Nat) : Room := { frames := d, cells := mc, slots := ms, locals := 36 * d + 6 }
def Cx (p : Program) (l : Launch) (s : State) (m : MethodId) (args : Array Value) (meth : Method) (c : Code) (D : va_G) (Y : Nat → ClassId) (b0 : Nat) (own : String) (cc : ByteArray) (nL : Nat) (ini : Bool) (ret9 : Option FieldType) : Prop :=
  p.tables.exec = Jvm.exec ∧ c.code = cc ∧ s.vm.findClass own = some m.cls ∧ (∀ w ∈ ALL, w.before args s = true) ∧ meth.locks = false ∧ Wd D Y b0 s ∧ c.maxLocals = nL ∧ (ini = true → meth.name = "<init>") ∧ l.stackTraces = false ∧ meth.sig.returnType = ret9
def V (p : Program) (l : Launch) (e : Env) (s : State) (m : MethodId) (args : Array Value) (below : List Frame) (meth : Method) (c : Code) (D : va_G) (b0 d0 mc0 ms0 : Nat) (Z : State → Prop) (k j : Nat) (pc : Nat) (ls : Lo) (st : List Value) (h : AH) : Prop :=
  ∀ (H : Heap) (locs : List Loc) (arr : Array Slot), Rl D b0 h H → va_S (fun q => b0 ≤ q) s.heap H locs → lv_has arr c.maxLocals ls → W p l e (rmO d0 mc0 ms0) s m args below meth c H locs k j Z (F0 m pc arr st)
section VS
variable {p : Program} {l : Launch} {e : Env} {s : State} {m : MethodId} {args : Array Value} {below : List Frame} {meth : Method} {c : Code} {D : va_G} {Y : Nat → ClassId} {b0 d0 mc0 ms0 : Nat} {Z : State → Prop}
variable {own : String} {cc : ByteArray} {nL : Nat} {ini : Bool} {ret9 : Option FieldType} {pc k j : Nat} {ls : Lo} {st : List Value} {h : AH}
set_option maxHeartbeats 4000000 in
theorem V_step (C : Cx p l s m args meth c D Y b0 own cc nL ini ret9) {x : En} (hd : decode cc pc = .ok (x.1, x.2.1)) (ho : okE own nL ini pc x = true) {N J : Lo → List Value → AH → Prop} (hm : mst Y x ls st h N J)
    (hN : ∀ ls st h, N ls st h → V p l e s m args below meth c D b0 d0 mc0 ms0 Z k j (pc + x.2.1) ls st h) (hJ : ∀ ls st h, J ls st h → V p l e s m args below meth c D b0 d0 mc0 ms0 Z k j x.2.2.1 ls st h) :
    V p l e s m args below meth c D b0 d0 mc0 ms0 Z k j pc ls st h := by
  obtain ⟨i, n, t, v, ci, kk, ty⟩ := x
  obtain ⟨hx, hb, hown, hts, hlk, hW, hnL, hini, hfl⟩ := C
  subst hnL
  intro H locs arr hR hS hl
  dsimp only at hd hN hJ
  cases i
  case iconst z =>
    simp only [okE, Bool.and_eq_true, beq_iff_eq] at ho
    obtain ⟨rfl, hv⟩ := ho
    exact lv_iconst hx hb hd hv (hN _ _ _ hm H locs arr hR hS hl)
  case bipush z =>
    simp only [okE, Bool.and_eq_true, beq_iff_eq] at ho
    obtain ⟨rfl, hv⟩ := ho
    exact lv_bipush hx hb hd hv (hN _ _ _ hm H locs arr hR hS hl)
  case sipush z =>
    simp only [okE, Bool.and_eq_true, beq_iff_eq] at ho
    obtain ⟨rfl, hv⟩ := ho
    exact lv_sipush hx hb hd hv (hN _ _ _ hm H locs arr hR hS hl)
  case ldc z =>
    simp only [okE, Bool.and_eq_true, beq_iff_eq, decide_eq_true_eq] at ho
    obtain ⟨rfl, hv⟩ := ho
    exact lv_ldc hx hb hown (hts _ hv) hd (hN _ _ _ hm H locs arr hR hS hl)
  case ldc2_w z =>
    simp only [okE, Bool.and_eq_true, beq_iff_eq, decide_eq_true_eq] at ho
    obtain ⟨rfl, hv⟩ := ho
    exact lv_ldc2 hx hb hown (hts _ hv) hd (hN _ _ _ hm H locs arr hR hS hl)
  case lconst z =>
    simp only [okE, beq_iff_eq] at ho
    subst ho
    exact lv_lconst hx hb hd rfl (hN _ _ _ hm H locs arr hR hS hl)
  case aconst_null =>
    simp only [okE, beq_iff_eq] at ho
    subst ho
    exact lv_null hx hb hd (hN _ _ _ hm H locs arr hR hS hl)
  case iload_n z =>
    simp only [okE, Bool.and_eq_true, beq_iff_eq] at ho
    obtain ⟨rfl, hv⟩ := ho
    obtain ⟨x, h1, h2⟩ := oI_ok hm
    exact lv_iload_n hx hb hd hv (lh_get hl h1) (hN _ _ _ h2 H locs arr hR hS hl)
  case iload z =>
    simp only [okE, Bool.and_eq_true, beq_iff_eq] at ho
    obtain ⟨rfl, rfl⟩ := ho
    obtain ⟨x, h1, h2⟩ := oI_ok hm
    exact lv_iload hx hb hd (lh_get hl h1) (hN _ _ _ h2 H locs arr hR hS hl)
  case lload_n z =>
    simp only [okE, Bool.and_eq_true, beq_iff_eq] at ho
    obtain ⟨rfl, hv⟩ := ho
    obtain ⟨x, h1, h2⟩ := oJ_ok hm
    exact lv_lload_n hx hb hd hv (lh_get hl h1) (hN _ _ _ h2 H locs arr hR hS hl)
  case lload z =>
    simp only [okE, Bool.and_eq_true, beq_iff_eq] at ho
    obtain ⟨rfl, rfl⟩ := ho
    obtain ⟨x, h1, h2⟩ := oJ_ok hm
    exact lv_lload hx hb hd (lh_get hl h1) (hN _ _ _ h2 H locs arr hR hS hl)
  case aload_n z =>
    simp only [okE, Bool.and_eq_true, beq_iff_eq] at ho
    obtain ⟨rfl, hv⟩ := ho
    have hm : oA (gl ls kk) (fun x => N ls (x :: st) h) := hm
    rcases oA_ok hm with ⟨x, h1, h2⟩ | ⟨h1, h2⟩
    · exact lv_aload_n hx hb hd hv (lh_get hl h1) (hN _ _ _ h2 H locs arr hR hS hl)
    · exact lv_aload_nN hx hb hd hv (lh_get hl h1) (hN _ _ _ h2 H locs arr hR hS hl)
  case aload z =>
    simp only [okE, Bool.and_eq_true, beq_iff_eq] at ho
    obtain ⟨rfl, rfl⟩ := ho
    have hm : oA (gl ls z) (fun x => N ls (x :: st) h) := hm
    rcases oA_ok hm with ⟨x, h1, h2⟩ | ⟨h1, h2⟩
    · exact lv_aload hx hb hd (lh_get hl h1) (hN _ _ _ h2 H locs arr hR hS hl)
    · exact lv_aloadN hx hb hd (lh_get hl h1) (hN _ _ _ h2 H locs arr hR hS hl)
  case istore_n z =>
    simp only [okE, Bool.and_eq_true, beq_iff_eq, decide_eq_true_eq] at ho
    obtain ⟨⟨rfl, hv⟩, hn⟩ := ho
    obtain ⟨x, r, rfl, h2⟩ := mI_ok hm
    exact lv_istore_n hx hb hd hv hl hn rfl (fun ls' hl' => hN _ _ _ h2 H locs ls' hR hS (lh_s1 hl'))
  case istore z =>
    simp only [okE, Bool.and_eq_true, beq_iff_eq, decide_eq_true_eq] at ho
    obtain ⟨⟨rfl, rfl⟩, hn⟩ := ho
    obtain ⟨x, r, rfl, h2⟩ := mI_ok hm
    exact lv_istore hx hb hd hl hn rfl (fun ls' hl' => hN _ _ _ h2 H locs ls' hR hS (lh_s1 hl'))
  case lstore_n z =>
    simp only [okE, Bool.and_eq_true, beq_iff_eq, decide_eq_true_eq] at ho
    obtain ⟨⟨rfl, hv⟩, hn⟩ := ho
    obtain ⟨x, r, rfl, h2⟩ := mJ_ok hm
    exact lv_lstore_n hx hb hd hv hl hn rfl (fun ls' hl' => hN _ _ _ h2 H locs ls' hR hS (lh_s2 hl'))
  case lstore z =>
    simp only [okE, Bool.and_eq_true, beq_iff_eq, decide_eq_true_eq] at ho
    obtain ⟨⟨rfl, rfl⟩, hn⟩ := ho
    obtain ⟨x, r, rfl, h2⟩ := mJ_ok hm
    exact lv_lstore hx hb hd hl hn rfl (fun ls' hl' => hN _ _ _ h2 H locs ls' hR hS (lh_s2 hl'))
  case astore_n z =>
    simp only [okE, Bool.and_eq_true, beq_iff_eq, decide_eq_true_eq] at ho
    obtain ⟨⟨rfl, hv⟩, hn⟩ := ho
    have hm : mA st (fun x r => N (s1 ls kk x) r h) := hm
    rcases mA_ok hm with ⟨x, r, rfl, h2⟩ | ⟨r, rfl, h2⟩
    · exact lv_astore_n hx hb hd hv hl hn rfl (fun ls' hl' => hN _ _ _ h2 H locs ls' hR hS (lh_s1 hl'))
    · exact lv_astore_nN hx hb hd hv hl hn rfl (fun ls' hl' => hN _ _ _ h2 H locs ls' hR hS (lh_s1 hl'))
  case astore z =>
    simp only [okE, Bool.and_eq_true, beq_iff_eq, decide_eq_true_eq] at ho
    obtain ⟨⟨rfl, rfl⟩, hn⟩ := ho
    have hm : mA st (fun x r => N (s1 ls z x) r h) := hm
    rcases mA_ok hm with ⟨x, r, rfl, h2⟩ | ⟨r, rfl, h2⟩
    · exact lv_astore hx hb hd hl hn rfl (fun ls' hl' => hN _ _ _ h2 H locs ls' hR hS (lh_s1 hl'))
    · exact lv_astoreN hx hb hd hl hn rfl (fun ls' hl' => hN _ _ _ h2 H locs ls' hR hS (lh_s1 hl'))
  case iinc z w =>
    simp only [okE, Bool.and_eq_true, beq_iff_eq, decide_eq_true_eq] at ho
    obtain ⟨⟨⟨rfl, rfl⟩, hn⟩, hv⟩ := ho
    obtain ⟨x, h1, h2⟩ := oI_ok hm
    obtain ⟨k0, hk0⟩ := List.getElem?_of_mem (gl_mem h1)
    exact lv_iinc hx hb hd hl hk0 (by rw [hv]) hn rfl (fun ls' hl' => hN _ _ _ h2 H locs ls' hR hS (lh_s1 hl'))
  case iadd =>
    simp only [okE, beq_iff_eq] at ho
    subst ho
    obtain ⟨x, y, r, rfl, h2⟩ := mII_ok hm
    exact lv_iadd hx hb hd (hN _ _ _ h2 H locs arr hR hS hl)
  case isub =>
    simp only [okE, beq_iff_eq] at ho
    subst ho
    obtain ⟨x, y, r, rfl, h2⟩ := mII_ok hm
    exact lv_isub hx hb hd (hN _ _ _ h2 H locs arr hR hS hl)
  case imul =>
    simp only [okE, beq_iff_eq] at ho
    subst ho
    obtain ⟨x, y, r, rfl, h2⟩ := mII_ok hm
    exact lv_imul hx hb hd (hN _ _ _ h2 H locs arr hR hS hl)
  case iand =>
    simp only [okE, beq_iff_eq] at ho
    subst ho
    obtain ⟨x, y, r, rfl, h2⟩ := mII_ok hm
    exact lv_iand hx hb hd (hN _ _ _ h2 H locs arr hR hS hl)
  case idiv =>
    simp only [okE, beq_iff_eq] at ho
    subst ho
    obtain ⟨x, y, r, rfl, h0, h2⟩ := mII_ok hm
    exact lv_idiv hx hb hd h0 (hN _ _ _ h2 H locs arr hR hS hl)
  case irem =>
    simp only [okE, beq_iff_eq] at ho
    subst ho
    obtain ⟨x, y, r, rfl, h0, h2⟩ := mII_ok hm
    exact lv_irem hx hb hd h0 (hN _ _ _ h2 H locs arr hR hS hl)
  case ineg =>
    simp only [okE, beq_iff_eq] at ho
    subst ho
    obtain ⟨x, r, rfl, h2⟩ := mI_ok hm
    exact lv_ineg hx hb hd (hN _ _ _ h2 H locs arr hR hS hl)
  case ladd =>
    simp only [okE, beq_iff_eq] at ho
    subst ho
    obtain ⟨x, y, r, rfl, h2⟩ := mJJ_ok hm
    exact lv_ladd hx hb hd (hN _ _ _ h2 H locs arr hR hS hl)
  case lsub =>
    simp only [okE, beq_iff_eq] at ho
    subst ho
    obtain ⟨x, y, r, rfl, h2⟩ := mJJ_ok hm
    exact lv_lsub hx hb hd (hN _ _ _ h2 H locs arr hR hS hl)
  case lmul =>
    simp only [okE, beq_iff_eq] at ho
    subst ho
    obtain ⟨x, y, r, rfl, h2⟩ := mJJ_ok hm
    exact lv_lmul hx hb hd (hN _ _ _ h2 H locs arr hR hS hl)
  case lxor =>
    simp only [okE, beq_iff_eq] at ho
    subst ho
    obtain ⟨x, y, r, rfl, h2⟩ := mJJ_ok hm
    exact lv_lxor hx hb hd (hN _ _ _ h2 H locs arr hR hS hl)
  case ldiv =>
    simp only [okE, beq_iff_eq] at ho
    subst ho
    obtain ⟨x, y, r, rfl, h0, h2⟩ := mJJ_ok hm
    exact lv_ldiv hx hb hd h0 (hN _ _ _ h2 H locs arr hR hS hl)
  case lcmp =>
    simp only [okE, beq_iff_eq] at ho
    subst ho
    obtain ⟨x, y, r, rfl, h2⟩ := mJJ_ok hm
    exact W.lcmp hx hb hd (hN _ _ _ h2 H locs arr hR hS hl)
  case i2l =>
    simp only [okE, beq_iff_eq] at ho
    subst ho
    obtain ⟨x, r, rfl, h2⟩ := mI_ok hm
    exact lv_i2l hx hb hd rfl (hN _ _ _ h2 H locs arr hR hS hl)
  case l2i =>
    simp only [okE, beq_iff_eq] at ho
    subst ho
    obtain ⟨x, r, rfl, h2⟩ := mJ_ok hm
    exact lv_l2i hx hb hd rfl (hN _ _ _ h2 H locs arr hR hS hl)
  case dup =>
    simp only [okE, beq_iff_eq] at ho
    subst ho
    obtain ⟨x, r, rfl, h0, h2⟩ := mV_ok hm
    exact lv_dup hx hb hd h0 (hN _ _ _ h2 H locs arr hR hS hl)
  case pop =>
    simp only [okE, beq_iff_eq] at ho
    subst ho
    obtain ⟨x, r, rfl, h0, h2⟩ := mV_ok hm
    exact lv_pop hx hb hd h0 (hN _ _ _ h2 H locs arr hR hS hl)
  case dup2 =>
    simp only [okE, beq_iff_eq] at ho
    subst ho
    obtain ⟨x, y, r, rfl, ⟨h0, h1⟩, h2⟩ := mVV_ok hm
    exact lv_dup2_11 hx hb hd h0 h1 (hN _ _ _ h2 H locs arr hR hS hl)
  case ifCond cd off =>
    simp only [okE, Bool.and_eq_true, beq_iff_eq, decide_eq_true_eq] at ho
    obtain ⟨rfl, ht⟩ := ho
    cases cd
    · obtain ⟨x, r, rfl, h1, h2⟩ := mI_ok hm
      exact lv_if_eq hx hb hd ht (fun q => hJ _ _ _ (h1 q) H locs arr hR hS hl) (fun q => hN _ _ _ (h2 q) H locs arr hR hS hl)
    · obtain ⟨x, r, rfl, h1, h2⟩ := mI_ok hm
      exact lv_if_ne hx hb hd ht (fun q => hJ _ _ _ (h1 q) H locs arr hR hS hl) (fun q => hN _ _ _ (h2 q) H locs arr hR hS hl)
    · obtain ⟨x, r, rfl, h1, h2⟩ := mI_ok hm
      exact lv_if_lt hx hb hd ht (fun q => hJ _ _ _ (h1 q) H locs arr hR hS hl) (fun q => hN _ _ _ (h2 q) H locs arr hR hS hl)
    · obtain ⟨x, r, rfl, h1, h2⟩ := mI_ok hm
      exact lv_if_ge hx hb hd ht (fun q => hJ _ _ _ (h1 q) H locs arr hR hS hl) (fun q => hN _ _ _ (h2 q) H locs arr hR hS hl)
    · obtain ⟨x, r, rfl, h1, h2⟩ := mI_ok hm
      exact lv_if_gt hx hb hd ht (fun q => hJ _ _ _ (h1 q) H locs arr hR hS hl) (fun q => hN _ _ _ (h2 q) H locs arr hR hS hl)
    · obtain ⟨x, r, rfl, h1, h2⟩ := mI_ok hm
      exact lv_if_le hx hb hd ht (fun q => hJ _ _ _ (h1 q) H locs arr hR hS hl) (fun q => hN _ _ _ (h2 q) H locs arr hR hS hl)
  case if_icmp cd off =>
    simp only [okE, Bool.and_eq_true, beq_iff_eq, decide_eq_true_eq] at ho
    obtain ⟨rfl, ht⟩ := ho
    cases cd
    · obtain ⟨x, y, r, rfl, h1, h2⟩ := mII_ok hm
      exact lv_icmp_eq hx hb hd ht (fun q => hJ _ _ _ (h1 q) H locs arr hR hS hl) (fun q => hN _ _ _ (h2 q) H locs arr hR hS hl)
    · obtain ⟨x, y, r, rfl, h1, h2⟩ := mII_ok hm
      exact lv_icmp_ne hx hb hd ht (fun q => hJ _ _ _ (h1 q) H locs arr hR hS hl) (fun q => hN _ _ _ (h2 q) H locs arr hR hS hl)
    · obtain ⟨x, y, r, rfl, h1, h2⟩ := mII_ok hm
      exact lv_icmp_lt hx hb hd ht (fun q => hJ _ _ _ (h1 q) H locs arr hR hS hl) (fun q => hN _ _ _ (h2 q) H locs arr hR hS hl)
    · obtain ⟨x, y, r, rfl, h1, h2⟩ := mII_ok hm
      exact lv_icmp_ge hx hb hd ht (fun q => hJ _ _ _ (h1 q) H locs arr hR hS hl) (fun q => hN _ _ _ (h2 q) H locs arr hR hS hl)
    · obtain ⟨x, y, r, rfl, h1, h2⟩ := mII_ok hm
      exact lv_icmp_gt hx hb hd ht (fun q => hJ _ _ _ (h1 q) H locs arr hR hS hl) (fun q => hN _ _ _ (h2 q) H locs arr hR hS hl)
    · obtain ⟨x, y, r, rfl, h1, h2⟩ := mII_ok hm
      exact lv_icmp_le hx hb hd ht (fun q => hJ _ _ _ (h1 q) H locs arr hR hS hl) (fun q => hN _ _ _ (h2 q) H locs arr hR hS hl)
  case if_acmp cd off =>
    simp only [okE, Bool.and_eq_true, beq_iff_eq, decide_eq_true_eq] at ho
    obtain ⟨rfl, ht⟩ := ho
    cases cd
    · exact hm.elim
    · obtain ⟨x, y, r, rfl, h1, h2⟩ := mRR_ok hm
      exact lv_acmp_ne (rx := some x) (ry := some y) hx hb hd ht (fun q => hJ _ _ _ (h1 (fun z => q (by rw [z]))) H locs arr hR hS hl) (fun q => hN _ _ _ (h2 (Option.some.inj q)) H locs arr hR hS hl)
  case ifnull off =>
    simp only [okE, Bool.and_eq_true, beq_iff_eq, decide_eq_true_eq] at ho
    obtain ⟨rfl, ht⟩ := ho
    rcases mN_ok hm with ⟨r, rfl, h1⟩ | ⟨x, r, rfl, h1⟩
    · exact lv_ifnullN hx hb hd ht (hJ _ _ _ h1 H locs arr hR hS hl)
    · exact lv_ifnull hx hb hd (hN _ _ _ h1 H locs arr hR hS hl)
  case ifnonnull off =>
    simp only [okE, Bool.and_eq_true, beq_iff_eq, decide_eq_true_eq] at ho
    obtain ⟨rfl, ht⟩ := ho
    rcases mN_ok hm with ⟨r, rfl, h1⟩ | ⟨x, r, rfl, h1⟩
    · exact lv_ifnonnullN hx hb hd (hN _ _ _ h1 H locs arr hR hS hl)
    · exact lv_ifnonnull hx hb hd ht (hJ _ _ _ h1 H locs arr hR hS hl)
  case goto off =>
    simp only [okE, Bool.and_eq_true, beq_iff_eq, decide_eq_true_eq] at ho
    obtain ⟨rfl, ht⟩ := ho
    exact lv_goto hx hb hd ht (hJ _ _ _ hm H locs arr hR hS hl)
  case getfield idx =>
    obtain ⟨a, r, rfl, h1⟩ := mR_ok hm
    obtain ⟨fs, ha, h2⟩ := mO_ok h1
    obtain ⟨x, hv, h3⟩ := oV_ok h2
    cases hc : vwCl[ci]? with
    | none => simp [okE, hc] at ho
    | some q =>
      simp only [okE, hc, Bool.and_eq_true, beq_iff_eq, Bool.or_eq_true, decide_eq_true_eq] at ho
      obtain ⟨rfl, hk, hlk⟩ := ho
      obtain ⟨k0, hk0⟩ := hR.at ha
      have hmem : q ∈ vwCl := List.mem_of_getElem? hc
      obtain ⟨C9, T9, N9⟩ := q
      rcases hlk with hlk | hlk
      · exact va_get hx hb (Ts := ALL) hts (uw_ok _ hmem) hown hW.1.1 hR.P k0 hk0 hc kk hk (hts _ hlk) (fun _ h => h) (nth_get hv) hd (hN _ _ _ h3 H locs arr hR hS hl)
      · exact va_getN hx hb (Ts := ALL) hts (uw_ok _ hmem) hown hW.1.1 hR.P k0 hk0 hc kk hk (va_Nw.use rfl (hW.1.2.2.2.1 _ hlk)) (fun _ h => h) (nth_get hv) hd (hN _ _ _ h3 H locs arr hR hS hl)
  case putfield idx =>
    obtain ⟨x, a, r, rfl, h1⟩ := mVR_ok hm
    obtain ⟨fs, ha, hlen, ⟨hf1, hf2⟩, h3⟩ := mO_ok h1
    cases hc : vwCl[ci]? with
    | none => simp [okE, hc] at ho
    | some q =>
      simp only [okE, hc, Bool.and_eq_true, beq_iff_eq, Bool.or_eq_true, decide_eq_true_eq] at ho
      obtain ⟨rfl, ⟨hk, hpd⟩, hlk⟩ := ho
      obtain ⟨k0, hk0⟩ := hR.at ha
      have hmem : q ∈ vwCl := List.mem_of_getElem? hc
      obtain ⟨C9, T9, N9⟩ := q
      have kq : ∀ (H1 : Heap) (locs1 : List Loc), va_P D vwCl ((dm h H.size).set k0 (a, .inr (ci, fs.set kk x))) H1 → va_D (fun q => b0 ≤ q) ((dm h H.size).set k0 (a, .inr (ci, fs.set kk x))) → va_S (fun q => b0 ≤ q) s.heap H1 locs1 → W p l e (rmO d0 mc0 ms0) s m args below meth c H1 locs1 k j Z (F0 m (pc + 3) arr r) :=
        fun H1 locs1 hP1 _ hS1 => hN _ _ _ h3 H1 locs1 arr (hR.set ha hk0 hP1) hS1 hl
      rcases hlk with ⟨hfin, hlk | hlk⟩ | ⟨⟨⟨hfin, hi⟩, hdecl⟩, hlk⟩
      · exact va_put hx hb (Ts := ALL) hts (uw_ok _ hmem) (tyF T9) (ty_ok _ hmem) (nm_ok _ hmem) hown hW.1.1 hR.P hR.Dd hS k0 hk0 hc kk hk (hts _ hlk) (fun _ h => h) hfin hpd hf1 hf2 hlen hd kq
      · exact va_putN hx hb (Ts := ALL) hts (uw_ok _ hmem) (tyF T9) (ty_ok _ hmem) (nm_ok _ hmem) hown hW.1.1 hR.P hR.Dd hS k0 hk0 hc kk hk (va_Nw.use rfl (hW.1.2.2.2.1 _ hlk)) (fun _ h => h) hfin hpd hf1 hf2 hlen hd kq
      · exact va_putF hx hb (Ts := ALL) hts (uw_ok _ hmem) (tyF T9) (ty_ok _ hmem) (nm_ok _ hmem) hown hW.1.1 hR.P hR.Dd hS k0 hk0 hc kk hk (hts _ hlk) (fun _ h => h) hfin (hini hi) hdecl hpd hf1 hf2 hlen hd kq
  case arraylength =>
    simp only [okE, beq_iff_eq] at ho
    subst ho
    obtain ⟨a, r, rfl, h1⟩ := mR_ok hm
    obtain ⟨cA, n9, x9, ha, hcA, h2⟩ := mL_ok h1
    obtain ⟨k0, hk0⟩ := hR.at ha
    rcases hcA with rfl | rfl | rfl | rfl | rfl
    · exact va_alen hx hb hW.1.1 hR.P k0 0 hk0 rfl rfl hd (hN _ _ _ h2 H locs arr hR hS hl)
    · exact va_alen hx hb hW.1.1 hR.P k0 1 hk0 rfl rfl hd (hN _ _ _ h2 H locs arr hR hS hl)
    · exact va_alen hx hb hW.1.1 hR.P k0 2 hk0 rfl rfl hd (hN _ _ _ h2 H locs arr hR hS hl)
    · exact va_alen hx hb hW.1.1 hR.P k0 3 hk0 rfl rfl hd (hN _ _ _ h2 H locs arr hR hS hl)
    · exact va_alen hx hb hW.1.1 hR.P k0 4 hk0 rfl rfl hd (hN _ _ _ h2 H locs arr hR hS hl)
  case iaload =>
    simp only [okE, beq_iff_eq] at ho
    subst ho
    obtain ⟨i, a, r, rfl, h1⟩ := mIR_ok hm
    obtain ⟨n9, g9, ha, hin, h2⟩ := aI_ok h1
    obtain ⟨k0, hk0⟩ := hR.at ha
    exact va_iald hx hb hW.1.1 hR.P k0 0 hk0 rfl hin hd (hN _ _ _ h2 H locs arr hR hS hl)
  case baload =>
    simp only [okE, beq_iff_eq] at ho
    subst ho
    obtain ⟨i, a, r, rfl, h1⟩ := mIR_ok hm
    obtain ⟨n9, g9, ha, hin, h2⟩ := aI_ok h1
    obtain ⟨k0, hk0⟩ := hR.at ha
    exact va_zald hx hb hW.1.1 hR.P k0 2 hk0 rfl hin hd (hN _ _ _ h2 H locs arr hR hS hl)
  case laload =>
    simp only [okE, beq_iff_eq] at ho
    subst ho
    obtain ⟨i, a, r, rfl, h1⟩ := mIR_ok hm
    obtain ⟨n9, g9, ha, hin, h2⟩ := aJ_ok h1
    obtain ⟨k0, hk0⟩ := hR.at ha
    exact va_lald hx hb hW.1.1 hR.P k0 1 hk0 rfl hin hd (hN _ _ _ h2 H locs arr hR hS hl)
  case aaload =>
    simp only [okE, Bool.and_eq_true, Bool.or_eq_true, beq_iff_eq] at ho
    obtain ⟨rfl, hci⟩ := ho
    obtain ⟨i, a, r, rfl, h1⟩ := mIR_ok hm
    obtain ⟨n9, g9, ha, hin, h2⟩ := aQ_ok h1
    obtain ⟨k0, hk0⟩ := hR.at ha
    rcases hci with rfl | rfl
    · exact va_aldq hx hb hW.1.1 hR.P k0 3 hk0 rfl hin hd (hN _ _ _ h2 H locs arr hR hS hl)
    · exact va_aldq hx hb hW.1.1 hR.P k0 4 hk0 rfl hin hd (hN _ _ _ h2 H locs arr hR hS hl)
  case iastore =>
    simp only [okE, beq_iff_eq] at ho
    subst ho
    obtain ⟨x, i, a, r, rfl, h1⟩ := mIIR_ok hm
    obtain ⟨n9, g9, ha, hin, h2⟩ := aI_ok h1
    obtain ⟨k0, hk0⟩ := hR.at ha
    exact va_iast hx hb hW.1.1 hR.P hR.Dd hS k0 0 hk0 rfl hin hd (fun H1 locs1 hP1 _ hS1 => hN _ _ _ h2 H1 locs1 arr (hR.set ha hk0 hP1) hS1 hl)
  case bastore =>
    simp only [okE, beq_iff_eq] at ho
    subst ho
    obtain ⟨x, i, a, r, rfl, h1⟩ := mIIR_ok hm
    obtain ⟨n9, g9, ha, hin, h2⟩ := aI_ok h1
    obtain ⟨k0, hk0⟩ := hR.at ha
    exact va_zast hx hb hW.1.1 hR.P hR.Dd hS k0 2 hk0 rfl hin hd (fun H1 locs1 hP1 _ hS1 => hN _ _ _ h2 H1 locs1 arr (hR.set ha hk0 hP1) hS1 hl)
  case lastore =>
    simp only [okE, beq_iff_eq] at ho
    subst ho
    obtain ⟨x, i, a, r, rfl, h1⟩ := mJIR_ok hm
    obtain ⟨n9, g9, ha, hin, h2⟩ := aJ_ok h1
    obtain ⟨k0, hk0⟩ := hR.at ha
    exact va_last hx hb hW.1.1 hR.P hR.Dd hS k0 1 hk0 rfl hin hd (fun H1 locs1 hP1 _ hS1 => hN _ _ _ h2 H1 locs1 arr (hR.set ha hk0 hP1) hS1 hl)
  case aastore =>
    simp only [okE, Bool.and_eq_true, Bool.or_eq_true, beq_iff_eq] at ho
    obtain ⟨rfl, hci⟩ := ho
    obtain ⟨x, i, a, r, rfl, h1⟩ := mRIR_ok hm
    obtain ⟨n9, g9, ha, hin, h2⟩ := aQ_ok h1
    obtain ⟨fs, hxa, h3⟩ := mO_ok h2
    obtain ⟨k0, hk0⟩ := hR.at ha
    obtain ⟨k1, hk1⟩ := hR.at hxa
    rcases hci with rfl | rfl
    · exact va_astq (r := (RX0, TX0, 3)) hx hb hW.1.1 hR.P hR.Dd hS k0 3 k1 0 hk0 rfl hk1 rfl hin hd (fun H1 locs1 hP1 _ hS1 => hN _ _ _ h3 H1 locs1 arr (hR.set ha hk0 hP1) hS1 hl)
    · exact va_astq (r := (RX4, TX4, 10)) hx hb hW.1.1 hR.P hR.Dd hS k0 4 k1 4 hk0 rfl hk1 rfl hin hd (fun H1 locs1 hP1 _ hS1 => hN _ _ _ h3 H1 locs1 arr (hR.set ha hk0 hP1) hS1 hl)
  all_goals exact hm.elim
theorem V_run (C : Cx p l s m args meth c D Y b0 own cc nL ini ret9) : ∀ {code : List En} {pc : Nat} {ls : Lo} {st : List Value} {h : AH}, isAt own nL ini cc pc code = true →
    mrn Y (V p l e s m args below meth c D b0 d0 mc0 ms0 Z k j) code pc ls st h → V p l e s m args below meth c D b0 d0 mc0 ms0 Z k j pc ls st h
  | [], _, _, _, _, _, hm => hm
  | x :: r, pc, ls, st, h, hk, hm => by
    simp only [isAt, Bool.and_eq_true, decide_eq_true_eq] at hk
    exact V_step C hk.1.1 hk.1.2 hm (fun ls st h h1 => V_run C hk.2 h1) (fun ls st h h1 => h1)
end VS
