/-! ===== the law itself ===== -/
theorem inst_ok : ∀ r ∈ vwCl, Cond.instantiable r.1 r.2.2 ∈ lw_tbl := by decide +kernel
theorem all_tbl {w : Cond} (h : w ∈ ALL) : w ∈ lw_tbl := (List.mem_filter.mp h).1
theorem nF_ok : ∀ q ∈ nF, Cond.fieldLinkNest q.1 q.2.1 q.2.2.1 q.2.2.2.1 q.2.2.2.2.1 q.2.2.2.2.2 ∈ lw_tbl := by decide +kernel
theorem nM_ok : ∀ q ∈ nM, Cond.methodLinkNest q.1 q.2.1 q.2.2.1 q.2.2.2 ∈ lw_tbl := by decide +kernel
theorem cst_ok : ∀ q ∈ cst5, Cond.castable q.1 q.2 ∈ lw_tbl := by decide +kernel
theorem ncs_ok : ∀ q ∈ ncs, Cond.not (.castable q.1 q.2) ∈ lw_tbl ∨ Cond.not (.castable q.1 q.2) ∈ flatC (Jvm.Cond.and given_1 narrow_1) := by decide +kernel
theorem dcl_ok : ∀ q ∈ dcl, Cond.declares q ∈ lw_tbl := by decide +kernel
theorem ak_p {s : State} {args : Array Value} {ty : FieldType} (h : (Cond.arrayClass ty).before args s = true) : ∃ c : ClassId, ArrOfT s c ty ∧ s.vm.findClass ("[" ++ ty.toString) = some c := by
  obtain ⟨c, k, comp, h1, h2, h3⟩ := Cond.arrayClass_spec h
  exact ⟨c, fun n z => ⟨fun k h => (by cases h), k, h2, comp, h3⟩, h1⟩
theorem ak_o {s : State} {args : Array Value} {C : String} (h : (Cond.arrayOver (.object C)).before args s = true) : ∃ c : ClassId, ArrOfT s c (.object C) ∧ va_RA s c (.object C) := by
  obtain ⟨comp, c, k, h1, h2, h3, h4, h5⟩ := Cond.arrayOver_spec h
  exact ⟨c, fun n z => ⟨fun k h => (by cases h), k, h3, comp, h4⟩, k, comp, h3, h4, h1, h5⟩
set_option maxHeartbeats 4000000 in
theorem wd_entry {s : State} {args : Array Value} (hts : ∀ w ∈ lw_tbl, w.before args s = true) (hgv : (Jvm.Cond.and given_1 narrow_1).before args s = true) : ∃ (D : va_G) (Y : Nat → ClassId), Wd D Y s.heap.size s := by
  have hs := flat_of_before _ hgv
  have hc : ∀ c : Nat, ∃ (cC : ClassId) (iS : Nat → Nat), ∀ q : vw_C, vwCl[c]? = some q → u_Kn s q.1 q.2.1 q.2.2 cC iS := by
    intro c
    cases hq : vwCl[c]? with
    | none => exact ⟨0, fun _ => 0, fun q z => by cases z⟩
    | some q =>
      have hm := List.mem_of_getElem? hq
      obtain ⟨cC, iS, h⟩ := u_known (T := q.2.1) (N := q.2.2) (C := q.1) hts (fun w hw => all_tbl (uw_ok q hm w hw)) (hts _ (inst_ok q hm))
      exact ⟨cC, iS, fun q' z => by cases z; exact h⟩
  obtain ⟨c0, g0, f0⟩ := ak_p (hts _ (all_tbl ac_I))
  obtain ⟨c1, g1, f1⟩ := ak_p (hts _ (all_tbl ac_J))
  obtain ⟨c2, g2, f2⟩ := ak_p (hts _ (all_tbl ac_Z))
  have ho3 : (Cond.arrayOver (.object "GridStore$Cells")).before args s = true := hts _ (by decide +kernel)
  have ho4 : (Cond.arrayOver (.object "GridStore$Window")).before args s = true := hts _ (by decide +kernel)
  obtain ⟨c3, g3, f3⟩ := ak_o ho3
  obtain ⟨c4, g4, f4⟩ := ak_o ho4
  refine ⟨(fun c => Classical.choose (hc c), fun c => Classical.choose (Classical.choose_spec (hc c))), fun k => if k = 0 then c0 else if k = 1 then c1 else if k = 2 then c2 else if k = 3 then c3 else c4, ⟨⟨fun c q hq => Classical.choose_spec (Classical.choose_spec (hc c)) q hq, fun k q hq => ?_⟩, va_AO.of ho3, va_AO.of ho4, fun q hq => va_Nw.of rfl (hts _ (nF_ok q hq)), fun q hq => va_Nw.of rfl (hts _ (nM_ok q hq)), fun q hq => va_Nw.of rfl (hts _ (cst_ok q hq)), fun q hq => ?_, fun q hq => va_Nw.of rfl (hts _ (dcl_ok q hq))⟩, ?_, ?_, Nat.le_refl _⟩
  · rcases k with _ | _ | _ | _ | _ | k
    · cases hq; exact ⟨g0, f0⟩
    · cases hq; exact ⟨g1, f1⟩
    · cases hq; exact ⟨g2, f2⟩
    · cases hq; exact ⟨g3, f3⟩
    · cases hq; exact ⟨g4, f4⟩
    · cases hq
  · rcases ncs_ok q hq with h | h
    · exact va_Nc.of (hts _ h)
    · exact va_Nc.of (hs _ h)
  · exact vx_Zqof (hts _ (by decide +kernel)) (hts _ (by decide +kernel)) (hs _ (by decide +kernel)) (fun a ha z => absurd z (Nat.not_le.mpr ha))
  · exact vx_Zqof (hts _ (by decide +kernel)) (hts _ (by decide +kernel)) (hs _ (by decide +kernel)) (fun a ha z => absurd z (Nat.not_le.mpr ha))
theorem and31 (x : Int32) : 0 ≤ (x &&& 31).toInt ∧ (x &&& 31).toInt ≤ 31 := by
  have h1 : (x &&& 31).toBitVec.toNat ≤ 31 := by
    rw [Int32.toBitVec_and, BitVec.toNat_and]
    exact Nat.and_le_right
  have h2 : (x &&& 31).toInt = (x &&& 31).toBitVec.toInt := rfl
  rw [h2, BitVec.toInt_eq_toNat_of_lt (by omega)]
  omega
theorem gt8 {L p : Nat} (hL : L ≤ 4096) (hp : p ≤ 8192) : (nI L - 8 < nI p) = (L < p + 8) := by
  have e1 : (nI L - 8).toInt = (L : Int) - 8 := by rw [n8]; exact pk_sub_toInt (by omega) (by omega)
  have e2 : (nI p).toInt = (p : Int) := nI_toInt (by omega)
  rw [Int32.lt_iff_toInt_lt, e1, e2]
  exact propext ⟨fun z => by omega, fun z => by omega⟩
theorem px8 {p : Nat} : nI p + 8 = nI (p + 8) := nI_add _ _
section
variable {p : Program} {l : Launch} {e : Env} {s : State} {mI : MethodId} {args : Array Value} {below : List Frame} {meth : Method} {c : Code} {D : va_G} {Y : Nat → ClassId} {b0 : Nat} {Z : State → Prop} {B : Nat → Nat} {a m o b L : Nat} {xs : Nat → Int32} {σ : SG} {h : AH} {k j : Nat}
theorem V_widen {d0 mc0 ms0 k' j' pc : Nat} {ls : Lo} {st : List Value} (h1 : k ≤ k') (h2 : j ≤ j') (kk : V p l e s mI args below meth c D b0 d0 mc0 ms0 Z k' j' pc ls st h) : V p l e s mI args below meth c D b0 d0 mc0 ms0 Z k j pc ls st h :=
  fun H locs arr hR hS hl => W.widen h1 h2 (kk H locs arr hR hS hl)
set_option maxRecDepth 20000 in
/-- the law's loop: with 8t numbers read, both hold the same state -/
theorem law_loop (C : Cx p l s mI args meth c D Y b0 "GridStoreLaw" cL_law 8 false (some .boolean)) (hXC : XC s b0 b L xs) (hL : L ≤ 4096)
    (KE : ∀ k j ls h, k ≤ 601024 → j ≤ 7293034 → V p l e s mI args below meth c D b0 12 601024 7293034 Z k j 2216 ls [.int 1] h) :
    ∀ (n t : Nat) (σ : SG) (h : AH), t ≤ 512 → L < 8 * t + 8 * (n + 1) → JS Y B a m o σ h → V p l e s mI args below meth c D b0 12 601024 7293034 Z (40 + 12 * t) (660000 + 4000 * t) 23 [(0, .ref b), (1, .ref a), (2, .ref m), (3, .ref o), (4, .int (nI (8 * t)))] [] h := by
  intro n
  induction n with
  | zero =>
    intro t σ h ht hn J
    refine V_run C b_L_law_23 ?_
    simp only [k_L_law_23, r_nil, r_iconst, r_bipush, r_sipush, r_ldc, r_lconst0, r_lconst1, r_ldc2, r_null, r_iload_n, r_iload, r_lload_n, r_lload, r_aload_n, r_aload, r_istore_n, r_istore, r_lstore_n, r_lstore, r_astore_nR, r_astoreR, r_astore_nN, r_astoreN, r_iinc, r_iadd, r_isub, r_imul, r_iand, r_idiv, r_irem, r_ineg, r_ladd, r_lsub, r_lmul, r_lxor, r_ldiv, r_lcmp, r_i2l, r_l2i, r_dup, r_pop, r_dup2, r_ifeq, r_ifne, r_iflt, r_ifge, r_ifgt, r_ifle, r_icmpeq, r_icmpne, r_icmplt, r_icmpge, r_icmpgt, r_icmple, r_acmpne, r_ifnullN, r_ifnullR, r_ifnonnullN, r_ifnonnullR, r_goto, r_getf, r_putf, r_alen, r_iald, r_bald, r_lald, r_aald, r_iast, r_bast, r_last, r_aast, gl_c, s1_d, s2_d, ins_n, ins_c, rm1_n, rm1_c, rm2_n, rm2_c, cat_i, cat_l, cat_r, cat_n, oI_t, oJ_t, oA_t, oA_u, oV_t, mO_s, aI_s, aJ_s, aQ_s, mL_0, mL_1, mL_2, mL_3, mL_4, nth_0, nth_s, rf_s, rf_n, fit_i, fit_r, fit_a, fit_b, fit_b0, fit_b1, Option.toList_some, Option.toList_none, List.cons_append, List.nil_append, List.set_cons_zero, List.set_cons_succ, List.length_cons, List.length_nil, Nat.reduceAdd, Nat.reduceEqDiff, Nat.reduceLT, reduceIte, false_implies, true_implies, not_false_eq_true, not_true_eq_false, true_and, and_true, Nat.zero_add, lv_args, nI_1, Bool.false_eq_true, eq_self]
    refine V_slen C hXC d_L_law_26 ?_
    have e1 := gt8 hL (p := 8 * t) (by omega)
    have e2 : (L < 8 * t + 8) = True := eq_true (by omega)
    refine V_run C b_L_law_27 ?_
    simp only [k_L_law_27, e1, e2, r_nil, r_iconst, r_bipush, r_sipush, r_ldc, r_lconst0, r_lconst1, r_ldc2, r_null, r_iload_n, r_iload, r_lload_n, r_lload, r_aload_n, r_aload, r_istore_n, r_istore, r_lstore_n, r_lstore, r_astore_nR, r_astoreR, r_astore_nN, r_astoreN, r_iinc, r_iadd, r_isub, r_imul, r_iand, r_idiv, r_irem, r_ineg, r_ladd, r_lsub, r_lmul, r_lxor, r_ldiv, r_lcmp, r_i2l, r_l2i, r_dup, r_pop, r_dup2, r_ifeq, r_ifne, r_iflt, r_ifge, r_ifgt, r_ifle, r_icmpeq, r_icmpne, r_icmplt, r_icmpge, r_icmpgt, r_icmple, r_acmpne, r_ifnullN, r_ifnullR, r_ifnonnullN, r_ifnonnullR, r_goto, r_getf, r_putf, r_alen, r_iald, r_bald, r_lald, r_aald, r_iast, r_bast, r_last, r_aast, gl_c, s1_d, s2_d, ins_n, ins_c, rm1_n, rm1_c, rm2_n, rm2_c, cat_i, cat_l, cat_r, cat_n, oI_t, oJ_t, oA_t, oA_u, oV_t, mO_s, aI_s, aJ_s, aQ_s, mL_0, mL_1, mL_2, mL_3, mL_4, nth_0, nth_s, rf_s, rf_n, fit_i, fit_r, fit_a, fit_b, fit_b0, fit_b1, Option.toList_some, Option.toList_none, List.cons_append, List.nil_append, List.set_cons_zero, List.set_cons_succ, List.length_cons, List.length_nil, Nat.reduceAdd, Nat.reduceEqDiff, Nat.reduceLT, reduceIte, false_implies, true_implies, not_false_eq_true, not_true_eq_false, true_and, and_true, Nat.zero_add, lv_args, nI_1, Bool.false_eq_true, eq_self]
    refine V_run C b_L_law_2215 ?_
    simp only [k_L_law_2215, r_nil, r_iconst, r_bipush, r_sipush, r_ldc, r_lconst0, r_lconst1, r_ldc2, r_null, r_iload_n, r_iload, r_lload_n, r_lload, r_aload_n, r_aload, r_istore_n, r_istore, r_lstore_n, r_lstore, r_astore_nR, r_astoreR, r_astore_nN, r_astoreN, r_iinc, r_iadd, r_isub, r_imul, r_iand, r_idiv, r_irem, r_ineg, r_ladd, r_lsub, r_lmul, r_lxor, r_ldiv, r_lcmp, r_i2l, r_l2i, r_dup, r_pop, r_dup2, r_ifeq, r_ifne, r_iflt, r_ifge, r_ifgt, r_ifle, r_icmpeq, r_icmpne, r_icmplt, r_icmpge, r_icmpgt, r_icmple, r_acmpne, r_ifnullN, r_ifnullR, r_ifnonnullN, r_ifnonnullR, r_goto, r_getf, r_putf, r_alen, r_iald, r_bald, r_lald, r_aald, r_iast, r_bast, r_last, r_aast, gl_c, s1_d, s2_d, ins_n, ins_c, rm1_n, rm1_c, rm2_n, rm2_c, cat_i, cat_l, cat_r, cat_n, oI_t, oJ_t, oA_t, oA_u, oV_t, mO_s, aI_s, aJ_s, aQ_s, mL_0, mL_1, mL_2, mL_3, mL_4, nth_0, nth_s, rf_s, rf_n, fit_i, fit_r, fit_a, fit_b, fit_b0, fit_b1, Option.toList_some, Option.toList_none, List.cons_append, List.nil_append, List.set_cons_zero, List.set_cons_succ, List.length_cons, List.length_nil, Nat.reduceAdd, Nat.reduceEqDiff, Nat.reduceLT, reduceIte, false_implies, true_implies, not_false_eq_true, not_true_eq_false, true_and, and_true, Nat.zero_add, lv_args, nI_1, Bool.false_eq_true, eq_self]
    exact KE _ _ _ _ (by omega) (by omega)
  | succ n ih =>
    intro t σ h ht hn J
    refine V_run C b_L_law_23 ?_
    simp only [k_L_law_23, r_nil, r_iconst, r_bipush, r_sipush, r_ldc, r_lconst0, r_lconst1, r_ldc2, r_null, r_iload_n, r_iload, r_lload_n, r_lload, r_aload_n, r_aload, r_istore_n, r_istore, r_lstore_n, r_lstore, r_astore_nR, r_astoreR, r_astore_nN, r_astoreN, r_iinc, r_iadd, r_isub, r_imul, r_iand, r_idiv, r_irem, r_ineg, r_ladd, r_lsub, r_lmul, r_lxor, r_ldiv, r_lcmp, r_i2l, r_l2i, r_dup, r_pop, r_dup2, r_ifeq, r_ifne, r_iflt, r_ifge, r_ifgt, r_ifle, r_icmpeq, r_icmpne, r_icmplt, r_icmpge, r_icmpgt, r_icmple, r_acmpne, r_ifnullN, r_ifnullR, r_ifnonnullN, r_ifnonnullR, r_goto, r_getf, r_putf, r_alen, r_iald, r_bald, r_lald, r_aald, r_iast, r_bast, r_last, r_aast, gl_c, s1_d, s2_d, ins_n, ins_c, rm1_n, rm1_c, rm2_n, rm2_c, cat_i, cat_l, cat_r, cat_n, oI_t, oJ_t, oA_t, oA_u, oV_t, mO_s, aI_s, aJ_s, aQ_s, mL_0, mL_1, mL_2, mL_3, mL_4, nth_0, nth_s, rf_s, rf_n, fit_i, fit_r, fit_a, fit_b, fit_b0, fit_b1, Option.toList_some, Option.toList_none, List.cons_append, List.nil_append, List.set_cons_zero, List.set_cons_succ, List.length_cons, List.length_nil, Nat.reduceAdd, Nat.reduceEqDiff, Nat.reduceLT, reduceIte, false_implies, true_implies, not_false_eq_true, not_true_eq_false, true_and, and_true, Nat.zero_add, lv_args, nI_1, Bool.false_eq_true, eq_self]
    refine V_slen C hXC d_L_law_26 ?_
    have e1 := gt8 hL (p := 8 * t) (by omega)
    by_cases c1 : L < 8 * t + 8
    · have e2 : (L < 8 * t + 8) = True := eq_true c1
      refine V_run C b_L_law_27 ?_
      simp only [k_L_law_27, e1, e2, r_nil, r_iconst, r_bipush, r_sipush, r_ldc, r_lconst0, r_lconst1, r_ldc2, r_null, r_iload_n, r_iload, r_lload_n, r_lload, r_aload_n, r_aload, r_istore_n, r_istore, r_lstore_n, r_lstore, r_astore_nR, r_astoreR, r_astore_nN, r_astoreN, r_iinc, r_iadd, r_isub, r_imul, r_iand, r_idiv, r_irem, r_ineg, r_ladd, r_lsub, r_lmul, r_lxor, r_ldiv, r_lcmp, r_i2l, r_l2i, r_dup, r_pop, r_dup2, r_ifeq, r_ifne, r_iflt, r_ifge, r_ifgt, r_ifle, r_icmpeq, r_icmpne, r_icmplt, r_icmpge, r_icmpgt, r_icmple, r_acmpne, r_ifnullN, r_ifnullR, r_ifnonnullN, r_ifnonnullR, r_goto, r_getf, r_putf, r_alen, r_iald, r_bald, r_lald, r_aald, r_iast, r_bast, r_last, r_aast, gl_c, s1_d, s2_d, ins_n, ins_c, rm1_n, rm1_c, rm2_n, rm2_c, cat_i, cat_l, cat_r, cat_n, oI_t, oJ_t, oA_t, oA_u, oV_t, mO_s, aI_s, aJ_s, aQ_s, mL_0, mL_1, mL_2, mL_3, mL_4, nth_0, nth_s, rf_s, rf_n, fit_i, fit_r, fit_a, fit_b, fit_b0, fit_b1, Option.toList_some, Option.toList_none, List.cons_append, List.nil_append, List.set_cons_zero, List.set_cons_succ, List.length_cons, List.length_nil, Nat.reduceAdd, Nat.reduceEqDiff, Nat.reduceLT, reduceIte, false_implies, true_implies, not_false_eq_true, not_true_eq_false, true_and, and_true, Nat.zero_add, lv_args, nI_1, Bool.false_eq_true, eq_self]
      refine V_run C b_L_law_2215 ?_
      simp only [k_L_law_2215, r_nil, r_iconst, r_bipush, r_sipush, r_ldc, r_lconst0, r_lconst1, r_ldc2, r_null, r_iload_n, r_iload, r_lload_n, r_lload, r_aload_n, r_aload, r_istore_n, r_istore, r_lstore_n, r_lstore, r_astore_nR, r_astoreR, r_astore_nN, r_astoreN, r_iinc, r_iadd, r_isub, r_imul, r_iand, r_idiv, r_irem, r_ineg, r_ladd, r_lsub, r_lmul, r_lxor, r_ldiv, r_lcmp, r_i2l, r_l2i, r_dup, r_pop, r_dup2, r_ifeq, r_ifne, r_iflt, r_ifge, r_ifgt, r_ifle, r_icmpeq, r_icmpne, r_icmplt, r_icmpge, r_icmpgt, r_icmple, r_acmpne, r_ifnullN, r_ifnullR, r_ifnonnullN, r_ifnonnullR, r_goto, r_getf, r_putf, r_alen, r_iald, r_bald, r_lald, r_aald, r_iast, r_bast, r_last, r_aast, gl_c, s1_d, s2_d, ins_n, ins_c, rm1_n, rm1_c, rm2_n, rm2_c, cat_i, cat_l, cat_r, cat_n, oI_t, oJ_t, oA_t, oA_u, oV_t, mO_s, aI_s, aJ_s, aQ_s, mL_0, mL_1, mL_2, mL_3, mL_4, nth_0, nth_s, rf_s, rf_n, fit_i, fit_r, fit_a, fit_b, fit_b0, fit_b1, Option.toList_some, Option.toList_none, List.cons_append, List.nil_append, List.set_cons_zero, List.set_cons_succ, List.length_cons, List.length_nil, Nat.reduceAdd, Nat.reduceEqDiff, Nat.reduceLT, reduceIte, false_implies, true_implies, not_false_eq_true, not_true_eq_false, true_and, and_true, Nat.zero_add, lv_args, nI_1, Bool.false_eq_true, eq_self]
      exact KE _ _ _ _ (by omega) (by omega)
    · have e2 : (L < 8 * t + 8) = False := eq_false c1
      refine V_run C b_L_law_27 ?_
      simp only [k_L_law_27, e1, e2, r_nil, r_iconst, r_bipush, r_sipush, r_ldc, r_lconst0, r_lconst1, r_ldc2, r_null, r_iload_n, r_iload, r_lload_n, r_lload, r_aload_n, r_aload, r_istore_n, r_istore, r_lstore_n, r_lstore, r_astore_nR, r_astoreR, r_astore_nN, r_astoreN, r_iinc, r_iadd, r_isub, r_imul, r_iand, r_idiv, r_irem, r_ineg, r_ladd, r_lsub, r_lmul, r_lxor, r_ldiv, r_lcmp, r_i2l, r_l2i, r_dup, r_pop, r_dup2, r_ifeq, r_ifne, r_iflt, r_ifge, r_ifgt, r_ifle, r_icmpeq, r_icmpne, r_icmplt, r_icmpge, r_icmpgt, r_icmple, r_acmpne, r_ifnullN, r_ifnullR, r_ifnonnullN, r_ifnonnullR, r_goto, r_getf, r_putf, r_alen, r_iald, r_bald, r_lald, r_aald, r_iast, r_bast, r_last, r_aast, gl_c, s1_d, s2_d, ins_n, ins_c, rm1_n, rm1_c, rm2_n, rm2_c, cat_i, cat_l, cat_r, cat_n, oI_t, oJ_t, oA_t, oA_u, oV_t, mO_s, aI_s, aJ_s, aQ_s, mL_0, mL_1, mL_2, mL_3, mL_4, nth_0, nth_s, rf_s, rf_n, fit_i, fit_r, fit_a, fit_b, fit_b0, fit_b1, Option.toList_some, Option.toList_none, List.cons_append, List.nil_append, List.set_cons_zero, List.set_cons_succ, List.length_cons, List.length_nil, Nat.reduceAdd, Nat.reduceEqDiff, Nat.reduceLT, reduceIte, false_implies, true_implies, not_false_eq_true, not_true_eq_false, true_and, and_true, Nat.zero_add, lv_args, nI_1, Bool.false_eq_true, eq_self]
      refine V_sldN C hXC hL (q := 8 * t) rfl (by omega) d_L_law_36 ?_
      refine V_run C b_L_law_37 ?_
      simp only [k_L_law_37, r_nil, r_iconst, r_bipush, r_sipush, r_ldc, r_lconst0, r_lconst1, r_ldc2, r_null, r_iload_n, r_iload, r_lload_n, r_lload, r_aload_n, r_aload, r_istore_n, r_istore, r_lstore_n, r_lstore, r_astore_nR, r_astoreR, r_astore_nN, r_astoreN, r_iinc, r_iadd, r_isub, r_imul, r_iand, r_idiv, r_irem, r_ineg, r_ladd, r_lsub, r_lmul, r_lxor, r_ldiv, r_lcmp, r_i2l, r_l2i, r_dup, r_pop, r_dup2, r_ifeq, r_ifne, r_iflt, r_ifge, r_ifgt, r_ifle, r_icmpeq, r_icmpne, r_icmplt, r_icmpge, r_icmpgt, r_icmple, r_acmpne, r_ifnullN, r_ifnullR, r_ifnonnullN, r_ifnonnullR, r_goto, r_getf, r_putf, r_alen, r_iald, r_bald, r_lald, r_aald, r_iast, r_bast, r_last, r_aast, gl_c, s1_d, s2_d, ins_n, ins_c, rm1_n, rm1_c, rm2_n, rm2_c, cat_i, cat_l, cat_r, cat_n, oI_t, oJ_t, oA_t, oA_u, oV_t, mO_s, aI_s, aJ_s, aQ_s, mL_0, mL_1, mL_2, mL_3, mL_4, nth_0, nth_s, rf_s, rf_n, fit_i, fit_r, fit_a, fit_b, fit_b0, fit_b1, Option.toList_some, Option.toList_none, List.cons_append, List.nil_append, List.set_cons_zero, List.set_cons_succ, List.length_cons, List.length_nil, Nat.reduceAdd, Nat.reduceEqDiff, Nat.reduceLT, reduceIte, false_implies, true_implies, not_false_eq_true, not_true_eq_false, true_and, and_true, Nat.zero_add, lv_args, nI_1, Bool.false_eq_true, eq_self]
      have hk : 40 + 12 * t + 12 ≤ 601024 ∧ 660000 + 4000 * t + 4000 ≤ 7293034 := by omega
      have hp : 8 * t + 8 ≤ L := by omega
      have K : ∀ σ' h', JS Y B a m o σ' h' → V p l e s mI args below meth c D b0 12 601024 7293034 Z (40 + 12 * t + 12) (660000 + 4000 * t + 4000) 2209 [(0, .ref b), (1, .ref a), (2, .ref m), (3, .ref o), (4, .int (nI (8 * t)))] [] h' := by
        intro σ' h' J'
        refine V_run C b_L_law_2209 ?_
        simp only [k_L_law_2209, px8, r_nil, r_iconst, r_bipush, r_sipush, r_ldc, r_lconst0, r_lconst1, r_ldc2, r_null, r_iload_n, r_iload, r_lload_n, r_lload, r_aload_n, r_aload, r_istore_n, r_istore, r_lstore_n, r_lstore, r_astore_nR, r_astoreR, r_astore_nN, r_astoreN, r_iinc, r_iadd, r_isub, r_imul, r_iand, r_idiv, r_irem, r_ineg, r_ladd, r_lsub, r_lmul, r_lxor, r_ldiv, r_lcmp, r_i2l, r_l2i, r_dup, r_pop, r_dup2, r_ifeq, r_ifne, r_iflt, r_ifge, r_ifgt, r_ifle, r_icmpeq, r_icmpne, r_icmplt, r_icmpge, r_icmpgt, r_icmple, r_acmpne, r_ifnullN, r_ifnullR, r_ifnonnullN, r_ifnonnullR, r_goto, r_getf, r_putf, r_alen, r_iald, r_bald, r_lald, r_aald, r_iast, r_bast, r_last, r_aast, gl_c, s1_d, s2_d, ins_n, ins_c, rm1_n, rm1_c, rm2_n, rm2_c, cat_i, cat_l, cat_r, cat_n, oI_t, oJ_t, oA_t, oA_u, oV_t, mO_s, aI_s, aJ_s, aQ_s, mL_0, mL_1, mL_2, mL_3, mL_4, nth_0, nth_s, rf_s, rf_n, fit_i, fit_r, fit_a, fit_b, fit_b0, fit_b1, Option.toList_some, Option.toList_none, List.cons_append, List.nil_append, List.set_cons_zero, List.set_cons_succ, List.length_cons, List.length_nil, Nat.reduceAdd, Nat.reduceEqDiff, Nat.reduceLT, reduceIte, false_implies, true_implies, not_false_eq_true, not_true_eq_false, true_and, and_true, Nat.zero_add, lv_args, nI_1, Bool.false_eq_true, eq_self]
        exact ih (t + 1) σ' h' (by omega) (by omega) J'
      have hv := and31 (xs (8 * t))
      generalize xs (8 * t) &&& 31 = v at hv ⊢
      by_cases c9 : 23 < v.toInt
      · exact V_tabOut C d_L_law_40 (Or.inr c9) (tgt := 2209) rfl (V_widen (by omega) (by omega) (K σ h J))
      rcases (by omega : v.toInt = 0 ∨ v.toInt = 1 ∨ v.toInt = 2 ∨ v.toInt = 3 ∨ v.toInt = 4 ∨ v.toInt = 5 ∨ v.toInt = 6 ∨ v.toInt = 7 ∨ v.toInt = 8 ∨ v.toInt = 9 ∨ v.toInt = 10 ∨ v.toInt = 11 ∨ v.toInt = 12 ∨ v.toInt = 13 ∨ v.toInt = 14 ∨ v.toInt = 15 ∨ v.toInt = 16 ∨ v.toInt = 17 ∨ v.toInt = 18 ∨ v.toInt = 19 ∨ v.toInt = 20 ∨ v.toInt = 21 ∨ v.toInt = 22 ∨ v.toInt = 23) with z | z | z | z | z | z | z | z | z | z | z | z | z | z | z | z | z | z | z | z | z | z | z | z
      · exact V_tabIn C d_L_law_40 (by rw [z]; decide) (by rw [z]; decide) (by rw [z]; rfl) rfl (o_grid C hXC hL J hp hk K)
      · exact V_tabIn C d_L_law_40 (by rw [z]; decide) (by rw [z]; decide) (by rw [z]; rfl) rfl (o_view C hXC hL J hp hk K)
      · exact V_tabIn C d_L_law_40 (by rw [z]; decide) (by rw [z]; decide) (by rw [z]; rfl) rfl (o_close C hXC hL J hp hk K)
      · exact V_tabIn C d_L_law_40 (by rw [z]; decide) (by rw [z]; decide) (by rw [z]; rfl) rfl (o_size C hXC hL J hp hk K)
      · exact V_tabIn C d_L_law_40 (by rw [z]; decide) (by rw [z]; decide) (by rw [z]; rfl) rfl (o_set C hXC hL J hp hk K)
      · exact V_tabIn C d_L_law_40 (by rw [z]; decide) (by rw [z]; decide) (by rw [z]; rfl) rfl (o_dig C hXC hL J hp hk K)
      · exact V_tabIn C d_L_law_40 (by rw [z]; decide) (by rw [z]; decide) (by rw [z]; rfl) rfl (o_fill C hXC hL J hp hk K)
      · exact V_tabIn C d_L_law_40 (by rw [z]; decide) (by rw [z]; decide) (by rw [z]; rfl) rfl (o_hole C hXC hL J hp hk K)
      · exact V_tabIn C d_L_law_40 (by rw [z]; decide) (by rw [z]; decide) (by rw [z]; rfl) rfl (o_get C hXC hL J hp hk K)
      · exact V_tabIn C d_L_law_40 (by rw [z]; decide) (by rw [z]; decide) (by rw [z]; rfl) rfl (o_kind C hXC hL J hp hk K)
      · exact V_tabIn C d_L_law_40 (by rw [z]; decide) (by rw [z]; decide) (by rw [z]; rfl) rfl (o_keep C hXC hL J hp hk K)
      · exact V_tabIn C d_L_law_40 (by rw [z]; decide) (by rw [z]; decide) (by rw [z]; rfl) rfl (o_back C hXC hL J hp hk K)
      · exact V_tabIn C d_L_law_40 (by rw [z]; decide) (by rw [z]; decide) (by rw [z]; rfl) rfl (o_was C hXC hL J hp hk K)
      · exact V_tabIn C d_L_law_40 (by rw [z]; decide) (by rw [z]; decide) (by rw [z]; rfl) rfl (o_differ C hXC hL J hp hk K)
      · exact V_tabIn C d_L_law_40 (by rw [z]; decide) (by rw [z]; decide) (by rw [z]; rfl) rfl (o_lose C hXC hL J hp hk K)
      · exact V_tabIn C d_L_law_40 (by rw [z]; decide) (by rw [z]; decide) (by rw [z]; rfl) rfl (o_sum C hXC hL J hp hk K)
      · exact V_tabIn C d_L_law_40 (by rw [z]; decide) (by rw [z]; decide) (by rw [z]; rfl) rfl (o_many C hXC hL J hp hk K)
      · exact V_tabIn C d_L_law_40 (by rw [z]; decide) (by rw [z]; decide) (by rw [z]; rfl) rfl (o_find C hXC hL J hp hk K)
      · exact V_tabIn C d_L_law_40 (by rw [z]; decide) (by rw [z]; decide) (by rw [z]; rfl) rfl (o_slide C hXC hL J hp hk K)
      · exact V_tabIn C d_L_law_40 (by rw [z]; decide) (by rw [z]; decide) (by rw [z]; rfl) rfl (o_fold C hXC hL J hp hk K)
      · exact V_tabIn C d_L_law_40 (by rw [z]; decide) (by rw [z]; decide) (by rw [z]; rfl) rfl (o_join C hXC hL J hp hk K)
      · exact V_tabIn C d_L_law_40 (by rw [z]; decide) (by rw [z]; decide) (by rw [z]; rfl) rfl (o_coarse C hXC hL J hp hk K)
      · exact V_tabIn C d_L_law_40 (by rw [z]; decide) (by rw [z]; decide) (by rw [z]; rfl) rfl (o_read C hXC hL J hp hk K)
      · exact V_tabIn C d_L_law_40 (by rw [z]; decide) (by rw [z]; decide) (by rw [z]; rfl) rfl (o_count C hXC hL J hp hk K)
/-- the law's making of both, and its loop -/
theorem law_go (C : Cx p l s mI args meth c D Y b0 "GridStoreLaw" cL_law 8 false (some .boolean)) (hXC : XC s b0 b L xs) (hL : L ≤ 4096)
    (KE : ∀ k j ls h, k ≤ 601024 → j ≤ 7293034 → V p l e s mI args below meth c D b0 12 601024 7293034 Z k j 2216 ls [.int 1] h) :
    V p l e s mI args below meth c D b0 12 601024 7293034 Z 0 0 0 [(0, .ref b)] [] (fun _ => none) := by
  refine V_new C 5 [.null, .null, .null, .null, .int 0, .int 0] n_L_8 d_L_law_0 ⟨(Nat.le_of_ble_eq_true rfl), (Nat.le_of_ble_eq_true rfl)⟩ (fun a ha => ?_)
  refine V_run C b_L_law_3 ?_
  simp only [k_L_law_3, r_nil, r_iconst, r_bipush, r_sipush, r_ldc, r_lconst0, r_lconst1, r_ldc2, r_null, r_iload_n, r_iload, r_lload_n, r_lload, r_aload_n, r_aload, r_istore_n, r_istore, r_lstore_n, r_lstore, r_astore_nR, r_astoreR, r_astore_nN, r_astoreN, r_iinc, r_iadd, r_isub, r_imul, r_iand, r_idiv, r_irem, r_ineg, r_ladd, r_lsub, r_lmul, r_lxor, r_ldiv, r_lcmp, r_i2l, r_l2i, r_dup, r_pop, r_dup2, r_ifeq, r_ifne, r_iflt, r_ifge, r_ifgt, r_ifle, r_icmpeq, r_icmpne, r_icmplt, r_icmpge, r_icmpgt, r_icmple, r_acmpne, r_ifnullN, r_ifnullR, r_ifnonnullN, r_ifnonnullR, r_goto, r_getf, r_putf, r_alen, r_iald, r_bald, r_lald, r_aald, r_iast, r_bast, r_last, r_aast, gl_c, s1_d, s2_d, ins_n, ins_c, rm1_n, rm1_c, rm2_n, rm2_c, cat_i, cat_l, cat_r, cat_n, oI_t, oJ_t, oA_t, oA_u, oV_t, mO_s, aI_s, aJ_s, aQ_s, mL_0, mL_1, mL_2, mL_3, mL_4, nth_0, nth_s, rf_s, rf_n, fit_i, fit_r, fit_a, fit_b, fit_b0, fit_b1, Option.toList_some, Option.toList_none, List.cons_append, List.nil_append, List.set_cons_zero, List.set_cons_succ, List.length_cons, List.length_nil, Nat.reduceAdd, Nat.reduceEqDiff, Nat.reduceLT, reduceIte, false_implies, true_implies, not_false_eq_true, not_true_eq_false, true_and, and_true, Nat.zero_add, lv_args, nI_1, Bool.false_eq_true, eq_self]
  refine V_callI C c_L_99 d_L_law_4 (k_init (MM := fun _ => False) (fun _ z => z.elim) (fun z => z) up_same) rfl rfl (Nat.le_of_ble_eq_true rfl) ⟨(Nat.le_of_ble_eq_true rfl), (Nat.le_of_ble_eq_true rfl)⟩ (Nat.le_of_ble_eq_true rfl) (fun _ _ z => z.elim) ?_
  rintro _ h1 ⟨rfl, X⟩
  refine V_run C b_L_law_7 ?_
  simp only [k_L_law_7, r_nil, r_iconst, r_bipush, r_sipush, r_ldc, r_lconst0, r_lconst1, r_ldc2, r_null, r_iload_n, r_iload, r_lload_n, r_lload, r_aload_n, r_aload, r_istore_n, r_istore, r_lstore_n, r_lstore, r_astore_nR, r_astoreR, r_astore_nN, r_astoreN, r_iinc, r_iadd, r_isub, r_imul, r_iand, r_idiv, r_irem, r_ineg, r_ladd, r_lsub, r_lmul, r_lxor, r_ldiv, r_lcmp, r_i2l, r_l2i, r_dup, r_pop, r_dup2, r_ifeq, r_ifne, r_iflt, r_ifge, r_ifgt, r_ifle, r_icmpeq, r_icmpne, r_icmplt, r_icmpge, r_icmpgt, r_icmple, r_acmpne, r_ifnullN, r_ifnullR, r_ifnonnullN, r_ifnonnullR, r_goto, r_getf, r_putf, r_alen, r_iald, r_bald, r_lald, r_aald, r_iast, r_bast, r_last, r_aast, gl_c, s1_d, s2_d, ins_n, ins_c, rm1_n, rm1_c, rm2_n, rm2_c, cat_i, cat_l, cat_r, cat_n, oI_t, oJ_t, oA_t, oA_u, oV_t, mO_s, aI_s, aJ_s, aQ_s, mL_0, mL_1, mL_2, mL_3, mL_4, nth_0, nth_s, rf_s, rf_n, fit_i, fit_r, fit_a, fit_b, fit_b0, fit_b1, Option.toList_some, Option.toList_none, List.cons_append, List.nil_append, List.set_cons_zero, List.set_cons_succ, List.length_cons, List.length_nil, Nat.reduceAdd, Nat.reduceEqDiff, Nat.reduceLT, reduceIte, false_implies, true_implies, not_false_eq_true, not_true_eq_false, true_and, and_true, Nat.zero_add, lv_args, nI_1, Bool.false_eq_true, eq_self]
  refine V_new C 6 [.int 0, .null, .null, .null, .null, .int 0, .null, .null, .null, .null, .null, .null, .null, .null, .null, .null, .null, .null, .int 0, .int 0, .null] n_L_100 d_L_law_8 ⟨(Nat.le_of_ble_eq_true rfl), (Nat.le_of_ble_eq_true rfl)⟩ (fun m hm => ?_)
  refine V_run C b_L_law_11 ?_
  simp only [k_L_law_11, r_nil, r_iconst, r_bipush, r_sipush, r_ldc, r_lconst0, r_lconst1, r_ldc2, r_null, r_iload_n, r_iload, r_lload_n, r_lload, r_aload_n, r_aload, r_istore_n, r_istore, r_lstore_n, r_lstore, r_astore_nR, r_astoreR, r_astore_nN, r_astoreN, r_iinc, r_iadd, r_isub, r_imul, r_iand, r_idiv, r_irem, r_ineg, r_ladd, r_lsub, r_lmul, r_lxor, r_ldiv, r_lcmp, r_i2l, r_l2i, r_dup, r_pop, r_dup2, r_ifeq, r_ifne, r_iflt, r_ifge, r_ifgt, r_ifle, r_icmpeq, r_icmpne, r_icmplt, r_icmpge, r_icmpgt, r_icmple, r_acmpne, r_ifnullN, r_ifnullR, r_ifnonnullN, r_ifnonnullR, r_goto, r_getf, r_putf, r_alen, r_iald, r_bald, r_lald, r_aald, r_iast, r_bast, r_last, r_aast, gl_c, s1_d, s2_d, ins_n, ins_c, rm1_n, rm1_c, rm2_n, rm2_c, cat_i, cat_l, cat_r, cat_n, oI_t, oJ_t, oA_t, oA_u, oV_t, mO_s, aI_s, aJ_s, aQ_s, mL_0, mL_1, mL_2, mL_3, mL_4, nth_0, nth_s, rf_s, rf_n, fit_i, fit_r, fit_a, fit_b, fit_b0, fit_b1, Option.toList_some, Option.toList_none, List.cons_append, List.nil_append, List.set_cons_zero, List.set_cons_succ, List.length_cons, List.length_nil, Nat.reduceAdd, Nat.reduceEqDiff, Nat.reduceLT, reduceIte, false_implies, true_implies, not_false_eq_true, not_true_eq_false, true_and, and_true, Nat.zero_add, lv_args, nI_1, Bool.false_eq_true, eq_self]
  refine V_callI C c_L_102 d_L_law_12 (m_init up_same) rfl rfl (Nat.le_of_ble_eq_true rfl) ⟨(Nat.le_of_ble_eq_true rfl), (Nat.le_of_ble_eq_true rfl)⟩ (Nat.le_of_ble_eq_true rfl) (fun _ _ z => z.elim) ?_
  rintro _ h3 ⟨rfl, B, M, hB, hk⟩
  refine V_run C b_L_law_15 ?_
  simp only [k_L_law_15, r_nil, r_iconst, r_bipush, r_sipush, r_ldc, r_lconst0, r_lconst1, r_ldc2, r_null, r_iload_n, r_iload, r_lload_n, r_lload, r_aload_n, r_aload, r_istore_n, r_istore, r_lstore_n, r_lstore, r_astore_nR, r_astoreR, r_astore_nN, r_astoreN, r_iinc, r_iadd, r_isub, r_imul, r_iand, r_idiv, r_irem, r_ineg, r_ladd, r_lsub, r_lmul, r_lxor, r_ldiv, r_lcmp, r_i2l, r_l2i, r_dup, r_pop, r_dup2, r_ifeq, r_ifne, r_iflt, r_ifge, r_ifgt, r_ifle, r_icmpeq, r_icmpne, r_icmplt, r_icmpge, r_icmpgt, r_icmple, r_acmpne, r_ifnullN, r_ifnullR, r_ifnonnullN, r_ifnonnullR, r_goto, r_getf, r_putf, r_alen, r_iald, r_bald, r_lald, r_aald, r_iast, r_bast, r_last, r_aast, gl_c, s1_d, s2_d, ins_n, ins_c, rm1_n, rm1_c, rm2_n, rm2_c, cat_i, cat_l, cat_r, cat_n, oI_t, oJ_t, oA_t, oA_u, oV_t, mO_s, aI_s, aJ_s, aQ_s, mL_0, mL_1, mL_2, mL_3, mL_4, nth_0, nth_s, rf_s, rf_n, fit_i, fit_r, fit_a, fit_b, fit_b0, fit_b1, Option.toList_some, Option.toList_none, List.cons_append, List.nil_append, List.set_cons_zero, List.set_cons_succ, List.length_cons, List.length_nil, Nat.reduceAdd, Nat.reduceEqDiff, Nat.reduceLT, reduceIte, false_implies, true_implies, not_false_eq_true, not_true_eq_false, true_and, and_true, Nat.zero_add, lv_args, nI_1, Bool.false_eq_true, eq_self]
  refine V_newJ C ac_J d_L_law_17 1 (by decide) (by decide) (by omega) ⟨(Nat.le_of_ble_eq_true rfl), (Nat.le_of_ble_eq_true rfl)⟩ (fun o ho => ?_)
  refine V_run C b_L_law_19 ?_
  simp only [k_L_law_19, r_nil, r_iconst, r_bipush, r_sipush, r_ldc, r_lconst0, r_lconst1, r_ldc2, r_null, r_iload_n, r_iload, r_lload_n, r_lload, r_aload_n, r_aload, r_istore_n, r_istore, r_lstore_n, r_lstore, r_astore_nR, r_astoreR, r_astore_nN, r_astoreN, r_iinc, r_iadd, r_isub, r_imul, r_iand, r_idiv, r_irem, r_ineg, r_ladd, r_lsub, r_lmul, r_lxor, r_ldiv, r_lcmp, r_i2l, r_l2i, r_dup, r_pop, r_dup2, r_ifeq, r_ifne, r_iflt, r_ifge, r_ifgt, r_ifle, r_icmpeq, r_icmpne, r_icmplt, r_icmpge, r_icmpgt, r_icmple, r_acmpne, r_ifnullN, r_ifnullR, r_ifnonnullN, r_ifnonnullR, r_goto, r_getf, r_putf, r_alen, r_iald, r_bald, r_lald, r_aald, r_iast, r_bast, r_last, r_aast, gl_c, s1_d, s2_d, ins_n, ins_c, rm1_n, rm1_c, rm2_n, rm2_c, cat_i, cat_l, cat_r, cat_n, oI_t, oJ_t, oA_t, oA_u, oV_t, mO_s, aI_s, aJ_s, aQ_s, mL_0, mL_1, mL_2, mL_3, mL_4, nth_0, nth_s, rf_s, rf_n, fit_i, fit_r, fit_a, fit_b, fit_b0, fit_b1, Option.toList_some, Option.toList_none, List.cons_append, List.nil_append, List.set_cons_zero, List.set_cons_succ, List.length_cons, List.length_nil, Nat.reduceAdd, Nat.reduceEqDiff, Nat.reduceLT, reduceIte, false_implies, true_implies, not_false_eq_true, not_true_eq_false, true_and, and_true, Nat.zero_add, lv_args, nI_1, Bool.false_eq_true, eq_self]
  have hMo : ∀ x, MB B m x → x ≠ o := by
    rintro x (rfl | ⟨f, hf, rfl⟩) z
    · rw [← z, M.1] at ho; cases ho
    · rw [← z, M.2.1 f hf] at ho; cases ho
  refine V_widen (k' := 40 + 12 * 0) (j' := 660000 + 4000 * 0) (Nat.le_of_ble_eq_true rfl) (Nat.le_of_ble_eq_true rfl) ?_
  refine law_loop (B := B) (a := a) (m := m) (o := o) (σ := sg0) C hXC hL KE 512 0 _ (by omega) (by omega) ?_
  obtain ⟨R, tt, A, T, ⟨H, S, ea⟩, -⟩ := X
  refine ⟨⟨R, tt, A, T, fun k i j hl => ?_, S, ea⟩, ⟨GI0, BI0, BV0⟩, ⟨0, 0, M.keep (fun x hx => up_ne (hMo x hx))⟩, ⟨_, up_same⟩, fun z => hMo o z rfl⟩
  obtain ⟨q1, q2, -⟩ := H k i j hl
  have nm : A k i j ≠ m := fun z => by rw [z, hm] at q1; cases q1
  have q3 : h3 (A k i j) = some (kx Y sg0 R tt A k i j) := by
    rw [hk _ nm (by rw [up_ne nm, q1]; intro z; cases z), up_ne nm]
    exact q1
  have no : A k i j ≠ o := fun z => by rw [z, ho] at q3; cases q3
  refine ⟨by rw [up_ne no]; exact q3, q2, ?_⟩
  rintro ((z | ⟨f, hf, z⟩) | z)
  · exact nm z
  · have := hB f hf
    rw [← z, up_ne nm, q1] at this
    cases this
  · exact no z
end
theorem whole_start {p : Program} {e : Env} {s : State} {m : MethodId} {below : List Frame} {meth : Method} {c : Code} (l : Launch) (hflags : l.flags = flags0) {b L : Nat} {xs : Nat → Int32} (hL : L ≤ 4096) (C0 : lw_At p s m meth c b L xs) : W p l e room_1 s m #[Value.ref b] below meth c s.heap [] 0 0 (lw_Z below #[Value.ref b] s) (entryFrame m ([Value.ref b] : List Value).toArray 8) := by
  obtain ⟨hx, hb, hr, hml, hown, hts, hX, hbl, hlocks, hgv⟩ := C0
  obtain ⟨D, Y, hW⟩ := wd_entry hts hgv
  have hst : l.stackTraces = false := by
    unfold Launch.stackTraces
    rw [hflags]
    decide
  have C : Cx p l s m #[Value.ref b] meth c D Y s.heap.size "GridStoreLaw" cL_law 8 false (some .boolean) := ⟨hx, hb, hown, fun w hw => hts w (all_tbl hw), hlocks, hW, hml, fun z => (by cases z), hst, hr⟩
  have hXC : XC s s.heap.size b L xs := ⟨hX, hbl, Nat.not_le.mpr hbl⟩
  have hl := lv_entry [Value.ref b] (n := 8) (Nat.le_of_ble_eq_true rfl)
  rw [lg_entry_eq]
  refine law_go C hXC hL ?_ s.heap [] _ (fun a e z => by cases z) va_S.rf (by rw [hml]; exact hl)
  intro k j ls h hk hj H locs arr hR hS hl'
  refine va_forget (fun q hq => hS.2.2 q hq) ?_
  refine W.widen hk hj ?_
  exact lw_ret hx hb hr hlocks d_L_law_2216
