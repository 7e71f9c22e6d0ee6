/-! ===== a nest mate's constructor; the store's making ===== -/
section
variable {p : Program} {l : Launch} {e : Env} {s : State} {mI : MethodId} {args : Array Value} {below : List Frame} {meth : Method} {c : Code} {D : va_G} {Y : Nat → ClassId} {b0 d0 mc0 ms0 : Nat} {Z : State → Prop}
variable {own : String} {cc : ByteArray} {nL : Nat} {ini : Bool} {ret9 : Option FieldType} {pc k j : Nat} {ls : Lo} {st rest As : List Value} {h : AH} {Q Q0 : Option Value → AH → Prop} {QX QX0 : String → AH → Prop} {mi : MI} {d mc ms : Nat}
theorem V_callIN (C : Cx p l s mI args meth c D Y b0 own cc nL ini ret9) {idx na a : Nat} (hc : ckIN own idx na mi = true) (hdg : decode cc pc = .ok (.invokespecial idx, 3))
    (hm : Ct l D Y b0 mi d mc ms (.ref a :: As) h Q QX) (hst : st = As.reverse ++ .ref a :: rest) (hn : As.length = na) (hd : d + 1 ≤ d0) (hf : k + mc ≤ mc0 ∧ j + ms ≤ ms0) (hw : (rest.map fun v => v.category).sum ≤ 8)
    (kx : ∀ (E : String) (h' : AH), QX E h' → VX p l e s mI args below meth c D b0 d0 mc0 ms0 Z (k + mc) (j + ms) pc ls rest h' E)
    (kk : ∀ (v : Option Value) (h' : AH), Q v h' → V p l e s mI args below meth c D b0 d0 mc0 ms0 Z (k + mc) (j + ms) (pc + 3) ls (v.toList ++ rest) h') : V p l e s mI args below meth c D b0 d0 mc0 ms0 Z k j pc ls st h := by
  refine V_ofRun (a := (Value.ref a :: As).toArray) (fun H locs arr hR hS hl => ?_) kx kk
  simp only [ckIN, ckB, Bool.and_eq_true, decide_eq_true_eq] at hc
  obtain ⟨⟨⟨⟨⟨⟨⟨⟨⟨q1, q2⟩, q3⟩, q4⟩, q5⟩, q6⟩, h1⟩, h2⟩, h3⟩, h4⟩ := hc
  have hts := C.2.2.2.1
  have hW := C.2.2.2.2.2.1
  have hl9 : (Cond.methodLinkNest own idx mi.1 "GridStore").before args s = true := va_Nw.use rfl (hW.1.2.2.2.2.1 _ h1)
  have hcode : (Cond.code mi.1 mi.2.1 mi.2.2.1 none).before args s = true := by rw [← h4]; exact hts _ q2
  have hws : Cond.code mi.1 mi.2.1 mi.2.2.1 none ∈ Wy mi := by unfold Wy; rw [h4]; exact List.mem_cons_self
  have cn : va_CN (rmO d0 mc0 ms0) s args own idx mi.1 "GridStore" mi.2.1 mi.2.2.1 none (Wy mi) (rmO d mc ms) mc ms na := by
    refine ⟨⟨rfl, rfl, hd, ?_, ?_, hws⟩, hcode, hts _ q1, ⟨q3, q4⟩, fun sig h => ?_, hl9⟩
    · show 8 + (mi.2.2.1 + 11) + (36 * d + 6) ≤ 36 * d0 + 6
      omega
    · refine pay_in hts ?_
      intro w hw
      rcases List.mem_cons.mp hw with e | e
      · rw [e]; exact all_self _ q2
      · exact all_self _ e
    · rw [h] at q5
      exact (Option.some.inj q5).symm
  exact vx_runIN (As := As) ⟨C.1, C.2.1, C.2.2.2.2.2.2.1, C.2.2.1, hts⟩ (hm C.2.2.2.2.2.2.2.2.1) ⟨cn, h3, hts _ h2⟩ ⟨Pq_blind, fun U hU hWU => ⟨rfl, by rw [hU]; exact hR, hW.at hS hU hWU⟩⟩ rfl hn (by rw [← C.2.2.2.2.2.2.1]; exact hl.1) hst (by show 2 * 0 + _ ≤ 8; omega) hdg hf
end
theorem up_none {h : AH} {a q : Nat} {e : va_E} : up h a e q = none ↔ (q ≠ a ∧ h q = none) := by
  by_cases n : q = a
  · rw [n, up_same]; exact ⟨fun z => (by cases z), fun z => absurd rfl z.1⟩
  · rw [up_ne n]; exact ⟨fun z => ⟨n, z⟩, fun z => z.2⟩
def sg0 : SG := fun _ _ => 0
theorem ng0 : ng sg0 = 0 := rfl
theorem nv0 : nv sg0 = 0 := rfl
theorem GI0 : GI sg0 := ⟨⟨Nat.zero_le _, rfl⟩, ⟨Nat.zero_le _, rfl⟩, fun g hg => absurd hg (Nat.not_lt_zero _), fun n hn => absurd hn (Nat.not_lt_zero _)⟩
theorem BI0 : BI sg0 := ⟨fun _ _ _ => Or.inl rfl, fun g hg => absurd hg (Nat.not_lt_zero _), fun _ _ => rfl, fun _ _ _ => rfl, fun _ _ _ => rfl, fun _ _ _ _ _ _ _ => rfl⟩
theorem BV0 : BV sg0 := fun _ _ => rfl
section
variable {l : Launch} {D : va_G} {Y : Nat → ClassId} {b0 : Nat} {h : AH} {MM : Nat → Prop} {a : Nat}
theorem k_init (HM : ∀ a, MM a → ¬ h a = none) (hMa : ¬ MM a) {v1 v2 v3 v4 : Value} {i1 i2 : Int32} (ha : h a = some (.inr (5, [v1, v2, v3, v4, .int i1, .int i2]))) : Ct l D Y b0 mX5_init 4 12 4000 [.ref a] h (fun v h' => v = none ∧ SX Y MM a sg0 h h') noX := by
  refine Ct_of "GridStore" true rfl (by decide +kernel) (fun _ => rfl) (Nat.le_of_ble_eq_true rfl) ?_
  intro p e s mI args below meth c Z C hno hZ
  refine V_run C b_X5_init_0 ?_
  simp only [k_X5_init_0, r_nil, r_iconst, r_bipush, r_sipush, r_ldc, r_lconst0, r_lconst1, r_ldc2, r_null, r_iload_n, r_iload, r_lload_n, r_lload, r_aload_n, r_aload, r_istore_n, r_istore, r_lstore_n, r_lstore, r_astore_nR, r_astoreR, r_astore_nN, r_astoreN, r_iinc, r_iadd, r_isub, r_imul, r_iand, r_idiv, r_irem, r_ineg, r_ladd, r_lsub, r_lmul, r_lxor, r_ldiv, r_lcmp, r_i2l, r_l2i, r_dup, r_pop, r_dup2, r_ifeq, r_ifne, r_iflt, r_ifge, r_ifgt, r_ifle, r_icmpeq, r_icmpne, r_icmplt, r_icmpge, r_icmpgt, r_icmple, r_acmpne, r_ifnullN, r_ifnullR, r_ifnonnullN, r_ifnonnullR, r_goto, r_getf, r_putf, r_alen, r_iald, r_bald, r_lald, r_aald, r_iast, r_bast, r_last, r_aast, gl_c, s1_d, s2_d, ins_n, ins_c, rm1_n, rm1_c, rm2_n, rm2_c, cat_i, cat_l, cat_r, cat_n, oI_t, oJ_t, oA_t, oA_u, oV_t, mO_s, aI_s, aJ_s, aQ_s, mL_0, mL_1, mL_2, mL_3, mL_4, nth_0, nth_s, rf_s, rf_n, fit_i, fit_r, fit_a, fit_b, fit_b0, fit_b1, Option.toList_some, Option.toList_none, List.cons_append, List.nil_append, List.set_cons_zero, List.set_cons_succ, List.length_cons, List.length_nil, Nat.reduceAdd, Nat.reduceEqDiff, Nat.reduceLT, reduceIte, false_implies, true_implies, not_false_eq_true, not_true_eq_false, true_and, and_true, Nat.zero_add, lv_args, nI_1, Bool.false_eq_true, eq_self]
  refine V_objInit C o_X5_1 oi_1 oi_2 d_X5_init_1 (Nat.le_of_ble_eq_true rfl) (Nat.le_of_ble_eq_true rfl) ?_
  refine V_run C b_X5_init_4 ?_
  simp only [k_X5_init_4, r_nil, r_iconst, r_bipush, r_sipush, r_ldc, r_lconst0, r_lconst1, r_ldc2, r_null, r_iload_n, r_iload, r_lload_n, r_lload, r_aload_n, r_aload, r_istore_n, r_istore, r_lstore_n, r_lstore, r_astore_nR, r_astoreR, r_astore_nN, r_astoreN, r_iinc, r_iadd, r_isub, r_imul, r_iand, r_idiv, r_irem, r_ineg, r_ladd, r_lsub, r_lmul, r_lxor, r_ldiv, r_lcmp, r_i2l, r_l2i, r_dup, r_pop, r_dup2, r_ifeq, r_ifne, r_iflt, r_ifge, r_ifgt, r_ifle, r_icmpeq, r_icmpne, r_icmplt, r_icmpge, r_icmpgt, r_icmple, r_acmpne, r_ifnullN, r_ifnullR, r_ifnonnullN, r_ifnonnullR, r_goto, r_getf, r_putf, r_alen, r_iald, r_bald, r_lald, r_aald, r_iast, r_bast, r_last, r_aast, gl_c, s1_d, s2_d, ins_n, ins_c, rm1_n, rm1_c, rm2_n, rm2_c, cat_i, cat_l, cat_r, cat_n, oI_t, oJ_t, oA_t, oA_u, oV_t, mO_s, aI_s, aJ_s, aQ_s, mL_0, mL_1, mL_2, mL_3, mL_4, nth_0, nth_s, rf_s, rf_n, fit_i, fit_r, fit_a, fit_b, fit_b0, fit_b1, Option.toList_some, Option.toList_none, List.cons_append, List.nil_append, List.set_cons_zero, List.set_cons_succ, List.length_cons, List.length_nil, Nat.reduceAdd, Nat.reduceEqDiff, Nat.reduceLT, reduceIte, false_implies, true_implies, not_false_eq_true, not_true_eq_false, true_and, and_true, Nat.zero_add, lv_args, nI_1, Bool.false_eq_true, eq_self]
  refine V_new C 2 [.null] n_X5_7 d_X5_init_5 ⟨(Nat.le_of_ble_eq_true rfl), (Nat.le_of_ble_eq_true rfl)⟩ (fun q1 hq1 => ?_)
  have n1 : a ≠ q1 := ne_of_none ha hq1
  refine V_run C b_X5_init_8 ?_
  simp only [k_X5_init_8, r_nil, r_iconst, r_bipush, r_sipush, r_ldc, r_lconst0, r_lconst1, r_ldc2, r_null, r_iload_n, r_iload, r_lload_n, r_lload, r_aload_n, r_aload, r_istore_n, r_istore, r_lstore_n, r_lstore, r_astore_nR, r_astoreR, r_astore_nN, r_astoreN, r_iinc, r_iadd, r_isub, r_imul, r_iand, r_idiv, r_irem, r_ineg, r_ladd, r_lsub, r_lmul, r_lxor, r_ldiv, r_lcmp, r_i2l, r_l2i, r_dup, r_pop, r_dup2, r_ifeq, r_ifne, r_iflt, r_ifge, r_ifgt, r_ifle, r_icmpeq, r_icmpne, r_icmplt, r_icmpge, r_icmpgt, r_icmple, r_acmpne, r_ifnullN, r_ifnullR, r_ifnonnullN, r_ifnonnullR, r_goto, r_getf, r_putf, r_alen, r_iald, r_bald, r_lald, r_aald, r_iast, r_bast, r_last, r_aast, gl_c, s1_d, s2_d, ins_n, ins_c, rm1_n, rm1_c, rm2_n, rm2_c, cat_i, cat_l, cat_r, cat_n, oI_t, oJ_t, oA_t, oA_u, oV_t, mO_s, aI_s, aJ_s, aQ_s, mL_0, mL_1, mL_2, mL_3, mL_4, nth_0, nth_s, rf_s, rf_n, fit_i, fit_r, fit_a, fit_b, fit_b0, fit_b1, Option.toList_some, Option.toList_none, List.cons_append, List.nil_append, List.set_cons_zero, List.set_cons_succ, List.length_cons, List.length_nil, Nat.reduceAdd, Nat.reduceEqDiff, Nat.reduceLT, reduceIte, false_implies, true_implies, not_false_eq_true, not_true_eq_false, true_and, and_true, Nat.zero_add, lv_args, nI_1, Bool.false_eq_true, eq_self]
  refine V_callIN C c_X5_9 d_X5_init_9 (s_Hosts_init (z := .null) up_same) rfl rfl (Nat.le_of_ble_eq_true rfl) ⟨(Nat.le_of_ble_eq_true rfl), (Nat.le_of_ble_eq_true rfl)⟩ (Nat.le_of_ble_eq_true rfl) (fun _ _ z => z.elim) ?_
  rintro _ _ ⟨rfl, q2, hq2, rfl⟩
  have n12 : q2 ≠ q1 := fun z => by rw [z, up_same] at hq2; cases hq2
  rw [up_ne n12] at hq2
  have n2 : a ≠ q2 := ne_of_none ha hq2
  refine V_run C b_X5_init_12 ?_
  simp only [k_X5_init_12, (up_ne n1), (up_ne n2), ha, r_nil, r_iconst, r_bipush, r_sipush, r_ldc, r_lconst0, r_lconst1, r_ldc2, r_null, r_iload_n, r_iload, r_lload_n, r_lload, r_aload_n, r_aload, r_istore_n, r_istore, r_lstore_n, r_lstore, r_astore_nR, r_astoreR, r_astore_nN, r_astoreN, r_iinc, r_iadd, r_isub, r_imul, r_iand, r_idiv, r_irem, r_ineg, r_ladd, r_lsub, r_lmul, r_lxor, r_ldiv, r_lcmp, r_i2l, r_l2i, r_dup, r_pop, r_dup2, r_ifeq, r_ifne, r_iflt, r_ifge, r_ifgt, r_ifle, r_icmpeq, r_icmpne, r_icmplt, r_icmpge, r_icmpgt, r_icmple, r_acmpne, r_ifnullN, r_ifnullR, r_ifnonnullN, r_ifnonnullR, r_goto, r_getf, r_putf, r_alen, r_iald, r_bald, r_lald, r_aald, r_iast, r_bast, r_last, r_aast, gl_c, s1_d, s2_d, ins_n, ins_c, rm1_n, rm1_c, rm2_n, rm2_c, cat_i, cat_l, cat_r, cat_n, oI_t, oJ_t, oA_t, oA_u, oV_t, mO_s, aI_s, aJ_s, aQ_s, mL_0, mL_1, mL_2, mL_3, mL_4, nth_0, nth_s, rf_s, rf_n, fit_i, fit_r, fit_a, fit_b, fit_b0, fit_b1, Option.toList_some, Option.toList_none, List.cons_append, List.nil_append, List.set_cons_zero, List.set_cons_succ, List.length_cons, List.length_nil, Nat.reduceAdd, Nat.reduceEqDiff, Nat.reduceLT, reduceIte, false_implies, true_implies, not_false_eq_true, not_true_eq_false, true_and, and_true, Nat.zero_add, lv_args, nI_1, Bool.false_eq_true, eq_self]
  refine V_new C 3 [.null, .null, .int 0, .int 0] n_X5_16 d_X5_init_16 ⟨(Nat.le_of_ble_eq_true rfl), (Nat.le_of_ble_eq_true rfl)⟩ (fun q3 hq3 => ?_)
  have n3 : a ≠ q3 := fun z => by rw [← z, up_same] at hq3; cases hq3
  rw [up_ne (Ne.symm n3)] at hq3
  have n13 : q1 ≠ q3 := fun z => by rw [← z, up_same] at hq3; cases hq3
  rw [up_ne (Ne.symm n13)] at hq3
  have n23 : q2 ≠ q3 := fun z => by rw [← z, up_same] at hq3; cases hq3
  rw [up_ne (Ne.symm n23), up_ne (Ne.symm n13)] at hq3
  refine V_run C b_X5_init_19 ?_
  simp only [k_X5_init_19, r_nil, r_iconst, r_bipush, r_sipush, r_ldc, r_lconst0, r_lconst1, r_ldc2, r_null, r_iload_n, r_iload, r_lload_n, r_lload, r_aload_n, r_aload, r_istore_n, r_istore, r_lstore_n, r_lstore, r_astore_nR, r_astoreR, r_astore_nN, r_astoreN, r_iinc, r_iadd, r_isub, r_imul, r_iand, r_idiv, r_irem, r_ineg, r_ladd, r_lsub, r_lmul, r_lxor, r_ldiv, r_lcmp, r_i2l, r_l2i, r_dup, r_pop, r_dup2, r_ifeq, r_ifne, r_iflt, r_ifge, r_ifgt, r_ifle, r_icmpeq, r_icmpne, r_icmplt, r_icmpge, r_icmpgt, r_icmple, r_acmpne, r_ifnullN, r_ifnullR, r_ifnonnullN, r_ifnonnullR, r_goto, r_getf, r_putf, r_alen, r_iald, r_bald, r_lald, r_aald, r_iast, r_bast, r_last, r_aast, gl_c, s1_d, s2_d, ins_n, ins_c, rm1_n, rm1_c, rm2_n, rm2_c, cat_i, cat_l, cat_r, cat_n, oI_t, oJ_t, oA_t, oA_u, oV_t, mO_s, aI_s, aJ_s, aQ_s, mL_0, mL_1, mL_2, mL_3, mL_4, nth_0, nth_s, rf_s, rf_n, fit_i, fit_r, fit_a, fit_b, fit_b0, fit_b1, Option.toList_some, Option.toList_none, List.cons_append, List.nil_append, List.set_cons_zero, List.set_cons_succ, List.length_cons, List.length_nil, Nat.reduceAdd, Nat.reduceEqDiff, Nat.reduceLT, reduceIte, false_implies, true_implies, not_false_eq_true, not_true_eq_false, true_and, and_true, Nat.zero_add, lv_args, nI_1, Bool.false_eq_true, eq_self]
  refine V_callIN C c_X5_18 d_X5_init_20 (s_Totals_init (v1 := .null) (v2 := .null) (i1 := 0) (i2 := 0) up_same) rfl rfl (Nat.le_of_ble_eq_true rfl) ⟨(Nat.le_of_ble_eq_true rfl), (Nat.le_of_ble_eq_true rfl)⟩ (Nat.le_of_ble_eq_true rfl) (fun _ _ z => z.elim) ?_
  rintro _ _ ⟨rfl, q4, q5, ⟨hq4, hq5⟩, n45, rfl⟩
  have n34 : q4 ≠ q3 := fun z => by rw [z, up_same] at hq4; cases hq4
  have n35 : q5 ≠ q3 := fun z => by rw [z, up_same] at hq5; cases hq5
  rw [up_ne n34] at hq4
  rw [up_ne n35] at hq5
  have n4 : q4 ≠ a := fun z => by rw [z, up_same] at hq4; cases hq4
  have n5 : q5 ≠ a := fun z => by rw [z, up_same] at hq5; cases hq5
  rw [up_ne n4] at hq4
  rw [up_ne n5] at hq5
  have n14 : q4 ≠ q1 := fun z => by rw [z, up_same] at hq4; cases hq4
  have n15 : q5 ≠ q1 := fun z => by rw [z, up_same] at hq5; cases hq5
  rw [up_ne n14] at hq4
  rw [up_ne n15] at hq5
  have n24 : q4 ≠ q2 := fun z => by rw [z, up_same] at hq4; cases hq4
  have n25 : q5 ≠ q2 := fun z => by rw [z, up_same] at hq5; cases hq5
  rw [up_ne n24, up_ne n14] at hq4
  rw [up_ne n25, up_ne n15] at hq5
  refine V_run C b_X5_init_23 ?_
  simp only [k_X5_init_23, (up_ne n3), (up_ne (Ne.symm n5)), (up_ne (Ne.symm n4)), up_same, r_nil, r_iconst, r_bipush, r_sipush, r_ldc, r_lconst0, r_lconst1, r_ldc2, r_null, r_iload_n, r_iload, r_lload_n, r_lload, r_aload_n, r_aload, r_istore_n, r_istore, r_lstore_n, r_lstore, r_astore_nR, r_astoreR, r_astore_nN, r_astoreN, r_iinc, r_iadd, r_isub, r_imul, r_iand, r_idiv, r_irem, r_ineg, r_ladd, r_lsub, r_lmul, r_lxor, r_ldiv, r_lcmp, r_i2l, r_l2i, r_dup, r_pop, r_dup2, r_ifeq, r_ifne, r_iflt, r_ifge, r_ifgt, r_ifle, r_icmpeq, r_icmpne, r_icmplt, r_icmpge, r_icmpgt, r_icmple, r_acmpne, r_ifnullN, r_ifnullR, r_ifnonnullN, r_ifnonnullR, r_goto, r_getf, r_putf, r_alen, r_iald, r_bald, r_lald, r_aald, r_iast, r_bast, r_last, r_aast, gl_c, s1_d, s2_d, ins_n, ins_c, rm1_n, rm1_c, rm2_n, rm2_c, cat_i, cat_l, cat_r, cat_n, oI_t, oJ_t, oA_t, oA_u, oV_t, mO_s, aI_s, aJ_s, aQ_s, mL_0, mL_1, mL_2, mL_3, mL_4, nth_0, nth_s, rf_s, rf_n, fit_i, fit_r, fit_a, fit_b, fit_b0, fit_b1, Option.toList_some, Option.toList_none, List.cons_append, List.nil_append, List.set_cons_zero, List.set_cons_succ, List.length_cons, List.length_nil, Nat.reduceAdd, Nat.reduceEqDiff, Nat.reduceLT, reduceIte, false_implies, true_implies, not_false_eq_true, not_true_eq_false, true_and, and_true, Nat.zero_add, lv_args, nI_1, Bool.false_eq_true, eq_self]
  refine V_newW C a_X5_23 d_X5_init_29 8 (by decide) (by decide) (by omega) ⟨(Nat.le_of_ble_eq_true rfl), (Nat.le_of_ble_eq_true rfl)⟩ (fun q6 hq6 => ?_)
  have n6 : a ≠ q6 := fun z => by rw [← z, up_same] at hq6; cases hq6
  refine V_run C b_X5_init_32 ?_
  simp only [k_X5_init_32, (up_ne n6), up_same, r_nil, r_iconst, r_bipush, r_sipush, r_ldc, r_lconst0, r_lconst1, r_ldc2, r_null, r_iload_n, r_iload, r_lload_n, r_lload, r_aload_n, r_aload, r_istore_n, r_istore, r_lstore_n, r_lstore, r_astore_nR, r_astoreR, r_astore_nN, r_astoreN, r_iinc, r_iadd, r_isub, r_imul, r_iand, r_idiv, r_irem, r_ineg, r_ladd, r_lsub, r_lmul, r_lxor, r_ldiv, r_lcmp, r_i2l, r_l2i, r_dup, r_pop, r_dup2, r_ifeq, r_ifne, r_iflt, r_ifge, r_ifgt, r_ifle, r_icmpeq, r_icmpne, r_icmplt, r_icmpge, r_icmpgt, r_icmple, r_acmpne, r_ifnullN, r_ifnullR, r_ifnonnullN, r_ifnonnullR, r_goto, r_getf, r_putf, r_alen, r_iald, r_bald, r_lald, r_aald, r_iast, r_bast, r_last, r_aast, gl_c, s1_d, s2_d, ins_n, ins_c, rm1_n, rm1_c, rm2_n, rm2_c, cat_i, cat_l, cat_r, cat_n, oI_t, oJ_t, oA_t, oA_u, oV_t, mO_s, aI_s, aJ_s, aQ_s, mL_0, mL_1, mL_2, mL_3, mL_4, nth_0, nth_s, rf_s, rf_n, fit_i, fit_r, fit_a, fit_b, fit_b0, fit_b1, Option.toList_some, Option.toList_none, List.cons_append, List.nil_append, List.set_cons_zero, List.set_cons_succ, List.length_cons, List.length_nil, Nat.reduceAdd, Nat.reduceEqDiff, Nat.reduceLT, reduceIte, false_implies, true_implies, not_false_eq_true, not_true_eq_false, true_and, and_true, Nat.zero_add, lv_args, nI_1, Bool.false_eq_true, eq_self]
  refine V_newW C a_X5_23 d_X5_init_38 12 (by decide) (by decide) (by omega) ⟨(Nat.le_of_ble_eq_true rfl), (Nat.le_of_ble_eq_true rfl)⟩ (fun q7 hq7 => ?_)
  have n7 : a ≠ q7 := fun z => by rw [← z, up_same] at hq7; cases hq7
  refine V_run C b_X5_init_41 ?_
  simp only [k_X5_init_41, (up_ne n7), up_same, r_nil, r_iconst, r_bipush, r_sipush, r_ldc, r_lconst0, r_lconst1, r_ldc2, r_null, r_iload_n, r_iload, r_lload_n, r_lload, r_aload_n, r_aload, r_istore_n, r_istore, r_lstore_n, r_lstore, r_astore_nR, r_astoreR, r_astore_nN, r_astoreN, r_iinc, r_iadd, r_isub, r_imul, r_iand, r_idiv, r_irem, r_ineg, r_ladd, r_lsub, r_lmul, r_lxor, r_ldiv, r_lcmp, r_i2l, r_l2i, r_dup, r_pop, r_dup2, r_ifeq, r_ifne, r_iflt, r_ifge, r_ifgt, r_ifle, r_icmpeq, r_icmpne, r_icmplt, r_icmpge, r_icmpgt, r_icmple, r_acmpne, r_ifnullN, r_ifnullR, r_ifnonnullN, r_ifnonnullR, r_goto, r_getf, r_putf, r_alen, r_iald, r_bald, r_lald, r_aald, r_iast, r_bast, r_last, r_aast, gl_c, s1_d, s2_d, ins_n, ins_c, rm1_n, rm1_c, rm2_n, rm2_c, cat_i, cat_l, cat_r, cat_n, oI_t, oJ_t, oA_t, oA_u, oV_t, mO_s, aI_s, aJ_s, aQ_s, mL_0, mL_1, mL_2, mL_3, mL_4, nth_0, nth_s, rf_s, rf_n, fit_i, fit_r, fit_a, fit_b, fit_b0, fit_b1, Option.toList_some, Option.toList_none, List.cons_append, List.nil_append, List.set_cons_zero, List.set_cons_succ, List.length_cons, List.length_nil, Nat.reduceAdd, Nat.reduceEqDiff, Nat.reduceLT, reduceIte, false_implies, true_implies, not_false_eq_true, not_true_eq_false, true_and, and_true, Nat.zero_add, lv_args, nI_1, Bool.false_eq_true, eq_self]
  simp only [up_none] at hq6 hq7
  obtain ⟨e6a, e63, e65, e64, -, -, e61, e62, -, hq6⟩ := hq6
  obtain ⟨e7a, e76, -, e73, e75, e74, -, -, e71, e72, -, hq7⟩ := hq7
  refine V_vret C hZ rfl d_X5_init_54 ⟨rfl, fun _ _ _ => 0, (fun _ => 0, fun _ => 0, 0, 0), (fun k _ _ => if k = 0 then a else if k = 1 then q1 else if k = 2 then q2 else if k = 3 then q3 else if k = 4 then q4 else if k = 5 then q5 else if k = 6 then q6 else q7), (fun x => if x = a then (0, 0, 0) else if x = q1 then (1, 0, 0) else if x = q2 then (2, 0, 0) else if x = q3 then (3, 0, 0) else if x = q4 then (4, 0, 0) else if x = q5 then (5, 0, 0) else if x = q6 then (6, 0, 0) else (7, 0, 0)), ⟨?_, ?_, rfl⟩, ?_⟩ ⟨(Nat.le_of_ble_eq_true rfl), (Nat.le_of_ble_eq_true rfl)⟩
  · intro k i j hl
    have hk : k ≤ 7 ∧ i = 0 ∧ j = 0 := by
      rcases hl with q | q | q | q
      · exact q
      · exact absurd q.2.2.1 (Nat.not_lt_zero _)
      · exact absurd q.2.2.1 (Nat.not_lt_zero _)
      · exact absurd q.2.1 (Nat.not_lt_zero _)
    obtain ⟨hk, rfl, rfl⟩ := hk
    rcases (by omega : k = 0 ∨ k = 1 ∨ k = 2 ∨ k = 3 ∨ k = 4 ∨ k = 5 ∨ k = 6 ∨ k = 7) with rfl | rfl | rfl | rfl | rfl | rfl | rfl | rfl
    · simp only [reduceIte, Nat.reduceEqDiff]
      refine ⟨?_, ?_, hMa⟩
      · simp only [up_same, up_ne n1, up_ne n2, up_ne n3, up_ne (Ne.symm n4), up_ne (Ne.symm n5), up_ne n6, up_ne n7]
        rfl
      · trivial
    · simp only [reduceIte, Nat.reduceEqDiff]
      refine ⟨?_, ?_, (fun z => HM _ z hq1)⟩
      · simp only [up_same, up_ne (Ne.symm n1), up_ne (Ne.symm n12), up_ne n13, up_ne (Ne.symm n14), up_ne (Ne.symm n15), up_ne (Ne.symm e61), up_ne (Ne.symm e71)]
        rfl
      · rw [if_neg (Ne.symm n1)]
    · simp only [reduceIte, Nat.reduceEqDiff]
      refine ⟨?_, ?_, (fun z => HM _ z hq2)⟩
      · simp only [up_same, up_ne (Ne.symm n2), up_ne n12, up_ne n23, up_ne (Ne.symm n24), up_ne (Ne.symm n25), up_ne (Ne.symm e62), up_ne (Ne.symm e72)]
        rfl
      · rw [if_neg (Ne.symm n2), if_neg n12]
    · simp only [reduceIte, Nat.reduceEqDiff]
      refine ⟨?_, ?_, (fun z => HM _ z hq3)⟩
      · simp only [up_same, up_ne (Ne.symm n3), up_ne (Ne.symm n13), up_ne (Ne.symm n23), up_ne (Ne.symm n34), up_ne (Ne.symm n35), up_ne (Ne.symm e63), up_ne (Ne.symm e73)]
        rfl
      · rw [if_neg (Ne.symm n3), if_neg (Ne.symm n13), if_neg (Ne.symm n23)]
    · simp only [reduceIte, Nat.reduceEqDiff]
      refine ⟨?_, ?_, (fun z => HM _ z hq4)⟩
      · simp only [up_same, up_ne n4, up_ne n14, up_ne n24, up_ne n34, up_ne n45, up_ne (Ne.symm e64), up_ne (Ne.symm e74)]
        rfl
      · rw [if_neg n4, if_neg n14, if_neg n24, if_neg n34]
    · simp only [reduceIte, Nat.reduceEqDiff]
      refine ⟨?_, ?_, (fun z => HM _ z hq5)⟩
      · simp only [up_same, up_ne n5, up_ne n15, up_ne n25, up_ne n35, up_ne (Ne.symm n45), up_ne (Ne.symm e65), up_ne (Ne.symm e75)]
        rfl
      · rw [if_neg n5, if_neg n15, if_neg n25, if_neg n35, if_neg (Ne.symm n45)]
    · simp only [reduceIte, Nat.reduceEqDiff]
      refine ⟨?_, ?_, (fun z => HM _ z hq6)⟩
      · simp only [up_same, up_ne (Ne.symm n6), up_ne e61, up_ne e62, up_ne e63, up_ne e64, up_ne e65, up_ne (Ne.symm e76)]
        rfl
      · rw [if_neg (Ne.symm n6), if_neg e61, if_neg e62, if_neg e63, if_neg e64, if_neg e65]
    · simp only [reduceIte, Nat.reduceEqDiff]
      refine ⟨?_, ?_, (fun z => HM _ z hq7)⟩
      · simp only [up_same, up_ne (Ne.symm n7), up_ne e71, up_ne e72, up_ne e73, up_ne e74, up_ne e75, up_ne e76]
        rfl
      · rw [if_neg (Ne.symm n7), if_neg e71, if_neg e72, if_neg e73, if_neg e74, if_neg e75, if_neg e76]
  · exact ⟨fun g x y hg => absurd hg (Nat.not_lt_zero _), fun g q x y hg => absurd hg (Nat.not_lt_zero _)⟩
  · intro x hx
    have h0 := HM x hx
    have ne : ∀ q, h q = none → x ≠ q := fun q hq z => h0 (by rw [z]; exact hq)
    have na : x ≠ a := fun z => hMa (by rw [← z]; exact hx)
    simp only [up_ne na, up_ne (ne _ hq1), up_ne (ne _ hq2), up_ne (ne _ hq3), up_ne (ne _ hq4), up_ne (ne _ hq5), up_ne (ne _ hq6), up_ne (ne _ hq7)]
end
