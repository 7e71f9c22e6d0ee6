/-! ===== Totals: gathering a window; Window: pieces under a rectangle ===== -/
/-- the window's cells are asked alike whatever the totals hold -/
def Wcell (l : Launch) (D : va_G) (Y : Nat → ClassId) (b0 : Nat) (h : AH) (sa na wd w hh : Nat) (cf : Nat → Nat → Int64) : Prop :=
  ∀ (ts : Nat → Int64) (tn : Nat → Int32) (i j : Nat), i < w → j < hh → Ct l D Y b0 mX4_cell 4 0 0 [.ref wd, .int (nI i), .int (nI j)] (up (up h sa (eJ Y 1920 ts)) na (eI Y 1920 tn)) (rt (.long (cf i j)) (up (up h sa (eJ Y 1920 ts)) na (eI Y 1920 tn))) noX
/-- rows before j hold, of row j the first x entries too -/
def okT (cf : Nat → Nat → Int64) (w : Nat) (ts : Nat → Int64) (tn : Nat → Int32) (j x : Nat) : Prop :=
  (∀ x' y', x' ≤ w → y' ≤ j → SA ts w x' y' = pS cf x' y' ∧ NA tn w x' y' = nI (pN cf x' y')) ∧ ∀ x', x' ≤ x → SA ts w x' (j + 1) = pS cf x' (j + 1) ∧ NA tn w x' (j + 1) = nI (pN cf x' (j + 1))
theorem okT_0 {cf : Nat → Nat → Int64} {w : Nat} {ts : Nat → Int64} {tn : Nat → Int32} : okT cf w ts tn 0 0 := by
  refine ⟨fun x' y' _ hy => ?_, fun x' hx => ?_⟩
  · obtain rfl : y' = 0 := by omega
    rw [SA_0y, NA_0y]
    exact ⟨rfl, rfl⟩
  · obtain rfl : x' = 0 := by omega
    rw [SA_0x, NA_0x, pS_0, pN_0]
    exact ⟨rfl, rfl⟩
theorem okT_row {cf : Nat → Nat → Int64} {w : Nat} {ts : Nat → Int64} {tn : Nat → Int32} {j : Nat} (h : okT cf w ts tn j w) : okT cf w ts tn (j + 1) 0 := by
  refine ⟨fun x' y' hx hy => ?_, fun x' hx => ?_⟩
  · by_cases e : y' = j + 1
    · subst e; exact h.2 x' hx
    · exact h.1 x' y' hx (by omega)
  · obtain rfl : x' = 0 := by omega
    rw [SA_0x, NA_0x, pS_0, pN_0]
    exact ⟨rfl, rfl⟩
theorem SA_upd {ts : Nat → Int64} {w x y k : Nat} {v : Int64} (hk : x = 0 ∨ y = 0 ∨ ¬ (y - 1) * w + (x - 1) = k) : SA (vp_updL ts k v) w x y = SA ts w x y := by
  unfold SA
  by_cases z : x = 0 ∨ y = 0
  · rw [if_pos z, if_pos z]
  · rw [if_neg z, if_neg z]
    unfold vp_updL
    rw [if_neg (by omega)]
theorem NA_upd {ts : Nat → Int32} {w x y k : Nat} {v : Int32} (hk : x = 0 ∨ y = 0 ∨ ¬ (y - 1) * w + (x - 1) = k) : NA (upd ts k v) w x y = NA ts w x y := by
  unfold NA
  by_cases z : x = 0 ∨ y = 0
  · rw [if_pos z, if_pos z]
  · rw [if_neg z, if_neg z]
    unfold upd
    rw [if_neg (by omega)]
theorem okT_step {cf : Nat → Nat → Int64} {w : Nat} {ts : Nat → Int64} {tn : Nat → Int32} {j x : Nat} (h : okT cf w ts tn j x) (hx : x < w) :
    okT cf w (vp_updL ts (j * w + x) (SA ts w (x + 1) j + rS cf j (x + 1))) (upd tn (j * w + x) (NA tn w (x + 1) j + nI (rN cf j (x + 1)))) j (x + 1) := by
  have key : ∀ x' y', x' ≤ w → ¬ (x' = x + 1 ∧ y' = j + 1) → x' = 0 ∨ y' = 0 ∨ ¬ (y' - 1) * w + (x' - 1) = j * w + x := by
    intro x' y' hx' hne
    by_cases z1 : x' = 0
    · exact Or.inl z1
    · by_cases z2 : y' = 0
      · exact Or.inr (Or.inl z2)
      · refine Or.inr (Or.inr (fun e => hne ?_))
        obtain ⟨e1, e2⟩ := idx_inj (w := w) (by omega) hx e
        omega
  have hj := h.1 (x + 1) j (by omega) (Nat.le_refl j)
  refine ⟨fun x' y' hx' hy' => ?_, fun x' hx' => ?_⟩
  · have k1 := key x' y' hx' (by omega)
    rw [SA_upd k1, NA_upd k1]
    exact h.1 x' y' hx' hy'
  · by_cases e : x' = x + 1
    · subst e
      rw [SA_s, NA_s]
      unfold vp_updL upd
      rw [if_pos rfl, if_pos rfl, hj.1, hj.2]
      exact ⟨rfl, by rw [nI_add]; rfl⟩
    · have k1 := key x' (j + 1) (by omega) (by omega)
      rw [SA_upd k1, NA_upd k1]
      exact h.2 x' (by omega)
section
variable {l : Launch} {D : va_G} {Y : Nat → ClassId} {b0 : Nat} {h : AH} {a sa na w hh : Nat} {ts : Nat → Int64} {tn : Nat → Int32}
theorem s_gatherRow (T : TW Y h a sa na w hh ts tn) {wd : Nat} {cf : Nat → Nat → Int64} (hc : Wcell l D Y b0 h sa na wd w hh cf) {fw : List Value} (hwd : ∀ (ts : Nat → Int64) (tn : Nat → Int32), up (up h sa (eJ Y 1920 ts)) na (eI Y 1920 tn) wd = some (.inr (4, fw))) {j : Nat} (hj : j < hh) (hok : okT cf w ts tn j 0) :
    Ct l D Y b0 mX3_gatherRow 5 0 0 [.ref a, .ref wd, .int (nI (j + 1))] h (fun v h' => v = none ∧ ∃ ts' tn', okT cf w ts' tn' j w ∧ h' = up (up h sa (eJ Y 1920 ts')) na (eI Y 1920 tn')) noX := by
  refine Ct_of "GridStore$Totals" false rfl (by decide +kernel) (fun z => by cases z) (Nat.le_of_ble_eq_true rfl) ?_
  intro p e s m args below meth c Z C hno hZ
  have T0 := T
  obtain ⟨h1, h2, h3, h4, h5, h6⟩ := T0
  obtain ⟨n1', n2', n3'⟩ := T.ne
  refine V_run C b_X3_gatherRow_0 ?_
  simp only [k_X3_gatherRow_0, r_nil, r_iconst, r_bipush, r_sipush, r_ldc, r_lconst0, r_lconst1, r_ldc2, r_null, r_iload_n, r_iload, r_lload_n, r_lload, r_aload_n, r_aload, r_istore_n, r_istore, r_lstore_n, r_lstore, r_astore_nR, r_astoreR, r_astore_nN, r_astoreN, r_iinc, r_iadd, r_isub, r_imul, r_iand, r_idiv, r_irem, r_ineg, r_ladd, r_lsub, r_lmul, r_lxor, r_ldiv, r_lcmp, r_i2l, r_l2i, r_dup, r_pop, r_dup2, r_ifeq, r_ifne, r_iflt, r_ifge, r_ifgt, r_ifle, r_icmpeq, r_icmpne, r_icmplt, r_icmpge, r_icmpgt, r_icmple, r_acmpne, r_ifnullN, r_ifnullR, r_ifnonnullN, r_ifnonnullR, r_goto, r_getf, r_putf, r_alen, r_iald, r_bald, r_lald, r_aald, r_iast, r_bast, r_last, r_aast, gl_c, s1_d, s2_d, ins_n, ins_c, rm1_n, rm1_c, rm2_n, rm2_c, cat_i, cat_l, cat_r, cat_n, oI_s, oJ_s, oA_r, oA_n, oV_s, mO_s, aI_s, aJ_s, aQ_s, mL_0, mL_1, mL_2, mL_3, mL_4, nth_0, nth_s, rf_s, rf_n, fit_i, fit_r, fit_a, fit_b, fit_b0, fit_b1, Option.toList_some, Option.toList_none, List.cons_append, List.nil_append, List.set_cons_zero, List.set_cons_succ, List.length_cons, List.length_nil, Nat.reduceAdd, Nat.reduceEqDiff, Nat.reduceLT, reduceIte, false_implies, true_implies, not_false_eq_true, not_true_eq_false, true_and, and_true, Nat.zero_add, lv_args, nI_1]
  have hst : h = up (up h sa (eJ Y 1920 ts)) na (eI Y 1920 tn) := by rw [up_id h2, up_id h3]
  have key := V_up (n := w) (fun x => ∀ ts1 tn1, okT cf w ts1 tn1 j x → V p l e s m args below meth c D b0 5 0 0 Z 0 0 8 ([(0, .ref a), (1, .ref wd), (2, .int (nI (j + 1))), (3, .long (rS cf j x)), (5, .int (nI (rN cf j x))), (6, .int (nI (x + 1)))]) ([]) (up (up h sa (eJ Y 1920 ts1)) na (eI Y 1920 tn1))) ?_ ?_ 0 (Nat.zero_le w)
  · have k2 := key ts tn hok
    rw [← hst] at k2
    exact k2
  · intro ts1 tn1 hok1
    have T1 := T.set ts1 tn1
    refine V_run C b_X3_gatherRow_8 ?_
    simp only [k_X3_gatherRow_8, T1.1, (c_lt w (w+1)), r_nil, r_iconst, r_bipush, r_sipush, r_ldc, r_lconst0, r_lconst1, r_ldc2, r_null, r_iload_n, r_iload, r_lload_n, r_lload, r_aload_n, r_aload, r_istore_n, r_istore, r_lstore_n, r_lstore, r_astore_nR, r_astoreR, r_astore_nN, r_astoreN, r_iinc, r_iadd, r_isub, r_imul, r_iand, r_idiv, r_irem, r_ineg, r_ladd, r_lsub, r_lmul, r_lxor, r_ldiv, r_lcmp, r_i2l, r_l2i, r_dup, r_pop, r_dup2, r_ifeq, r_ifne, r_iflt, r_ifge, r_ifgt, r_ifle, r_icmpeq, r_icmpne, r_icmplt, r_icmpge, r_icmpgt, r_icmple, r_acmpne, r_ifnullN, r_ifnullR, r_ifnonnullN, r_ifnonnullR, r_goto, r_getf, r_putf, r_alen, r_iald, r_bald, r_lald, r_aald, r_iast, r_bast, r_last, r_aast, gl_c, s1_d, s2_d, ins_n, ins_c, rm1_n, rm1_c, rm2_n, rm2_c, cat_i, cat_l, cat_r, cat_n, oI_s, oJ_s, oA_r, oA_n, oV_s, mO_s, aI_s, aJ_s, aQ_s, mL_0, mL_1, mL_2, mL_3, mL_4, nth_0, nth_s, rf_s, rf_n, fit_i, fit_r, fit_a, fit_b, fit_b0, fit_b1, Option.toList_some, Option.toList_none, List.cons_append, List.nil_append, List.set_cons_zero, List.set_cons_succ, List.length_cons, List.length_nil, Nat.reduceAdd, Nat.reduceEqDiff, Nat.reduceLT, reduceIte, false_implies, true_implies, not_false_eq_true, not_true_eq_false, true_and, and_true, Nat.zero_add, lv_args, nI_1]
    exact V_vret C hZ rfl d_X3_gatherRow_83 ⟨rfl, ts1, tn1, hok1, rfl⟩ ⟨(Nat.le_of_ble_eq_true rfl), (Nat.le_of_ble_eq_true rfl)⟩
  · intro x hx ih ts1 tn1 hok1
    have T1 := T.set ts1 tn1
    refine V_run C b_X3_gatherRow_8 ?_
    simp only [k_X3_gatherRow_8, T1.1, (c_nlt w (x+1)), n1, (nsub (x+1) 1), (nsub (j+1) 1), Nat.add_sub_cancel, r_nil, r_iconst, r_bipush, r_sipush, r_ldc, r_lconst0, r_lconst1, r_ldc2, r_null, r_iload_n, r_iload, r_lload_n, r_lload, r_aload_n, r_aload, r_istore_n, r_istore, r_lstore_n, r_lstore, r_astore_nR, r_astoreR, r_astore_nN, r_astoreN, r_iinc, r_iadd, r_isub, r_imul, r_iand, r_idiv, r_irem, r_ineg, r_ladd, r_lsub, r_lmul, r_lxor, r_ldiv, r_lcmp, r_i2l, r_l2i, r_dup, r_pop, r_dup2, r_ifeq, r_ifne, r_iflt, r_ifge, r_ifgt, r_ifle, r_icmpeq, r_icmpne, r_icmplt, r_icmpge, r_icmpgt, r_icmple, r_acmpne, r_ifnullN, r_ifnullR, r_ifnonnullN, r_ifnonnullR, r_goto, r_getf, r_putf, r_alen, r_iald, r_bald, r_lald, r_aald, r_iast, r_bast, r_last, r_aast, gl_c, s1_d, s2_d, ins_n, ins_c, rm1_n, rm1_c, rm2_n, rm2_c, cat_i, cat_l, cat_r, cat_n, oI_s, oJ_s, oA_r, oA_n, oV_s, mO_s, aI_s, aJ_s, aQ_s, mL_0, mL_1, mL_2, mL_3, mL_4, nth_0, nth_s, rf_s, rf_n, fit_i, fit_r, fit_a, fit_b, fit_b0, fit_b1, Option.toList_some, Option.toList_none, List.cons_append, List.nil_append, List.set_cons_zero, List.set_cons_succ, List.length_cons, List.length_nil, Nat.reduceAdd, Nat.reduceEqDiff, Nat.reduceLT, reduceIte, false_implies, true_implies, not_false_eq_true, not_true_eq_false, true_and, and_true, Nat.zero_add, lv_args, nI_1]
    refine V_callV C c_X3_34 d_X3_gatherRow_25 (hc ts1 tn1 x j hx hj) rfl rfl (hwd ts1 tn1) rfl (Nat.le_of_ble_eq_true rfl) ⟨(Nat.le_of_ble_eq_true rfl), (Nat.le_of_ble_eq_true rfl)⟩ (Nat.le_of_ble_eq_true rfl) (fun _ _ z => z.elim) ?_
    rintro _ _ ⟨rfl, rfl⟩
    have fin : V p l e s m args below meth c D b0 5 0 0 Z 0 0 47 ([(0, .ref a), (1, .ref wd), (2, .int (nI (j + 1))), (3, .long (rS cf j (x + 1))), (5, .int (nI (rN cf j (x + 1)))), (6, .int (nI (x + 1))), (7, .long (cf x j))]) ([]) (up (up h sa (eJ Y 1920 ts1)) na (eI Y 1920 tn1)) := by
      refine V_run C b_X3_gatherRow_47 ?_
      simp only [k_X3_gatherRow_47, n1, (nsub (j+1) 1), Nat.add_sub_cancel, r_nil, r_iconst, r_bipush, r_sipush, r_ldc, r_lconst0, r_lconst1, r_ldc2, r_null, r_iload_n, r_iload, r_lload_n, r_lload, r_aload_n, r_aload, r_istore_n, r_istore, r_lstore_n, r_lstore, r_astore_nR, r_astoreR, r_astore_nN, r_astoreN, r_iinc, r_iadd, r_isub, r_imul, r_iand, r_idiv, r_irem, r_ineg, r_ladd, r_lsub, r_lmul, r_lxor, r_ldiv, r_lcmp, r_i2l, r_l2i, r_dup, r_pop, r_dup2, r_ifeq, r_ifne, r_iflt, r_ifge, r_ifgt, r_ifle, r_icmpeq, r_icmpne, r_icmplt, r_icmpge, r_icmpgt, r_icmple, r_acmpne, r_ifnullN, r_ifnullR, r_ifnonnullN, r_ifnonnullR, r_goto, r_getf, r_putf, r_alen, r_iald, r_bald, r_lald, r_aald, r_iast, r_bast, r_last, r_aast, gl_c, s1_d, s2_d, ins_n, ins_c, rm1_n, rm1_c, rm2_n, rm2_c, cat_i, cat_l, cat_r, cat_n, oI_s, oJ_s, oA_r, oA_n, oV_s, mO_s, aI_s, aJ_s, aQ_s, mL_0, mL_1, mL_2, mL_3, mL_4, nth_0, nth_s, rf_s, rf_n, fit_i, fit_r, fit_a, fit_b, fit_b0, fit_b1, Option.toList_some, Option.toList_none, List.cons_append, List.nil_append, List.set_cons_zero, List.set_cons_succ, List.length_cons, List.length_nil, Nat.reduceAdd, Nat.reduceEqDiff, Nat.reduceLT, reduceIte, false_implies, true_implies, not_false_eq_true, not_true_eq_false, true_and, and_true, Nat.zero_add, lv_args, nI_1]
      have hx1 : x + 1 ≤ w := hx
      have hj1 : j ≤ hh := by omega
      refine V_callV C c_X3_40 d_X3_gatherRow_57 (s_sumTo T1 hx1 hj1) rfl rfl (T1.1) rfl (Nat.le_of_ble_eq_true rfl) ⟨(Nat.le_of_ble_eq_true rfl), (Nat.le_of_ble_eq_true rfl)⟩ (Nat.le_of_ble_eq_true rfl) (fun _ _ z => z.elim) ?_
      rintro _ _ ⟨rfl, rfl⟩
      refine V_run C b_X3_gatherRow_60 ?_
      simp only [k_X3_gatherRow_60, n1, (nsub (j+1) 1), Nat.add_sub_cancel, r_nil, r_iconst, r_bipush, r_sipush, r_ldc, r_lconst0, r_lconst1, r_ldc2, r_null, r_iload_n, r_iload, r_lload_n, r_lload, r_aload_n, r_aload, r_istore_n, r_istore, r_lstore_n, r_lstore, r_astore_nR, r_astoreR, r_astore_nN, r_astoreN, r_iinc, r_iadd, r_isub, r_imul, r_iand, r_idiv, r_irem, r_ineg, r_ladd, r_lsub, r_lmul, r_lxor, r_ldiv, r_lcmp, r_i2l, r_l2i, r_dup, r_pop, r_dup2, r_ifeq, r_ifne, r_iflt, r_ifge, r_ifgt, r_ifle, r_icmpeq, r_icmpne, r_icmplt, r_icmpge, r_icmpgt, r_icmple, r_acmpne, r_ifnullN, r_ifnullR, r_ifnonnullN, r_ifnonnullR, r_goto, r_getf, r_putf, r_alen, r_iald, r_bald, r_lald, r_aald, r_iast, r_bast, r_last, r_aast, gl_c, s1_d, s2_d, ins_n, ins_c, rm1_n, rm1_c, rm2_n, rm2_c, cat_i, cat_l, cat_r, cat_n, oI_s, oJ_s, oA_r, oA_n, oV_s, mO_s, aI_s, aJ_s, aQ_s, mL_0, mL_1, mL_2, mL_3, mL_4, nth_0, nth_s, rf_s, rf_n, fit_i, fit_r, fit_a, fit_b, fit_b0, fit_b1, Option.toList_some, Option.toList_none, List.cons_append, List.nil_append, List.set_cons_zero, List.set_cons_succ, List.length_cons, List.length_nil, Nat.reduceAdd, Nat.reduceEqDiff, Nat.reduceLT, reduceIte, false_implies, true_implies, not_false_eq_true, not_true_eq_false, true_and, and_true, Nat.zero_add, lv_args, nI_1]
      refine V_callV C c_X3_43 d_X3_gatherRow_68 (s_numTo T1 hx1 hj1) rfl rfl (T1.1) rfl (Nat.le_of_ble_eq_true rfl) ⟨(Nat.le_of_ble_eq_true rfl), (Nat.le_of_ble_eq_true rfl)⟩ (Nat.le_of_ble_eq_true rfl) (fun _ _ z => z.elim) ?_
      rintro _ _ ⟨rfl, rfl⟩
      refine V_run C b_X3_gatherRow_71 ?_
      simp only [k_X3_gatherRow_71, r_nil, r_iconst, r_bipush, r_sipush, r_ldc, r_lconst0, r_lconst1, r_ldc2, r_null, r_iload_n, r_iload, r_lload_n, r_lload, r_aload_n, r_aload, r_istore_n, r_istore, r_lstore_n, r_lstore, r_astore_nR, r_astoreR, r_astore_nN, r_astoreN, r_iinc, r_iadd, r_isub, r_imul, r_iand, r_idiv, r_irem, r_ineg, r_ladd, r_lsub, r_lmul, r_lxor, r_ldiv, r_lcmp, r_i2l, r_l2i, r_dup, r_pop, r_dup2, r_ifeq, r_ifne, r_iflt, r_ifge, r_ifgt, r_ifle, r_icmpeq, r_icmpne, r_icmplt, r_icmpge, r_icmpgt, r_icmple, r_acmpne, r_ifnullN, r_ifnullR, r_ifnonnullN, r_ifnonnullR, r_goto, r_getf, r_putf, r_alen, r_iald, r_bald, r_lald, r_aald, r_iast, r_bast, r_last, r_aast, gl_c, s1_d, s2_d, ins_n, ins_c, rm1_n, rm1_c, rm2_n, rm2_c, cat_i, cat_l, cat_r, cat_n, oI_s, oJ_s, oA_r, oA_n, oV_s, mO_s, aI_s, aJ_s, aQ_s, mL_0, mL_1, mL_2, mL_3, mL_4, nth_0, nth_s, rf_s, rf_n, fit_i, fit_r, fit_a, fit_b, fit_b0, fit_b1, Option.toList_some, Option.toList_none, List.cons_append, List.nil_append, List.set_cons_zero, List.set_cons_succ, List.length_cons, List.length_nil, Nat.reduceAdd, Nat.reduceEqDiff, Nat.reduceLT, reduceIte, false_implies, true_implies, not_false_eq_true, not_true_eq_false, true_and, and_true, Nat.zero_add, lv_args, nI_1]
      have hj2 : j + 1 ≤ hh := by omega
      have hx2 : ¬ x + 1 = 0 := by omega
      have hj3 : ¬ j + 1 = 0 := by omega
      refine V_callV C c_X3_47 d_X3_gatherRow_74 (s_putT T1 hx1 hj2 hx2 hj3 (SA ts1 w (x + 1) j + rS cf j (x + 1)) (NA tn1 w (x + 1) j + nI (rN cf j (x + 1)))) rfl rfl (T1.1) rfl (Nat.le_of_ble_eq_true rfl) ⟨(Nat.le_of_ble_eq_true rfl), (Nat.le_of_ble_eq_true rfl)⟩ (Nat.le_of_ble_eq_true rfl) (fun _ _ z => z.elim) ?_
      rintro _ _ ⟨rfl, rfl⟩
      rw [up4 n3']
      refine V_run C b_X3_gatherRow_77 ?_
      simp only [k_X3_gatherRow_77, r_nil, r_iconst, r_bipush, r_sipush, r_ldc, r_lconst0, r_lconst1, r_ldc2, r_null, r_iload_n, r_iload, r_lload_n, r_lload, r_aload_n, r_aload, r_istore_n, r_istore, r_lstore_n, r_lstore, r_astore_nR, r_astoreR, r_astore_nN, r_astoreN, r_iinc, r_iadd, r_isub, r_imul, r_iand, r_idiv, r_irem, r_ineg, r_ladd, r_lsub, r_lmul, r_lxor, r_ldiv, r_lcmp, r_i2l, r_l2i, r_dup, r_pop, r_dup2, r_ifeq, r_ifne, r_iflt, r_ifge, r_ifgt, r_ifle, r_icmpeq, r_icmpne, r_icmplt, r_icmpge, r_icmpgt, r_icmple, r_acmpne, r_ifnullN, r_ifnullR, r_ifnonnullN, r_ifnonnullR, r_goto, r_getf, r_putf, r_alen, r_iald, r_bald, r_lald, r_aald, r_iast, r_bast, r_last, r_aast, gl_c, s1_d, s2_d, ins_n, ins_c, rm1_n, rm1_c, rm2_n, rm2_c, cat_i, cat_l, cat_r, cat_n, oI_s, oJ_s, oA_r, oA_n, oV_s, mO_s, aI_s, aJ_s, aQ_s, mL_0, mL_1, mL_2, mL_3, mL_4, nth_0, nth_s, rf_s, rf_n, fit_i, fit_r, fit_a, fit_b, fit_b0, fit_b1, Option.toList_some, Option.toList_none, List.cons_append, List.nil_append, List.set_cons_zero, List.set_cons_succ, List.length_cons, List.length_nil, Nat.reduceAdd, Nat.reduceEqDiff, Nat.reduceLT, reduceIte, false_implies, true_implies, not_false_eq_true, not_true_eq_false, true_and, and_true, Nat.zero_add, lv_args, nI_1]
      exact V_drop [0, 1, 2, 3, 4, 5] rfl (ih _ _ (okT_step hok1 hx))
    refine V_run C b_X3_gatherRow_28 ?_
    simp only [k_X3_gatherRow_28, lgc_eq, r_nil, r_iconst, r_bipush, r_sipush, r_ldc, r_lconst0, r_lconst1, r_ldc2, r_null, r_iload_n, r_iload, r_lload_n, r_lload, r_aload_n, r_aload, r_istore_n, r_istore, r_lstore_n, r_lstore, r_astore_nR, r_astoreR, r_astore_nN, r_astoreN, r_iinc, r_iadd, r_isub, r_imul, r_iand, r_idiv, r_irem, r_ineg, r_ladd, r_lsub, r_lmul, r_lxor, r_ldiv, r_lcmp, r_i2l, r_l2i, r_dup, r_pop, r_dup2, r_ifeq, r_ifne, r_iflt, r_ifge, r_ifgt, r_ifle, r_icmpeq, r_icmpne, r_icmplt, r_icmpge, r_icmpgt, r_icmple, r_acmpne, r_ifnullN, r_ifnullR, r_ifnonnullN, r_ifnonnullR, r_goto, r_getf, r_putf, r_alen, r_iald, r_bald, r_lald, r_aald, r_iast, r_bast, r_last, r_aast, gl_c, s1_d, s2_d, ins_n, ins_c, rm1_n, rm1_c, rm2_n, rm2_c, cat_i, cat_l, cat_r, cat_n, oI_s, oJ_s, oA_r, oA_n, oV_s, mO_s, aI_s, aJ_s, aQ_s, mL_0, mL_1, mL_2, mL_3, mL_4, nth_0, nth_s, rf_s, rf_n, fit_i, fit_r, fit_a, fit_b, fit_b0, fit_b1, Option.toList_some, Option.toList_none, List.cons_append, List.nil_append, List.set_cons_zero, List.set_cons_succ, List.length_cons, List.length_nil, Nat.reduceAdd, Nat.reduceEqDiff, Nat.reduceLT, reduceIte, false_implies, true_implies, not_false_eq_true, not_true_eq_false, true_and, and_true, Nat.zero_add, lv_args, nI_1]
    have e1 : rS cf j (x + 1) = rS cf j x + (if cf x j = HOLE then 0 else cf x j) := rfl
    have e2 : rN cf j (x + 1) = rN cf j x + (if cf x j = HOLE then 0 else 1) := rfl
    refine ⟨fun c1 => ?_, fun c1 => ?_⟩
    · rw [if_pos c1] at e1 e2
      rw [e1, e2, Int64.add_zero, Nat.add_zero] at fin
      exact fin
    · rw [if_neg c1] at e1 e2
      rw [e1, e2] at fin
      exact fin
theorem s_gather {tw th : Int32} (h1 : h a = some (eTot sa na tw th)) (h2 : h sa = some (eJ Y 1920 ts)) (h3 : h na = some (eI Y 1920 tn)) (h4 : w * hh ≤ 1920) (h5 : w ≤ 48) (h6 : hh ≤ 48) {wd g : Nat} {fx fy rx ry dx dy cl : Int32} (hwd : h wd = some (eWin g (nI w) (nI hh) fx fy rx ry dx dy cl)) {cf : Nat → Nat → Int64} (hc : Wcell l D Y b0 (up h a (eTot sa na (nI w) (nI hh))) sa na wd w hh cf) :
    Ct l D Y b0 mX3_gather 6 0 0 [.ref a, .ref wd] h (fun v h' => v = none ∧ ∃ ts' tn', okT cf w ts' tn' hh 0 ∧ h' = up (up (up h a (eTot sa na (nI w) (nI hh))) sa (eJ Y 1920 ts')) na (eI Y 1920 tn')) noX := by
  refine Ct_of "GridStore$Totals" false rfl (by decide +kernel) (fun z => by cases z) (Nat.le_of_ble_eq_true rfl) ?_
  intro p e s m args below meth c Z C hno hZ
  have m1 : wd ≠ a := fun z => by rw [z, h1] at hwd; cases hwd
  have m2 : wd ≠ sa := fun z => by rw [z, h2] at hwd; cases hwd
  have m3 : wd ≠ na := fun z => by rw [z, h3] at hwd; cases hwd
  have m4 : sa ≠ a := fun z => by rw [z, h1] at h2; cases h2
  have m5 : na ≠ a := fun z => by rw [z, h1] at h3; cases h3
  have m6 : sa ≠ na := fun z => by rw [z, h3] at h2; simp at h2
  refine V_run C b_X3_gather_0 ?_
  simp only [k_X3_gather_0, h1, hwd, up_same, up_up, (up_ne m1), r_nil, r_iconst, r_bipush, r_sipush, r_ldc, r_lconst0, r_lconst1, r_ldc2, r_null, r_iload_n, r_iload, r_lload_n, r_lload, r_aload_n, r_aload, r_istore_n, r_istore, r_lstore_n, r_lstore, r_astore_nR, r_astoreR, r_astore_nN, r_astoreN, r_iinc, r_iadd, r_isub, r_imul, r_iand, r_idiv, r_irem, r_ineg, r_ladd, r_lsub, r_lmul, r_lxor, r_ldiv, r_lcmp, r_i2l, r_l2i, r_dup, r_pop, r_dup2, r_ifeq, r_ifne, r_iflt, r_ifge, r_ifgt, r_ifle, r_icmpeq, r_icmpne, r_icmplt, r_icmpge, r_icmpgt, r_icmple, r_acmpne, r_ifnullN, r_ifnullR, r_ifnonnullN, r_ifnonnullR, r_goto, r_getf, r_putf, r_alen, r_iald, r_bald, r_lald, r_aald, r_iast, r_bast, r_last, r_aast, gl_c, s1_d, s2_d, ins_n, ins_c, rm1_n, rm1_c, rm2_n, rm2_c, cat_i, cat_l, cat_r, cat_n, oI_s, oJ_s, oA_r, oA_n, oV_s, mO_s, aI_s, aJ_s, aQ_s, mL_0, mL_1, mL_2, mL_3, mL_4, nth_0, nth_s, rf_s, rf_n, fit_i, fit_r, fit_a, fit_b, fit_b0, fit_b1, Option.toList_some, Option.toList_none, List.cons_append, List.nil_append, List.set_cons_zero, List.set_cons_succ, List.length_cons, List.length_nil, Nat.reduceAdd, Nat.reduceEqDiff, Nat.reduceLT, reduceIte, false_implies, true_implies, not_false_eq_true, not_true_eq_false, true_and, and_true, Nat.zero_add, lv_args, nI_1]
  generalize hg : up h a (eTot sa na (nI w) (nI hh)) = h0 at hc
  have T : TW Y h0 a sa na w hh ts tn := ⟨by rw [← hg, up_same], by rw [← hg, up_ne m4]; exact h2, by rw [← hg, up_ne m5]; exact h3, h4, h5, h6⟩
  have hwd0 : ∀ (ts : Nat → Int64) (tn : Nat → Int32), up (up h0 sa (eJ Y 1920 ts)) na (eI Y 1920 tn) wd = some (eWin g (nI w) (nI hh) fx fy rx ry dx dy cl) := fun ts tn => by rw [up_ne m3, up_ne m2, ← hg, up_ne m1]; exact hwd
  have hst : h0 = up (up h0 sa (eJ Y 1920 ts)) na (eI Y 1920 tn) := by rw [up_id T.2.1, up_id T.2.2.1]
  have key := V_up (n := hh) (fun j => ∀ ts1 tn1, okT cf w ts1 tn1 j 0 → V p l e s m args below meth c D b0 6 0 0 Z 0 0 18 ([(0, .ref a), (1, .ref wd), (2, .int (nI (j + 1)))]) ([]) (up (up h0 sa (eJ Y 1920 ts1)) na (eI Y 1920 tn1))) ?_ ?_ 0 (Nat.zero_le hh)
  · have k2 := key ts tn okT_0
    rw [← hst] at k2
    exact k2
  · intro ts1 tn1 hok1
    have T1 := T.set ts1 tn1
    refine V_run C b_X3_gather_18 ?_
    simp only [k_X3_gather_18, T1.1, (c_lt hh (hh+1)), r_nil, r_iconst, r_bipush, r_sipush, r_ldc, r_lconst0, r_lconst1, r_ldc2, r_null, r_iload_n, r_iload, r_lload_n, r_lload, r_aload_n, r_aload, r_istore_n, r_istore, r_lstore_n, r_lstore, r_astore_nR, r_astoreR, r_astore_nN, r_astoreN, r_iinc, r_iadd, r_isub, r_imul, r_iand, r_idiv, r_irem, r_ineg, r_ladd, r_lsub, r_lmul, r_lxor, r_ldiv, r_lcmp, r_i2l, r_l2i, r_dup, r_pop, r_dup2, r_ifeq, r_ifne, r_iflt, r_ifge, r_ifgt, r_ifle, r_icmpeq, r_icmpne, r_icmplt, r_icmpge, r_icmpgt, r_icmple, r_acmpne, r_ifnullN, r_ifnullR, r_ifnonnullN, r_ifnonnullR, r_goto, r_getf, r_putf, r_alen, r_iald, r_bald, r_lald, r_aald, r_iast, r_bast, r_last, r_aast, gl_c, s1_d, s2_d, ins_n, ins_c, rm1_n, rm1_c, rm2_n, rm2_c, cat_i, cat_l, cat_r, cat_n, oI_s, oJ_s, oA_r, oA_n, oV_s, mO_s, aI_s, aJ_s, aQ_s, mL_0, mL_1, mL_2, mL_3, mL_4, nth_0, nth_s, rf_s, rf_n, fit_i, fit_r, fit_a, fit_b, fit_b0, fit_b1, Option.toList_some, Option.toList_none, List.cons_append, List.nil_append, List.set_cons_zero, List.set_cons_succ, List.length_cons, List.length_nil, Nat.reduceAdd, Nat.reduceEqDiff, Nat.reduceLT, reduceIte, false_implies, true_implies, not_false_eq_true, not_true_eq_false, true_and, and_true, Nat.zero_add, lv_args, nI_1]
    exact V_vret C hZ rfl d_X3_gather_38 ⟨rfl, ts1, tn1, hok1, by rw [hg]⟩ ⟨(Nat.le_of_ble_eq_true rfl), (Nat.le_of_ble_eq_true rfl)⟩
  · intro j hj ih ts1 tn1 hok1
    have T1 := T.set ts1 tn1
    refine V_run C b_X3_gather_18 ?_
    simp only [k_X3_gather_18, T1.1, (c_nlt hh (j+1)), r_nil, r_iconst, r_bipush, r_sipush, r_ldc, r_lconst0, r_lconst1, r_ldc2, r_null, r_iload_n, r_iload, r_lload_n, r_lload, r_aload_n, r_aload, r_istore_n, r_istore, r_lstore_n, r_lstore, r_astore_nR, r_astoreR, r_astore_nN, r_astoreN, r_iinc, r_iadd, r_isub, r_imul, r_iand, r_idiv, r_irem, r_ineg, r_ladd, r_lsub, r_lmul, r_lxor, r_ldiv, r_lcmp, r_i2l, r_l2i, r_dup, r_pop, r_dup2, r_ifeq, r_ifne, r_iflt, r_ifge, r_ifgt, r_ifle, r_icmpeq, r_icmpne, r_icmplt, r_icmpge, r_icmpgt, r_icmple, r_acmpne, r_ifnullN, r_ifnullR, r_ifnonnullN, r_ifnonnullR, r_goto, r_getf, r_putf, r_alen, r_iald, r_bald, r_lald, r_aald, r_iast, r_bast, r_last, r_aast, gl_c, s1_d, s2_d, ins_n, ins_c, rm1_n, rm1_c, rm2_n, rm2_c, cat_i, cat_l, cat_r, cat_n, oI_s, oJ_s, oA_r, oA_n, oV_s, mO_s, aI_s, aJ_s, aQ_s, mL_0, mL_1, mL_2, mL_3, mL_4, nth_0, nth_s, rf_s, rf_n, fit_i, fit_r, fit_a, fit_b, fit_b0, fit_b1, Option.toList_some, Option.toList_none, List.cons_append, List.nil_append, List.set_cons_zero, List.set_cons_succ, List.length_cons, List.length_nil, Nat.reduceAdd, Nat.reduceEqDiff, Nat.reduceLT, reduceIte, false_implies, true_implies, not_false_eq_true, not_true_eq_false, true_and, and_true, Nat.zero_add, lv_args, nI_1]
    have hc1 : Wcell l D Y b0 (up (up h0 sa (eJ Y 1920 ts1)) na (eI Y 1920 tn1)) sa na wd w hh cf := by
      intro ts2 tn2 i2 j2 q1 q2
      have := hc ts2 tn2 i2 j2 q1 q2
      rw [up4 m6]
      exact this
    have hwd1 : ∀ (ts2 : Nat → Int64) (tn2 : Nat → Int32), up (up (up (up h0 sa (eJ Y 1920 ts1)) na (eI Y 1920 tn1)) sa (eJ Y 1920 ts2)) na (eI Y 1920 tn2) wd = some (eWin g (nI w) (nI hh) fx fy rx ry dx dy cl) := fun ts2 tn2 => by rw [up4 m6]; exact hwd0 ts2 tn2
    refine V_callV C c_X3_30 d_X3_gather_29 (s_gatherRow T1 hc1 hwd1 hj hok1) rfl rfl T1.1 rfl (Nat.le_of_ble_eq_true rfl) ⟨(Nat.le_of_ble_eq_true rfl), (Nat.le_of_ble_eq_true rfl)⟩ (Nat.le_of_ble_eq_true rfl) (fun _ _ z => z.elim) ?_
    rintro _ _ ⟨rfl, ts2, tn2, hok2, rfl⟩
    rw [up4 m6]
    refine V_run C b_X3_gather_32 ?_
    simp only [k_X3_gather_32, r_nil, r_iconst, r_bipush, r_sipush, r_ldc, r_lconst0, r_lconst1, r_ldc2, r_null, r_iload_n, r_iload, r_lload_n, r_lload, r_aload_n, r_aload, r_istore_n, r_istore, r_lstore_n, r_lstore, r_astore_nR, r_astoreR, r_astore_nN, r_astoreN, r_iinc, r_iadd, r_isub, r_imul, r_iand, r_idiv, r_irem, r_ineg, r_ladd, r_lsub, r_lmul, r_lxor, r_ldiv, r_lcmp, r_i2l, r_l2i, r_dup, r_pop, r_dup2, r_ifeq, r_ifne, r_iflt, r_ifge, r_ifgt, r_ifle, r_icmpeq, r_icmpne, r_icmplt, r_icmpge, r_icmpgt, r_icmple, r_acmpne, r_ifnullN, r_ifnullR, r_ifnonnullN, r_ifnonnullR, r_goto, r_getf, r_putf, r_alen, r_iald, r_bald, r_lald, r_aald, r_iast, r_bast, r_last, r_aast, gl_c, s1_d, s2_d, ins_n, ins_c, rm1_n, rm1_c, rm2_n, rm2_c, cat_i, cat_l, cat_r, cat_n, oI_s, oJ_s, oA_r, oA_n, oV_s, mO_s, aI_s, aJ_s, aQ_s, mL_0, mL_1, mL_2, mL_3, mL_4, nth_0, nth_s, rf_s, rf_n, fit_i, fit_r, fit_a, fit_b, fit_b0, fit_b1, Option.toList_some, Option.toList_none, List.cons_append, List.nil_append, List.set_cons_zero, List.set_cons_succ, List.length_cons, List.length_nil, Nat.reduceAdd, Nat.reduceEqDiff, Nat.reduceLT, reduceIte, false_implies, true_implies, not_false_eq_true, not_true_eq_false, true_and, and_true, Nat.zero_add, lv_args, nI_1]
    exact ih ts2 tn2 (okT_row hok2)
end
