/-! ===== grid ===== -/
def grS (σ : SG) (w hh : Nat) : SG := su (su (su σ 1 (ng σ) (nI w)) 2 (ng σ) (nI hh)) 5 0 (nI (ng σ + 1))
theorem gr_row {σ : SG} {w hh : Nat} {f : Nat} (h : f ≠ 1 ∧ f ≠ 2 ∧ f ≠ 5) : grS σ w hh f = σ f := by unfold grS; rw [su_ne h.2.2, su_ne h.2.1, su_ne h.1]
theorem gr_nt {σ : SG} {w hh : Nat} {f : Nat} (h : f ≠ 1 ∧ f ≠ 2 ∧ f ≠ 5) : nt (grS σ w hh) f = nt σ f := by funext k; show (grS σ w hh f k).toNatClampNeg = _; rw [gr_row h]; rfl
theorem gr_ng {σ : SG} {w hh : Nat} (h8 : ng σ < 8) : ng (grS σ w hh) = ng σ + 1 := by
  unfold grS
  show nt _ 5 0 = _
  rw [nt_at]
  exact nI_clamp (by omega)
theorem gr_nv {σ : SG} {w hh : Nat} : nv (grS σ w hh) = nv σ := by unfold nv; rw [gr_nt (by omega)]
theorem gr_nl {σ : SG} {w hh g : Nat} : nl (grS σ w hh) g = nl σ g := by unfold nl; rw [gr_nt (by omega)]
theorem gr_1 {σ : SG} {w hh : Nat} (hw : w ≤ 48) : nt (grS σ w hh) 1 (ng σ) = w := by unfold grS; rw [nt_ne (by omega), nt_ne (by omega), nt_at]; exact nI_clamp (by omega)
theorem gr_2 {σ : SG} {w hh : Nat} (hw : hh ≤ 48) : nt (grS σ w hh) 2 (ng σ) = hh := by unfold grS; rw [nt_ne (by omega), nt_at]; exact nI_clamp (by omega)
theorem gr_AG {σ : SG} {w hh : Nat} (h8 : ng σ < 8) : AG σ (grS σ w hh) := by
  refine ⟨⟨by rw [gr_ng h8]; omega, by rw [gr_nv]; exact Nat.le_refl _⟩, fun g hg => ?_, fun n hn f h1 h2 => by rw [gr_row (by omega)]⟩
  unfold grS
  have : g ≠ ng σ := by omega
  simp [su, this]
theorem gr_GI {σ : SG} {w hh : Nat} (I : GI σ) (h8 : ng σ < 8) (h1 : 1 ≤ w) (h2 : w ≤ 48) (h3 : 1 ≤ hh) (h4 : hh ≤ 40) : GI (grS σ w hh) := by
  have G : AG σ (grS σ w hh) := gr_AG h8
  refine ⟨⟨by rw [gr_ng h8]; omega, ?_⟩, ⟨by rw [gr_nv]; exact I.2.1.1, by rw [gr_nv, gr_row (by omega)]; exact I.2.1.2⟩, fun g hg => ?_, fun n hn => ?_⟩
  · rw [gr_ng h8]
    unfold grS
    rw [su_row]
    simp [upd]
  · rw [gr_ng h8] at hg
    by_cases e : g = ng σ
    · subst e
      unfold GIg
      rw [gr_1 h2, gr_2 (by omega)]
      refine ⟨?_, ?_, h1, h2, h3, h4⟩
      · unfold grS
        rw [su_ne (by omega), su_ne (by omega), su_row]
        simp [upd]
      · unfold grS
        rw [su_ne (by omega), su_row]
        simp [upd]
    · exact G.q_GIg I (by omega)
  · rw [gr_nv] at hn
    exact G.q_GIv I hn (by rw [gr_row (by omega)]; exact (I.2.2.2 n hn).2.2.2.2.2.2)
theorem z8 {σ : SG} (b : BI σ) {g : Nat} (hg : ng σ ≤ g) : nl σ g = 0 := by
  unfold nl nt
  rw [b.2.2.1 g hg]
  rfl
theorem gr_BI {σ : SG} {w hh : Nat} (b : BI σ) (h8 : ng σ < 8) : BI (grS σ w hh) := by
  have G : AG σ (grS σ w hh) := gr_AG h8
  have zl := z8 b (g := ng σ) (Nat.le_refl _)
  have zr := b.2.2.1 (ng σ) (Nat.le_refl _)
  obtain ⟨b1, b2, b3, b4, b5, b6⟩ := b
  refine ⟨fun f hf k => by rw [gr_row (by omega)]; exact b1 f hf k, fun g hg => ?_, fun g hg => ?_, fun p hp hs => ?_, fun p hp hs => ?_, fun g q k hg hq hk hs => ?_⟩
  · rw [gr_ng h8] at hg
    rw [gr_nl, gr_row (by omega)]
    by_cases e : g = ng σ
    · rw [e, zl, zr]; exact ⟨rfl, by omega⟩
    · exact b2 g (by omega)
  · rw [gr_ng h8] at hg
    rw [gr_row (by omega)]
    exact b3 g (by omega)
  · rw [gr_row (by omega)]
    refine b4 p hp ?_
    unfold shM at hs ⊢
    rw [gr_row (by omega)] at hs
    exact hs
  · rw [gr_ng h8] at hs
    rw [gr_row (by omega)]
    by_cases e : ng σ ≤ p / 1920
    · exact b5 p hp (Or.inl e)
    · rw [G.nt1 (by omega), G.nt2 (by omega)] at hs
      exact b5 p hp (by omega)
  · rw [gr_ng h8] at hg
    rw [gr_nl] at hq
    rw [gr_row (by omega)]
    have e : g ≠ ng σ := fun z => by rw [z, zl] at hq; omega
    rw [G.nt1 (by omega), G.nt2 (by omega)] at hs
    exact b6 g q k (by omega) hq hk hs
section
variable {l : Launch} {D : va_G} {Y : Nat → ClassId} {b0 : Nat} {h : AH} {MM : Nat → Prop} {σ : SG} {R : LF} {tt : TT} {A : AF} {T : TF}
theorem k_grid_x (H : HR Y MM σ R tt A T h) {x y : Int32} (hx : ¬ (okN 1 48 x ∧ okN 1 40 y)) : Ct l D Y b0 mX5_grid 10 12 4000 [.ref (A 0 0 0), .int x, .int y] h noQ (tX xIAE h) := by
  refine Ct_of "GridStore" false rfl (by decide +kernel) (fun z => by cases z) (Nat.le_of_ble_eq_true rfl) ?_
  intro p e s mI args below meth c Z C hno hZ
  have thr : ∀ ls9, V p l e s mI args below meth c D b0 10 12 4000 Z 0 0 22 (ls9) ([]) (h) := by
    intro ls9
    exact V_throw C hZ hno t_X5_39 d_X5_grid_22 d_X5_grid_25 d_X5_grid_26 d_X5_grid_29 (Nat.le_of_ble_eq_true rfl) ⟨(Nat.le_of_ble_eq_true rfl), (Nat.le_of_ble_eq_true rfl)⟩ (Nat.le_of_ble_eq_true rfl) ⟨rfl, rfl⟩
  refine V_run C b_X5_grid_0 ?_
  simp only [k_X5_grid_0, r_nil, r_iconst, r_bipush, r_sipush, r_ldc, r_lconst0, r_lconst1, r_ldc2, r_null, r_iload_n, r_iload, r_lload_n, r_lload, r_aload_n, r_aload, r_istore_n, r_istore, r_lstore_n, r_lstore, r_astore_nR, r_astoreR, r_astore_nN, r_astoreN, r_iinc, r_iadd, r_isub, r_imul, r_iand, r_idiv, r_irem, r_ineg, r_ladd, r_lsub, r_lmul, r_lxor, r_ldiv, r_lcmp, r_i2l, r_l2i, r_dup, r_pop, r_dup2, r_ifeq, r_ifne, r_iflt, r_ifge, r_ifgt, r_ifle, r_icmpeq, r_icmpne, r_icmplt, r_icmpge, r_icmpgt, r_icmple, r_acmpne, r_ifnullN, r_ifnullR, r_ifnonnullN, r_ifnonnullR, r_goto, r_getf, r_putf, r_alen, r_iald, r_bald, r_lald, r_aald, r_iast, r_bast, r_last, r_aast, gl_c, s1_d, s2_d, ins_n, ins_c, rm1_n, rm1_c, rm2_n, rm2_c, cat_i, cat_l, cat_r, cat_n, oI_t, oJ_t, oA_t, oA_u, oV_t, mO_s, aI_s, aJ_s, aQ_s, mL_0, mL_1, mL_2, mL_3, mL_4, nth_0, nth_s, rf_s, rf_n, fit_i, fit_r, fit_a, fit_b, fit_b0, fit_b1, Option.toList_some, Option.toList_none, List.cons_append, List.nil_append, List.set_cons_zero, List.set_cons_succ, List.length_cons, List.length_nil, Nat.reduceAdd, Nat.reduceEqDiff, Nat.reduceLT, reduceIte, false_implies, true_implies, not_false_eq_true, not_true_eq_false, true_and, and_true, Nat.zero_add, lv_args, nI_1, Bool.false_eq_true, eq_self]
  refine ⟨fun _ => thr _, fun c1 => ⟨fun _ => thr _, fun c2 => ⟨fun _ => thr _, fun c3 => ⟨fun c4 => ?_, fun _ => thr _⟩⟩⟩⟩
  exfalso
  apply hx
  have t1 : (48 : Int32).toInt = 48 := rfl
  have t2 : (40 : Int32).toInt = 40 := rfl
  simp only [Int32.lt_iff_toInt_lt, Int32.le_iff_toInt_le, i1, t1, t2] at c1 c2 c3 c4
  exact ⟨⟨x.toInt.toNat, toI x _ (by omega) (by omega), by omega, by omega⟩, ⟨y.toInt.toNat, toI y _ (by omega) (by omega), by omega, by omega⟩⟩
theorem k_grid_f (H : HR Y MM σ R tt A T h) {w hh : Nat} (h1 : 1 ≤ w) (h2 : w ≤ 48) (h3 : 1 ≤ hh) (h4 : hh ≤ 40) (h8 : ng σ = 8) : Ct l D Y b0 mX5_grid 10 12 4000 [.ref (A 0 0 0), .int (nI w), .int (nI hh)] h noQ (tX xUOE h) := by
  refine Ct_of "GridStore" false rfl (by decide +kernel) (fun z => by cases z) (Nat.le_of_ble_eq_true rfl) ?_
  intro p e s mI args below meth c Z C hno hZ
  refine V_run C b_X5_grid_0 ?_
  simp only [k_X5_grid_0, n1, n48, n40, (c_nlt w 1), (c_nlt 48 w), (c_nlt hh 1), (c_le hh 40), r_nil, r_iconst, r_bipush, r_sipush, r_ldc, r_lconst0, r_lconst1, r_ldc2, r_null, r_iload_n, r_iload, r_lload_n, r_lload, r_aload_n, r_aload, r_istore_n, r_istore, r_lstore_n, r_lstore, r_astore_nR, r_astoreR, r_astore_nN, r_astoreN, r_iinc, r_iadd, r_isub, r_imul, r_iand, r_idiv, r_irem, r_ineg, r_ladd, r_lsub, r_lmul, r_lxor, r_ldiv, r_lcmp, r_i2l, r_l2i, r_dup, r_pop, r_dup2, r_ifeq, r_ifne, r_iflt, r_ifge, r_ifgt, r_ifle, r_icmpeq, r_icmpne, r_icmplt, r_icmpge, r_icmpgt, r_icmple, r_acmpne, r_ifnullN, r_ifnullR, r_ifnonnullN, r_ifnonnullR, r_goto, r_getf, r_putf, r_alen, r_iald, r_bald, r_lald, r_aald, r_iast, r_bast, r_last, r_aast, gl_c, s1_d, s2_d, ins_n, ins_c, rm1_n, rm1_c, rm2_n, rm2_c, cat_i, cat_l, cat_r, cat_n, oI_t, oJ_t, oA_t, oA_u, oV_t, mO_s, aI_s, aJ_s, aQ_s, mL_0, mL_1, mL_2, mL_3, mL_4, nth_0, nth_s, rf_s, rf_n, fit_i, fit_r, fit_a, fit_b, fit_b0, fit_b1, Option.toList_some, Option.toList_none, List.cons_append, List.nil_append, List.set_cons_zero, List.set_cons_succ, List.length_cons, List.length_nil, Nat.reduceAdd, Nat.reduceEqDiff, Nat.reduceLT, reduceIte, false_implies, true_implies, not_false_eq_true, not_true_eq_false, true_and, and_true, Nat.zero_add, lv_args, nI_1, Bool.false_eq_true, eq_self]
  refine V_run C b_X5_grid_30 ?_
  simp only [k_X5_grid_30, H.c0, H.c6, h8, (c_ge0 8), (c_nlt 8 8), r_nil, r_iconst, r_bipush, r_sipush, r_ldc, r_lconst0, r_lconst1, r_ldc2, r_null, r_iload_n, r_iload, r_lload_n, r_lload, r_aload_n, r_aload, r_istore_n, r_istore, r_lstore_n, r_lstore, r_astore_nR, r_astoreR, r_astore_nN, r_astoreN, r_iinc, r_iadd, r_isub, r_imul, r_iand, r_idiv, r_irem, r_ineg, r_ladd, r_lsub, r_lmul, r_lxor, r_ldiv, r_lcmp, r_i2l, r_l2i, r_dup, r_pop, r_dup2, r_ifeq, r_ifne, r_iflt, r_ifge, r_ifgt, r_ifle, r_icmpeq, r_icmpne, r_icmplt, r_icmpge, r_icmpgt, r_icmple, r_acmpne, r_ifnullN, r_ifnullR, r_ifnonnullN, r_ifnonnullR, r_goto, r_getf, r_putf, r_alen, r_iald, r_bald, r_lald, r_aald, r_iast, r_bast, r_last, r_aast, gl_c, s1_d, s2_d, ins_n, ins_c, rm1_n, rm1_c, rm2_n, rm2_c, cat_i, cat_l, cat_r, cat_n, oI_t, oJ_t, oA_t, oA_u, oV_t, mO_s, aI_s, aJ_s, aQ_s, mL_0, mL_1, mL_2, mL_3, mL_4, nth_0, nth_s, rf_s, rf_n, fit_i, fit_r, fit_a, fit_b, fit_b0, fit_b1, Option.toList_some, Option.toList_none, List.cons_append, List.nil_append, List.set_cons_zero, List.set_cons_succ, List.length_cons, List.length_nil, Nat.reduceAdd, Nat.reduceEqDiff, Nat.reduceLT, reduceIte, false_implies, true_implies, not_false_eq_true, not_true_eq_false, true_and, and_true, Nat.zero_add, lv_args, nI_1, Bool.false_eq_true, eq_self]
  exact V_throw C hZ hno t_X5_42 d_X5_grid_48 d_X5_grid_51 d_X5_grid_52 d_X5_grid_55 (Nat.le_of_ble_eq_true rfl) ⟨(Nat.le_of_ble_eq_true rfl), (Nat.le_of_ble_eq_true rfl)⟩ (Nat.le_of_ble_eq_true rfl) ⟨rfl, rfl⟩
theorem k_grid (H : HR Y MM σ R tt A T h) (I : GI σ) (S : CS σ R) (b : BI σ) (HM : ∀ a, MM a → ¬ h a = none) {w hh : Nat} (h1 : 1 ≤ w) (h2 : w ≤ 48) (h3 : 1 ≤ hh) (h4 : hh ≤ 40) (h8 : ng σ < 8) : Ct l D Y b0 mX5_grid 10 12 4000 [.ref (A 0 0 0), .int (nI w), .int (nI hh)] h (sq Y MM (A 0 0 0) (grS σ w hh) h (.int (nI (ng σ)))) noX := by
  refine Ct_of "GridStore" false rfl (by decide +kernel) (fun z => by cases z) (Nat.le_of_ble_eq_true rfl) ?_
  intro p e s mI args below meth c Z C hno hZ
  have hwh : w * hh ≤ 48 * 40 := Nat.mul_le_mul h2 h4
  have zl := z8 b (g := ng σ) (Nat.le_refl _)
  have G : AG σ (grS σ w hh) := gr_AG h8
  refine V_run C b_X5_grid_0 ?_
  simp only [k_X5_grid_0, n1, n48, n40, (c_nlt w 1), (c_nlt 48 w), (c_nlt hh 1), (c_le hh 40), r_nil, r_iconst, r_bipush, r_sipush, r_ldc, r_lconst0, r_lconst1, r_ldc2, r_null, r_iload_n, r_iload, r_lload_n, r_lload, r_aload_n, r_aload, r_istore_n, r_istore, r_lstore_n, r_lstore, r_astore_nR, r_astoreR, r_astore_nN, r_astoreN, r_iinc, r_iadd, r_isub, r_imul, r_iand, r_idiv, r_irem, r_ineg, r_ladd, r_lsub, r_lmul, r_lxor, r_ldiv, r_lcmp, r_i2l, r_l2i, r_dup, r_pop, r_dup2, r_ifeq, r_ifne, r_iflt, r_ifge, r_ifgt, r_ifle, r_icmpeq, r_icmpne, r_icmplt, r_icmpge, r_icmpgt, r_icmple, r_acmpne, r_ifnullN, r_ifnullR, r_ifnonnullN, r_ifnonnullR, r_goto, r_getf, r_putf, r_alen, r_iald, r_bald, r_lald, r_aald, r_iast, r_bast, r_last, r_aast, gl_c, s1_d, s2_d, ins_n, ins_c, rm1_n, rm1_c, rm2_n, rm2_c, cat_i, cat_l, cat_r, cat_n, oI_t, oJ_t, oA_t, oA_u, oV_t, mO_s, aI_s, aJ_s, aQ_s, mL_0, mL_1, mL_2, mL_3, mL_4, nth_0, nth_s, rf_s, rf_n, fit_i, fit_r, fit_a, fit_b, fit_b0, fit_b1, Option.toList_some, Option.toList_none, List.cons_append, List.nil_append, List.set_cons_zero, List.set_cons_succ, List.length_cons, List.length_nil, Nat.reduceAdd, Nat.reduceEqDiff, Nat.reduceLT, reduceIte, false_implies, true_implies, not_false_eq_true, not_true_eq_false, true_and, and_true, Nat.zero_add, lv_args, nI_1, Bool.false_eq_true, eq_self]
  refine V_run C b_X5_grid_30 ?_
  simp only [k_X5_grid_30, H.c0, H.c6, (c_ge0 (ng σ)), (c_lt (ng σ) 8), r_nil, r_iconst, r_bipush, r_sipush, r_ldc, r_lconst0, r_lconst1, r_ldc2, r_null, r_iload_n, r_iload, r_lload_n, r_lload, r_aload_n, r_aload, r_istore_n, r_istore, r_lstore_n, r_lstore, r_astore_nR, r_astoreR, r_astore_nN, r_astoreN, r_iinc, r_iadd, r_isub, r_imul, r_iand, r_idiv, r_irem, r_ineg, r_ladd, r_lsub, r_lmul, r_lxor, r_ldiv, r_lcmp, r_i2l, r_l2i, r_dup, r_pop, r_dup2, r_ifeq, r_ifne, r_iflt, r_ifge, r_ifgt, r_ifle, r_icmpeq, r_icmpne, r_icmplt, r_icmpge, r_icmpgt, r_icmple, r_acmpne, r_ifnullN, r_ifnullR, r_ifnonnullN, r_ifnonnullR, r_goto, r_getf, r_putf, r_alen, r_iald, r_bald, r_lald, r_aald, r_iast, r_bast, r_last, r_aast, gl_c, s1_d, s2_d, ins_n, ins_c, rm1_n, rm1_c, rm2_n, rm2_c, cat_i, cat_l, cat_r, cat_n, oI_t, oJ_t, oA_t, oA_u, oV_t, mO_s, aI_s, aJ_s, aQ_s, mL_0, mL_1, mL_2, mL_3, mL_4, nth_0, nth_s, rf_s, rf_n, fit_i, fit_r, fit_a, fit_b, fit_b0, fit_b1, Option.toList_some, Option.toList_none, List.cons_append, List.nil_append, List.set_cons_zero, List.set_cons_succ, List.length_cons, List.length_nil, Nat.reduceAdd, Nat.reduceEqDiff, Nat.reduceLT, reduceIte, false_implies, true_implies, not_false_eq_true, not_true_eq_false, true_and, and_true, Nat.zero_add, lv_args, nI_1, Bool.false_eq_true, eq_self]
  refine V_run C b_X5_grid_56 ?_
  simp only [k_X5_grid_56, H.c0, r_nil, r_iconst, r_bipush, r_sipush, r_ldc, r_lconst0, r_lconst1, r_ldc2, r_null, r_iload_n, r_iload, r_lload_n, r_lload, r_aload_n, r_aload, r_istore_n, r_istore, r_lstore_n, r_lstore, r_astore_nR, r_astoreR, r_astore_nN, r_astoreN, r_iinc, r_iadd, r_isub, r_imul, r_iand, r_idiv, r_irem, r_ineg, r_ladd, r_lsub, r_lmul, r_lxor, r_ldiv, r_lcmp, r_i2l, r_l2i, r_dup, r_pop, r_dup2, r_ifeq, r_ifne, r_iflt, r_ifge, r_ifgt, r_ifle, r_icmpeq, r_icmpne, r_icmplt, r_icmpge, r_icmpgt, r_icmple, r_acmpne, r_ifnullN, r_ifnullR, r_ifnonnullN, r_ifnonnullR, r_goto, r_getf, r_putf, r_alen, r_iald, r_bald, r_lald, r_aald, r_iast, r_bast, r_last, r_aast, gl_c, s1_d, s2_d, ins_n, ins_c, rm1_n, rm1_c, rm2_n, rm2_c, cat_i, cat_l, cat_r, cat_n, oI_t, oJ_t, oA_t, oA_u, oV_t, mO_s, aI_s, aJ_s, aQ_s, mL_0, mL_1, mL_2, mL_3, mL_4, nth_0, nth_s, rf_s, rf_n, fit_i, fit_r, fit_a, fit_b, fit_b0, fit_b1, Option.toList_some, Option.toList_none, List.cons_append, List.nil_append, List.set_cons_zero, List.set_cons_succ, List.length_cons, List.length_nil, Nat.reduceAdd, Nat.reduceEqDiff, Nat.reduceLT, reduceIte, false_implies, true_implies, not_false_eq_true, not_true_eq_false, true_and, and_true, Nat.zero_add, lv_args, nI_1, Bool.false_eq_true, eq_self]
  refine V_new C 4 [.null, .int 0, .int 0, .int 0, .int 0, .int 0, .int 0, .int 0, .int 0, .int 0] n_X5_23 d_X5_grid_61 ⟨(Nat.le_of_ble_eq_true rfl), (Nat.le_of_ble_eq_true rfl)⟩ (fun q0 hq0 => ?_)
  have f0 : ∀ k i j, lv σ k i j → A k i j ≠ q0 := fun k i j hl => ne_of_none (H k i j hl).1 hq0
  refine V_run C b_X5_grid_64 ?_
  simp only [k_X5_grid_64, r_nil, r_iconst, r_bipush, r_sipush, r_ldc, r_lconst0, r_lconst1, r_ldc2, r_null, r_iload_n, r_iload, r_lload_n, r_lload, r_aload_n, r_aload, r_istore_n, r_istore, r_lstore_n, r_lstore, r_astore_nR, r_astoreR, r_astore_nN, r_astoreN, r_iinc, r_iadd, r_isub, r_imul, r_iand, r_idiv, r_irem, r_ineg, r_ladd, r_lsub, r_lmul, r_lxor, r_ldiv, r_lcmp, r_i2l, r_l2i, r_dup, r_pop, r_dup2, r_ifeq, r_ifne, r_iflt, r_ifge, r_ifgt, r_ifle, r_icmpeq, r_icmpne, r_icmplt, r_icmpge, r_icmpgt, r_icmple, r_acmpne, r_ifnullN, r_ifnullR, r_ifnonnullN, r_ifnonnullR, r_goto, r_getf, r_putf, r_alen, r_iald, r_bald, r_lald, r_aald, r_iast, r_bast, r_last, r_aast, gl_c, s1_d, s2_d, ins_n, ins_c, rm1_n, rm1_c, rm2_n, rm2_c, cat_i, cat_l, cat_r, cat_n, oI_t, oJ_t, oA_t, oA_u, oV_t, mO_s, aI_s, aJ_s, aQ_s, mL_0, mL_1, mL_2, mL_3, mL_4, nth_0, nth_s, rf_s, rf_n, fit_i, fit_r, fit_a, fit_b, fit_b0, fit_b1, Option.toList_some, Option.toList_none, List.cons_append, List.nil_append, List.set_cons_zero, List.set_cons_succ, List.length_cons, List.length_nil, Nat.reduceAdd, Nat.reduceEqDiff, Nat.reduceLT, reduceIte, false_implies, true_implies, not_false_eq_true, not_true_eq_false, true_and, and_true, Nat.zero_add, lv_args, nI_1, Bool.false_eq_true, eq_self]
  refine V_new C 1 [.int 0, .int 0, .null, .null, .null, .int 0] n_X5_45 d_X5_grid_65 ⟨(Nat.le_of_ble_eq_true rfl), (Nat.le_of_ble_eq_true rfl)⟩ (fun qg hqg => ?_)
  have n0g : q0 ≠ qg := fun z => by rw [← z, up_same] at hqg; cases hqg
  rw [up_ne (Ne.symm n0g)] at hqg
  have fg : ∀ k i j, lv σ k i j → A k i j ≠ qg := fun k i j hl => ne_of_none (H k i j hl).1 hqg
  refine V_run C b_X5_grid_68 ?_
  simp only [k_X5_grid_68, (up_ne (fg 0 0 0 (lv_0 (by omega)))), (up_ne (f0 0 0 0 (lv_0 (by omega)))), H.c0, r_nil, r_iconst, r_bipush, r_sipush, r_ldc, r_lconst0, r_lconst1, r_ldc2, r_null, r_iload_n, r_iload, r_lload_n, r_lload, r_aload_n, r_aload, r_istore_n, r_istore, r_lstore_n, r_lstore, r_astore_nR, r_astoreR, r_astore_nN, r_astoreN, r_iinc, r_iadd, r_isub, r_imul, r_iand, r_idiv, r_irem, r_ineg, r_ladd, r_lsub, r_lmul, r_lxor, r_ldiv, r_lcmp, r_i2l, r_l2i, r_dup, r_pop, r_dup2, r_ifeq, r_ifne, r_iflt, r_ifge, r_ifgt, r_ifle, r_icmpeq, r_icmpne, r_icmplt, r_icmpge, r_icmpgt, r_icmple, r_acmpne, r_ifnullN, r_ifnullR, r_ifnonnullN, r_ifnonnullR, r_goto, r_getf, r_putf, r_alen, r_iald, r_bald, r_lald, r_aald, r_iast, r_bast, r_last, r_aast, gl_c, s1_d, s2_d, ins_n, ins_c, rm1_n, rm1_c, rm2_n, rm2_c, cat_i, cat_l, cat_r, cat_n, oI_t, oJ_t, oA_t, oA_u, oV_t, mO_s, aI_s, aJ_s, aQ_s, mL_0, mL_1, mL_2, mL_3, mL_4, nth_0, nth_s, rf_s, rf_n, fit_i, fit_r, fit_a, fit_b, fit_b0, fit_b1, Option.toList_some, Option.toList_none, List.cons_append, List.nil_append, List.set_cons_zero, List.set_cons_succ, List.length_cons, List.length_nil, Nat.reduceAdd, Nat.reduceEqDiff, Nat.reduceLT, reduceIte, false_implies, true_implies, not_false_eq_true, not_true_eq_false, true_and, and_true, Nat.zero_add, lv_args, nI_1, Bool.false_eq_true, eq_self]
  refine V_callI C c_X5_47 d_X5_grid_75 (s_Grid_init (w := w) (hh := hh) (hs := A 1 0 0) h2 (by omega) up_same) rfl rfl (Nat.le_of_ble_eq_true rfl) ⟨(Nat.le_of_ble_eq_true rfl), by first | omega | (simp only [List.length_cons, List.length_nil]; omega)⟩ (Nat.le_of_ble_eq_true rfl) (fun _ _ z => z.elim) ?_
  rintro _ _ ⟨rfl, q1, q2, q3, ⟨hq1, hq2, hq3⟩, ⟨m12, m13, m23⟩, rfl⟩
  have ng1 : q1 ≠ qg := fun z => by rw [z, up_same] at hq1; cases hq1
  have ng2 : q2 ≠ qg := fun z => by rw [z, up_same] at hq2; cases hq2
  have ng3 : q3 ≠ qg := fun z => by rw [z, up_same] at hq3; cases hq3
  rw [up_ne ng1] at hq1
  rw [up_ne ng2] at hq2
  rw [up_ne ng3] at hq3
  have n01 : q1 ≠ q0 := fun z => by rw [z, up_same] at hq1; cases hq1
  have n02 : q2 ≠ q0 := fun z => by rw [z, up_same] at hq2; cases hq2
  have n03 : q3 ≠ q0 := fun z => by rw [z, up_same] at hq3; cases hq3
  rw [up_ne n01] at hq1
  rw [up_ne n02] at hq2
  rw [up_ne n03] at hq3
  have f1 : ∀ k i j, lv σ k i j → A k i j ≠ q1 := fun k i j hl => ne_of_none (H k i j hl).1 hq1
  have f2 : ∀ k i j, lv σ k i j → A k i j ≠ q2 := fun k i j hl => ne_of_none (H k i j hl).1 hq2
  have f3 : ∀ k i j, lv σ k i j → A k i j ≠ q3 := fun k i j hl => ne_of_none (H k i j hl).1 hq3
  have L0 : lv σ 0 0 0 := lv_0 (by omega)
  have L6 : lv σ 6 0 0 := lv_0 (by omega)
  have a06 : A 0 0 0 ≠ A 6 0 0 := fun z => by
    have e1 := (H 0 0 0 L0).2.1
    rw [z, (H 6 0 0 L6).2.1] at e1
    cases e1
  refine V_callI C c_X5_50 d_X5_grid_78 (s_Win_init (a := q0) (g := qg) (gv := .null) (i1 := 0) (i2 := 0) (i3 := 0) (i4 := 0) (i5 := 0) (i6 := 0) (i7 := 0) (i8 := 0) (i9 := 0) ?_ up_same) rfl rfl (Nat.le_of_ble_eq_true rfl) ⟨(Nat.le_of_ble_eq_true rfl), by first | omega | (simp only [List.length_cons, List.length_nil]; omega)⟩ (Nat.le_of_ble_eq_true rfl) (fun _ _ z => z.elim) ?_
  · rw [up_ne n0g, up_ne (Ne.symm n02), up_ne (Ne.symm n03), up_ne (Ne.symm n01), up_ne n0g, up_same]
  rintro _ _ ⟨rfl, rfl⟩
  have X6 : ∀ e9, up (up (up (up (up (up (up h q0 e9) qg (.inr (1, [.int 0, .int 0, .null, .null, .null, .int 0]))) q1 (.inl (Y 3, azQ 20))) q3 (eJ Y (w * hh) (fillTo (fun _ => 0) HOLE (w * hh)))) q2 (eCells (nI w) (nI hh) q3)) qg (eGrid (nI w) (nI hh) (A 1 0 0) q2 q1 0)) q0 (eWin qg (nI w) (nI hh) 0 0 1 0 0 1 0) (A 6 0 0) = some (eQ4 Y 8 (fun g => if g < ng σ then some (A 8 g 0) else none)) := by
    intro e9
    rw [up_ne (f0 _ _ _ L6), up_ne (fg _ _ _ L6), up_ne (f2 _ _ _ L6), up_ne (f3 _ _ _ L6), up_ne (f1 _ _ _ L6), up_ne (fg _ _ _ L6), up_ne (f0 _ _ _ L6)]
    exact H.c6
  have X0 : ∀ e9, up (up (up (up (up (up (up h q0 e9) qg (.inr (1, [.int 0, .int 0, .null, .null, .null, .int 0]))) q1 (.inl (Y 3, azQ 20))) q3 (eJ Y (w * hh) (fillTo (fun _ => 0) HOLE (w * hh)))) q2 (eCells (nI w) (nI hh) q3)) qg (eGrid (nI w) (nI hh) (A 1 0 0) q2 q1 0)) q0 (eWin qg (nI w) (nI hh) 0 0 1 0 0 1 0) (A 0 0 0) = some (.inr (5, [.ref (A 1 0 0), .ref (A 3 0 0), .ref (A 6 0 0), .ref (A 7 0 0), .int (nI (ng σ)), .int (nI (nv σ))])) := by
    intro e9
    rw [up_ne (f0 _ _ _ L0), up_ne (fg _ _ _ L0), up_ne (f2 _ _ _ L0), up_ne (f3 _ _ _ L0), up_ne (f1 _ _ _ L0), up_ne (fg _ _ _ L0), up_ne (f0 _ _ _ L0)]
    exact H.c0
  refine V_run C b_X5_grid_81 ?_
  simp only [k_X5_grid_81, X6, X0, up_same, (up_ne a06), (c_in (ng σ) 8), (c_cl (ng σ)), r_nil, r_iconst, r_bipush, r_sipush, r_ldc, r_lconst0, r_lconst1, r_ldc2, r_null, r_iload_n, r_iload, r_lload_n, r_lload, r_aload_n, r_aload, r_istore_n, r_istore, r_lstore_n, r_lstore, r_astore_nR, r_astoreR, r_astore_nN, r_astoreN, r_iinc, r_iadd, r_isub, r_imul, r_iand, r_idiv, r_irem, r_ineg, r_ladd, r_lsub, r_lmul, r_lxor, r_ldiv, r_lcmp, r_i2l, r_l2i, r_dup, r_pop, r_dup2, r_ifeq, r_ifne, r_iflt, r_ifge, r_ifgt, r_ifle, r_icmpeq, r_icmpne, r_icmplt, r_icmpge, r_icmpgt, r_icmple, r_acmpne, r_ifnullN, r_ifnullR, r_ifnonnullN, r_ifnonnullR, r_goto, r_getf, r_putf, r_alen, r_iald, r_bald, r_lald, r_aald, r_iast, r_bast, r_last, r_aast, gl_c, s1_d, s2_d, ins_n, ins_c, rm1_n, rm1_c, rm2_n, rm2_c, cat_i, cat_l, cat_r, cat_n, oI_t, oJ_t, oA_t, oA_u, oV_t, mO_s, aI_s, aJ_s, aQ_s, mL_0, mL_1, mL_2, mL_3, mL_4, nth_0, nth_s, rf_s, rf_n, fit_i, fit_r, fit_a, fit_b, fit_b0, fit_b1, Option.toList_some, Option.toList_none, List.cons_append, List.nil_append, List.set_cons_zero, List.set_cons_succ, List.length_cons, List.length_nil, Nat.reduceAdd, Nat.reduceEqDiff, Nat.reduceLT, reduceIte, false_implies, true_implies, not_false_eq_true, not_true_eq_false, true_and, and_true, Nat.zero_add, lv_args, nI_1, Bool.false_eq_true, eq_self]
  refine V_iret C hZ rfl d_X5_grid_93 ⟨rfl, upR R (ng σ) 0 (fillTo (fun _ => 0) HOLE (w * hh)), tt, (fun k i j => if i = ng σ ∧ j = 0 ∧ 8 ≤ k ∧ k ≤ 12 then (if k = 8 then q0 else if k = 9 then qg else if k = 10 then q2 else if k = 11 then q3 else q1) else A k i j), (fun a => if a = q0 then (8, ng σ, 0) else if a = qg then (9, ng σ, 0) else if a = q2 then (10, ng σ, 0) else if a = q3 then (11, ng σ, 0) else if a = q1 then (12, ng σ, 0) else T a), ⟨?_, ?_, ?_⟩, ?_⟩ ⟨(Nat.le_of_ble_eq_true rfl), by first | omega | (simp only [List.length_cons, List.length_nil]; omega)⟩
  · refine HR.grow H (fun k i j hl' hl => ?_) (fun k i j hl' hl => ?_)
    · have hA : ∀ k i j, lv σ k i j → (if i = ng σ ∧ j = 0 ∧ 8 ≤ k ∧ k ≤ 12 then (if k = 8 then q0 else if k = 9 then qg else if k = 10 then q2 else if k = 11 then q3 else q1) else A k i j) = A k i j := fun k i j hl => if_neg (fun z => by have := lvg hl (by omega) (by omega); omega)
      obtain ⟨e1, e2, e3⟩ := H k i j hl
      refine ⟨hA k i j hl, ?_, ?_⟩
      · try dsimp only
        rw [if_neg (f0 k i j hl), if_neg (fg k i j hl), if_neg (f2 k i j hl), if_neg (f3 k i j hl), if_neg (f1 k i j hl)]
        exact e2
      · by_cases k0 : k = 0
        · subst k0
          obtain ⟨rfl, rfl⟩ : i = 0 ∧ j = 0 := by rcases hl with q | q | q | q <;> omega
          rw [up_same]
          simp only [kx, reduceIte, Nat.reduceEqDiff, Nat.reduceLeDiff, false_and, and_false, List.set_cons_zero, List.set_cons_succ, gr_ng h8, gr_nv, nI_add]
        · have n0 : A k i j ≠ A 0 0 0 := fun z => by
            rw [z, (H 0 0 0 L0).2.1] at e2
            cases e2
            exact k0 rfl
          rw [up_ne n0]
          by_cases k6 : k = 6
          · subst k6
            obtain ⟨rfl, rfl⟩ : i = 0 ∧ j = 0 := by rcases hl with q | q | q | q <;> omega
            rw [up_same]
            simp only [kx, reduceIte, Nat.reduceEqDiff]
            have : va_up (fun g => if g < ng σ then some (A 8 g 0) else none) (ng σ) (some q0) = fun g => if g < ng (grS σ w hh) then some (if g = ng σ ∧ True ∧ 8 ≤ 8 ∧ 8 ≤ 12 then q0 else A 8 g 0) else none := by
              funext g
              rw [gr_ng h8]
              unfold va_up
              by_cases q : g = ng σ
              · rw [if_pos q, if_pos (by omega), if_pos ⟨q, trivial, by omega, by omega⟩]
              · rw [if_neg q]
                show (if g < ng σ then some (A 8 g 0) else none) = _
                by_cases q2 : g < ng σ
                · rw [if_pos q2, if_pos (by omega), if_neg (fun z => q z.1)]
                · rw [if_neg q2, if_neg (by omega)]
            rw [this]
          · have n6 : A k i j ≠ A 6 0 0 := fun z => by
              rw [z, (H 6 0 0 L6).2.1] at e2
              cases e2
              exact k6 rfl
            rw [up_ne n6, up_ne (f0 k i j hl), up_ne (fg k i j hl), up_ne (f2 k i j hl), up_ne (f3 k i j hl), up_ne (f1 k i j hl), up_ne (fg k i j hl), up_ne (f0 k i j hl), e1]
            rw [kx_AG (R := R) (tt := tt) (A := A) G I hA hl rfl (fun q => absurd q k0) (fun _ => gr_row (by omega)) (fun q => absurd q k6) (fun _ => gr_nv) (fun _ => gr_nl) (fun q => upR_ne (fun z => by have := lvg hl (by omega) (by omega); omega)) (fun _ => upR_ne (fun z => by omega)) (fun _ => by rw [gr_row (by omega)])]
    · have hk : i = ng σ ∧ j = 0 ∧ 8 ≤ k ∧ k ≤ 12 := by
        rcases hl' with q | q | q | q
        · exact absurd (Or.inl q) hl
        · rw [gr_ng h8] at q
          refine ⟨?_, q.2.2.2, q.1, q.2.1⟩
          have : ¬ i < ng σ := fun z => hl (Or.inr (Or.inl ⟨q.1, q.2.1, z, q.2.2.2⟩))
          omega
        · rw [gr_ng h8, gr_nl] at q
          exfalso
          by_cases z : i < ng σ
          · exact hl (Or.inr (Or.inr (Or.inl ⟨q.1, q.2.1, z, q.2.2.2⟩)))
          · have e : i = ng σ := by omega
            rw [e, zl] at q
            omega
        · rw [gr_nv] at q
          exact absurd (Or.inr (Or.inr (Or.inr q))) hl
      obtain ⟨rfl, rfl, hk1, hk2⟩ := hk
      have nm : ∀ q, h q = none → ¬ MM q := fun q hq z => HM q z hq
      have nA : ∀ q, h q = none → q ≠ A 0 0 0 ∧ q ≠ A 6 0 0 := fun q hq => ⟨fun z => (by rw [z, H.c0] at hq; cases hq), fun z => (by rw [z, H.c6] at hq; cases hq)⟩
      rcases (by omega : k = 8 ∨ k = 9 ∨ k = 10 ∨ k = 11 ∨ k = 12) with rfl | rfl | rfl | rfl | rfl
      · simp only [reduceIte, Nat.reduceEqDiff, Nat.reduceLeDiff, and_self, kx, gr_1 h2, gr_2 (show hh ≤ 48 by omega)]
        refine ⟨?_, trivial, nm _ hq0⟩
        rw [up_ne (nA _ hq0).1, up_ne (nA _ hq0).2, up_same]
      · simp only [reduceIte, Nat.reduceEqDiff, Nat.reduceLeDiff, and_self, and_false, false_and, kx, gr_1 h2, gr_2 (show hh ≤ 48 by omega), gr_nl, zl, if_neg (Ne.symm n0g)]
        refine ⟨?_, trivial, nm _ hqg⟩
        rw [up_ne (nA _ hqg).1, up_ne (nA _ hqg).2, up_ne (Ne.symm n0g), up_same]
        rfl
      · simp only [reduceIte, Nat.reduceEqDiff, Nat.reduceLeDiff, and_self, kx, gr_1 h2, gr_2 (show hh ≤ 48 by omega), if_neg n02, if_neg ng2]
        refine ⟨?_, trivial, nm _ hq2⟩
        rw [up_ne (nA _ hq2).1, up_ne (nA _ hq2).2, up_ne n02, up_ne ng2, up_same]
      · simp only [reduceIte, Nat.reduceEqDiff, Nat.reduceLeDiff, and_self, kx, wH, gr_1 h2, gr_2 (show hh ≤ 48 by omega), if_neg n03, if_neg ng3, if_neg (Ne.symm m23), upR_same]
        refine ⟨?_, trivial, nm _ hq3⟩
        rw [up_ne (nA _ hq3).1, up_ne (nA _ hq3).2, up_ne n03, up_ne ng3, up_ne (Ne.symm m23), up_same]
      · simp only [reduceIte, Nat.reduceEqDiff, Nat.reduceLeDiff, and_self, kx, gr_nl, zl, if_neg n01, if_neg ng1, if_neg m12, if_neg m13, Nat.not_lt_zero]
        refine ⟨?_, trivial, nm _ hq1⟩
        rw [up_ne (nA _ hq1).1, up_ne (nA _ hq1).2, up_ne n01, up_ne ng1, up_ne m12, up_ne m13, up_same]
        rfl
  · refine ⟨fun g x y hg hx hy => ?_, fun g q x y hg hq hx hy => ?_⟩
    · rw [gr_ng h8] at hg
      by_cases e : g = ng σ
      · subst e
        rw [gr_1 h2] at hx ⊢
        rw [gr_2 (by omega)] at hy
        rw [upR_same]
        have z4 : grS σ w hh 4 (1920 * ng σ + 48 * y + x) = 0 := by
          rw [gr_row (by omega)]
          exact b.2.2.2.2.1 _ (by omega) (Or.inl (by omega))
        unfold cel fillTo
        rw [if_pos z4, if_pos (idx_lt hx hy)]
        rfl
      · have hg' : g < ng σ := by omega
        rw [G.nt1 hg'] at hx ⊢
        rw [G.nt2 hg'] at hy
        rw [upR_ne (fun z => e z.1), S.1 g x y hg' hx hy]
        unfold cel
        rw [gr_row (by omega), gr_row (by omega)]
    · rw [gr_ng h8] at hg
      rw [gr_nl] at hq
      have e : g ≠ ng σ := fun z => by rw [z, zl] at hq; omega
      have hg' : g < ng σ := by omega
      rw [G.nt1 hg'] at hx ⊢
      rw [G.nt2 hg'] at hy
      rw [upR_ne (fun z => by omega), S.2 g q x y hg' hq hx hy]
      unfold lyr
      rw [gr_row (by omega), gr_row (by omega)]
  · exact if_neg (fun z => by omega)
  · intro a ha
    have h0 := HM a ha
    have ne : ∀ q, h q = none → a ≠ q := fun q hq z => h0 (by rw [z]; exact hq)
    rw [up_ne (fun z => (H 0 0 0 L0).2.2 (by rw [← z]; exact ha)), up_ne (fun z => (H 6 0 0 L6).2.2 (by rw [← z]; exact ha)), up_ne (ne _ hq0), up_ne (ne _ hqg), up_ne (ne _ hq2), up_ne (ne _ hq3), up_ne (ne _ hq1), up_ne (ne _ hqg), up_ne (ne _ hq0)]
end
