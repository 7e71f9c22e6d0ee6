/-! ===== what is asked of the two sides alike: places that are there ===== -/
noncomputable def bP (p : Prop) : Bool := @decide p (Classical.propDecidable p)
theorem bP_t {p : Prop} (h : p) : bP p = true := @decide_eq_true p (Classical.propDecidable p) h
theorem bP_f {p : Prop} (h : ¬ p) : bP p = false := @decide_eq_false p (Classical.propDecidable p) h
theorem bP_n {p : Prop} (h : p) : bP (¬ p) = false := bP_f (fun q => q h)
theorem bP_ext {b : Bool} {p : Prop} (h : b = true ↔ p) : b = bP p := by
  by_cases q : p
  · rw [bP_t q, h.mpr q]
  · rw [bP_f q]
    cases b
    · rfl
    · exact absurd (h.mp rfl) q
theorem e10 : ((1 : Int32) = 0) = False := eq_false (by decide)
theorem toI (x : Int32) (n : Nat) (h : x.toInt = n) (hn : n < 2 ^ 31 := by omega) : x = nI n := Int32.toInt_inj.mp (by rw [h, nI_toInt hn])
theorem rng {n : Nat} (hn : n ≤ 100000) (x : Int32) : (0 ≤ x ∧ x ≤ nI n - 1) ↔ ∃ g, x = nI g ∧ g < n := by
  have e1 : (nI n - 1).toInt = (n : Int) - 1 := by rw [n1]; exact pk_sub_toInt (by omega) (by omega)
  rw [Int32.le_iff_toInt_le, Int32.le_iff_toInt_le, e1, i0]
  constructor
  · rintro ⟨h1, h2⟩
    exact ⟨x.toInt.toNat, toI x _ (by omega) (by omega), by omega⟩
  · rintro ⟨g, rfl, hg⟩
    rw [nI_toInt (by omega)]
    omega
theorem rng2 {n : Nat} (hn : n ≤ 100000) (x : Int32) : (100 ≤ x ∧ x ≤ 100 + nI n - 1) ↔ ∃ g, x = nI (100 + g) ∧ g < n := by
  have e1 : (100 + nI n - 1).toInt = ((100 + n : Nat) : Int) - 1 := by rw [n100, nI_add, n1]; exact pk_sub_toInt (by omega) (by omega)
  have e2 : (100 : Int32).toInt = 100 := rfl
  rw [Int32.le_iff_toInt_le, Int32.le_iff_toInt_le, e1, e2]
  constructor
  · rintro ⟨h1, h2⟩
    refine ⟨x.toInt.toNat - 100, toI x _ (by omega) (by omega), by omega⟩
  · rintro ⟨g, rfl, hg⟩
    rw [nI_toInt (by omega)]
    omega
def okG (σ : SG) (x : Int32) : Prop := ∃ g, x = nI g ∧ g < ng σ
def okI (σ : SG) (x : Int32) : Prop := ∃ i, x = nI i ∧ vI σ i
def okC (σ : SG) (i : Nat) (x y : Int32) : Prop := ∃ a b, x = nI a ∧ y = nI b ∧ a < zW σ i ∧ b < zH σ i
def okR (σ : SG) (i : Nat) (x y w h : Int32) : Prop := ∃ a b p q, x = nI a ∧ y = nI b ∧ w = nI p ∧ h = nI q ∧ 1 ≤ p ∧ 1 ≤ q ∧ a + p ≤ zW σ i ∧ b + q ≤ zH σ i
theorem noG_eq {σ : SG} (I : GI σ) (x : Int32) : (!decide (0 ≤ x ∧ x ≤ σ 5 0 - 1)) = bP (¬ okG σ x) := by
  refine bP_ext ?_
  have h8 := I.1.1
  rw [I.1.2]
  have := rng (n := ng σ) (by omega) x
  simp only [Bool.not_eq_true', decide_eq_false_iff_not]
  rw [this]
  exact Iff.rfl
theorem none_eq {σ : SG} (I : GI σ) (x : Int32) : (!decide (0 ≤ x ∧ x ≤ σ 5 0 - 1) && !decide (100 ≤ x ∧ x ≤ 100 + σ 18 0 - 1)) = bP (¬ okI σ x) := by
  refine bP_ext ?_
  have h8 := I.1.1
  have h12 := I.2.1.1
  rw [I.1.2, I.2.1.2]
  have r1 := rng (n := ng σ) (by omega) x
  have r2 := rng2 (n := nv σ) (by omega) x
  simp only [Bool.and_eq_true, Bool.not_eq_true', decide_eq_false_iff_not]
  rw [r1, r2]
  constructor
  · rintro ⟨a1, a2⟩ ⟨i, hx, hv⟩
    rcases hv with q | ⟨q1, q2⟩
    · exact a1 ⟨i, hx, q⟩
    · exact a2 ⟨i - 100, by rw [show 100 + (i - 100) = i by omega]; exact hx, by omega⟩
  · intro hn
    exact ⟨fun ⟨g, hx, hg⟩ => hn ⟨g, hx, Or.inl hg⟩, fun ⟨g, hx, hg⟩ => hn ⟨100 + g, hx, Or.inr ⟨by omega, by omega⟩⟩⟩
theorem noC_eq {σ : SG} (I : GI σ) {i : Nat} (hi : vI σ i) (x y : Int32) : (!decide (0 ≤ x ∧ x ≤ nI (zW σ i) - 1) || !decide (0 ≤ y ∧ y ≤ nI (zH σ i) - 1)) = bP (¬ okC σ i x y) := by
  refine bP_ext ?_
  obtain ⟨⟨z1, z2⟩, ⟨z3, z4⟩, -⟩ := sz_bd I i hi
  have r1 := rng (n := zW σ i) (by omega) x
  have r2 := rng (n := zH σ i) (by omega) y
  simp only [Bool.or_eq_true, Bool.not_eq_true', decide_eq_false_iff_not]
  rw [r1, r2]
  constructor
  · rintro (q | q) ⟨a, b, hx, hy, ha, hb⟩
    · exact q ⟨a, hx, ha⟩
    · exact q ⟨b, hy, hb⟩
  · intro hn
    by_cases c1 : ∃ g, x = nI g ∧ g < zW σ i
    · refine Or.inr (fun c2 => hn ?_)
      obtain ⟨a, hx, ha⟩ := c1
      obtain ⟨b, hy, hb⟩ := c2
      exact ⟨a, b, hx, hy, ha, hb⟩
    · exact Or.inl c1
section
variable {l : Launch} {D : va_G} {Y : Nat → ClassId} {b0 : Nat} {h : AH} {B : Nat → Nat} {m : Nat} {t u : Int32} {σ : SG}
theorem m_noGridP (M : MR Y B m t u σ h) (I : GI σ) (g : Int32) : Ct l D Y b0 mX6_noGrid 2 0 0 [.ref m, .int g] h (rt (.int (bI (bP (¬ okG σ g)))) h) noX := by
  rw [← noG_eq I]
  exact m_noGrid M g
theorem m_noneP (M : MR Y B m t u σ h) (I : GI σ) (g : Int32) : Ct l D Y b0 mX6_none 3 0 0 [.ref m, .int g] h (rt (.int (bI (bP (¬ okI σ g)))) h) noX := by
  rw [← none_eq I]
  exact m_none M g
theorem m_noCellP (M : MR Y B m t u σ h) (I : GI σ) {i : Nat} (hi : vI σ i) (x y : Int32) : Ct l D Y b0 mX6_noCell 2 0 0 [.ref m, .int (nI i), .int x, .int y] h (rt (.int (bI (bP (¬ okC σ i x y)))) h) noX := by
  rw [← noC_eq I hi]
  exact m_noCell M I hi x y
theorem m_noRect (M : MR Y B m t u σ h) (I : GI σ) {i : Nat} (hi : vI σ i) (x y w hq : Int32) : Ct l D Y b0 mX6_noRectangle 2 0 0 [.ref m, .int (nI i), .int x, .int y, .int w, .int hq] h (rt (.int (bI (bP (¬ okR σ i x y w hq)))) h) noX := by
  refine Ct_of "GridStoreModel" false rfl (by decide +kernel) (fun z => by cases z) (Nat.le_of_ble_eq_true rfl) ?_
  intro p e s mI args below meth c Z C hno hZ
  obtain ⟨⟨z1, z2⟩, ⟨z3, z4⟩, -⟩ := sz_bd I i hi
  have tW : (nI (zW σ i)).toInt = zW σ i := nI_toInt (by omega)
  have tH : (nI (zH σ i)).toInt = zH σ i := nI_toInt (by omega)
  have bad : ¬ okR σ i x y w hq → V p l e s mI args below meth c D b0 2 0 0 Z 0 0 66 ([(0, .ref m), (1, .int (nI i)), (2, .int x), (3, .int y), (4, .int w), (5, .int hq)]) ([]) (h) := by
    intro hn
    refine V_run C b_X6_noRectangle_66 ?_
    simp only [k_X6_noRectangle_66, r_nil, r_iconst, r_bipush, r_sipush, r_ldc, r_lconst0, r_lconst1, r_ldc2, r_null, r_iload_n, r_iload, r_lload_n, r_lload, r_aload_n, r_aload, r_istore_n, r_istore, r_lstore_n, r_lstore, r_astore_nR, r_astoreR, r_astore_nN, r_astoreN, r_iinc, r_iadd, r_isub, r_imul, r_iand, r_idiv, r_irem, r_ineg, r_ladd, r_lsub, r_lmul, r_lxor, r_ldiv, r_lcmp, r_i2l, r_l2i, r_dup, r_pop, r_dup2, r_ifeq, r_ifne, r_iflt, r_ifge, r_ifgt, r_ifle, r_icmpeq, r_icmpne, r_icmplt, r_icmpge, r_icmpgt, r_icmple, r_acmpne, r_ifnullN, r_ifnullR, r_ifnonnullN, r_ifnonnullR, r_goto, r_getf, r_putf, r_alen, r_iald, r_bald, r_lald, r_aald, r_iast, r_bast, r_last, r_aast, gl_c, s1_d, s2_d, ins_n, ins_c, rm1_n, rm1_c, rm2_n, rm2_c, cat_i, cat_l, cat_r, cat_n, oI_s, oJ_s, oA_r, oA_n, oV_s, mO_s, aI_s, aJ_s, aQ_s, mL_0, mL_1, mL_2, mL_3, mL_4, nth_0, nth_s, rf_s, rf_n, fit_i, fit_r, fit_a, fit_b, fit_b0, fit_b1, Option.toList_some, Option.toList_none, List.cons_append, List.nil_append, List.set_cons_zero, List.set_cons_succ, List.length_cons, List.length_nil, Nat.reduceAdd, Nat.reduceEqDiff, Nat.reduceLT, reduceIte, false_implies, true_implies, not_false_eq_true, not_true_eq_false, true_and, and_true, Nat.zero_add, lv_args, nI_1, Bool.false_eq_true, eq_self]
    exact V_zret C hZ rfl d_X6_noRectangle_71 (Or.inr rfl) ⟨by rw [bP_t hn]; rfl, rfl⟩ ⟨(Nat.le_of_ble_eq_true rfl), (Nat.le_of_ble_eq_true rfl)⟩
  have sub_toInt : ∀ (n : Nat) (z : Int32), n ≤ 48 → 0 ≤ z.toInt → (nI n - z).toInt = (n : Int) - z.toInt := by
    intro n z hn hz
    have hz2 := Int32.toInt_lt z
    rw [Int32.toInt_sub, nI_toInt (by omega)]
    exact Int.bmod_eq_of_le (by omega) (by omega)
  refine V_run C b_X6_noRectangle_0 ?_
  simp only [k_X6_noRectangle_0, r_nil, r_iconst, r_bipush, r_sipush, r_ldc, r_lconst0, r_lconst1, r_ldc2, r_null, r_iload_n, r_iload, r_lload_n, r_lload, r_aload_n, r_aload, r_istore_n, r_istore, r_lstore_n, r_lstore, r_astore_nR, r_astoreR, r_astore_nN, r_astoreN, r_iinc, r_iadd, r_isub, r_imul, r_iand, r_idiv, r_irem, r_ineg, r_ladd, r_lsub, r_lmul, r_lxor, r_ldiv, r_lcmp, r_i2l, r_l2i, r_dup, r_pop, r_dup2, r_ifeq, r_ifne, r_iflt, r_ifge, r_ifgt, r_ifle, r_icmpeq, r_icmpne, r_icmplt, r_icmpge, r_icmpgt, r_icmple, r_acmpne, r_ifnullN, r_ifnullR, r_ifnonnullN, r_ifnonnullR, r_goto, r_getf, r_putf, r_alen, r_iald, r_bald, r_lald, r_aald, r_iast, r_bast, r_last, r_aast, gl_c, s1_d, s2_d, ins_n, ins_c, rm1_n, rm1_c, rm2_n, rm2_c, cat_i, cat_l, cat_r, cat_n, oI_s, oJ_s, oA_r, oA_n, oV_s, mO_s, aI_s, aJ_s, aQ_s, mL_0, mL_1, mL_2, mL_3, mL_4, nth_0, nth_s, rf_s, rf_n, fit_i, fit_r, fit_a, fit_b, fit_b0, fit_b1, Option.toList_some, Option.toList_none, List.cons_append, List.nil_append, List.set_cons_zero, List.set_cons_succ, List.length_cons, List.length_nil, Nat.reduceAdd, Nat.reduceEqDiff, Nat.reduceLT, reduceIte, false_implies, true_implies, not_false_eq_true, not_true_eq_false, true_and, and_true, Nat.zero_add, lv_args, nI_1, Bool.false_eq_true, eq_self]
  refine ⟨fun c1 => ?_, fun c1 => ⟨fun c2 => ?_, fun c2 => ⟨fun c3 => ?_, fun c3 => ⟨fun c4 => ?_, fun c4 => ?_⟩⟩⟩⟩
  · refine bad (fun ⟨a, b, p1, q1, e1, e2, e3, e4, e5, e6, e7, e8⟩ => ?_)
    rw [e1] at c1
    exact nI_pos (by omega) c1
  · refine bad (fun ⟨a, b, p1, q1, e1, e2, e3, e4, e5, e6, e7, e8⟩ => ?_)
    rw [e2] at c2
    exact nI_pos (by omega) c2
  · refine bad (fun ⟨a, b, p1, q1, e1, e2, e3, e4, e5, e6, e7, e8⟩ => ?_)
    rw [e3, n1] at c3
    have := (nI_ltI (by omega) (by omega)).mp c3
    omega
  · refine bad (fun ⟨a, b, p1, q1, e1, e2, e3, e4, e5, e6, e7, e8⟩ => ?_)
    rw [e4, n1] at c4
    have := (nI_ltI (by omega) (by omega)).mp c4
    omega
  · refine V_callV C c_X6_81 d_X6_noRectangle_25 (m_sizeOf M I hi false) rfl rfl (M.1) rfl (Nat.le_of_ble_eq_true rfl) ⟨(Nat.le_of_ble_eq_true rfl), (Nat.le_of_ble_eq_true rfl)⟩ (Nat.le_of_ble_eq_true rfl) (fun _ _ z => z.elim) ?_
    rintro _ _ ⟨rfl, rfl⟩
    have x0 : 0 ≤ x.toInt := by
      have := c1
      rw [Int32.lt_iff_toInt_lt, i0] at this
      omega
    have y0 : 0 ≤ y.toInt := by
      have := c2
      rw [Int32.lt_iff_toInt_lt, i0] at this
      omega
    have w0 : 1 ≤ w.toInt := by
      have := c3
      rw [Int32.lt_iff_toInt_lt, i1] at this
      omega
    have h0 : 1 ≤ hq.toInt := by
      have := c4
      rw [Int32.lt_iff_toInt_lt, i1] at this
      omega
    have s1 := sub_toInt (zW σ i) x z2 x0
    have s2 := sub_toInt (zH σ i) y z4 y0
    have r1 : ∀ {z : Int32} {n : Nat}, z = nI n → n < 2 ^ 31 → z.toInt = n := fun e1 e2 => by rw [e1, nI_toInt e2]
    have pos : okR σ i x y w hq ↔ x.toInt + w.toInt ≤ zW σ i ∧ y.toInt + hq.toInt ≤ zH σ i := by
      constructor
      · rintro ⟨a, b, p1, q1, e1, e2, e3, e4, e5, e6, e7, e8⟩
        rw [r1 e1 (by omega), r1 e2 (by omega), r1 e3 (by omega), r1 e4 (by omega)]
        omega
      · rintro ⟨a1, a2⟩
        exact ⟨x.toInt.toNat, y.toInt.toNat, w.toInt.toNat, hq.toInt.toNat, toI x _ (by omega) (by omega), toI y _ (by omega) (by omega), toI w _ (by omega) (by omega), toI hq _ (by omega) (by omega), by omega, by omega, by omega, by omega⟩
    refine V_run C b_X6_noRectangle_28 ?_
    simp only [k_X6_noRectangle_28, r_nil, r_iconst, r_bipush, r_sipush, r_ldc, r_lconst0, r_lconst1, r_ldc2, r_null, r_iload_n, r_iload, r_lload_n, r_lload, r_aload_n, r_aload, r_istore_n, r_istore, r_lstore_n, r_lstore, r_astore_nR, r_astoreR, r_astore_nN, r_astoreN, r_iinc, r_iadd, r_isub, r_imul, r_iand, r_idiv, r_irem, r_ineg, r_ladd, r_lsub, r_lmul, r_lxor, r_ldiv, r_lcmp, r_i2l, r_l2i, r_dup, r_pop, r_dup2, r_ifeq, r_ifne, r_iflt, r_ifge, r_ifgt, r_ifle, r_icmpeq, r_icmpne, r_icmplt, r_icmpge, r_icmpgt, r_icmple, r_acmpne, r_ifnullN, r_ifnullR, r_ifnonnullN, r_ifnonnullR, r_goto, r_getf, r_putf, r_alen, r_iald, r_bald, r_lald, r_aald, r_iast, r_bast, r_last, r_aast, gl_c, s1_d, s2_d, ins_n, ins_c, rm1_n, rm1_c, rm2_n, rm2_c, cat_i, cat_l, cat_r, cat_n, oI_s, oJ_s, oA_r, oA_n, oV_s, mO_s, aI_s, aJ_s, aQ_s, mL_0, mL_1, mL_2, mL_3, mL_4, nth_0, nth_s, rf_s, rf_n, fit_i, fit_r, fit_a, fit_b, fit_b0, fit_b1, Option.toList_some, Option.toList_none, List.cons_append, List.nil_append, List.set_cons_zero, List.set_cons_succ, List.length_cons, List.length_nil, Nat.reduceAdd, Nat.reduceEqDiff, Nat.reduceLT, reduceIte, false_implies, true_implies, not_false_eq_true, not_true_eq_false, true_and, and_true, Nat.zero_add, lv_args, nI_1, Bool.false_eq_true, eq_self]
    refine ⟨fun c5 => ?_, fun c5 => ?_⟩
    · refine bad (fun z => ?_)
      rw [Int32.lt_iff_toInt_lt] at c5
      have := pos.mp z
      omega
    · refine V_callV C c_X6_81 d_X6_noRectangle_38 (m_sizeOf M I hi true) rfl rfl (M.1) rfl (Nat.le_of_ble_eq_true rfl) ⟨(Nat.le_of_ble_eq_true rfl), (Nat.le_of_ble_eq_true rfl)⟩ (Nat.le_of_ble_eq_true rfl) (fun _ _ z => z.elim) ?_
      rintro _ _ ⟨rfl, rfl⟩
      refine V_run C b_X6_noRectangle_41 ?_
      simp only [k_X6_noRectangle_41, r_nil, r_iconst, r_bipush, r_sipush, r_ldc, r_lconst0, r_lconst1, r_ldc2, r_null, r_iload_n, r_iload, r_lload_n, r_lload, r_aload_n, r_aload, r_istore_n, r_istore, r_lstore_n, r_lstore, r_astore_nR, r_astoreR, r_astore_nN, r_astoreN, r_iinc, r_iadd, r_isub, r_imul, r_iand, r_idiv, r_irem, r_ineg, r_ladd, r_lsub, r_lmul, r_lxor, r_ldiv, r_lcmp, r_i2l, r_l2i, r_dup, r_pop, r_dup2, r_ifeq, r_ifne, r_iflt, r_ifge, r_ifgt, r_ifle, r_icmpeq, r_icmpne, r_icmplt, r_icmpge, r_icmpgt, r_icmple, r_acmpne, r_ifnullN, r_ifnullR, r_ifnonnullN, r_ifnonnullR, r_goto, r_getf, r_putf, r_alen, r_iald, r_bald, r_lald, r_aald, r_iast, r_bast, r_last, r_aast, gl_c, s1_d, s2_d, ins_n, ins_c, rm1_n, rm1_c, rm2_n, rm2_c, cat_i, cat_l, cat_r, cat_n, oI_s, oJ_s, oA_r, oA_n, oV_s, mO_s, aI_s, aJ_s, aQ_s, mL_0, mL_1, mL_2, mL_3, mL_4, nth_0, nth_s, rf_s, rf_n, fit_i, fit_r, fit_a, fit_b, fit_b0, fit_b1, Option.toList_some, Option.toList_none, List.cons_append, List.nil_append, List.set_cons_zero, List.set_cons_succ, List.length_cons, List.length_nil, Nat.reduceAdd, Nat.reduceEqDiff, Nat.reduceLT, reduceIte, false_implies, true_implies, not_false_eq_true, not_true_eq_false, true_and, and_true, Nat.zero_add, lv_args, nI_1, Bool.false_eq_true, eq_self]
      refine ⟨fun c6 => ?_, fun c6 => ?_⟩
      · refine bad (fun z => ?_)
        rw [Int32.lt_iff_toInt_lt] at c6
        have := pos.mp z
        omega
      · refine V_callV C c_X6_81 d_X6_noRectangle_50 (m_sizeOf M I hi false) rfl rfl (M.1) rfl (Nat.le_of_ble_eq_true rfl) ⟨(Nat.le_of_ble_eq_true rfl), (Nat.le_of_ble_eq_true rfl)⟩ (Nat.le_of_ble_eq_true rfl) (fun _ _ z => z.elim) ?_
        rintro _ _ ⟨rfl, rfl⟩
        rw [Int32.lt_iff_toInt_lt] at c5 c6
        refine V_run C b_X6_noRectangle_53 ?_
        simp only [k_X6_noRectangle_53, r_nil, r_iconst, r_bipush, r_sipush, r_ldc, r_lconst0, r_lconst1, r_ldc2, r_null, r_iload_n, r_iload, r_lload_n, r_lload, r_aload_n, r_aload, r_istore_n, r_istore, r_lstore_n, r_lstore, r_astore_nR, r_astoreR, r_astore_nN, r_astoreN, r_iinc, r_iadd, r_isub, r_imul, r_iand, r_idiv, r_irem, r_ineg, r_ladd, r_lsub, r_lmul, r_lxor, r_ldiv, r_lcmp, r_i2l, r_l2i, r_dup, r_pop, r_dup2, r_ifeq, r_ifne, r_iflt, r_ifge, r_ifgt, r_ifle, r_icmpeq, r_icmpne, r_icmplt, r_icmpge, r_icmpgt, r_icmple, r_acmpne, r_ifnullN, r_ifnullR, r_ifnonnullN, r_ifnonnullR, r_goto, r_getf, r_putf, r_alen, r_iald, r_bald, r_lald, r_aald, r_iast, r_bast, r_last, r_aast, gl_c, s1_d, s2_d, ins_n, ins_c, rm1_n, rm1_c, rm2_n, rm2_c, cat_i, cat_l, cat_r, cat_n, oI_s, oJ_s, oA_r, oA_n, oV_s, mO_s, aI_s, aJ_s, aQ_s, mL_0, mL_1, mL_2, mL_3, mL_4, nth_0, nth_s, rf_s, rf_n, fit_i, fit_r, fit_a, fit_b, fit_b0, fit_b1, Option.toList_some, Option.toList_none, List.cons_append, List.nil_append, List.set_cons_zero, List.set_cons_succ, List.length_cons, List.length_nil, Nat.reduceAdd, Nat.reduceEqDiff, Nat.reduceLT, reduceIte, false_implies, true_implies, not_false_eq_true, not_true_eq_false, true_and, and_true, Nat.zero_add, lv_args, nI_1, Bool.false_eq_true, eq_self]
        refine ⟨fun c7 => ?_, fun c7 => ?_⟩
        · refine bad (fun z => ?_)
          rw [Int32.le_iff_toInt_le] at c7
          have := pos.mp z
          omega
        · refine V_callV C c_X6_81 d_X6_noRectangle_60 (m_sizeOf M I hi true) rfl rfl (M.1) rfl (Nat.le_of_ble_eq_true rfl) ⟨(Nat.le_of_ble_eq_true rfl), (Nat.le_of_ble_eq_true rfl)⟩ (Nat.le_of_ble_eq_true rfl) (fun _ _ z => z.elim) ?_
          rintro _ _ ⟨rfl, rfl⟩
          refine V_run C b_X6_noRectangle_63 ?_
          simp only [k_X6_noRectangle_63, r_nil, r_iconst, r_bipush, r_sipush, r_ldc, r_lconst0, r_lconst1, r_ldc2, r_null, r_iload_n, r_iload, r_lload_n, r_lload, r_aload_n, r_aload, r_istore_n, r_istore, r_lstore_n, r_lstore, r_astore_nR, r_astoreR, r_astore_nN, r_astoreN, r_iinc, r_iadd, r_isub, r_imul, r_iand, r_idiv, r_irem, r_ineg, r_ladd, r_lsub, r_lmul, r_lxor, r_ldiv, r_lcmp, r_i2l, r_l2i, r_dup, r_pop, r_dup2, r_ifeq, r_ifne, r_iflt, r_ifge, r_ifgt, r_ifle, r_icmpeq, r_icmpne, r_icmplt, r_icmpge, r_icmpgt, r_icmple, r_acmpne, r_ifnullN, r_ifnullR, r_ifnonnullN, r_ifnonnullR, r_goto, r_getf, r_putf, r_alen, r_iald, r_bald, r_lald, r_aald, r_iast, r_bast, r_last, r_aast, gl_c, s1_d, s2_d, ins_n, ins_c, rm1_n, rm1_c, rm2_n, rm2_c, cat_i, cat_l, cat_r, cat_n, oI_s, oJ_s, oA_r, oA_n, oV_s, mO_s, aI_s, aJ_s, aQ_s, mL_0, mL_1, mL_2, mL_3, mL_4, nth_0, nth_s, rf_s, rf_n, fit_i, fit_r, fit_a, fit_b, fit_b0, fit_b1, Option.toList_some, Option.toList_none, List.cons_append, List.nil_append, List.set_cons_zero, List.set_cons_succ, List.length_cons, List.length_nil, Nat.reduceAdd, Nat.reduceEqDiff, Nat.reduceLT, reduceIte, false_implies, true_implies, not_false_eq_true, not_true_eq_false, true_and, and_true, Nat.zero_add, lv_args, nI_1, Bool.false_eq_true, eq_self]
          refine ⟨fun c8 => ?_, fun c8 => ?_⟩
          · refine V_run C b_X6_noRectangle_70 ?_
            simp only [k_X6_noRectangle_70, r_nil, r_iconst, r_bipush, r_sipush, r_ldc, r_lconst0, r_lconst1, r_ldc2, r_null, r_iload_n, r_iload, r_lload_n, r_lload, r_aload_n, r_aload, r_istore_n, r_istore, r_lstore_n, r_lstore, r_astore_nR, r_astoreR, r_astore_nN, r_astoreN, r_iinc, r_iadd, r_isub, r_imul, r_iand, r_idiv, r_irem, r_ineg, r_ladd, r_lsub, r_lmul, r_lxor, r_ldiv, r_lcmp, r_i2l, r_l2i, r_dup, r_pop, r_dup2, r_ifeq, r_ifne, r_iflt, r_ifge, r_ifgt, r_ifle, r_icmpeq, r_icmpne, r_icmplt, r_icmpge, r_icmpgt, r_icmple, r_acmpne, r_ifnullN, r_ifnullR, r_ifnonnullN, r_ifnonnullR, r_goto, r_getf, r_putf, r_alen, r_iald, r_bald, r_lald, r_aald, r_iast, r_bast, r_last, r_aast, gl_c, s1_d, s2_d, ins_n, ins_c, rm1_n, rm1_c, rm2_n, rm2_c, cat_i, cat_l, cat_r, cat_n, oI_s, oJ_s, oA_r, oA_n, oV_s, mO_s, aI_s, aJ_s, aQ_s, mL_0, mL_1, mL_2, mL_3, mL_4, nth_0, nth_s, rf_s, rf_n, fit_i, fit_r, fit_a, fit_b, fit_b0, fit_b1, Option.toList_some, Option.toList_none, List.cons_append, List.nil_append, List.set_cons_zero, List.set_cons_succ, List.length_cons, List.length_nil, Nat.reduceAdd, Nat.reduceEqDiff, Nat.reduceLT, reduceIte, false_implies, true_implies, not_false_eq_true, not_true_eq_false, true_and, and_true, Nat.zero_add, lv_args, nI_1, Bool.false_eq_true, eq_self]
            refine V_zret C hZ rfl d_X6_noRectangle_71 (Or.inl rfl) ⟨?_, rfl⟩ ⟨(Nat.le_of_ble_eq_true rfl), (Nat.le_of_ble_eq_true rfl)⟩
            rw [bP_n (pos.mpr ⟨by omega, by omega⟩)]
            rfl
          · refine bad (fun z => ?_)
            rw [Int32.lt_iff_toInt_lt] at c8
            have := pos.mp z
            omega
theorem m_isClosedG (M : MR Y B m t u σ h) {i : Nat} (hi : i < 100) : Ct l D Y b0 mX6_isClosedOf 1 0 0 [.ref m, .int (nI i)] h (rt (.int 0) h) noX := by
  refine Ct_of "GridStoreModel" false rfl (by decide +kernel) (fun z => by cases z) (Nat.le_of_ble_eq_true rfl) ?_
  intro p e s mI args below meth c Z C hno hZ
  refine V_run C b_X6_isClosedOf_0 ?_
  simp only [k_X6_isClosedOf_0, n100, (c_lt i 100), r_nil, r_iconst, r_bipush, r_sipush, r_ldc, r_lconst0, r_lconst1, r_ldc2, r_null, r_iload_n, r_iload, r_lload_n, r_lload, r_aload_n, r_aload, r_istore_n, r_istore, r_lstore_n, r_lstore, r_astore_nR, r_astoreR, r_astore_nN, r_astoreN, r_iinc, r_iadd, r_isub, r_imul, r_iand, r_idiv, r_irem, r_ineg, r_ladd, r_lsub, r_lmul, r_lxor, r_ldiv, r_lcmp, r_i2l, r_l2i, r_dup, r_pop, r_dup2, r_ifeq, r_ifne, r_iflt, r_ifge, r_ifgt, r_ifle, r_icmpeq, r_icmpne, r_icmplt, r_icmpge, r_icmpgt, r_icmple, r_acmpne, r_ifnullN, r_ifnullR, r_ifnonnullN, r_ifnonnullR, r_goto, r_getf, r_putf, r_alen, r_iald, r_bald, r_lald, r_aald, r_iast, r_bast, r_last, r_aast, gl_c, s1_d, s2_d, ins_n, ins_c, rm1_n, rm1_c, rm2_n, rm2_c, cat_i, cat_l, cat_r, cat_n, oI_s, oJ_s, oA_r, oA_n, oV_s, mO_s, aI_s, aJ_s, aQ_s, mL_0, mL_1, mL_2, mL_3, mL_4, nth_0, nth_s, rf_s, rf_n, fit_i, fit_r, fit_a, fit_b, fit_b0, fit_b1, Option.toList_some, Option.toList_none, List.cons_append, List.nil_append, List.set_cons_zero, List.set_cons_succ, List.length_cons, List.length_nil, Nat.reduceAdd, Nat.reduceEqDiff, Nat.reduceLT, reduceIte, false_implies, true_implies, not_false_eq_true, not_true_eq_false, true_and, and_true, Nat.zero_add, lv_args, nI_1, Bool.false_eq_true, eq_self]
  refine V_run C b_X6_isClosedOf_22 ?_
  simp only [k_X6_isClosedOf_22, r_nil, r_iconst, r_bipush, r_sipush, r_ldc, r_lconst0, r_lconst1, r_ldc2, r_null, r_iload_n, r_iload, r_lload_n, r_lload, r_aload_n, r_aload, r_istore_n, r_istore, r_lstore_n, r_lstore, r_astore_nR, r_astoreR, r_astore_nN, r_astoreN, r_iinc, r_iadd, r_isub, r_imul, r_iand, r_idiv, r_irem, r_ineg, r_ladd, r_lsub, r_lmul, r_lxor, r_ldiv, r_lcmp, r_i2l, r_l2i, r_dup, r_pop, r_dup2, r_ifeq, r_ifne, r_iflt, r_ifge, r_ifgt, r_ifle, r_icmpeq, r_icmpne, r_icmplt, r_icmpge, r_icmpgt, r_icmple, r_acmpne, r_ifnullN, r_ifnullR, r_ifnonnullN, r_ifnonnullR, r_goto, r_getf, r_putf, r_alen, r_iald, r_bald, r_lald, r_aald, r_iast, r_bast, r_last, r_aast, gl_c, s1_d, s2_d, ins_n, ins_c, rm1_n, rm1_c, rm2_n, rm2_c, cat_i, cat_l, cat_r, cat_n, oI_s, oJ_s, oA_r, oA_n, oV_s, mO_s, aI_s, aJ_s, aQ_s, mL_0, mL_1, mL_2, mL_3, mL_4, nth_0, nth_s, rf_s, rf_n, fit_i, fit_r, fit_a, fit_b, fit_b0, fit_b1, Option.toList_some, Option.toList_none, List.cons_append, List.nil_append, List.set_cons_zero, List.set_cons_succ, List.length_cons, List.length_nil, Nat.reduceAdd, Nat.reduceEqDiff, Nat.reduceLT, reduceIte, false_implies, true_implies, not_false_eq_true, not_true_eq_false, true_and, and_true, Nat.zero_add, lv_args, nI_1, Bool.false_eq_true, eq_self]
  exact V_zret C hZ rfl d_X6_isClosedOf_23 (Or.inl rfl) ⟨rfl, rfl⟩ ⟨(Nat.le_of_ble_eq_true rfl), (Nat.le_of_ble_eq_true rfl)⟩
def clF (σ : SG) (i : Nat) : Bool := if i < 100 then false else decide (¬ σ 17 (i - 100) = 0)
theorem m_isClosed (M : MR Y B m t u σ h) (I : GI σ) {i : Nat} (hi : vI σ i) : Ct l D Y b0 mX6_isClosedOf 1 0 0 [.ref m, .int (nI i)] h (rt (.int (bI (clF σ i))) h) noX := by
  by_cases h1 : i < 100
  · have := m_isClosedG (l := l) (D := D) (b0 := b0) M h1
    unfold clF
    rw [if_pos h1]
    exact this
  · unfold clF
    rw [if_neg h1]
    have hn := vI_of I hi h1
    have h12 := I.2.1.1
    refine Ct_of "GridStoreModel" false rfl (by decide +kernel) (fun z => by cases z) (Nat.le_of_ble_eq_true rfl) ?_
    intro p e s mI args below meth c Z C hno hZ
    refine V_run C b_X6_isClosedOf_0 ?_
    simp only [k_X6_isClosedOf_0, n100, (c_nlt i 100), (nsub i 100), M.1, nm_17, M.a17, (c_in (i-100) 12), (c_cl (i-100)), r_nil, r_iconst, r_bipush, r_sipush, r_ldc, r_lconst0, r_lconst1, r_ldc2, r_null, r_iload_n, r_iload, r_lload_n, r_lload, r_aload_n, r_aload, r_istore_n, r_istore, r_lstore_n, r_lstore, r_astore_nR, r_astoreR, r_astore_nN, r_astoreN, r_iinc, r_iadd, r_isub, r_imul, r_iand, r_idiv, r_irem, r_ineg, r_ladd, r_lsub, r_lmul, r_lxor, r_ldiv, r_lcmp, r_i2l, r_l2i, r_dup, r_pop, r_dup2, r_ifeq, r_ifne, r_iflt, r_ifge, r_ifgt, r_ifle, r_icmpeq, r_icmpne, r_icmplt, r_icmpge, r_icmpgt, r_icmple, r_acmpne, r_ifnullN, r_ifnullR, r_ifnonnullN, r_ifnonnullR, r_goto, r_getf, r_putf, r_alen, r_iald, r_bald, r_lald, r_aald, r_iast, r_bast, r_last, r_aast, gl_c, s1_d, s2_d, ins_n, ins_c, rm1_n, rm1_c, rm2_n, rm2_c, cat_i, cat_l, cat_r, cat_n, oI_s, oJ_s, oA_r, oA_n, oV_s, mO_s, aI_s, aJ_s, aQ_s, mL_0, mL_1, mL_2, mL_3, mL_4, nth_0, nth_s, rf_s, rf_n, fit_i, fit_r, fit_a, fit_b, fit_b0, fit_b1, Option.toList_some, Option.toList_none, List.cons_append, List.nil_append, List.set_cons_zero, List.set_cons_succ, List.length_cons, List.length_nil, Nat.reduceAdd, Nat.reduceEqDiff, Nat.reduceLT, reduceIte, false_implies, true_implies, not_false_eq_true, not_true_eq_false, true_and, and_true, Nat.zero_add, lv_args, nI_1, Bool.false_eq_true, eq_self]
    refine ⟨fun c1 => ?_, fun c1 => ?_⟩
    · refine V_run C b_X6_isClosedOf_22 ?_
      simp only [k_X6_isClosedOf_22, r_nil, r_iconst, r_bipush, r_sipush, r_ldc, r_lconst0, r_lconst1, r_ldc2, r_null, r_iload_n, r_iload, r_lload_n, r_lload, r_aload_n, r_aload, r_istore_n, r_istore, r_lstore_n, r_lstore, r_astore_nR, r_astoreR, r_astore_nN, r_astoreN, r_iinc, r_iadd, r_isub, r_imul, r_iand, r_idiv, r_irem, r_ineg, r_ladd, r_lsub, r_lmul, r_lxor, r_ldiv, r_lcmp, r_i2l, r_l2i, r_dup, r_pop, r_dup2, r_ifeq, r_ifne, r_iflt, r_ifge, r_ifgt, r_ifle, r_icmpeq, r_icmpne, r_icmplt, r_icmpge, r_icmpgt, r_icmple, r_acmpne, r_ifnullN, r_ifnullR, r_ifnonnullN, r_ifnonnullR, r_goto, r_getf, r_putf, r_alen, r_iald, r_bald, r_lald, r_aald, r_iast, r_bast, r_last, r_aast, gl_c, s1_d, s2_d, ins_n, ins_c, rm1_n, rm1_c, rm2_n, rm2_c, cat_i, cat_l, cat_r, cat_n, oI_s, oJ_s, oA_r, oA_n, oV_s, mO_s, aI_s, aJ_s, aQ_s, mL_0, mL_1, mL_2, mL_3, mL_4, nth_0, nth_s, rf_s, rf_n, fit_i, fit_r, fit_a, fit_b, fit_b0, fit_b1, Option.toList_some, Option.toList_none, List.cons_append, List.nil_append, List.set_cons_zero, List.set_cons_succ, List.length_cons, List.length_nil, Nat.reduceAdd, Nat.reduceEqDiff, Nat.reduceLT, reduceIte, false_implies, true_implies, not_false_eq_true, not_true_eq_false, true_and, and_true, Nat.zero_add, lv_args, nI_1, Bool.false_eq_true, eq_self]
      exact V_zret C hZ rfl d_X6_isClosedOf_23 (Or.inl rfl) ⟨by rw [bI_no (fun z => z c1)], rfl⟩ ⟨(Nat.le_of_ble_eq_true rfl), (Nat.le_of_ble_eq_true rfl)⟩
    · exact V_zret C hZ rfl d_X6_isClosedOf_23 (Or.inr rfl) ⟨by rw [bI_yes c1], rfl⟩ ⟨(Nat.le_of_ble_eq_true rfl), (Nat.le_of_ble_eq_true rfl)⟩
theorem m_isAs (M : MR Y B m t u σ h) (I : GI σ) {g : Nat} (hg : g < ng σ) (x y : Int32) : Ct l D Y b0 mX6_isAs 1 0 0 [.ref m, .int (nI g), .int x, .int y] h (rt (.int (bI (decide (nI (nt σ 1 g) = x ∧ nI (nt σ 2 g) = y)))) h) noX := by
  refine Ct_of "GridStoreModel" false rfl (by decide +kernel) (fun z => by cases z) (Nat.le_of_ble_eq_true rfl) ?_
  intro p e s mI args below meth c Z C hno hZ
  have h8 := I.1.1
  obtain ⟨e1, e2, -⟩ := I.2.2.1 g hg
  refine V_run C b_X6_isAs_0 ?_
  simp only [k_X6_isAs_0, M.1, nm_1, nm_2, M.a1, M.a2, (c_in g 8), (c_cl g), e1, e2, r_nil, r_iconst, r_bipush, r_sipush, r_ldc, r_lconst0, r_lconst1, r_ldc2, r_null, r_iload_n, r_iload, r_lload_n, r_lload, r_aload_n, r_aload, r_istore_n, r_istore, r_lstore_n, r_lstore, r_astore_nR, r_astoreR, r_astore_nN, r_astoreN, r_iinc, r_iadd, r_isub, r_imul, r_iand, r_idiv, r_irem, r_ineg, r_ladd, r_lsub, r_lmul, r_lxor, r_ldiv, r_lcmp, r_i2l, r_l2i, r_dup, r_pop, r_dup2, r_ifeq, r_ifne, r_iflt, r_ifge, r_ifgt, r_ifle, r_icmpeq, r_icmpne, r_icmplt, r_icmpge, r_icmpgt, r_icmple, r_acmpne, r_ifnullN, r_ifnullR, r_ifnonnullN, r_ifnonnullR, r_goto, r_getf, r_putf, r_alen, r_iald, r_bald, r_lald, r_aald, r_iast, r_bast, r_last, r_aast, gl_c, s1_d, s2_d, ins_n, ins_c, rm1_n, rm1_c, rm2_n, rm2_c, cat_i, cat_l, cat_r, cat_n, oI_s, oJ_s, oA_r, oA_n, oV_s, mO_s, aI_s, aJ_s, aQ_s, mL_0, mL_1, mL_2, mL_3, mL_4, nth_0, nth_s, rf_s, rf_n, fit_i, fit_r, fit_a, fit_b, fit_b0, fit_b1, Option.toList_some, Option.toList_none, List.cons_append, List.nil_append, List.set_cons_zero, List.set_cons_succ, List.length_cons, List.length_nil, Nat.reduceAdd, Nat.reduceEqDiff, Nat.reduceLT, reduceIte, false_implies, true_implies, not_false_eq_true, not_true_eq_false, true_and, and_true, Nat.zero_add, lv_args, nI_1, Bool.false_eq_true, eq_self]
  refine ⟨fun c1 => ?_, fun c1 => ⟨fun c2 => ?_, fun c2 => ?_⟩⟩
  · refine V_run C b_X6_isAs_24 ?_
    simp only [k_X6_isAs_24, r_nil, r_iconst, r_bipush, r_sipush, r_ldc, r_lconst0, r_lconst1, r_ldc2, r_null, r_iload_n, r_iload, r_lload_n, r_lload, r_aload_n, r_aload, r_istore_n, r_istore, r_lstore_n, r_lstore, r_astore_nR, r_astoreR, r_astore_nN, r_astoreN, r_iinc, r_iadd, r_isub, r_imul, r_iand, r_idiv, r_irem, r_ineg, r_ladd, r_lsub, r_lmul, r_lxor, r_ldiv, r_lcmp, r_i2l, r_l2i, r_dup, r_pop, r_dup2, r_ifeq, r_ifne, r_iflt, r_ifge, r_ifgt, r_ifle, r_icmpeq, r_icmpne, r_icmplt, r_icmpge, r_icmpgt, r_icmple, r_acmpne, r_ifnullN, r_ifnullR, r_ifnonnullN, r_ifnonnullR, r_goto, r_getf, r_putf, r_alen, r_iald, r_bald, r_lald, r_aald, r_iast, r_bast, r_last, r_aast, gl_c, s1_d, s2_d, ins_n, ins_c, rm1_n, rm1_c, rm2_n, rm2_c, cat_i, cat_l, cat_r, cat_n, oI_s, oJ_s, oA_r, oA_n, oV_s, mO_s, aI_s, aJ_s, aQ_s, mL_0, mL_1, mL_2, mL_3, mL_4, nth_0, nth_s, rf_s, rf_n, fit_i, fit_r, fit_a, fit_b, fit_b0, fit_b1, Option.toList_some, Option.toList_none, List.cons_append, List.nil_append, List.set_cons_zero, List.set_cons_succ, List.length_cons, List.length_nil, Nat.reduceAdd, Nat.reduceEqDiff, Nat.reduceLT, reduceIte, false_implies, true_implies, not_false_eq_true, not_true_eq_false, true_and, and_true, Nat.zero_add, lv_args, nI_1, Bool.false_eq_true, eq_self]
    exact V_zret C hZ rfl d_X6_isAs_25 (Or.inl rfl) ⟨by rw [bI_no (fun z => c1 z.1)], rfl⟩ ⟨(Nat.le_of_ble_eq_true rfl), (Nat.le_of_ble_eq_true rfl)⟩
  · refine V_run C b_X6_isAs_24 ?_
    simp only [k_X6_isAs_24, r_nil, r_iconst, r_bipush, r_sipush, r_ldc, r_lconst0, r_lconst1, r_ldc2, r_null, r_iload_n, r_iload, r_lload_n, r_lload, r_aload_n, r_aload, r_istore_n, r_istore, r_lstore_n, r_lstore, r_astore_nR, r_astoreR, r_astore_nN, r_astoreN, r_iinc, r_iadd, r_isub, r_imul, r_iand, r_idiv, r_irem, r_ineg, r_ladd, r_lsub, r_lmul, r_lxor, r_ldiv, r_lcmp, r_i2l, r_l2i, r_dup, r_pop, r_dup2, r_ifeq, r_ifne, r_iflt, r_ifge, r_ifgt, r_ifle, r_icmpeq, r_icmpne, r_icmplt, r_icmpge, r_icmpgt, r_icmple, r_acmpne, r_ifnullN, r_ifnullR, r_ifnonnullN, r_ifnonnullR, r_goto, r_getf, r_putf, r_alen, r_iald, r_bald, r_lald, r_aald, r_iast, r_bast, r_last, r_aast, gl_c, s1_d, s2_d, ins_n, ins_c, rm1_n, rm1_c, rm2_n, rm2_c, cat_i, cat_l, cat_r, cat_n, oI_s, oJ_s, oA_r, oA_n, oV_s, mO_s, aI_s, aJ_s, aQ_s, mL_0, mL_1, mL_2, mL_3, mL_4, nth_0, nth_s, rf_s, rf_n, fit_i, fit_r, fit_a, fit_b, fit_b0, fit_b1, Option.toList_some, Option.toList_none, List.cons_append, List.nil_append, List.set_cons_zero, List.set_cons_succ, List.length_cons, List.length_nil, Nat.reduceAdd, Nat.reduceEqDiff, Nat.reduceLT, reduceIte, false_implies, true_implies, not_false_eq_true, not_true_eq_false, true_and, and_true, Nat.zero_add, lv_args, nI_1, Bool.false_eq_true, eq_self]
    exact V_zret C hZ rfl d_X6_isAs_25 (Or.inl rfl) ⟨by rw [bI_no (fun z => c2 z.2)], rfl⟩ ⟨(Nat.le_of_ble_eq_true rfl), (Nat.le_of_ble_eq_true rfl)⟩
  · exact V_zret C hZ rfl d_X6_isAs_25 (Or.inr rfl) ⟨by rw [bI_yes ⟨c1, c2⟩], rfl⟩ ⟨(Nat.le_of_ble_eq_true rfl), (Nat.le_of_ble_eq_true rfl)⟩
end
