/-! ===== keep ===== -/
/-- a layer kept: the first n cells of it -/
def kpP (σ : SG) (g q n : Nat) : SG := fun f k => if f = 6 ∧ lyA g q 0 ≤ k ∧ k < lyA g q 0 + n then σ 3 (1920 * g + (k - lyA g q 0)) else if f = 7 ∧ lyA g q 0 ≤ k ∧ k < lyA g q 0 + n then σ 4 (1920 * g + (k - lyA g q 0)) else σ f k
def kpS (σ : SG) (g q : Nat) : SG := su (kpP σ g q 1920) 8 g (nI (q + 1))
theorem kpP_0 (σ : SG) (g q : Nat) : kpP σ g q 0 = σ := by
  funext f k
  unfold kpP
  rw [if_neg (by omega), if_neg (by omega)]
theorem kpP_row {σ : SG} {g q n f : Nat} (h : f ≠ 6 ∧ f ≠ 7) : kpP σ g q n f = σ f := by
  funext k
  unfold kpP
  rw [if_neg (fun z => h.1 z.1), if_neg (fun z => h.2 z.1)]
theorem kpP_s (σ : SG) (g q n : Nat) : su (su (kpP σ g q n) 6 (lyA g q 0 + n) (σ 3 (1920 * g + n))) 7 (lyA g q 0 + n) (σ 4 (1920 * g + n)) = kpP σ g q (n + 1) := by
  funext f k
  unfold su kpP
  by_cases e : k = lyA g q 0 + n
  · have e2 : k - lyA g q 0 = n := by omega
    by_cases f7 : f = 7
    · rw [if_pos ⟨f7, e⟩, if_neg (by omega), if_pos (by omega), e2]
    · rw [if_neg (fun z => f7 z.1)]
      by_cases f6 : f = 6
      · rw [if_pos ⟨f6, e⟩, if_pos (by omega), e2]
      · rw [if_neg (fun z => f6 z.1), if_neg (fun z => f6 z.1), if_neg (fun z => f7 z.1), if_neg (fun z => f6 z.1), if_neg (fun z => f7 z.1)]
  · rw [if_neg (fun z => e z.2), if_neg (fun z => e z.2)]
    by_cases r : lyA g q 0 ≤ k ∧ k < lyA g q 0 + n
    · have r' : lyA g q 0 ≤ k ∧ k < lyA g q 0 + (n + 1) := by omega
      by_cases f6 : f = 6
      · simp [f6, r.1, r.2, r'.2]
      · by_cases f7 : f = 7
        · simp [f7, r.1, r.2, r'.2]
        · simp [f6, f7]
    · have r' : ¬ (lyA g q 0 ≤ k ∧ k < lyA g q 0 + (n + 1)) := by omega
      rw [if_neg (fun z => r z.2), if_neg (fun z => r z.2), if_neg (fun z => r' z.2), if_neg (fun z => r' z.2)]
theorem kp_row {σ : SG} {g q f : Nat} (h : f ≠ 6 ∧ f ≠ 7 ∧ f ≠ 8) : kpS σ g q f = σ f := by unfold kpS; rw [su_ne h.2.2, kpP_row ⟨h.1, h.2.1⟩]
theorem kp_nt {σ : SG} {g q f : Nat} (h : f ≠ 6 ∧ f ≠ 7 ∧ f ≠ 8) : nt (kpS σ g q) f = nt σ f := by funext k; show (kpS σ g q f k).toNatClampNeg = _; rw [kp_row h]; rfl
theorem kp_ng {σ : SG} {g q : Nat} : ng (kpS σ g q) = ng σ := by unfold ng; rw [kp_nt (by omega)]
theorem kp_nv {σ : SG} {g q : Nat} : nv (kpS σ g q) = nv σ := by unfold nv; rw [kp_nt (by omega)]
theorem kp_nl {σ : SG} {g q : Nat} (hq : q < 20) : nl (kpS σ g q) g = q + 1 := by unfold nl kpS; rw [nt_at]; exact nI_clamp (by omega)
theorem kp_nl' {σ : SG} {g q g' : Nat} (h : g' ≠ g) : nl (kpS σ g q) g' = nl σ g' := by
  unfold nl kpS
  rw [nt_off h]
  show (kpP σ g q 1920 8 g').toNatClampNeg = _
  rw [kpP_row (by omega)]
  rfl
theorem kp_AG {σ : SG} {g q : Nat} : AG σ (kpS σ g q) := ⟨⟨by rw [kp_ng]; exact Nat.le_refl _, by rw [kp_nv]; exact Nat.le_refl _⟩, fun g hg => by rw [kp_row (by omega), kp_row (by omega)]; exact ⟨rfl, rfl⟩, fun n hn f h1 h2 => by rw [kp_row (by omega)]⟩
theorem kp_GI {σ : SG} {g q : Nat} (I : GI σ) : GI (kpS σ g q) := by
  have G : AG σ (kpS σ g q) := kp_AG
  refine ⟨⟨by rw [kp_ng]; exact I.1.1, by rw [kp_ng, kp_row (by omega)]; exact I.1.2⟩, ⟨by rw [kp_nv]; exact I.2.1.1, by rw [kp_nv, kp_row (by omega)]; exact I.2.1.2⟩, fun g hg => ?_, fun n hn => ?_⟩
  · rw [kp_ng] at hg
    exact G.q_GIg I hg
  · rw [kp_nv] at hn
    exact G.q_GIv I hn (by rw [kp_row (by omega)]; exact (I.2.2.2 n hn).2.2.2.2.2.2)
theorem kp_6 {σ : SG} {g q k : Nat} : kpS σ g q 6 k = if lyA g q 0 ≤ k ∧ k < lyA g q 0 + 1920 then σ 3 (1920 * g + (k - lyA g q 0)) else σ 6 k := by
  unfold kpS
  rw [su_ne (by omega)]
  unfold kpP
  by_cases r : lyA g q 0 ≤ k ∧ k < lyA g q 0 + 1920
  · rw [if_pos ⟨rfl, r⟩, if_pos r]
  · rw [if_neg (fun z => r z.2), if_neg (fun z => r z.2), if_neg r]
theorem kp_7 {σ : SG} {g q k : Nat} : kpS σ g q 7 k = if lyA g q 0 ≤ k ∧ k < lyA g q 0 + 1920 then σ 4 (1920 * g + (k - lyA g q 0)) else σ 7 k := by
  unfold kpS
  rw [su_ne (by omega)]
  unfold kpP
  rw [if_neg (by omega)]
  by_cases r : lyA g q 0 ≤ k ∧ k < lyA g q 0 + 1920
  · rw [if_pos ⟨rfl, r⟩, if_pos r]
  · rw [if_neg (fun z => r z.2), if_neg r]
theorem lyA_in {g q g' q' k : Nat} (hq : q < 20) (hq' : q' < 20) (hk : k < 1920) : (lyA g q 0 ≤ lyA g' q' k ∧ lyA g' q' k < lyA g q 0 + 1920) ↔ (g' = g ∧ q' = q) := by
  unfold lyA
  constructor
  · intro ⟨h1, h2⟩
    omega
  · rintro ⟨rfl, rfl⟩
    omega
theorem kp_lyr {σ : SG} {g q g' q' k : Nat} (hq : q < 20) (hq' : q' < 20) (hk : k < 1920) : lyr (kpS σ g q) (lyA g' q' k) = if g' = g ∧ q' = q then cel σ (1920 * g + k) else lyr σ (lyA g' q' k) := by
  unfold lyr
  rw [kp_6, kp_7]
  by_cases e : g' = g ∧ q' = q
  · have r := (lyA_in hq hq' hk).mpr e
    rw [if_pos r, if_pos r, if_pos e]
    obtain ⟨rfl, rfl⟩ := e
    unfold cel
    have e2 : lyA g' q' k - lyA g' q' 0 = k := by unfold lyA; omega
    rw [e2]
  · have r : ¬ (lyA g q 0 ≤ lyA g' q' k ∧ lyA g' q' k < lyA g q 0 + 1920) := fun z => e ((lyA_in hq hq' hk).mp z)
    rw [if_neg r, if_neg r, if_neg e]
theorem kp_BI {σ : SG} {g : Nat} (I : GI σ) (b : BI σ) (hg : g < ng σ) (h20 : nl σ g < 20) : BI (kpS σ g (nl σ g)) := by
  have G : AG σ (kpS σ g (nl σ g)) := kp_AG
  obtain ⟨b1, b2, b3, b4, b5, b6⟩ := b
  have h8 := I.1.1
  refine ⟨fun f hf k => ?_, fun g' hg' => ?_, fun g' hg' => ?_, fun p hp hs => ?_, fun p hp hs => ?_, fun g' q k hg' hq hk hs => ?_⟩
  · by_cases e : f = 7
    · subst e
      rw [kp_7]
      split
      · exact b1 4 (by omega) _
      · exact b1 7 (by omega) _
    · rw [kp_row (by omega)]
      exact b1 f hf k
  · rw [kp_ng] at hg'
    by_cases e : g' = g
    · subst e
      rw [kp_nl h20]
      refine ⟨?_, by omega⟩
      unfold kpS
      rw [su_row]
      simp [upd]
    · rw [kp_nl' e]
      have : kpS σ g (nl σ g) 8 g' = σ 8 g' := by
        unfold kpS
        rw [su_row]
        simp [upd, e, kpP_row]
      rw [this]
      exact b2 g' hg'
  · rw [kp_ng] at hg'
    have e : g' ≠ g := by omega
    unfold kpS
    rw [su_row]
    simp [upd, e, kpP_row]
    exact b3 g' hg'
  · rw [kp_row (by omega)]
    refine b4 p hp ?_
    unfold shM at hs ⊢
    rw [kp_row (by omega)] at hs
    exact hs
  · rw [kp_ng, kp_nt (by omega), kp_nt (by omega)] at hs
    rw [kp_row (by omega)]
    exact b5 p hp hs
  · rw [kp_ng] at hg'
    rw [kp_nt (by omega), kp_nt (by omega)] at hs
    rw [kp_7]
    by_cases e : g' = g
    · subst e
      rw [kp_nl h20] at hq
      by_cases e2 : q = nl σ g'
      · rw [if_pos ((lyA_in (by omega) (by omega) hk).mpr ⟨rfl, e2⟩), e2]
        have e3 : lyA g' (nl σ g') k - lyA g' (nl σ g') 0 = k := by unfold lyA; omega
        rw [e3]
        refine b5 _ (by omega) ?_
        have a1 : (1920 * g' + k) / 1920 = g' := by omega
        have a2 : (1920 * g' + k) % 1920 = k := by omega
        rw [a1, a2]
        exact Or.inr hs
      · rw [if_neg (fun z => e2 ((lyA_in (by omega) (by omega) hk).mp z).2)]
        exact b6 g' q k hg' (by omega) hk hs
    · have h20' := (b2 g' hg').2
      rw [kp_nl' e] at hq
      rw [if_neg (fun z => e ((lyA_in (by omega) (by omega) hk).mp z).1)]
      exact b6 g' q k hg' hq hk hs
section
variable {l : Launch} {D : va_G} {Y : Nat → ClassId} {b0 : Nat} {h : AH} {MM : Nat → Prop} {σ : SG} {R : LF} {tt : TT} {A : AF} {T : TF}
theorem k_keep_x (H : HR Y MM σ R tt A T h) (I : GI σ) {x : Int32} (hx : ¬ okG σ x) : Ct l D Y b0 mX5_keep 10 12 4000 [.ref (A 0 0 0), .int x] h noQ (tX xIOB h) := by
  refine Ct_of "GridStore" false rfl (by decide +kernel) (fun z => by cases z) (Nat.le_of_ble_eq_true rfl) ?_
  intro p e s mI args below meth c Z C hno hZ
  refine V_run C b_X5_keep_0 ?_
  simp only [k_X5_keep_0, r_nil, r_iconst, r_bipush, r_sipush, r_ldc, r_lconst0, r_lconst1, r_ldc2, r_null, r_iload_n, r_iload, r_lload_n, r_lload, r_aload_n, r_aload, r_istore_n, r_istore, r_lstore_n, r_lstore, r_astore_nR, r_astoreR, r_astore_nN, r_astoreN, r_iinc, r_iadd, r_isub, r_imul, r_iand, r_idiv, r_irem, r_ineg, r_ladd, r_lsub, r_lmul, r_lxor, r_ldiv, r_lcmp, r_i2l, r_l2i, r_dup, r_pop, r_dup2, r_ifeq, r_ifne, r_iflt, r_ifge, r_ifgt, r_ifle, r_icmpeq, r_icmpne, r_icmplt, r_icmpge, r_icmpgt, r_icmple, r_acmpne, r_ifnullN, r_ifnullR, r_ifnonnullN, r_ifnonnullR, r_goto, r_getf, r_putf, r_alen, r_iald, r_bald, r_lald, r_aald, r_iast, r_bast, r_last, r_aast, gl_c, s1_d, s2_d, ins_n, ins_c, rm1_n, rm1_c, rm2_n, rm2_c, cat_i, cat_l, cat_r, cat_n, oI_t, oJ_t, oA_t, oA_u, oV_t, mO_s, aI_s, aJ_s, aQ_s, mL_0, mL_1, mL_2, mL_3, mL_4, nth_0, nth_s, rf_s, rf_n, fit_i, fit_r, fit_a, fit_b, fit_b0, fit_b1, Option.toList_some, Option.toList_none, List.cons_append, List.nil_append, List.set_cons_zero, List.set_cons_succ, List.length_cons, List.length_nil, Nat.reduceAdd, Nat.reduceEqDiff, Nat.reduceLT, reduceIte, false_implies, true_implies, not_false_eq_true, not_true_eq_false, true_and, and_true, Nat.zero_add, lv_args, nI_1, Bool.false_eq_true, eq_self]
  refine V_callV C c_X5_106 d_X5_keep_2 (k_gridOf_x H I hx) rfl rfl (H.c0) rfl (Nat.le_of_ble_eq_true rfl) ⟨(Nat.le_of_ble_eq_true rfl), (Nat.le_of_ble_eq_true rfl)⟩ (Nat.le_of_ble_eq_true rfl) ?_ (fun _ _ z => z.elim)
  rintro _ _ ⟨rfl, rfl⟩
  exact VX_out C hZ hno ⟨rfl, rfl⟩ ⟨(Nat.le_of_ble_eq_true rfl), (Nat.le_of_ble_eq_true rfl)⟩
theorem k_keep_f (H : HR Y MM σ R tt A T h) (I : GI σ) (S : CS σ R) {g : Nat} (hg : g < ng σ) (h20 : nl σ g = 20) : Ct l D Y b0 mX5_keep 10 12 4000 [.ref (A 0 0 0), .int (nI g)] h (sq Y MM (A 0 0 0) σ h (.int (-1))) noX := by
  refine Ct_of "GridStore" false rfl (by decide +kernel) (fun z => by cases z) (Nat.le_of_ble_eq_true rfl) ?_
  intro p e s mI args below meth c Z C hno hZ
  obtain ⟨w1, w2⟩ := I.b1 hg
  have h6 : nt σ 1 g * nt σ 2 g ≤ 48 * 40 := Nat.mul_le_mul w1 w2
  have c9 := H.c9 hg
  rw [h20] at c9
  refine V_run C b_X5_keep_0 ?_
  simp only [k_X5_keep_0, r_nil, r_iconst, r_bipush, r_sipush, r_ldc, r_lconst0, r_lconst1, r_ldc2, r_null, r_iload_n, r_iload, r_lload_n, r_lload, r_aload_n, r_aload, r_istore_n, r_istore, r_lstore_n, r_lstore, r_astore_nR, r_astoreR, r_astore_nN, r_astoreN, r_iinc, r_iadd, r_isub, r_imul, r_iand, r_idiv, r_irem, r_ineg, r_ladd, r_lsub, r_lmul, r_lxor, r_ldiv, r_lcmp, r_i2l, r_l2i, r_dup, r_pop, r_dup2, r_ifeq, r_ifne, r_iflt, r_ifge, r_ifgt, r_ifle, r_icmpeq, r_icmpne, r_icmplt, r_icmpge, r_icmpgt, r_icmple, r_acmpne, r_ifnullN, r_ifnullR, r_ifnonnullN, r_ifnonnullR, r_goto, r_getf, r_putf, r_alen, r_iald, r_bald, r_lald, r_aald, r_iast, r_bast, r_last, r_aast, gl_c, s1_d, s2_d, ins_n, ins_c, rm1_n, rm1_c, rm2_n, rm2_c, cat_i, cat_l, cat_r, cat_n, oI_t, oJ_t, oA_t, oA_u, oV_t, mO_s, aI_s, aJ_s, aQ_s, mL_0, mL_1, mL_2, mL_3, mL_4, nth_0, nth_s, rf_s, rf_n, fit_i, fit_r, fit_a, fit_b, fit_b0, fit_b1, Option.toList_some, Option.toList_none, List.cons_append, List.nil_append, List.set_cons_zero, List.set_cons_succ, List.length_cons, List.length_nil, Nat.reduceAdd, Nat.reduceEqDiff, Nat.reduceLT, reduceIte, false_implies, true_implies, not_false_eq_true, not_true_eq_false, true_and, and_true, Nat.zero_add, lv_args, nI_1, Bool.false_eq_true, eq_self]
  refine V_callV C c_X5_106 d_X5_keep_2 (k_gridOf H I hg) rfl rfl (H.c0) rfl (Nat.le_of_ble_eq_true rfl) ⟨(Nat.le_of_ble_eq_true rfl), (Nat.le_of_ble_eq_true rfl)⟩ (Nat.le_of_ble_eq_true rfl) (fun _ _ z => z.elim) ?_
  rintro _ _ ⟨rfl, rfl⟩
  refine V_callV C c_X5_121 d_X5_keep_5 (s_addLayer_full c9 (H.c12 hg)) rfl rfl c9 rfl (Nat.le_of_ble_eq_true rfl) ⟨(Nat.le_of_ble_eq_true rfl), by omega⟩ (Nat.le_of_ble_eq_true rfl) (fun _ _ z => z.elim) ?_
  rintro _ _ ⟨rfl, rfl⟩
  exact V_iret C hZ rfl d_X5_keep_8 ⟨rfl, SX.same H S⟩ ⟨(Nat.le_of_ble_eq_true rfl), by omega⟩
theorem k_keep (H : HR Y MM σ R tt A T h) (I : GI σ) (S : CS σ R) (b : BI σ) (HM : ∀ a, MM a → ¬ h a = none) {g : Nat} (hg : g < ng σ) (h20 : nl σ g < 20) : Ct l D Y b0 mX5_keep 10 12 4000 [.ref (A 0 0 0), .int (nI g)] h (sq Y MM (A 0 0 0) (kpS σ g (nl σ g)) h (.int (nI (nl σ g)))) noX := by
  refine Ct_of "GridStore" false rfl (by decide +kernel) (fun z => by cases z) (Nat.le_of_ble_eq_true rfl) ?_
  intro p e s mI args below meth c Z C hno hZ
  obtain ⟨w1, w2⟩ := I.b1 hg
  have h6 : nt σ 1 g * nt σ 2 g ≤ 48 * 40 := Nat.mul_le_mul w1 w2
  have G : AG σ (kpS σ g (nl σ g)) := kp_AG
  refine V_run C b_X5_keep_0 ?_
  simp only [k_X5_keep_0, r_nil, r_iconst, r_bipush, r_sipush, r_ldc, r_lconst0, r_lconst1, r_ldc2, r_null, r_iload_n, r_iload, r_lload_n, r_lload, r_aload_n, r_aload, r_istore_n, r_istore, r_lstore_n, r_lstore, r_astore_nR, r_astoreR, r_astore_nN, r_astoreN, r_iinc, r_iadd, r_isub, r_imul, r_iand, r_idiv, r_irem, r_ineg, r_ladd, r_lsub, r_lmul, r_lxor, r_ldiv, r_lcmp, r_i2l, r_l2i, r_dup, r_pop, r_dup2, r_ifeq, r_ifne, r_iflt, r_ifge, r_ifgt, r_ifle, r_icmpeq, r_icmpne, r_icmplt, r_icmpge, r_icmpgt, r_icmple, r_acmpne, r_ifnullN, r_ifnullR, r_ifnonnullN, r_ifnonnullR, r_goto, r_getf, r_putf, r_alen, r_iald, r_bald, r_lald, r_aald, r_iast, r_bast, r_last, r_aast, gl_c, s1_d, s2_d, ins_n, ins_c, rm1_n, rm1_c, rm2_n, rm2_c, cat_i, cat_l, cat_r, cat_n, oI_t, oJ_t, oA_t, oA_u, oV_t, mO_s, aI_s, aJ_s, aQ_s, mL_0, mL_1, mL_2, mL_3, mL_4, nth_0, nth_s, rf_s, rf_n, fit_i, fit_r, fit_a, fit_b, fit_b0, fit_b1, Option.toList_some, Option.toList_none, List.cons_append, List.nil_append, List.set_cons_zero, List.set_cons_succ, List.length_cons, List.length_nil, Nat.reduceAdd, Nat.reduceEqDiff, Nat.reduceLT, reduceIte, false_implies, true_implies, not_false_eq_true, not_true_eq_false, true_and, and_true, Nat.zero_add, lv_args, nI_1, Bool.false_eq_true, eq_self]
  refine V_callV C c_X5_106 d_X5_keep_2 (k_gridOf H I hg) rfl rfl (H.c0) rfl (Nat.le_of_ble_eq_true rfl) ⟨(Nat.le_of_ble_eq_true rfl), (Nat.le_of_ble_eq_true rfl)⟩ (Nat.le_of_ble_eq_true rfl) (fun _ _ z => z.elim) ?_
  rintro _ _ ⟨rfl, rfl⟩
  refine V_callV C c_X5_121 d_X5_keep_5 (s_addLayer (H.c9 hg) (H.c12 hg) (H.c10 hg) (H.c11 hg) h20) rfl rfl (H.c9 hg) rfl (Nat.le_of_ble_eq_true rfl) ⟨(Nat.le_of_ble_eq_true rfl), by omega⟩ (Nat.le_of_ble_eq_true rfl) (fun _ _ z => z.elim) ?_
  rintro _ _ ⟨rfl, q2, q3, ⟨hq2, hq3⟩, m23, rfl⟩
  have f2 : ∀ k i j, lv σ k i j → A k i j ≠ q2 := fun k i j hl => ne_of_none (H k i j hl).1 hq2
  have f3 : ∀ k i j, lv σ k i j → A k i j ≠ q3 := fun k i j hl => ne_of_none (H k i j hl).1 hq3
  have L9 : lv σ 9 g 0 := lv_g (by omega) (by omega) hg
  have L12 : lv σ 12 g 0 := lv_g (by omega) (by omega) hg
  refine V_iret C hZ rfl d_X5_keep_8 ⟨rfl, upR R g (nl σ g + 1) (R g 0), tt, (fun k i j => if i = g ∧ j = nl σ g ∧ 13 ≤ k ∧ k ≤ 14 then (if k = 13 then q2 else q3) else A k i j), (fun a => if a = q2 then (13, g, nl σ g) else if a = q3 then (14, g, nl σ g) else T a), ⟨?_, ?_, ?_⟩, ?_⟩ ⟨(Nat.le_of_ble_eq_true rfl), by omega⟩
  · have hA : ∀ k i j, lv σ k i j → (if i = g ∧ j = nl σ g ∧ 13 ≤ k ∧ k ≤ 14 then (if k = 13 then q2 else q3) else A k i j) = A k i j := fun k i j hl => if_neg (fun z => by have := lvj hl (by omega) (by omega); rw [z.1] at this; omega)
    refine HR.grow H (fun k i j hl' hl => ?_) (fun k i j hl' hl => ?_)
    · obtain ⟨e1, e2, e3⟩ := H k i j hl
      refine ⟨hA k i j hl, ?_, ?_⟩
      · try dsimp only
        rw [if_neg (f2 k i j hl), if_neg (f3 k i j hl)]
        exact e2
      · by_cases k9 : k = 9 ∧ i = g
        · obtain ⟨rfl, rfl⟩ := k9
          obtain rfl : j = 0 := by rcases hl with q | q | q | q <;> omega
          rw [up_same]
          simp only [kx, reduceIte, Nat.reduceEqDiff, Nat.reduceLeDiff, false_and, and_false, kp_nl h20, kp_nt (σ := σ) (g := i) (q := nl σ i) (f := 1) (by omega), kp_nt (σ := σ) (g := i) (q := nl σ i) (f := 2) (by omega)]
        · have n9 : A k i j ≠ A 9 g 0 := fun z => by
            rw [z, (H 9 g 0 L9).2.1] at e2
            cases e2
            exact k9 ⟨rfl, rfl⟩
          rw [up_ne n9]
          by_cases k12 : k = 12 ∧ i = g
          · obtain ⟨rfl, rfl⟩ := k12
            obtain rfl : j = 0 := by rcases hl with q | q | q | q <;> omega
            rw [up_same]
            simp only [kx, reduceIte, Nat.reduceEqDiff, kp_nl h20]
            have : va_up (fun q => if q < nl σ i then some (A 13 i q) else none) (nl σ i) (some q2) = fun q => if q < nl σ i + 1 then some (if True ∧ q = nl σ i ∧ 13 ≤ 13 ∧ 13 ≤ 14 then q2 else A 13 i q) else none := by
              funext q
              unfold va_up
              by_cases z : q = nl σ i
              · rw [if_pos z, if_pos (by omega), if_pos ⟨trivial, z, by omega, by omega⟩]
              · rw [if_neg z]
                show (if q < nl σ i then some (A 13 i q) else none) = _
                by_cases z2 : q < nl σ i
                · rw [if_pos z2, if_pos (by omega), if_neg (fun y => z y.2.1)]
                · rw [if_neg z2, if_neg (by omega)]
            rw [this]
          · have n12 : A k i j ≠ A 12 g 0 := fun z => by
              rw [z, (H 12 g 0 L12).2.1] at e2
              cases e2
              exact k12 ⟨rfl, rfl⟩
            rw [up_ne n12, up_ne (f2 k i j hl), up_ne (f3 k i j hl), e1]
            rw [kx_AG (R := R) (tt := tt) (A := A) G I hA hl rfl (fun _ => ⟨kp_ng, kp_nv⟩) (fun _ => kp_row (by omega)) (fun _ => kp_ng) (fun _ => kp_nv) (fun q => kp_nl' (fun z => by rcases q with q | q; exact k9 ⟨q, z⟩; exact k12 ⟨q, z⟩)) (fun _ => upR_ne (fun z => by omega)) (fun q => upR_ne (fun z => by have := lvj hl (by omega) (by omega); rw [z.1] at this; omega)) (fun _ => by rw [kp_row (by omega)])]
    · have hk : i = g ∧ j = nl σ g ∧ 13 ≤ k ∧ k ≤ 14 := by
        rcases hl' with q | q | q | q
        · exact absurd (Or.inl q) hl
        · rw [kp_ng] at q
          exact absurd (Or.inr (Or.inl q)) hl
        · rw [kp_ng] at q
          by_cases z : i = g
          · subst z
            rw [kp_nl h20] at q
            refine ⟨rfl, ?_, q.1, q.2.1⟩
            have : ¬ j < nl σ i := fun z => hl (Or.inr (Or.inr (Or.inl ⟨q.1, q.2.1, q.2.2.1, z⟩)))
            omega
          · rw [kp_nl' z] at q
            exact absurd (Or.inr (Or.inr (Or.inl q))) hl
        · rw [kp_nv] at q
          exact absurd (Or.inr (Or.inr (Or.inr q))) hl
      obtain ⟨rfl, rfl, hk1, hk2⟩ := hk
      have nm : ∀ q, h q = none → ¬ MM q := fun q hq z => HM q z hq
      have nA : ∀ q, h q = none → q ≠ A 9 i 0 ∧ q ≠ A 12 i 0 := fun q hq => ⟨fun z => (by rw [z, H.c9 hg] at hq; cases hq), fun z => (by rw [z, H.c12 hg] at hq; cases hq)⟩
      rcases (by omega : k = 13 ∨ k = 14) with rfl | rfl
      · simp only [reduceIte, Nat.reduceEqDiff, Nat.reduceLeDiff, and_self, kx, kp_nt (σ := σ) (g := i) (q := nl σ i) (f := 1) (by omega), kp_nt (σ := σ) (g := i) (q := nl σ i) (f := 2) (by omega)]
        refine ⟨?_, trivial, nm _ hq2⟩
        rw [up_ne (nA _ hq2).1, up_ne (nA _ hq2).2, up_same]
      · simp only [reduceIte, Nat.reduceEqDiff, Nat.reduceLeDiff, and_self, kx, wH, kp_nt (σ := σ) (g := i) (q := nl σ i) (f := 1) (by omega), kp_nt (σ := σ) (g := i) (q := nl σ i) (f := 2) (by omega), if_neg (Ne.symm m23), upR_same]
        refine ⟨?_, trivial, nm _ hq3⟩
        rw [up_ne (nA _ hq3).1, up_ne (nA _ hq3).2, up_ne (Ne.symm m23), up_same]
  · refine ⟨fun g' x y hg' hx hy => ?_, fun g' q x y hg' hq hx hy => ?_⟩
    · rw [kp_ng] at hg'
      rw [kp_nt (by omega)] at hx hy ⊢
      rw [upR_ne (fun z => by omega), S.1 g' x y hg' hx hy]
      unfold cel
      rw [kp_row (by omega), kp_row (by omega)]
    · rw [kp_ng] at hg'
      rw [kp_nt (by omega)] at hx hy ⊢
      obtain ⟨w3, w4⟩ := I.b1 hg'
      have h20' := (b.2.1 g' hg').2
      by_cases e : g' = g ∧ q = nl σ g
      · obtain ⟨rfl, rfl⟩ := e
        rw [upR_same, S.1 g' x y hg' hx hy, kp_lyr h20 h20 (by omega), if_pos ⟨rfl, rfl⟩, Nat.add_assoc]
      · have hq' : q < nl σ g' := by
          by_cases z : g' = g
          · subst z
            rw [kp_nl h20] at hq
            omega
          · rw [kp_nl' z] at hq
            exact hq
        rw [upR_ne (fun z => e ⟨z.1, by omega⟩), S.2 g' q x y hg' hq' hx hy, kp_lyr h20 (by omega) (by omega), if_neg e]
  · exact if_neg (fun z => by omega)
  · intro a ha
    have h0 := HM a ha
    have ne : ∀ q, h q = none → a ≠ q := fun q hq z => h0 (by rw [z]; exact hq)
    rw [up_ne (fun z => (H 9 g 0 L9).2.2 (by rw [← z]; exact ha)), up_ne (fun z => (H 12 g 0 L12).2.2 (by rw [← z]; exact ha)), up_ne (ne _ hq2), up_ne (ne _ hq3)]
end
