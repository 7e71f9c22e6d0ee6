/-! ===== view ===== -/
def vwS (σ : SG) (i x y w hh q : Nat) (fl : Bool) : SG := su (su (su (su (su (su (su (su σ 10 (nv σ) (nI i)) 11 (nv σ) (nI x)) 12 (nv σ) (nI y)) 13 (nv σ) (nI w)) 14 (nv σ) (nI hh)) 15 (nv σ) (nI q)) 16 (nv σ) (bI fl)) 18 0 (nI (nv σ + 1))
/-- no view that isn't there is closed -/
def BV (σ : SG) : Prop := ∀ n, nv σ ≤ n → σ 17 n = 0
section
variable {σ : SG} {i x y w hh q : Nat} {fl : Bool}
theorem vw_row {f : Nat} (h : f < 10 ∨ f = 17 ∨ 18 < f) : vwS σ i x y w hh q fl f = σ f := by
  unfold vwS
  rw [su_ne (by omega), su_ne (by omega), su_ne (by omega), su_ne (by omega), su_ne (by omega), su_ne (by omega), su_ne (by omega), su_ne (by omega)]
theorem vw_off {f n : Nat} (h : f ≠ 18) (hn : n ≠ nv σ) : vwS σ i x y w hh q fl f n = σ f n := by
  unfold vwS
  rw [su_ne h]
  simp [su, hn]
theorem vw_nt {f : Nat} (h : f < 10 ∨ f = 17 ∨ 18 < f) : nt (vwS σ i x y w hh q fl) f = nt σ f := by funext k; show (vwS σ i x y w hh q fl f k).toNatClampNeg = _; rw [vw_row h]; rfl
theorem vw_ng : ng (vwS σ i x y w hh q fl) = ng σ := by unfold ng; rw [vw_nt (by omega)]
theorem vw_nl {g : Nat} : nl (vwS σ i x y w hh q fl) g = nl σ g := by unfold nl; rw [vw_nt (by omega)]
theorem vw_nv (h : nv σ < 12) : nv (vwS σ i x y w hh q fl) = nv σ + 1 := by
  unfold vwS
  show nt _ 18 0 = _
  rw [nt_at]
  exact nI_clamp (by omega)
theorem vw_10 : vwS σ i x y w hh q fl 10 (nv σ) = nI i := by simp [vwS, su]
theorem vw_11 : vwS σ i x y w hh q fl 11 (nv σ) = nI x := by simp [vwS, su]
theorem vw_12 : vwS σ i x y w hh q fl 12 (nv σ) = nI y := by simp [vwS, su]
theorem vw_13 : vwS σ i x y w hh q fl 13 (nv σ) = nI w := by simp [vwS, su]
theorem vw_14 : vwS σ i x y w hh q fl 14 (nv σ) = nI hh := by simp [vwS, su]
theorem vw_15 : vwS σ i x y w hh q fl 15 (nv σ) = nI q := by simp [vwS, su]
theorem vw_16 : vwS σ i x y w hh q fl 16 (nv σ) = bI fl := by simp [vwS, su]
theorem vw_18 : vwS σ i x y w hh q fl 18 0 = nI (nv σ + 1) := by simp [vwS, su]
theorem vw_t {f v : Nat} (hv : v < 100000) (e : vwS σ i x y w hh q fl f (nv σ) = nI v) : nt (vwS σ i x y w hh q fl) f (nv σ) = v := by
  show (vwS σ i x y w hh q fl f (nv σ)).toNatClampNeg = v
  rw [e]
  exact nI_clamp (by omega)
theorem vw_AG (h : nv σ < 12) : AG σ (vwS σ i x y w hh q fl) := ⟨⟨by rw [vw_ng]; exact Nat.le_refl _, by rw [vw_nv h]; omega⟩, fun g hg => by rw [vw_row (by omega), vw_row (by omega)]; exact ⟨rfl, rfl⟩, fun n hn f h1 h2 => vw_off (by omega) (by omega)⟩
theorem vw_GI (I : GI σ) (V : BV σ) (h : nv σ < 12) (hi : vI σ i) (h1 : 1 ≤ w) (h2 : 1 ≤ hh) (hx : x + w ≤ zW σ i) (hy : y + hh ≤ zH σ i) (hq : q ≤ 3) : GI (vwS σ i x y w hh q fl) := by
  have G : AG σ (vwS σ i x y w hh q fl) := vw_AG h
  obtain ⟨w1, w2⟩ := zb I hi
  have hi2 := vI_lt I hi
  refine ⟨⟨by rw [vw_ng]; exact I.1.1, by rw [vw_ng, vw_row (by omega)]; exact I.1.2⟩, ⟨by rw [vw_nv h]; omega, by rw [vw_nv h, vw_18]⟩, fun g hg => ?_, fun n hn => ?_⟩
  · rw [vw_ng] at hg
    exact G.q_GIg I hg
  · rw [vw_nv h] at hn
    by_cases e : n = nv σ
    · subst e
      unfold GIv
      rw [vw_t (f := 10) (by omega) vw_10, vw_t (f := 11) (by omega) vw_11, vw_t (f := 12) (by omega) vw_12, vw_t (f := 13) (by omega) vw_13, vw_t (f := 14) (by omega) vw_14, vw_t (f := 15) (by omega) vw_15, vw_10, vw_11, vw_12, vw_13, vw_14, vw_15, vw_16, vw_ng, G.q_zW I hi, G.q_zH I hi, vw_row (f := 17) (by omega)]
      exact ⟨⟨rfl, rfl, rfl, rfl, rfl, rfl⟩, hi, ⟨h1, hx⟩, ⟨h2, hy⟩, hq, bI_01 fl, Or.inl (V _ (Nat.le_refl _))⟩
    · exact G.q_GIv I (by omega) (by rw [vw_row (by omega)]; exact (I.2.2.2 n (by omega)).2.2.2.2.2.2)
theorem vw_BI (b : BI σ) : BI (vwS σ i x y w hh q fl) := by
  obtain ⟨b1, b2, b3, b4, b5, b6⟩ := b
  refine ⟨fun f hf k => ?_, fun g hg => ?_, fun g hg => ?_, fun p hp hs => ?_, fun p hp hs => ?_, fun g r k hg hr hk hs => ?_⟩
  · by_cases e : f = 16
    · subst e
      by_cases e2 : k = nv σ
      · rw [e2, vw_16]; exact bI_01 fl
      · rw [vw_off (by omega) e2]; exact b1 16 hf k
    · rw [vw_row (by omega)]; exact b1 f hf k
  · rw [vw_ng] at hg
    rw [vw_nl, vw_row (by omega)]
    exact b2 g hg
  · rw [vw_ng] at hg
    rw [vw_row (by omega)]
    exact b3 g hg
  · rw [vw_row (by omega)]
    refine b4 p hp ?_
    unfold shM at hs ⊢
    rw [vw_row (by omega)] at hs
    exact hs
  · rw [vw_ng, vw_nt (by omega), vw_nt (by omega)] at hs
    rw [vw_row (by omega)]
    exact b5 p hp hs
  · rw [vw_ng] at hg
    rw [vw_nl] at hr
    rw [vw_nt (by omega), vw_nt (by omega)] at hs
    rw [vw_row (by omega)]
    exact b6 g r k hg hr hk hs
theorem vw_BV (V : BV σ) (h : nv σ < 12) : BV (vwS σ i x y w hh q fl) := fun n hn => by
  rw [vw_nv h] at hn
  rw [vw_row (by omega)]
  exact V n (by omega)
end
/-- fuel that is enough -/
theorem aw_fuel {σ : SG} (I : GI σ) : ∀ f f' i, vI σ i → (i < 100 ∨ i - 100 < f) → (i < 100 ∨ i - 100 < f') → awF σ f i = awF σ f' i
  | 0, 0, _, _, _, _ => rfl
  | 0, f' + 1, i, hv, h1, h2 => by
    have hi : i < 100 := by omega
    unfold awF
    rw [if_pos hi]
  | f + 1, 0, i, hv, h1, h2 => by
    have hi : i < 100 := by omega
    unfold awF
    rw [if_pos hi]
  | f + 1, f' + 1, i, hv, h1, h2 => by
    unfold awF
    by_cases hi : i < 100
    · rw [if_pos hi, if_pos hi]
    · rw [if_neg hi, if_neg hi, aw_fuel I f f' _ (vI_up I hv hi) (vI_rk I hv hi h1) (vI_rk I hv hi h2)]
theorem ro_fuel {σ : SG} (I : GI σ) : ∀ f f' i, vI σ i → (i < 100 ∨ i - 100 < f) → (i < 100 ∨ i - 100 < f') → roF σ f i = roF σ f' i
  | 0, 0, _, _, _, _ => rfl
  | 0, f' + 1, i, hv, h1, h2 => by
    have hi : i < 100 := by omega
    unfold roF
    rw [if_pos hi]
  | f + 1, 0, i, hv, h1, h2 => by
    have hi : i < 100 := by omega
    unfold roF
    rw [if_pos hi]
  | f + 1, f' + 1, i, hv, h1, h2 => by
    unfold roF
    by_cases hi : i < 100
    · rw [if_pos hi, if_pos hi]
    · rw [if_neg hi, if_neg hi, ro_fuel I f f' _ (vI_up I hv hi) (vI_rk I hv hi h1) (vI_rk I hv hi h2)]
/-- where the new view lies -/
def vwA (σ : SG) (i x y w hh q : Nat) (fl : Bool) : Nat × Nat × CO := if fl = true then fpA (frd tuA q (w, hh, paA (aw σ i).2.2 x y)) else frd tuA q (w, hh, paA (aw σ i).2.2 x y)
theorem vw_aw {σ : SG} {i x y w hh q : Nat} {fl : Bool} (I : GI σ) (h : nv σ < 12) (hi : vI σ i) (hx : x + w ≤ 48) (hy : y + hh ≤ 48) (hq : q ≤ 3) : aw (vwS σ i x y w hh q fl) (100 + nv σ) = vwA σ i x y w hh q fl ∧ ro (vwS σ i x y w hh q fl) (100 + nv σ) = ro σ i := by
  have G : AG σ (vwS σ i x y w hh q fl) := vw_AG h
  have hi2 := vI_lt I hi
  have hi3 : i < 100 ∨ i - 100 < 12 := by omega
  have e0 : 100 + nv σ - 100 = nv σ := by omega
  have n0 : ¬ 100 + nv σ < 100 := by omega
  constructor
  · show awF _ (12 + 1) _ = _
    unfold awF
    rw [if_neg n0, e0, vw_t (f := 10) (by omega) vw_10, vw_t (f := 11) (by omega) vw_11, vw_t (f := 12) (by omega) vw_12, vw_t (f := 13) (by omega) vw_13, vw_t (f := 14) (by omega) vw_14, vw_t (f := 15) (by omega) vw_15, vw_16, G.q_awF I 12 i hi hi3, aw_fuel I 12 13 i hi hi3 (by omega)]
    unfold vwA
    cases fl
    · rw [if_pos (show bI false = 0 from rfl), if_neg (by decide)]; rfl
    · rw [if_neg (show ¬ bI true = 0 by decide), if_pos rfl]; rfl
  · show roF _ (12 + 1) _ = _
    unfold roF
    rw [if_neg n0, e0, vw_t (f := 10) (by omega) vw_10, G.q_roF I 12 i hi, ro_fuel I 12 13 i hi hi3 (by omega)]
    rfl
section
variable {l : Launch} {D : va_G} {Y : Nat → ClassId} {b0 : Nat} {h : AH} {MM : Nat → Prop} {σ : SG} {R : LF} {tt : TT} {A : AF} {T : TF}
theorem k_view_x (H : HR Y MM σ R tt A T h) (I : GI σ) {x : Int32} (hx : ¬ okI σ x) (z y w hq q f : Int32) : Ct l D Y b0 mX5_view 10 12 4000 [.ref (A 0 0 0), .int x, .int z, .int y, .int w, .int hq, .int q, .int f] h noQ (tX xIOB h) := by
  refine Ct_of "GridStore" false rfl (by decide +kernel) (fun z => by cases z) (Nat.le_of_ble_eq_true rfl) ?_
  intro p e s mI args below meth c Z C hno hZ
  refine V_run C b_X5_view_0 ?_
  simp only [k_X5_view_0, r_nil, r_iconst, r_bipush, r_sipush, r_ldc, r_lconst0, r_lconst1, r_ldc2, r_null, r_iload_n, r_iload, r_lload_n, r_lload, r_aload_n, r_aload, r_istore_n, r_istore, r_lstore_n, r_lstore, r_astore_nR, r_astoreR, r_astore_nN, r_astoreN, r_iinc, r_iadd, r_isub, r_imul, r_iand, r_idiv, r_irem, r_ineg, r_ladd, r_lsub, r_lmul, r_lxor, r_ldiv, r_lcmp, r_i2l, r_l2i, r_dup, r_pop, r_dup2, r_ifeq, r_ifne, r_iflt, r_ifge, r_ifgt, r_ifle, r_icmpeq, r_icmpne, r_icmplt, r_icmpge, r_icmpgt, r_icmple, r_acmpne, r_ifnullN, r_ifnullR, r_ifnonnullN, r_ifnonnullR, r_goto, r_getf, r_putf, r_alen, r_iald, r_bald, r_lald, r_aald, r_iast, r_bast, r_last, r_aast, gl_c, s1_d, s2_d, ins_n, ins_c, rm1_n, rm1_c, rm2_n, rm2_c, cat_i, cat_l, cat_r, cat_n, oI_t, oJ_t, oA_t, oA_u, oV_t, mO_s, aI_s, aJ_s, aQ_s, mL_0, mL_1, mL_2, mL_3, mL_4, nth_0, nth_s, rf_s, rf_n, fit_i, fit_r, fit_a, fit_b, fit_b0, fit_b1, Option.toList_some, Option.toList_none, List.cons_append, List.nil_append, List.set_cons_zero, List.set_cons_succ, List.length_cons, List.length_nil, Nat.reduceAdd, Nat.reduceEqDiff, Nat.reduceLT, reduceIte, false_implies, true_implies, not_false_eq_true, not_true_eq_false, true_and, and_true, Nat.zero_add, lv_args, nI_1, Bool.false_eq_true, eq_self]
  refine V_callV C c_X5_53 d_X5_view_2 (k_windowOf_x H I hx) rfl rfl (H.c0) rfl (Nat.le_of_ble_eq_true rfl) ⟨(Nat.le_of_ble_eq_true rfl), (Nat.le_of_ble_eq_true rfl)⟩ (Nat.le_of_ble_eq_true rfl) ?_ (fun _ _ z => z.elim)
  rintro _ _ ⟨rfl, rfl⟩
  exact VX_out C hZ hno ⟨rfl, rfl⟩ ⟨(Nat.le_of_ble_eq_true rfl), (Nat.le_of_ble_eq_true rfl)⟩
theorem k_view_r (H : HR Y MM σ R tt A T h) (I : GI σ) {i : Nat} (hi : vI σ i) {x y w hq : Int32} (hr : ¬ okR σ i x y w hq) (q f : Int32) : Ct l D Y b0 mX5_view 10 12 4000 [.ref (A 0 0 0), .int (nI i), .int x, .int y, .int w, .int hq, .int q, .int f] h noQ (tX xIAE h) := by
  refine Ct_of "GridStore" false rfl (by decide +kernel) (fun z => by cases z) (Nat.le_of_ble_eq_true rfl) ?_
  intro p e s mI args below meth c Z C hno hZ
  obtain ⟨w1, w2⟩ := zb I hi
  refine V_run C b_X5_view_0 ?_
  simp only [k_X5_view_0, r_nil, r_iconst, r_bipush, r_sipush, r_ldc, r_lconst0, r_lconst1, r_ldc2, r_null, r_iload_n, r_iload, r_lload_n, r_lload, r_aload_n, r_aload, r_istore_n, r_istore, r_lstore_n, r_lstore, r_astore_nR, r_astoreR, r_astore_nN, r_astoreN, r_iinc, r_iadd, r_isub, r_imul, r_iand, r_idiv, r_irem, r_ineg, r_ladd, r_lsub, r_lmul, r_lxor, r_ldiv, r_lcmp, r_i2l, r_l2i, r_dup, r_pop, r_dup2, r_ifeq, r_ifne, r_iflt, r_ifge, r_ifgt, r_ifle, r_icmpeq, r_icmpne, r_icmplt, r_icmpge, r_icmpgt, r_icmple, r_acmpne, r_ifnullN, r_ifnullR, r_ifnonnullN, r_ifnonnullR, r_goto, r_getf, r_putf, r_alen, r_iald, r_bald, r_lald, r_aald, r_iast, r_bast, r_last, r_aast, gl_c, s1_d, s2_d, ins_n, ins_c, rm1_n, rm1_c, rm2_n, rm2_c, cat_i, cat_l, cat_r, cat_n, oI_t, oJ_t, oA_t, oA_u, oV_t, mO_s, aI_s, aJ_s, aQ_s, mL_0, mL_1, mL_2, mL_3, mL_4, nth_0, nth_s, rf_s, rf_n, fit_i, fit_r, fit_a, fit_b, fit_b0, fit_b1, Option.toList_some, Option.toList_none, List.cons_append, List.nil_append, List.set_cons_zero, List.set_cons_succ, List.length_cons, List.length_nil, Nat.reduceAdd, Nat.reduceEqDiff, Nat.reduceLT, reduceIte, false_implies, true_implies, not_false_eq_true, not_true_eq_false, true_and, and_true, Nat.zero_add, lv_args, nI_1, Bool.false_eq_true, eq_self]
  refine V_callV C c_X5_53 d_X5_view_2 (k_windowOf H I hi) rfl rfl (H.c0) rfl (Nat.le_of_ble_eq_true rfl) ⟨(Nat.le_of_ble_eq_true rfl), (Nat.le_of_ble_eq_true rfl)⟩ (Nat.le_of_ble_eq_true rfl) (fun _ _ z => z.elim) ?_
  rintro _ _ ⟨rfl, rfl⟩
  refine V_run C b_X5_view_5 ?_
  simp only [k_X5_view_5, r_nil, r_iconst, r_bipush, r_sipush, r_ldc, r_lconst0, r_lconst1, r_ldc2, r_null, r_iload_n, r_iload, r_lload_n, r_lload, r_aload_n, r_aload, r_istore_n, r_istore, r_lstore_n, r_lstore, r_astore_nR, r_astoreR, r_astore_nN, r_astoreN, r_iinc, r_iadd, r_isub, r_imul, r_iand, r_idiv, r_irem, r_ineg, r_ladd, r_lsub, r_lmul, r_lxor, r_ldiv, r_lcmp, r_i2l, r_l2i, r_dup, r_pop, r_dup2, r_ifeq, r_ifne, r_iflt, r_ifge, r_ifgt, r_ifle, r_icmpeq, r_icmpne, r_icmplt, r_icmpge, r_icmpgt, r_icmple, r_acmpne, r_ifnullN, r_ifnullR, r_ifnonnullN, r_ifnonnullR, r_goto, r_getf, r_putf, r_alen, r_iald, r_bald, r_lald, r_aald, r_iast, r_bast, r_last, r_aast, gl_c, s1_d, s2_d, ins_n, ins_c, rm1_n, rm1_c, rm2_n, rm2_c, cat_i, cat_l, cat_r, cat_n, oI_t, oJ_t, oA_t, oA_u, oV_t, mO_s, aI_s, aJ_s, aQ_s, mL_0, mL_1, mL_2, mL_3, mL_4, nth_0, nth_s, rf_s, rf_n, fit_i, fit_r, fit_a, fit_b, fit_b0, fit_b1, Option.toList_some, Option.toList_none, List.cons_append, List.nil_append, List.set_cons_zero, List.set_cons_succ, List.length_cons, List.length_nil, Nat.reduceAdd, Nat.reduceEqDiff, Nat.reduceLT, reduceIte, false_implies, true_implies, not_false_eq_true, not_true_eq_false, true_and, and_true, Nat.zero_add, lv_args, nI_1, Bool.false_eq_true, eq_self]
  refine V_callS C c_X5_57 d_X5_view_15 (k_reqRect_x (H.win I hi) w1 w2 (fun z => hr (okR_W.mpr z))) rfl rfl (Nat.le_of_ble_eq_true rfl) ⟨(Nat.le_of_ble_eq_true rfl), (Nat.le_of_ble_eq_true rfl)⟩ (Nat.le_of_ble_eq_true rfl) ?_ (fun _ _ z => z.elim)
  rintro _ _ ⟨rfl, rfl⟩
  exact VX_out C hZ hno ⟨rfl, rfl⟩ ⟨(Nat.le_of_ble_eq_true rfl), (Nat.le_of_ble_eq_true rfl)⟩
theorem k_view_q (H : HR Y MM σ R tt A T h) (I : GI σ) {i : Nat} (hi : vI σ i) {x y w hh : Nat} (hw1 : 1 ≤ w) (hh1 : 1 ≤ hh) (hx : x + w ≤ zW σ i) (hy : y + hh ≤ zH σ i) {q : Int32} (hq : ¬ okN 0 3 q) (f : Int32) : Ct l D Y b0 mX5_view 10 12 4000 [.ref (A 0 0 0), .int (nI i), .int (nI x), .int (nI y), .int (nI w), .int (nI hh), .int q, .int f] h noQ (tX xIAE h) := by
  refine Ct_of "GridStore" false rfl (by decide +kernel) (fun z => by cases z) (Nat.le_of_ble_eq_true rfl) ?_
  intro p e s mI args below meth c Z C hno hZ
  obtain ⟨w1, w2⟩ := zb I hi
  refine V_run C b_X5_view_0 ?_
  simp only [k_X5_view_0, r_nil, r_iconst, r_bipush, r_sipush, r_ldc, r_lconst0, r_lconst1, r_ldc2, r_null, r_iload_n, r_iload, r_lload_n, r_lload, r_aload_n, r_aload, r_istore_n, r_istore, r_lstore_n, r_lstore, r_astore_nR, r_astoreR, r_astore_nN, r_astoreN, r_iinc, r_iadd, r_isub, r_imul, r_iand, r_idiv, r_irem, r_ineg, r_ladd, r_lsub, r_lmul, r_lxor, r_ldiv, r_lcmp, r_i2l, r_l2i, r_dup, r_pop, r_dup2, r_ifeq, r_ifne, r_iflt, r_ifge, r_ifgt, r_ifle, r_icmpeq, r_icmpne, r_icmplt, r_icmpge, r_icmpgt, r_icmple, r_acmpne, r_ifnullN, r_ifnullR, r_ifnonnullN, r_ifnonnullR, r_goto, r_getf, r_putf, r_alen, r_iald, r_bald, r_lald, r_aald, r_iast, r_bast, r_last, r_aast, gl_c, s1_d, s2_d, ins_n, ins_c, rm1_n, rm1_c, rm2_n, rm2_c, cat_i, cat_l, cat_r, cat_n, oI_t, oJ_t, oA_t, oA_u, oV_t, mO_s, aI_s, aJ_s, aQ_s, mL_0, mL_1, mL_2, mL_3, mL_4, nth_0, nth_s, rf_s, rf_n, fit_i, fit_r, fit_a, fit_b, fit_b0, fit_b1, Option.toList_some, Option.toList_none, List.cons_append, List.nil_append, List.set_cons_zero, List.set_cons_succ, List.length_cons, List.length_nil, Nat.reduceAdd, Nat.reduceEqDiff, Nat.reduceLT, reduceIte, false_implies, true_implies, not_false_eq_true, not_true_eq_false, true_and, and_true, Nat.zero_add, lv_args, nI_1, Bool.false_eq_true, eq_self]
  refine V_callV C c_X5_53 d_X5_view_2 (k_windowOf H I hi) rfl rfl (H.c0) rfl (Nat.le_of_ble_eq_true rfl) ⟨(Nat.le_of_ble_eq_true rfl), (Nat.le_of_ble_eq_true rfl)⟩ (Nat.le_of_ble_eq_true rfl) (fun _ _ z => z.elim) ?_
  rintro _ _ ⟨rfl, rfl⟩
  refine V_run C b_X5_view_5 ?_
  simp only [k_X5_view_5, r_nil, r_iconst, r_bipush, r_sipush, r_ldc, r_lconst0, r_lconst1, r_ldc2, r_null, r_iload_n, r_iload, r_lload_n, r_lload, r_aload_n, r_aload, r_istore_n, r_istore, r_lstore_n, r_lstore, r_astore_nR, r_astoreR, r_astore_nN, r_astoreN, r_iinc, r_iadd, r_isub, r_imul, r_iand, r_idiv, r_irem, r_ineg, r_ladd, r_lsub, r_lmul, r_lxor, r_ldiv, r_lcmp, r_i2l, r_l2i, r_dup, r_pop, r_dup2, r_ifeq, r_ifne, r_iflt, r_ifge, r_ifgt, r_ifle, r_icmpeq, r_icmpne, r_icmplt, r_icmpge, r_icmpgt, r_icmple, r_acmpne, r_ifnullN, r_ifnullR, r_ifnonnullN, r_ifnonnullR, r_goto, r_getf, r_putf, r_alen, r_iald, r_bald, r_lald, r_aald, r_iast, r_bast, r_last, r_aast, gl_c, s1_d, s2_d, ins_n, ins_c, rm1_n, rm1_c, rm2_n, rm2_c, cat_i, cat_l, cat_r, cat_n, oI_t, oJ_t, oA_t, oA_u, oV_t, mO_s, aI_s, aJ_s, aQ_s, mL_0, mL_1, mL_2, mL_3, mL_4, nth_0, nth_s, rf_s, rf_n, fit_i, fit_r, fit_a, fit_b, fit_b0, fit_b1, Option.toList_some, Option.toList_none, List.cons_append, List.nil_append, List.set_cons_zero, List.set_cons_succ, List.length_cons, List.length_nil, Nat.reduceAdd, Nat.reduceEqDiff, Nat.reduceLT, reduceIte, false_implies, true_implies, not_false_eq_true, not_true_eq_false, true_and, and_true, Nat.zero_add, lv_args, nI_1, Bool.false_eq_true, eq_self]
  refine V_callS C c_X5_57 d_X5_view_15 (k_reqRect (H.win I hi) w1 w2 hw1 hh1 hx hy) rfl rfl (Nat.le_of_ble_eq_true rfl) ⟨(Nat.le_of_ble_eq_true rfl), (Nat.le_of_ble_eq_true rfl)⟩ (Nat.le_of_ble_eq_true rfl) (fun _ _ z => z.elim) ?_
  rintro _ _ ⟨rfl, rfl⟩
  have thr : ∀ ls9, V p l e s mI args below meth c D b0 10 12 4000 Z 0 0 29 (ls9) ([]) (h) := by
    intro ls9
    exact V_throw C hZ hno t_X5_39 d_X5_view_29 d_X5_view_32 d_X5_view_33 d_X5_view_36 (Nat.le_of_ble_eq_true rfl) ⟨(Nat.le_of_ble_eq_true rfl), (Nat.le_of_ble_eq_true rfl)⟩ (Nat.le_of_ble_eq_true rfl) ⟨rfl, rfl⟩
  refine V_run C b_X5_view_18 ?_
  simp only [k_X5_view_18, r_nil, r_iconst, r_bipush, r_sipush, r_ldc, r_lconst0, r_lconst1, r_ldc2, r_null, r_iload_n, r_iload, r_lload_n, r_lload, r_aload_n, r_aload, r_istore_n, r_istore, r_lstore_n, r_lstore, r_astore_nR, r_astoreR, r_astore_nN, r_astoreN, r_iinc, r_iadd, r_isub, r_imul, r_iand, r_idiv, r_irem, r_ineg, r_ladd, r_lsub, r_lmul, r_lxor, r_ldiv, r_lcmp, r_i2l, r_l2i, r_dup, r_pop, r_dup2, r_ifeq, r_ifne, r_iflt, r_ifge, r_ifgt, r_ifle, r_icmpeq, r_icmpne, r_icmplt, r_icmpge, r_icmpgt, r_icmple, r_acmpne, r_ifnullN, r_ifnullR, r_ifnonnullN, r_ifnonnullR, r_goto, r_getf, r_putf, r_alen, r_iald, r_bald, r_lald, r_aald, r_iast, r_bast, r_last, r_aast, gl_c, s1_d, s2_d, ins_n, ins_c, rm1_n, rm1_c, rm2_n, rm2_c, cat_i, cat_l, cat_r, cat_n, oI_t, oJ_t, oA_t, oA_u, oV_t, mO_s, aI_s, aJ_s, aQ_s, mL_0, mL_1, mL_2, mL_3, mL_4, nth_0, nth_s, rf_s, rf_n, fit_i, fit_r, fit_a, fit_b, fit_b0, fit_b1, Option.toList_some, Option.toList_none, List.cons_append, List.nil_append, List.set_cons_zero, List.set_cons_succ, List.length_cons, List.length_nil, Nat.reduceAdd, Nat.reduceEqDiff, Nat.reduceLT, reduceIte, false_implies, true_implies, not_false_eq_true, not_true_eq_false, true_and, and_true, Nat.zero_add, lv_args, nI_1, Bool.false_eq_true, eq_self]
  refine ⟨fun _ => thr _, fun c1 => ⟨fun c2 => ?_, fun _ => thr _⟩⟩
  exfalso
  apply hq
  have t3 : (3 : Int32).toInt = 3 := rfl
  simp only [Int32.lt_iff_toInt_lt, Int32.le_iff_toInt_le, i0, t3] at c1 c2
  exact ⟨q.toInt.toNat, toI q _ (by omega) (by omega), by omega, by omega⟩
theorem k_view_f (H : HR Y MM σ R tt A T h) (I : GI σ) {i : Nat} (hi : vI σ i) {x y w hh q : Nat} (hw1 : 1 ≤ w) (hh1 : 1 ≤ hh) (hx : x + w ≤ zW σ i) (hy : y + hh ≤ zH σ i) (hq : q ≤ 3) (f : Int32) (h12 : nv σ = 12) : Ct l D Y b0 mX5_view 10 12 4000 [.ref (A 0 0 0), .int (nI i), .int (nI x), .int (nI y), .int (nI w), .int (nI hh), .int (nI q), .int f] h noQ (tX xUOE h) := by
  refine Ct_of "GridStore" false rfl (by decide +kernel) (fun z => by cases z) (Nat.le_of_ble_eq_true rfl) ?_
  intro p e s mI args below meth c Z C hno hZ
  obtain ⟨w1, w2⟩ := zb I hi
  have n3 : (3 : Int32) = nI 3 := rfl
  refine V_run C b_X5_view_0 ?_
  simp only [k_X5_view_0, r_nil, r_iconst, r_bipush, r_sipush, r_ldc, r_lconst0, r_lconst1, r_ldc2, r_null, r_iload_n, r_iload, r_lload_n, r_lload, r_aload_n, r_aload, r_istore_n, r_istore, r_lstore_n, r_lstore, r_astore_nR, r_astoreR, r_astore_nN, r_astoreN, r_iinc, r_iadd, r_isub, r_imul, r_iand, r_idiv, r_irem, r_ineg, r_ladd, r_lsub, r_lmul, r_lxor, r_ldiv, r_lcmp, r_i2l, r_l2i, r_dup, r_pop, r_dup2, r_ifeq, r_ifne, r_iflt, r_ifge, r_ifgt, r_ifle, r_icmpeq, r_icmpne, r_icmplt, r_icmpge, r_icmpgt, r_icmple, r_acmpne, r_ifnullN, r_ifnullR, r_ifnonnullN, r_ifnonnullR, r_goto, r_getf, r_putf, r_alen, r_iald, r_bald, r_lald, r_aald, r_iast, r_bast, r_last, r_aast, gl_c, s1_d, s2_d, ins_n, ins_c, rm1_n, rm1_c, rm2_n, rm2_c, cat_i, cat_l, cat_r, cat_n, oI_t, oJ_t, oA_t, oA_u, oV_t, mO_s, aI_s, aJ_s, aQ_s, mL_0, mL_1, mL_2, mL_3, mL_4, nth_0, nth_s, rf_s, rf_n, fit_i, fit_r, fit_a, fit_b, fit_b0, fit_b1, Option.toList_some, Option.toList_none, List.cons_append, List.nil_append, List.set_cons_zero, List.set_cons_succ, List.length_cons, List.length_nil, Nat.reduceAdd, Nat.reduceEqDiff, Nat.reduceLT, reduceIte, false_implies, true_implies, not_false_eq_true, not_true_eq_false, true_and, and_true, Nat.zero_add, lv_args, nI_1, Bool.false_eq_true, eq_self]
  refine V_callV C c_X5_53 d_X5_view_2 (k_windowOf H I hi) rfl rfl (H.c0) rfl (Nat.le_of_ble_eq_true rfl) ⟨(Nat.le_of_ble_eq_true rfl), (Nat.le_of_ble_eq_true rfl)⟩ (Nat.le_of_ble_eq_true rfl) (fun _ _ z => z.elim) ?_
  rintro _ _ ⟨rfl, rfl⟩
  refine V_run C b_X5_view_5 ?_
  simp only [k_X5_view_5, r_nil, r_iconst, r_bipush, r_sipush, r_ldc, r_lconst0, r_lconst1, r_ldc2, r_null, r_iload_n, r_iload, r_lload_n, r_lload, r_aload_n, r_aload, r_istore_n, r_istore, r_lstore_n, r_lstore, r_astore_nR, r_astoreR, r_astore_nN, r_astoreN, r_iinc, r_iadd, r_isub, r_imul, r_iand, r_idiv, r_irem, r_ineg, r_ladd, r_lsub, r_lmul, r_lxor, r_ldiv, r_lcmp, r_i2l, r_l2i, r_dup, r_pop, r_dup2, r_ifeq, r_ifne, r_iflt, r_ifge, r_ifgt, r_ifle, r_icmpeq, r_icmpne, r_icmplt, r_icmpge, r_icmpgt, r_icmple, r_acmpne, r_ifnullN, r_ifnullR, r_ifnonnullN, r_ifnonnullR, r_goto, r_getf, r_putf, r_alen, r_iald, r_bald, r_lald, r_aald, r_iast, r_bast, r_last, r_aast, gl_c, s1_d, s2_d, ins_n, ins_c, rm1_n, rm1_c, rm2_n, rm2_c, cat_i, cat_l, cat_r, cat_n, oI_t, oJ_t, oA_t, oA_u, oV_t, mO_s, aI_s, aJ_s, aQ_s, mL_0, mL_1, mL_2, mL_3, mL_4, nth_0, nth_s, rf_s, rf_n, fit_i, fit_r, fit_a, fit_b, fit_b0, fit_b1, Option.toList_some, Option.toList_none, List.cons_append, List.nil_append, List.set_cons_zero, List.set_cons_succ, List.length_cons, List.length_nil, Nat.reduceAdd, Nat.reduceEqDiff, Nat.reduceLT, reduceIte, false_implies, true_implies, not_false_eq_true, not_true_eq_false, true_and, and_true, Nat.zero_add, lv_args, nI_1, Bool.false_eq_true, eq_self]
  refine V_callS C c_X5_57 d_X5_view_15 (k_reqRect (H.win I hi) w1 w2 hw1 hh1 hx hy) rfl rfl (Nat.le_of_ble_eq_true rfl) ⟨(Nat.le_of_ble_eq_true rfl), (Nat.le_of_ble_eq_true rfl)⟩ (Nat.le_of_ble_eq_true rfl) (fun _ _ z => z.elim) ?_
  rintro _ _ ⟨rfl, rfl⟩
  refine V_run C b_X5_view_18 ?_
  simp only [k_X5_view_18, n3, (c_ge0 q), (c_le q 3), r_nil, r_iconst, r_bipush, r_sipush, r_ldc, r_lconst0, r_lconst1, r_ldc2, r_null, r_iload_n, r_iload, r_lload_n, r_lload, r_aload_n, r_aload, r_istore_n, r_istore, r_lstore_n, r_lstore, r_astore_nR, r_astoreR, r_astore_nN, r_astoreN, r_iinc, r_iadd, r_isub, r_imul, r_iand, r_idiv, r_irem, r_ineg, r_ladd, r_lsub, r_lmul, r_lxor, r_ldiv, r_lcmp, r_i2l, r_l2i, r_dup, r_pop, r_dup2, r_ifeq, r_ifne, r_iflt, r_ifge, r_ifgt, r_ifle, r_icmpeq, r_icmpne, r_icmplt, r_icmpge, r_icmpgt, r_icmple, r_acmpne, r_ifnullN, r_ifnullR, r_ifnonnullN, r_ifnonnullR, r_goto, r_getf, r_putf, r_alen, r_iald, r_bald, r_lald, r_aald, r_iast, r_bast, r_last, r_aast, gl_c, s1_d, s2_d, ins_n, ins_c, rm1_n, rm1_c, rm2_n, rm2_c, cat_i, cat_l, cat_r, cat_n, oI_t, oJ_t, oA_t, oA_u, oV_t, mO_s, aI_s, aJ_s, aQ_s, mL_0, mL_1, mL_2, mL_3, mL_4, nth_0, nth_s, rf_s, rf_n, fit_i, fit_r, fit_a, fit_b, fit_b0, fit_b1, Option.toList_some, Option.toList_none, List.cons_append, List.nil_append, List.set_cons_zero, List.set_cons_succ, List.length_cons, List.length_nil, Nat.reduceAdd, Nat.reduceEqDiff, Nat.reduceLT, reduceIte, false_implies, true_implies, not_false_eq_true, not_true_eq_false, true_and, and_true, Nat.zero_add, lv_args, nI_1, Bool.false_eq_true, eq_self]
  refine V_run C b_X5_view_37 ?_
  simp only [k_X5_view_37, H.c0, H.c7, h12, (c_ge0 12), (c_nlt 12 12), r_nil, r_iconst, r_bipush, r_sipush, r_ldc, r_lconst0, r_lconst1, r_ldc2, r_null, r_iload_n, r_iload, r_lload_n, r_lload, r_aload_n, r_aload, r_istore_n, r_istore, r_lstore_n, r_lstore, r_astore_nR, r_astoreR, r_astore_nN, r_astoreN, r_iinc, r_iadd, r_isub, r_imul, r_iand, r_idiv, r_irem, r_ineg, r_ladd, r_lsub, r_lmul, r_lxor, r_ldiv, r_lcmp, r_i2l, r_l2i, r_dup, r_pop, r_dup2, r_ifeq, r_ifne, r_iflt, r_ifge, r_ifgt, r_ifle, r_icmpeq, r_icmpne, r_icmplt, r_icmpge, r_icmpgt, r_icmple, r_acmpne, r_ifnullN, r_ifnullR, r_ifnonnullN, r_ifnonnullR, r_goto, r_getf, r_putf, r_alen, r_iald, r_bald, r_lald, r_aald, r_iast, r_bast, r_last, r_aast, gl_c, s1_d, s2_d, ins_n, ins_c, rm1_n, rm1_c, rm2_n, rm2_c, cat_i, cat_l, cat_r, cat_n, oI_t, oJ_t, oA_t, oA_u, oV_t, mO_s, aI_s, aJ_s, aQ_s, mL_0, mL_1, mL_2, mL_3, mL_4, nth_0, nth_s, rf_s, rf_n, fit_i, fit_r, fit_a, fit_b, fit_b0, fit_b1, Option.toList_some, Option.toList_none, List.cons_append, List.nil_append, List.set_cons_zero, List.set_cons_succ, List.length_cons, List.length_nil, Nat.reduceAdd, Nat.reduceEqDiff, Nat.reduceLT, reduceIte, false_implies, true_implies, not_false_eq_true, not_true_eq_false, true_and, and_true, Nat.zero_add, lv_args, nI_1, Bool.false_eq_true, eq_self]
  exact V_throw C hZ hno t_X5_42 d_X5_view_58 d_X5_view_61 d_X5_view_62 d_X5_view_65 (Nat.le_of_ble_eq_true rfl) ⟨(Nat.le_of_ble_eq_true rfl), (Nat.le_of_ble_eq_true rfl)⟩ (Nat.le_of_ble_eq_true rfl) ⟨rfl, rfl⟩
theorem tu_e {g : Nat} {s : Nat × Nat × CO} {t : Nat} {cl : Int32} : eWin g (nI s.2.1) (nI s.1) (Int32.ofInt s.2.2.1 + (nI s.2.1 - 1) * Int32.ofInt s.2.2.2.2.2.2.1) (Int32.ofInt s.2.2.2.1 + (nI s.2.1 - 1) * Int32.ofInt s.2.2.2.2.2.2.2) (-Int32.ofInt s.2.2.2.2.2.2.1) (-Int32.ofInt s.2.2.2.2.2.2.2) (Int32.ofInt s.2.2.2.2.1) (Int32.ofInt s.2.2.2.2.2.1) cl = eWA σ g (tuA s t) cl := by
  have o1 : (1 : Int32) = Int32.ofInt 1 := rfl
  unfold eWA tuA
  dsimp only
  simp only [eWin]
  rw [oi_nI s.2.1, o1, oi_sub, oi_mul, oi_mul, oi_add, oi_add, oi_neg, oi_neg]
theorem fp_e {g : Nat} {s : Nat × Nat × CO} {cl : Int32} : eWin g (nI s.1) (nI s.2.1) (Int32.ofInt s.2.2.1 + (nI s.1 - 1) * Int32.ofInt s.2.2.2.2.1) (Int32.ofInt s.2.2.2.1 + (nI s.1 - 1) * Int32.ofInt s.2.2.2.2.2.1) (-Int32.ofInt s.2.2.2.2.1) (-Int32.ofInt s.2.2.2.2.2.1) (Int32.ofInt s.2.2.2.2.2.2.1) (Int32.ofInt s.2.2.2.2.2.2.2) cl = eWA σ g (fpA s) cl := by
  have o1 : (1 : Int32) = Int32.ofInt 1 := rfl
  unfold eWA fpA
  dsimp only
  simp only [eWin]
  rw [oi_nI s.1, o1, oi_sub, oi_mul, oi_mul, oi_add, oi_add, oi_neg, oi_neg]
theorem HR.vw (H : HR Y MM σ R tt A T h) (I : GI σ) (hV : BV σ) (HM : ∀ a, MM a → ¬ h a = none) {i x y w hh q : Nat} {fl : Bool} (hi : vI σ i) (hx : x + w ≤ zW σ i) (hy : y + hh ≤ zH σ i) (hq : q ≤ 3) (h12 : nv σ < 12) {q0 : Nat} (hq0 : h q0 = none) : HR Y MM (vwS σ i x y w hh q fl) R tt (fun k i j => if k = 15 ∧ i = nv σ ∧ j = 0 then q0 else A k i j) (fun a => if a = q0 then (15, nv σ, 0) else T a) (up (up (up h q0 (eWA σ (A 9 (ro σ i) 0) (vwA σ i x y w hh q fl) 0)) (A 7 0 0) (eQ4 Y 12 (va_up (fun n => if n < nv σ then some (A 15 n 0) else none) (nv σ) (some q0)))) (A 0 0 0) (.inr (5, [.ref (A 1 0 0), .ref (A 3 0 0), .ref (A 6 0 0), .ref (A 7 0 0), .int (nI (ng σ)), .int (nI (nv σ + 1))]))) := by
  have G : AG σ (vwS σ i x y w hh q fl) := vw_AG h12
  obtain ⟨w1, w2⟩ := zb I hi
  have f0 : ∀ k i j, lv σ k i j → A k i j ≠ q0 := fun k i j hl => ne_of_none (H k i j hl).1 hq0
  have L0 : lv σ 0 0 0 := lv_0 (by omega)
  have L7 : lv σ 7 0 0 := lv_0 (by omega)
  have hA : ∀ k i j, lv σ k i j → (if k = 15 ∧ i = nv σ ∧ j = 0 then q0 else A k i j) = A k i j := fun k i j hl => if_neg (fun z => by have := lvn hl z.1; omega)
  refine HR.grow H (fun k i' j hl' hl => ?_) (fun k i' j hl' hl => ?_)
  · obtain ⟨e1, e2, e3⟩ := H k i' j hl
    refine ⟨hA k i' j hl, ?_, ?_⟩
    · try dsimp only
      rw [if_neg (f0 k i' j hl)]
      exact e2
    · by_cases k0 : k = 0
      · subst k0
        obtain ⟨rfl, rfl⟩ : i' = 0 ∧ j = 0 := by rcases hl with q | q | q | q <;> omega
        rw [up_same]
        simp only [kx, reduceIte, Nat.reduceEqDiff, false_and, vw_ng, vw_nv h12]
      · have n0 : A k i' j ≠ A 0 0 0 := fun z => by
          rw [z, (H 0 0 0 L0).2.1] at e2
          cases e2
          exact k0 rfl
        rw [up_ne n0]
        by_cases k7 : k = 7
        · subst k7
          obtain ⟨rfl, rfl⟩ : i' = 0 ∧ j = 0 := by rcases hl with q | q | q | q <;> omega
          rw [up_same]
          simp only [kx, reduceIte, Nat.reduceEqDiff]
          have : va_up (fun g => if g < nv σ then some (A 15 g 0) else none) (nv σ) (some q0) = fun g => if g < nv (vwS σ i x y w hh q fl) then some (if True ∧ g = nv σ ∧ True then q0 else A 15 g 0) else none := by
            funext g
            rw [vw_nv h12]
            unfold va_up
            by_cases z : g = nv σ
            · rw [if_pos z, if_pos (by omega), if_pos ⟨trivial, z, trivial⟩]
            · rw [if_neg z]
              show (if g < nv σ then some (A 15 g 0) else none) = _
              by_cases z2 : g < nv σ
              · rw [if_pos z2, if_pos (by omega), if_neg (fun y => z y.2.1)]
              · rw [if_neg z2, if_neg (by omega)]
          rw [this]
        · have n7 : A k i' j ≠ A 7 0 0 := fun z => by
            rw [z, (H 7 0 0 L7).2.1] at e2
            cases e2
            exact k7 rfl
          rw [up_ne n7, up_ne (f0 k i' j hl), e1]
          rw [kx_AG (R := R) (tt := tt) (A := A) G I hA hl rfl (fun q => absurd q k0) (fun _ => vw_row (by omega)) (fun _ => vw_ng) (fun q => absurd q k7) (fun _ => vw_nl) (fun _ => rfl) (fun _ => rfl) (fun _ => by rw [vw_row (by omega)])]
  · have hk : k = 15 ∧ i' = nv σ ∧ j = 0 := by
      rcases hl' with q | q | q | q
      · exact absurd (Or.inl q) hl
      · rw [vw_ng] at q
        exact absurd (Or.inr (Or.inl q)) hl
      · rw [vw_ng, vw_nl] at q
        exact absurd (Or.inr (Or.inr (Or.inl q))) hl
      · rw [vw_nv h12] at q
        refine ⟨q.1, ?_, q.2.2⟩
        have : ¬ i' < nv σ := fun z => hl (Or.inr (Or.inr (Or.inr ⟨q.1, z, q.2.2⟩)))
        omega
    obtain ⟨rfl, rfl, rfl⟩ := hk
    obtain ⟨a1, a2⟩ := vw_aw (fl := fl) I h12 hi (x := x) (y := y) (w := w) (hh := hh) (q := q) (by omega) (by omega) hq
    have n0 : q0 ≠ A 0 0 0 := fun z => by rw [z, H.c0] at hq0; cases hq0
    have n7 : q0 ≠ A 7 0 0 := fun z => by rw [z, H.c7] at hq0; cases hq0
    simp only [reduceIte, Nat.reduceEqDiff, and_self, false_and, kx, a1, a2, vw_row (σ := σ) (f := 17) (Or.inr (Or.inl rfl)), hV _ (Nat.le_refl _)]
    refine ⟨?_, trivial, fun z => HM q0 z hq0⟩
    rw [up_ne n0, up_ne n7, up_same]
    rfl
theorem k_view (H : HR Y MM σ R tt A T h) (I : GI σ) (S : CS σ R) (hV : BV σ) (HM : ∀ a, MM a → ¬ h a = none) {i : Nat} (hi : vI σ i) {x y w hh q : Nat} (hw1 : 1 ≤ w) (hh1 : 1 ≤ hh) (hx : x + w ≤ zW σ i) (hy : y + hh ≤ zH σ i) (hq : q ≤ 3) (fl : Bool) (h12 : nv σ < 12) : Ct l D Y b0 mX5_view 10 12 4000 [.ref (A 0 0 0), .int (nI i), .int (nI x), .int (nI y), .int (nI w), .int (nI hh), .int (nI q), .int (bI fl)] h (sq Y MM (A 0 0 0) (vwS σ i x y w hh q fl) h (.int (nI (nv σ)))) noX := by
  refine Ct_of "GridStore" false rfl (by decide +kernel) (fun z => by cases z) (Nat.le_of_ble_eq_true rfl) ?_
  intro p e s mI args below meth c Z C hno hZ
  obtain ⟨w1, w2⟩ := zb I hi
  have n3 : (3 : Int32) = nI 3 := rfl
  have G : AG σ (vwS σ i x y w hh q fl) := vw_AG h12
  have L0 : lv σ 0 0 0 := lv_0 (by omega)
  have L7 : lv σ 7 0 0 := lv_0 (by omega)
  have a07 : A 0 0 0 ≠ A 7 0 0 := fun z => by
    have e1 := (H 0 0 0 L0).2.1
    rw [z, (H 7 0 0 L7).2.1] at e1
    cases e1
  refine V_run C b_X5_view_0 ?_
  simp only [k_X5_view_0, r_nil, r_iconst, r_bipush, r_sipush, r_ldc, r_lconst0, r_lconst1, r_ldc2, r_null, r_iload_n, r_iload, r_lload_n, r_lload, r_aload_n, r_aload, r_istore_n, r_istore, r_lstore_n, r_lstore, r_astore_nR, r_astoreR, r_astore_nN, r_astoreN, r_iinc, r_iadd, r_isub, r_imul, r_iand, r_idiv, r_irem, r_ineg, r_ladd, r_lsub, r_lmul, r_lxor, r_ldiv, r_lcmp, r_i2l, r_l2i, r_dup, r_pop, r_dup2, r_ifeq, r_ifne, r_iflt, r_ifge, r_ifgt, r_ifle, r_icmpeq, r_icmpne, r_icmplt, r_icmpge, r_icmpgt, r_icmple, r_acmpne, r_ifnullN, r_ifnullR, r_ifnonnullN, r_ifnonnullR, r_goto, r_getf, r_putf, r_alen, r_iald, r_bald, r_lald, r_aald, r_iast, r_bast, r_last, r_aast, gl_c, s1_d, s2_d, ins_n, ins_c, rm1_n, rm1_c, rm2_n, rm2_c, cat_i, cat_l, cat_r, cat_n, oI_t, oJ_t, oA_t, oA_u, oV_t, mO_s, aI_s, aJ_s, aQ_s, mL_0, mL_1, mL_2, mL_3, mL_4, nth_0, nth_s, rf_s, rf_n, fit_i, fit_r, fit_a, fit_b, fit_b0, fit_b1, Option.toList_some, Option.toList_none, List.cons_append, List.nil_append, List.set_cons_zero, List.set_cons_succ, List.length_cons, List.length_nil, Nat.reduceAdd, Nat.reduceEqDiff, Nat.reduceLT, reduceIte, false_implies, true_implies, not_false_eq_true, not_true_eq_false, true_and, and_true, Nat.zero_add, lv_args, nI_1, Bool.false_eq_true, eq_self]
  refine V_callV C c_X5_53 d_X5_view_2 (k_windowOf H I hi) rfl rfl (H.c0) rfl (Nat.le_of_ble_eq_true rfl) ⟨(Nat.le_of_ble_eq_true rfl), (Nat.le_of_ble_eq_true rfl)⟩ (Nat.le_of_ble_eq_true rfl) (fun _ _ z => z.elim) ?_
  rintro _ _ ⟨rfl, rfl⟩
  refine V_run C b_X5_view_5 ?_
  simp only [k_X5_view_5, r_nil, r_iconst, r_bipush, r_sipush, r_ldc, r_lconst0, r_lconst1, r_ldc2, r_null, r_iload_n, r_iload, r_lload_n, r_lload, r_aload_n, r_aload, r_istore_n, r_istore, r_lstore_n, r_lstore, r_astore_nR, r_astoreR, r_astore_nN, r_astoreN, r_iinc, r_iadd, r_isub, r_imul, r_iand, r_idiv, r_irem, r_ineg, r_ladd, r_lsub, r_lmul, r_lxor, r_ldiv, r_lcmp, r_i2l, r_l2i, r_dup, r_pop, r_dup2, r_ifeq, r_ifne, r_iflt, r_ifge, r_ifgt, r_ifle, r_icmpeq, r_icmpne, r_icmplt, r_icmpge, r_icmpgt, r_icmple, r_acmpne, r_ifnullN, r_ifnullR, r_ifnonnullN, r_ifnonnullR, r_goto, r_getf, r_putf, r_alen, r_iald, r_bald, r_lald, r_aald, r_iast, r_bast, r_last, r_aast, gl_c, s1_d, s2_d, ins_n, ins_c, rm1_n, rm1_c, rm2_n, rm2_c, cat_i, cat_l, cat_r, cat_n, oI_t, oJ_t, oA_t, oA_u, oV_t, mO_s, aI_s, aJ_s, aQ_s, mL_0, mL_1, mL_2, mL_3, mL_4, nth_0, nth_s, rf_s, rf_n, fit_i, fit_r, fit_a, fit_b, fit_b0, fit_b1, Option.toList_some, Option.toList_none, List.cons_append, List.nil_append, List.set_cons_zero, List.set_cons_succ, List.length_cons, List.length_nil, Nat.reduceAdd, Nat.reduceEqDiff, Nat.reduceLT, reduceIte, false_implies, true_implies, not_false_eq_true, not_true_eq_false, true_and, and_true, Nat.zero_add, lv_args, nI_1, Bool.false_eq_true, eq_self]
  refine V_callS C c_X5_57 d_X5_view_15 (k_reqRect (H.win I hi) w1 w2 hw1 hh1 hx hy) rfl rfl (Nat.le_of_ble_eq_true rfl) ⟨(Nat.le_of_ble_eq_true rfl), (Nat.le_of_ble_eq_true rfl)⟩ (Nat.le_of_ble_eq_true rfl) (fun _ _ z => z.elim) ?_
  rintro _ _ ⟨rfl, rfl⟩
  refine V_run C b_X5_view_18 ?_
  simp only [k_X5_view_18, n3, (c_ge0 q), (c_le q 3), r_nil, r_iconst, r_bipush, r_sipush, r_ldc, r_lconst0, r_lconst1, r_ldc2, r_null, r_iload_n, r_iload, r_lload_n, r_lload, r_aload_n, r_aload, r_istore_n, r_istore, r_lstore_n, r_lstore, r_astore_nR, r_astoreR, r_astore_nN, r_astoreN, r_iinc, r_iadd, r_isub, r_imul, r_iand, r_idiv, r_irem, r_ineg, r_ladd, r_lsub, r_lmul, r_lxor, r_ldiv, r_lcmp, r_i2l, r_l2i, r_dup, r_pop, r_dup2, r_ifeq, r_ifne, r_iflt, r_ifge, r_ifgt, r_ifle, r_icmpeq, r_icmpne, r_icmplt, r_icmpge, r_icmpgt, r_icmple, r_acmpne, r_ifnullN, r_ifnullR, r_ifnonnullN, r_ifnonnullR, r_goto, r_getf, r_putf, r_alen, r_iald, r_bald, r_lald, r_aald, r_iast, r_bast, r_last, r_aast, gl_c, s1_d, s2_d, ins_n, ins_c, rm1_n, rm1_c, rm2_n, rm2_c, cat_i, cat_l, cat_r, cat_n, oI_t, oJ_t, oA_t, oA_u, oV_t, mO_s, aI_s, aJ_s, aQ_s, mL_0, mL_1, mL_2, mL_3, mL_4, nth_0, nth_s, rf_s, rf_n, fit_i, fit_r, fit_a, fit_b, fit_b0, fit_b1, Option.toList_some, Option.toList_none, List.cons_append, List.nil_append, List.set_cons_zero, List.set_cons_succ, List.length_cons, List.length_nil, Nat.reduceAdd, Nat.reduceEqDiff, Nat.reduceLT, reduceIte, false_implies, true_implies, not_false_eq_true, not_true_eq_false, true_and, and_true, Nat.zero_add, lv_args, nI_1, Bool.false_eq_true, eq_self]
  refine V_run C b_X5_view_37 ?_
  simp only [k_X5_view_37, H.c0, H.c7, (c_ge0 (nv σ)), (c_lt (nv σ) 12), r_nil, r_iconst, r_bipush, r_sipush, r_ldc, r_lconst0, r_lconst1, r_ldc2, r_null, r_iload_n, r_iload, r_lload_n, r_lload, r_aload_n, r_aload, r_istore_n, r_istore, r_lstore_n, r_lstore, r_astore_nR, r_astoreR, r_astore_nN, r_astoreN, r_iinc, r_iadd, r_isub, r_imul, r_iand, r_idiv, r_irem, r_ineg, r_ladd, r_lsub, r_lmul, r_lxor, r_ldiv, r_lcmp, r_i2l, r_l2i, r_dup, r_pop, r_dup2, r_ifeq, r_ifne, r_iflt, r_ifge, r_ifgt, r_ifle, r_icmpeq, r_icmpne, r_icmplt, r_icmpge, r_icmpgt, r_icmple, r_acmpne, r_ifnullN, r_ifnullR, r_ifnonnullN, r_ifnonnullR, r_goto, r_getf, r_putf, r_alen, r_iald, r_bald, r_lald, r_aald, r_iast, r_bast, r_last, r_aast, gl_c, s1_d, s2_d, ins_n, ins_c, rm1_n, rm1_c, rm2_n, rm2_c, cat_i, cat_l, cat_r, cat_n, oI_t, oJ_t, oA_t, oA_u, oV_t, mO_s, aI_s, aJ_s, aQ_s, mL_0, mL_1, mL_2, mL_3, mL_4, nth_0, nth_s, rf_s, rf_n, fit_i, fit_r, fit_a, fit_b, fit_b0, fit_b1, Option.toList_some, Option.toList_none, List.cons_append, List.nil_append, List.set_cons_zero, List.set_cons_succ, List.length_cons, List.length_nil, Nat.reduceAdd, Nat.reduceEqDiff, Nat.reduceLT, reduceIte, false_implies, true_implies, not_false_eq_true, not_true_eq_false, true_and, and_true, Nat.zero_add, lv_args, nI_1, Bool.false_eq_true, eq_self]
  refine V_run C b_X5_view_66 ?_
  simp only [k_X5_view_66, r_nil, r_iconst, r_bipush, r_sipush, r_ldc, r_lconst0, r_lconst1, r_ldc2, r_null, r_iload_n, r_iload, r_lload_n, r_lload, r_aload_n, r_aload, r_istore_n, r_istore, r_lstore_n, r_lstore, r_astore_nR, r_astoreR, r_astore_nN, r_astoreN, r_iinc, r_iadd, r_isub, r_imul, r_iand, r_idiv, r_irem, r_ineg, r_ladd, r_lsub, r_lmul, r_lxor, r_ldiv, r_lcmp, r_i2l, r_l2i, r_dup, r_pop, r_dup2, r_ifeq, r_ifne, r_iflt, r_ifge, r_ifgt, r_ifle, r_icmpeq, r_icmpne, r_icmplt, r_icmpge, r_icmpgt, r_icmple, r_acmpne, r_ifnullN, r_ifnullR, r_ifnonnullN, r_ifnonnullR, r_goto, r_getf, r_putf, r_alen, r_iald, r_bald, r_lald, r_aald, r_iast, r_bast, r_last, r_aast, gl_c, s1_d, s2_d, ins_n, ins_c, rm1_n, rm1_c, rm2_n, rm2_c, cat_i, cat_l, cat_r, cat_n, oI_t, oJ_t, oA_t, oA_u, oV_t, mO_s, aI_s, aJ_s, aQ_s, mL_0, mL_1, mL_2, mL_3, mL_4, nth_0, nth_s, rf_s, rf_n, fit_i, fit_r, fit_a, fit_b, fit_b0, fit_b1, Option.toList_some, Option.toList_none, List.cons_append, List.nil_append, List.set_cons_zero, List.set_cons_succ, List.length_cons, List.length_nil, Nat.reduceAdd, Nat.reduceEqDiff, Nat.reduceLT, reduceIte, false_implies, true_implies, not_false_eq_true, not_true_eq_false, true_and, and_true, Nat.zero_add, lv_args, nI_1, Bool.false_eq_true, eq_self]
  refine V_callV C c_X5_61 d_X5_view_74 (s_part (H.win I hi) (H.c9 (ro_lt I hi)) (nI x) (nI y) (nI w) (nI hh)) rfl rfl (H.win I hi) rfl (Nat.le_of_ble_eq_true rfl) ⟨(Nat.le_of_ble_eq_true rfl), (Nat.le_of_ble_eq_true rfl)⟩ (Nat.le_of_ble_eq_true rfl) (fun _ _ z => z.elim) ?_
  rintro _ _ ⟨q0, rfl, hq0, rfl⟩
  have f0 : ∀ k i j, lv σ k i j → A k i j ≠ q0 := fun k i j hl => ne_of_none (H k i j hl).1 hq0
  have e0 : (eWin (A 9 (ro σ i) 0) (nI w) (nI hh) (Int32.ofInt (aw σ i).2.2.1 + nI x * Int32.ofInt (aw σ i).2.2.2.2.1 + nI y * Int32.ofInt (aw σ i).2.2.2.2.2.2.1) (Int32.ofInt (aw σ i).2.2.2.1 + nI x * Int32.ofInt (aw σ i).2.2.2.2.2.1 + nI y * Int32.ofInt (aw σ i).2.2.2.2.2.2.2) (Int32.ofInt (aw σ i).2.2.2.2.1) (Int32.ofInt (aw σ i).2.2.2.2.2.1) (Int32.ofInt (aw σ i).2.2.2.2.2.2.1) (Int32.ofInt (aw σ i).2.2.2.2.2.2.2) 0) = eWA σ (A 9 (ro σ i) 0) (frd tuA 0 (w, hh, paA (aw σ i).2.2 x y)) 0 := by
    unfold eWA paA ev
    dsimp only [frd]
    simp only [eWin]
    rw [oi_nI x, oi_nI y, oi_mul, oi_mul, oi_mul, oi_mul, oi_add, oi_add, oi_add, oi_add]
  rw [e0]
  refine V_run C b_X5_view_77 ?_
  simp only [k_X5_view_77, r_nil, r_iconst, r_bipush, r_sipush, r_ldc, r_lconst0, r_lconst1, r_ldc2, r_null, r_iload_n, r_iload, r_lload_n, r_lload, r_aload_n, r_aload, r_istore_n, r_istore, r_lstore_n, r_lstore, r_astore_nR, r_astoreR, r_astore_nN, r_astoreN, r_iinc, r_iadd, r_isub, r_imul, r_iand, r_idiv, r_irem, r_ineg, r_ladd, r_lsub, r_lmul, r_lxor, r_ldiv, r_lcmp, r_i2l, r_l2i, r_dup, r_pop, r_dup2, r_ifeq, r_ifne, r_iflt, r_ifge, r_ifgt, r_ifle, r_icmpeq, r_icmpne, r_icmplt, r_icmpge, r_icmpgt, r_icmple, r_acmpne, r_ifnullN, r_ifnullR, r_ifnonnullN, r_ifnonnullR, r_goto, r_getf, r_putf, r_alen, r_iald, r_bald, r_lald, r_aald, r_iast, r_bast, r_last, r_aast, gl_c, s1_d, s2_d, ins_n, ins_c, rm1_n, rm1_c, rm2_n, rm2_c, cat_i, cat_l, cat_r, cat_n, oI_t, oJ_t, oA_t, oA_u, oV_t, mO_s, aI_s, aJ_s, aQ_s, mL_0, mL_1, mL_2, mL_3, mL_4, nth_0, nth_s, rf_s, rf_n, fit_i, fit_r, fit_a, fit_b, fit_b0, fit_b1, Option.toList_some, Option.toList_none, List.cons_append, List.nil_append, List.set_cons_zero, List.set_cons_succ, List.length_cons, List.length_nil, Nat.reduceAdd, Nat.reduceEqDiff, Nat.reduceLT, reduceIte, false_implies, true_implies, not_false_eq_true, not_true_eq_false, true_and, and_true, Nat.zero_add, lv_args, nI_1, Bool.false_eq_true, eq_self]
  refine V_up (n := q) (fun t => V p l e s mI args below meth c D b0 10 12 4000 Z 1 10 82 ([(0, .ref (A 0 0 0)), (1, .int (nI i)), (2, .int (nI x)), (3, .int (nI y)), (4, .int (nI w)), (5, .int (nI hh)), (6, .int (nI q)), (7, .int (bI fl)), (8, .ref (wa A i)), (9, .int (nI (nv σ))), (10, .ref q0), (11, .int (nI t))]) ([]) (up h q0 (eWA σ (A 9 (ro σ i) 0) (frd tuA t (w, hh, paA (aw σ i).2.2 x y)) 0))) ?_ ?_ 0 (Nat.zero_le _)
  · refine V_run C b_X5_view_82 ?_
    simp only [k_X5_view_82, (c_le q q), r_nil, r_iconst, r_bipush, r_sipush, r_ldc, r_lconst0, r_lconst1, r_ldc2, r_null, r_iload_n, r_iload, r_lload_n, r_lload, r_aload_n, r_aload, r_istore_n, r_istore, r_lstore_n, r_lstore, r_astore_nR, r_astoreR, r_astore_nN, r_astoreN, r_iinc, r_iadd, r_isub, r_imul, r_iand, r_idiv, r_irem, r_ineg, r_ladd, r_lsub, r_lmul, r_lxor, r_ldiv, r_lcmp, r_i2l, r_l2i, r_dup, r_pop, r_dup2, r_ifeq, r_ifne, r_iflt, r_ifge, r_ifgt, r_ifle, r_icmpeq, r_icmpne, r_icmplt, r_icmpge, r_icmpgt, r_icmple, r_acmpne, r_ifnullN, r_ifnullR, r_ifnonnullN, r_ifnonnullR, r_goto, r_getf, r_putf, r_alen, r_iald, r_bald, r_lald, r_aald, r_iast, r_bast, r_last, r_aast, gl_c, s1_d, s2_d, ins_n, ins_c, rm1_n, rm1_c, rm2_n, rm2_c, cat_i, cat_l, cat_r, cat_n, oI_t, oJ_t, oA_t, oA_u, oV_t, mO_s, aI_s, aJ_s, aQ_s, mL_0, mL_1, mL_2, mL_3, mL_4, nth_0, nth_s, rf_s, rf_n, fit_i, fit_r, fit_a, fit_b, fit_b0, fit_b1, Option.toList_some, Option.toList_none, List.cons_append, List.nil_append, List.set_cons_zero, List.set_cons_succ, List.length_cons, List.length_nil, Nat.reduceAdd, Nat.reduceEqDiff, Nat.reduceLT, reduceIte, false_implies, true_implies, not_false_eq_true, not_true_eq_false, true_and, and_true, Nat.zero_add, lv_args, nI_1, Bool.false_eq_true, eq_self]
    have fin : V p l e s mI args below meth c D b0 10 12 4000 Z 1 10 110 ([(0, .ref (A 0 0 0)), (1, .int (nI i)), (2, .int (nI x)), (3, .int (nI y)), (4, .int (nI w)), (5, .int (nI hh)), (6, .int (nI q)), (7, .int (bI fl)), (8, .ref (wa A i)), (9, .int (nI (nv σ))), (10, .ref q0), (11, .int (nI q))]) ([]) (up h q0 (eWA σ (A 9 (ro σ i) 0) (vwA σ i x y w hh q fl) 0)) := by
      have c7' : up h q0 (eWA σ (A 9 (ro σ i) 0) (vwA σ i x y w hh q fl) 0) (A 7 0 0) = some (eQ4 Y 12 (fun n => if n < nv σ then some (A 15 n 0) else none)) := by rw [up_ne (f0 _ _ _ L7)]; exact H.c7
      have c0' : up h q0 (eWA σ (A 9 (ro σ i) 0) (vwA σ i x y w hh q fl) 0) (A 0 0 0) = some (.inr (5, [.ref (A 1 0 0), .ref (A 3 0 0), .ref (A 6 0 0), .ref (A 7 0 0), .int (nI (ng σ)), .int (nI (nv σ))])) := by rw [up_ne (f0 _ _ _ L0)]; exact H.c0
      have cq : up h q0 (eWA σ (A 9 (ro σ i) 0) (vwA σ i x y w hh q fl) 0) q0 = some (.inr (4, [.ref (A 9 (ro σ i) 0), .int (nI (vwA σ i x y w hh q fl).1), .int (nI (vwA σ i x y w hh q fl).2.1), .int (Int32.ofInt (vwA σ i x y w hh q fl).2.2.1), .int (Int32.ofInt (vwA σ i x y w hh q fl).2.2.2.1), .int (Int32.ofInt (vwA σ i x y w hh q fl).2.2.2.2.1), .int (Int32.ofInt (vwA σ i x y w hh q fl).2.2.2.2.2.1), .int (Int32.ofInt (vwA σ i x y w hh q fl).2.2.2.2.2.2.1), .int (Int32.ofInt (vwA σ i x y w hh q fl).2.2.2.2.2.2.2), .int 0])) := up_same
      have HH := H.vw (fl := fl) I hV HM hi hx hy hq h12 hq0
      refine V_run C b_X5_view_110 ?_
      simp only [k_X5_view_110, c7', c0', cq, (c_in (nv σ) 12), (c_cl (nv σ)), (up_ne a07), r_nil, r_iconst, r_bipush, r_sipush, r_ldc, r_lconst0, r_lconst1, r_ldc2, r_null, r_iload_n, r_iload, r_lload_n, r_lload, r_aload_n, r_aload, r_istore_n, r_istore, r_lstore_n, r_lstore, r_astore_nR, r_astoreR, r_astore_nN, r_astoreN, r_iinc, r_iadd, r_isub, r_imul, r_iand, r_idiv, r_irem, r_ineg, r_ladd, r_lsub, r_lmul, r_lxor, r_ldiv, r_lcmp, r_i2l, r_l2i, r_dup, r_pop, r_dup2, r_ifeq, r_ifne, r_iflt, r_ifge, r_ifgt, r_ifle, r_icmpeq, r_icmpne, r_icmplt, r_icmpge, r_icmpgt, r_icmple, r_acmpne, r_ifnullN, r_ifnullR, r_ifnonnullN, r_ifnonnullR, r_goto, r_getf, r_putf, r_alen, r_iald, r_bald, r_lald, r_aald, r_iast, r_bast, r_last, r_aast, gl_c, s1_d, s2_d, ins_n, ins_c, rm1_n, rm1_c, rm2_n, rm2_c, cat_i, cat_l, cat_r, cat_n, oI_t, oJ_t, oA_t, oA_u, oV_t, mO_s, aI_s, aJ_s, aQ_s, mL_0, mL_1, mL_2, mL_3, mL_4, nth_0, nth_s, rf_s, rf_n, fit_i, fit_r, fit_a, fit_b, fit_b0, fit_b1, Option.toList_some, Option.toList_none, List.cons_append, List.nil_append, List.set_cons_zero, List.set_cons_succ, List.length_cons, List.length_nil, Nat.reduceAdd, Nat.reduceEqDiff, Nat.reduceLT, reduceIte, false_implies, true_implies, not_false_eq_true, not_true_eq_false, true_and, and_true, Nat.zero_add, lv_args, nI_1, Bool.false_eq_true, eq_self]
      refine V_iret C hZ rfl d_X5_view_131 ⟨rfl, R, tt, _, _, ⟨HH, CS_AG S G vw_ng (vw_row (by omega)) (vw_row (by omega)) (vw_row (by omega)) (vw_row (by omega)) (vw_row (by omega)), ?_⟩, ?_⟩ ⟨(Nat.le_of_ble_eq_true rfl), (Nat.le_of_ble_eq_true rfl)⟩
      · exact if_neg (fun z => by omega)
      · intro a ha
        rw [up_ne (fun z => (H 0 0 0 L0).2.2 (by rw [← z]; exact ha)), up_ne (fun z => (H 7 0 0 L7).2.2 (by rw [← z]; exact ha)), up_ne (fun z => HM a ha (by rw [z]; exact hq0))]
    refine V_run C b_X5_view_100 ?_
    simp only [k_X5_view_100, bI_eq0, r_nil, r_iconst, r_bipush, r_sipush, r_ldc, r_lconst0, r_lconst1, r_ldc2, r_null, r_iload_n, r_iload, r_lload_n, r_lload, r_aload_n, r_aload, r_istore_n, r_istore, r_lstore_n, r_lstore, r_astore_nR, r_astoreR, r_astore_nN, r_astoreN, r_iinc, r_iadd, r_isub, r_imul, r_iand, r_idiv, r_irem, r_ineg, r_ladd, r_lsub, r_lmul, r_lxor, r_ldiv, r_lcmp, r_i2l, r_l2i, r_dup, r_pop, r_dup2, r_ifeq, r_ifne, r_iflt, r_ifge, r_ifgt, r_ifle, r_icmpeq, r_icmpne, r_icmplt, r_icmpge, r_icmpgt, r_icmple, r_acmpne, r_ifnullN, r_ifnullR, r_ifnonnullN, r_ifnonnullR, r_goto, r_getf, r_putf, r_alen, r_iald, r_bald, r_lald, r_aald, r_iast, r_bast, r_last, r_aast, gl_c, s1_d, s2_d, ins_n, ins_c, rm1_n, rm1_c, rm2_n, rm2_c, cat_i, cat_l, cat_r, cat_n, oI_t, oJ_t, oA_t, oA_u, oV_t, mO_s, aI_s, aJ_s, aQ_s, mL_0, mL_1, mL_2, mL_3, mL_4, nth_0, nth_s, rf_s, rf_n, fit_i, fit_r, fit_a, fit_b, fit_b0, fit_b1, Option.toList_some, Option.toList_none, List.cons_append, List.nil_append, List.set_cons_zero, List.set_cons_succ, List.length_cons, List.length_nil, Nat.reduceAdd, Nat.reduceEqDiff, Nat.reduceLT, reduceIte, false_implies, true_implies, not_false_eq_true, not_true_eq_false, true_and, and_true, Nat.zero_add, lv_args, nI_1, Bool.false_eq_true, eq_self]
    refine ⟨fun c1 => ?_, fun c1 => ?_⟩
    · have e9 : vwA σ i x y w hh q fl = frd tuA q (w, hh, paA (aw σ i).2.2 x y) := by unfold vwA; rw [if_neg (by rw [c1]; decide)]
      rw [e9] at fin
      exact fin
    · have e9 : vwA σ i x y w hh q fl = fpA (frd tuA q (w, hh, paA (aw σ i).2.2 x y)) := by unfold vwA; rw [if_pos (bt c1)]
      rw [e9] at fin
      generalize frd tuA q (w, hh, paA (aw σ i).2.2 x y) = s9 at fin ⊢
      have hw : up h q0 (eWA σ (A 9 (ro σ i) 0) s9 0) q0 = some (eWin (A 9 (ro σ i) 0) (nI s9.1) (nI s9.2.1) (Int32.ofInt s9.2.2.1) (Int32.ofInt s9.2.2.2.1) (Int32.ofInt s9.2.2.2.2.1) (Int32.ofInt s9.2.2.2.2.2.1) (Int32.ofInt s9.2.2.2.2.2.2.1) (Int32.ofInt s9.2.2.2.2.2.2.2) 0) := up_same
      refine V_callV C c_X5_68 d_X5_view_107 (s_flip hw) rfl rfl (hw) rfl (Nat.le_of_ble_eq_true rfl) ⟨(Nat.le_of_ble_eq_true rfl), (Nat.le_of_ble_eq_true rfl)⟩ (Nat.le_of_ble_eq_true rfl) (fun _ _ z => z.elim) ?_
      rintro _ _ ⟨rfl, rfl⟩
      rw [up_up, fp_e (σ := σ)]
      exact fin
  · intro t ht ih
    rw [frd_s] at ih
    generalize frd tuA t (w, hh, paA (aw σ i).2.2 x y) = s9 at ih ⊢
    refine V_run C b_X5_view_82 ?_
    simp only [k_X5_view_82, (c_nle q t), r_nil, r_iconst, r_bipush, r_sipush, r_ldc, r_lconst0, r_lconst1, r_ldc2, r_null, r_iload_n, r_iload, r_lload_n, r_lload, r_aload_n, r_aload, r_istore_n, r_istore, r_lstore_n, r_lstore, r_astore_nR, r_astoreR, r_astore_nN, r_astoreN, r_iinc, r_iadd, r_isub, r_imul, r_iand, r_idiv, r_irem, r_ineg, r_ladd, r_lsub, r_lmul, r_lxor, r_ldiv, r_lcmp, r_i2l, r_l2i, r_dup, r_pop, r_dup2, r_ifeq, r_ifne, r_iflt, r_ifge, r_ifgt, r_ifle, r_icmpeq, r_icmpne, r_icmplt, r_icmpge, r_icmpgt, r_icmple, r_acmpne, r_ifnullN, r_ifnullR, r_ifnonnullN, r_ifnonnullR, r_goto, r_getf, r_putf, r_alen, r_iald, r_bald, r_lald, r_aald, r_iast, r_bast, r_last, r_aast, gl_c, s1_d, s2_d, ins_n, ins_c, rm1_n, rm1_c, rm2_n, rm2_c, cat_i, cat_l, cat_r, cat_n, oI_t, oJ_t, oA_t, oA_u, oV_t, mO_s, aI_s, aJ_s, aQ_s, mL_0, mL_1, mL_2, mL_3, mL_4, nth_0, nth_s, rf_s, rf_n, fit_i, fit_r, fit_a, fit_b, fit_b0, fit_b1, Option.toList_some, Option.toList_none, List.cons_append, List.nil_append, List.set_cons_zero, List.set_cons_succ, List.length_cons, List.length_nil, Nat.reduceAdd, Nat.reduceEqDiff, Nat.reduceLT, reduceIte, false_implies, true_implies, not_false_eq_true, not_true_eq_false, true_and, and_true, Nat.zero_add, lv_args, nI_1, Bool.false_eq_true, eq_self]
    have hw : up h q0 (eWA σ (A 9 (ro σ i) 0) s9 0) q0 = some (eWin (A 9 (ro σ i) 0) (nI s9.1) (nI s9.2.1) (Int32.ofInt s9.2.2.1) (Int32.ofInt s9.2.2.2.1) (Int32.ofInt s9.2.2.2.2.1) (Int32.ofInt s9.2.2.2.2.2.1) (Int32.ofInt s9.2.2.2.2.2.2.1) (Int32.ofInt s9.2.2.2.2.2.2.2) 0) := up_same
    refine V_callV C c_X5_65 d_X5_view_91 (s_turn hw) rfl rfl (hw) rfl (Nat.le_of_ble_eq_true rfl) ⟨(Nat.le_of_ble_eq_true rfl), (Nat.le_of_ble_eq_true rfl)⟩ (Nat.le_of_ble_eq_true rfl) (fun _ _ z => z.elim) ?_
    rintro _ _ ⟨rfl, rfl⟩
    rw [up_up, tu_e (σ := σ) (t := t)]
    refine V_run C b_X5_view_94 ?_
    simp only [k_X5_view_94, r_nil, r_iconst, r_bipush, r_sipush, r_ldc, r_lconst0, r_lconst1, r_ldc2, r_null, r_iload_n, r_iload, r_lload_n, r_lload, r_aload_n, r_aload, r_istore_n, r_istore, r_lstore_n, r_lstore, r_astore_nR, r_astoreR, r_astore_nN, r_astoreN, r_iinc, r_iadd, r_isub, r_imul, r_iand, r_idiv, r_irem, r_ineg, r_ladd, r_lsub, r_lmul, r_lxor, r_ldiv, r_lcmp, r_i2l, r_l2i, r_dup, r_pop, r_dup2, r_ifeq, r_ifne, r_iflt, r_ifge, r_ifgt, r_ifle, r_icmpeq, r_icmpne, r_icmplt, r_icmpge, r_icmpgt, r_icmple, r_acmpne, r_ifnullN, r_ifnullR, r_ifnonnullN, r_ifnonnullR, r_goto, r_getf, r_putf, r_alen, r_iald, r_bald, r_lald, r_aald, r_iast, r_bast, r_last, r_aast, gl_c, s1_d, s2_d, ins_n, ins_c, rm1_n, rm1_c, rm2_n, rm2_c, cat_i, cat_l, cat_r, cat_n, oI_t, oJ_t, oA_t, oA_u, oV_t, mO_s, aI_s, aJ_s, aQ_s, mL_0, mL_1, mL_2, mL_3, mL_4, nth_0, nth_s, rf_s, rf_n, fit_i, fit_r, fit_a, fit_b, fit_b0, fit_b1, Option.toList_some, Option.toList_none, List.cons_append, List.nil_append, List.set_cons_zero, List.set_cons_succ, List.length_cons, List.length_nil, Nat.reduceAdd, Nat.reduceEqDiff, Nat.reduceLT, reduceIte, false_implies, true_implies, not_false_eq_true, not_true_eq_false, true_and, and_true, Nat.zero_add, lv_args, nI_1, Bool.false_eq_true, eq_self]
    exact ih
end
