/-! ===== states that agree on what is there; close ===== -/
def AG (σ σ' : SG) : Prop := (ng σ ≤ ng σ' ∧ nv σ ≤ nv σ') ∧ (∀ g, g < ng σ → σ' 1 g = σ 1 g ∧ σ' 2 g = σ 2 g) ∧ ∀ n, n < nv σ → ∀ f, 10 ≤ f → f ≤ 16 → σ' f n = σ f n
section
variable {σ σ' : SG}
theorem AG.nt1 (G : AG σ σ') {g : Nat} (hg : g < ng σ) : nt σ' 1 g = nt σ 1 g := by show (σ' 1 g).toNatClampNeg = _; rw [(G.2.1 g hg).1]; rfl
theorem AG.nt2 (G : AG σ σ') {g : Nat} (hg : g < ng σ) : nt σ' 2 g = nt σ 2 g := by show (σ' 2 g).toNatClampNeg = _; rw [(G.2.1 g hg).2]; rfl
theorem AG.ntv (G : AG σ σ') {n : Nat} (hn : n < nv σ) (f : Nat) (h1 : 10 ≤ f := by omega) (h2 : f ≤ 16 := by omega) : nt σ' f n = nt σ f n := by show (σ' f n).toNatClampNeg = _; rw [G.2.2 n hn f h1 h2]; rfl
theorem AG.q_vI (G : AG σ σ') {i : Nat} (hv : vI σ i) : vI σ' i := by
  have := G.1
  rcases hv with q | q
  · exact Or.inl (by omega)
  · exact Or.inr ⟨q.1, by omega⟩
theorem AG.q_zW (G : AG σ σ') (I : GI σ) {i : Nat} (hv : vI σ i) : zW σ' i = zW σ i := by
  unfold zW
  by_cases h1 : i < 100
  · rw [if_pos h1, if_pos h1, G.nt1 (by rcases hv with q | q <;> omega)]
  · have hn := vI_of I hv h1
    rw [if_neg h1, if_neg h1, G.ntv hn 15, G.ntv hn 13, G.ntv hn 14]
theorem AG.q_zH (G : AG σ σ') (I : GI σ) {i : Nat} (hv : vI σ i) : zH σ' i = zH σ i := by
  unfold zH
  by_cases h1 : i < 100
  · rw [if_pos h1, if_pos h1, G.nt2 (by rcases hv with q | q <;> omega)]
  · have hn := vI_of I hv h1
    rw [if_neg h1, if_neg h1, G.ntv hn 15, G.ntv hn 13, G.ntv hn 14]
theorem AG.q_vs (G : AG σ σ') (I : GI σ) {n : Nat} (hn : n < nv σ) (s : Nat × Nat) : vs σ' n s = vs σ n s := by
  have hv : vI σ (100 + n) := Or.inr ⟨by omega, by omega⟩
  unfold vs
  rw [G.q_zW I hv, G.q_zH I hv, G.ntv hn 15, G.ntv hn 11, G.ntv hn 12, G.2.2 n hn 16 (by omega) (by omega)]
theorem AG.q_plF (G : AG σ σ') (I : GI σ) : ∀ f i s, vI σ i → plF σ' f i s = plF σ f i s
  | 0, _, _, _ => rfl
  | f + 1, i, s, hv => by
    unfold plF
    by_cases h1 : i < 100
    · rw [if_pos h1, if_pos h1]
    · have hn := vI_of I hv h1
      rw [if_neg h1, if_neg h1, G.ntv hn 10, G.q_vs I hn, G.q_plF I f _ _ (vI_up I hv h1)]
theorem AG.q_pl (G : AG σ σ') (I : GI σ) {i : Nat} (hv : vI σ i) (u v : Nat) : pl σ' i u v = pl σ i u v := G.q_plF I 13 i (u, v) hv
theorem AG.q_pn (G : AG σ σ') (I : GI σ) {i : Nat} (hv : vI σ i) (u v : Nat) : pn σ' i u v = pn σ i u v := by unfold pn; rw [G.q_pl I hv]
theorem AG.q_roF (G : AG σ σ') (I : GI σ) : ∀ f i, vI σ i → roF σ' f i = roF σ f i
  | 0, _, _ => rfl
  | f + 1, i, hv => by
    unfold roF
    by_cases h1 : i < 100
    · rw [if_pos h1, if_pos h1]
    · have hn := vI_of I hv h1
      rw [if_neg h1, if_neg h1, G.ntv hn 10, G.q_roF I f _ (vI_up I hv h1)]
theorem AG.q_ro (G : AG σ σ') (I : GI σ) {i : Nat} (hv : vI σ i) : ro σ' i = ro σ i := G.q_roF I 13 i hv
theorem AG.q_awF (G : AG σ σ') (I : GI σ) : ∀ f i, vI σ i → (i < 100 ∨ i - 100 < f) → awF σ' f i = awF σ f i
  | 0, i, hv, hf => by
    have hg : i < ng σ := by rcases hv with q | q <;> omega
    unfold awF
    rw [G.nt1 hg, G.nt2 hg]
  | f + 1, i, hv, hf => by
    unfold awF
    by_cases h1 : i < 100
    · have hg : i < ng σ := by rcases hv with q | q <;> omega
      rw [if_pos h1, if_pos h1, G.nt1 hg, G.nt2 hg]
    · have hn := vI_of I hv h1
      rw [if_neg h1, if_neg h1, G.2.2 _ hn 16 (by omega) (by omega), G.ntv hn 10, G.ntv hn 11, G.ntv hn 12, G.ntv hn 13, G.ntv hn 14, G.ntv hn 15, G.q_awF I f _ (vI_up I hv h1) (vI_rk I hv h1 hf)]
theorem AG.q_aw (G : AG σ σ') (I : GI σ) {i : Nat} (hv : vI σ i) : aw σ' i = aw σ i := G.q_awF I 13 i hv (by have := vI_lt I hv; omega)
theorem AG.q_wH (G : AG σ σ') {g : Nat} (hg : g < ng σ) : wH σ' g = wH σ g := by unfold wH; rw [G.nt1 hg, G.nt2 hg]
theorem AG.q_GIg (G : AG σ σ') (I : GI σ) {g : Nat} (hg : g < ng σ) : GIg σ' g := by
  have := I.2.2.1 g hg
  unfold GIg at *
  rw [G.nt1 hg, G.nt2 hg, (G.2.1 g hg).1, (G.2.1 g hg).2]
  exact this
theorem AG.q_GIv (G : AG σ σ') (I : GI σ) {n : Nat} (hn : n < nv σ) (h17 : σ' 17 n = 0 ∨ σ' 17 n = 1) : GIv σ' n := by
  obtain ⟨a, ho, b, c, d, e, -⟩ := I.2.2.2 n hn
  have hv : vI σ (nt σ 10 n) := by
    rcases ho with q | q
    · exact Or.inl q
    · exact Or.inr ⟨q.1, by omega⟩
  unfold GIv
  rw [G.ntv hn 10, G.ntv hn 11, G.ntv hn 12, G.ntv hn 13, G.ntv hn 14, G.ntv hn 15, G.2.2 n hn 10 (by omega) (by omega), G.2.2 n hn 11 (by omega) (by omega), G.2.2 n hn 12 (by omega) (by omega), G.2.2 n hn 13 (by omega) (by omega), G.2.2 n hn 14 (by omega) (by omega), G.2.2 n hn 15 (by omega) (by omega), G.2.2 n hn 16 (by omega) (by omega), G.q_zW I hv, G.q_zH I hv]
  refine ⟨a, ?_, b, c, d, e, h17⟩
  have := G.1.1
  rcases ho with q | q
  · exact Or.inl (by omega)
  · exact Or.inr q
theorem lv15 {k i j : Nat} (h : lv σ k i j) : k ≤ 15 := by rcases h with q | q | q | q <;> omega
theorem lvg {k i j : Nat} (h : lv σ k i j) (h1 : 8 ≤ k) (h2 : k ≤ 14) : i < ng σ := by rcases h with q | q | q | q <;> omega
theorem lvj {k i j : Nat} (h : lv σ k i j) (h1 : 13 ≤ k) (h2 : k ≤ 14) : j < nl σ i := by rcases h with q | q | q | q <;> omega
theorem lvn {k i j : Nat} (h : lv σ k i j) (h1 : k = 15) : i < nv σ := by rcases h with q | q | q | q <;> omega
theorem lv_0 {k : Nat} (h : k ≤ 7) : lv σ k 0 0 := Or.inl ⟨h, rfl, rfl⟩
theorem lv_g {k g : Nat} (h1 : 8 ≤ k) (h2 : k ≤ 12) (hg : g < ng σ) : lv σ k g 0 := Or.inr (Or.inl ⟨h1, h2, hg, rfl⟩)
theorem lv_l {k g q : Nat} (h1 : 13 ≤ k) (h2 : k ≤ 14) (hg : g < ng σ) (hq : q < nl σ g) : lv σ k g q := Or.inr (Or.inr (Or.inl ⟨h1, h2, hg, hq⟩))
theorem lv_v {n : Nat} (hn : n < nv σ) : lv σ 15 n 0 := Or.inr (Or.inr (Or.inr ⟨rfl, hn, rfl⟩))
/-- a cell of the store told alike by both states -/
theorem kx_AG {Y : Nat → ClassId} {R R' : LF} {tt tt' : TT} {A A' : AF} (G : AG σ σ') (I : GI σ) (hA : ∀ k i j, lv σ k i j → A' k i j = A k i j) {k i j : Nat} (hl : lv σ k i j) (ht : tt' = tt) (h0 : k = 0 → ng σ' = ng σ ∧ nv σ' = nv σ) (h2 : k = 2 → σ' 9 = σ 9) (h6 : k = 6 → ng σ' = ng σ) (h7 : k = 7 → nv σ' = nv σ) (h9 : k = 9 ∨ k = 12 → nl σ' i = nl σ i) (h11 : k = 11 → R' i 0 = R i 0) (h14 : k = 14 → R' i (j + 1) = R i (j + 1)) (h17 : k = 15 → σ' 17 i = σ 17 i) : kx Y σ' R' tt' A' k i j = kx Y σ R tt A k i j := by
  subst ht
  have hk := lv15 hl
  rcases (by omega : k = 0 ∨ k = 1 ∨ k = 2 ∨ k = 3 ∨ k = 4 ∨ k = 5 ∨ k = 6 ∨ k = 7 ∨ k = 8 ∨ k = 9 ∨ k = 10 ∨ k = 11 ∨ k = 12 ∨ k = 13 ∨ k = 14 ∨ k = 15) with rfl | rfl | rfl | rfl | rfl | rfl | rfl | rfl | rfl | rfl | rfl | rfl | rfl | rfl | rfl | rfl
  · simp only [kx, reduceIte, Nat.reduceEqDiff]
    rw [hA 1 0 0 (lv_0 (by omega)), hA 3 0 0 (lv_0 (by omega)), hA 6 0 0 (lv_0 (by omega)), hA 7 0 0 (lv_0 (by omega)), (h0 rfl).1, (h0 rfl).2]
  · simp only [kx, reduceIte, Nat.reduceEqDiff]
    rw [hA 2 0 0 (lv_0 (by omega))]
  · simp only [kx, reduceIte, Nat.reduceEqDiff]
    rw [h2 rfl]
  · simp only [kx, reduceIte, Nat.reduceEqDiff]
    rw [hA 4 0 0 (lv_0 (by omega)), hA 5 0 0 (lv_0 (by omega))]
  · simp only [kx, reduceIte, Nat.reduceEqDiff]
  · simp only [kx, reduceIte, Nat.reduceEqDiff]
  · simp only [kx, reduceIte, Nat.reduceEqDiff]
    rw [h6 rfl]
    have : (fun g => if g < ng σ then some (A' 8 g 0) else none) = fun g => if g < ng σ then some (A 8 g 0) else none := by
      funext g
      by_cases q : g < ng σ
      · rw [if_pos q, if_pos q, hA 8 g 0 (lv_g (by omega) (by omega) q)]
      · rw [if_neg q, if_neg q]
    rw [this]
  · simp only [kx, reduceIte, Nat.reduceEqDiff]
    rw [h7 rfl]
    have : (fun g => if g < nv σ then some (A' 15 g 0) else none) = fun g => if g < nv σ then some (A 15 g 0) else none := by
      funext g
      by_cases q : g < nv σ
      · rw [if_pos q, if_pos q, hA 15 g 0 (lv_v q)]
      · rw [if_neg q, if_neg q]
    rw [this]
  · have hg := lvg hl (by omega) (by omega)
    simp only [kx, reduceIte, Nat.reduceEqDiff]
    rw [hA 9 i 0 (lv_g (by omega) (by omega) hg), G.nt1 hg, G.nt2 hg]
  · have hg := lvg hl (by omega) (by omega)
    simp only [kx, reduceIte, Nat.reduceEqDiff]
    rw [hA 1 0 0 (lv_0 (by omega)), hA 10 i 0 (lv_g (by omega) (by omega) hg), hA 12 i 0 (lv_g (by omega) (by omega) hg), G.nt1 hg, G.nt2 hg, h9 (Or.inl rfl)]
  · have hg := lvg hl (by omega) (by omega)
    simp only [kx, reduceIte, Nat.reduceEqDiff]
    rw [hA 11 i 0 (lv_g (by omega) (by omega) hg), G.nt1 hg, G.nt2 hg]
  · have hg := lvg hl (by omega) (by omega)
    simp only [kx, reduceIte, Nat.reduceEqDiff]
    rw [G.q_wH hg, h11 rfl]
  · have hg := lvg hl (by omega) (by omega)
    simp only [kx, reduceIte, Nat.reduceEqDiff]
    rw [h9 (Or.inr rfl)]
    have : (fun q => if q < nl σ i then some (A' 13 i q) else none) = fun q => if q < nl σ i then some (A 13 i q) else none := by
      funext q
      by_cases z : q < nl σ i
      · rw [if_pos z, if_pos z, hA 13 i q (lv_l (by omega) (by omega) hg z)]
      · rw [if_neg z, if_neg z]
    rw [this]
  · have hg := lvg hl (by omega) (by omega)
    have hj := lvj hl (by omega) (by omega)
    simp only [kx, reduceIte, Nat.reduceEqDiff]
    rw [hA 14 i j (lv_l (by omega) (by omega) hg hj), G.nt1 hg, G.nt2 hg]
  · have hg := lvg hl (by omega) (by omega)
    simp only [kx, reduceIte, Nat.reduceEqDiff]
    rw [G.q_wH hg, h14 rfl]
  · have hn := lvn hl rfl
    have hv : vI σ (100 + i) := Or.inr ⟨by omega, by omega⟩
    simp only [kx, reduceIte, Nat.reduceEqDiff]
    rw [G.q_ro I hv, G.q_aw I hv, hA 9 (ro σ (100 + i)) 0 (lv_g (by omega) (by omega) (ro_lt I hv)), h17 rfl]
    rfl
end
theorem nt_ne {σ : SG} {f f' k : Nat} {v : Int32} (n : f' ≠ f) : nt (su σ f k v) f' = nt σ f' := by funext q; show (su σ f k v f' q).toNatClampNeg = _; rw [su_ne n]; rfl
theorem nt_at {σ : SG} {f k : Nat} {v : Int32} : nt (su σ f k v) f k = v.toNatClampNeg := by show (su σ f k v f k).toNatClampNeg = _; rw [su_row]; simp [upd]
theorem nt_off {σ : SG} {f k q : Nat} {v : Int32} (n : q ≠ k) : nt (su σ f k v) f q = nt σ f q := by show (su σ f k v f q).toNatClampNeg = _; rw [su_row]; simp [upd, n]; rfl
section
variable {l : Launch} {D : va_G} {Y : Nat → ClassId} {b0 : Nat} {h : AH} {MM : Nat → Prop} {σ : SG} {R : LF} {tt : TT} {A : AF} {T : TF}
theorem HR.grow (H : HR Y MM σ R tt A T h) {σ' : SG} {R' : LF} {tt' : TT} {A' : AF} {T' : TF} {h' : AH} (hold : ∀ k i j, lv σ' k i j → lv σ k i j → A' k i j = A k i j ∧ T' (A k i j) = (k, i, j) ∧ h' (A k i j) = some (kx Y σ' R' tt' A' k i j)) (hnew : ∀ k i j, lv σ' k i j → ¬ lv σ k i j → h' (A' k i j) = some (kx Y σ' R' tt' A' k i j) ∧ T' (A' k i j) = (k, i, j) ∧ ¬ MM (A' k i j)) : HR Y MM σ' R' tt' A' T' h' := by
  intro k i j hl
  by_cases q : lv σ k i j
  · obtain ⟨a, b, c⟩ := hold k i j hl q
    rw [a]
    exact ⟨c, b, (H k i j q).2.2⟩
  · exact hnew k i j hl q
def okV (σ : SG) (x : Int32) : Prop := ∃ n, x = nI n ∧ n < nv σ
theorem AG.cl {n : Nat} {v : Int32} : AG σ (su σ 17 n v) := by
  refine ⟨⟨?_, ?_⟩, fun g hg => ?_, fun q hq f h1 h2 => ?_⟩
  · unfold ng; rw [nt_ne (by omega)]; exact Nat.le_refl _
  · unfold nv; rw [nt_ne (by omega)]; exact Nat.le_refl _
  · rw [su_ne (by omega), su_ne (by omega)]; exact ⟨rfl, rfl⟩
  · rw [su_ne (by omega)]
theorem k_close_x (H : HR Y MM σ R tt A T h) (I : GI σ) {x : Int32} (hx : ¬ okV σ x) (y : Int32) : Ct l D Y b0 mX5_close 10 12 4000 [.ref (A 0 0 0), .int x, .int y] h noQ (tX xIOB h) := by
  refine Ct_of "GridStore" false rfl (by decide +kernel) (fun z => by cases z) (Nat.le_of_ble_eq_true rfl) ?_
  intro p e s mI args below meth c Z C hno hZ
  have h12 := I.2.1.1
  have nul : V p l e s mI args below meth c D b0 10 12 4000 Z 0 0 23 ([(0, .ref (A 0 0 0)), (1, .int x), (2, .int y)]) ([.null]) (h) := by
    refine V_run C b_X5_close_23 ?_
    simp only [k_X5_close_23, r_nil, r_iconst, r_bipush, r_sipush, r_ldc, r_lconst0, r_lconst1, r_ldc2, r_null, r_iload_n, r_iload, r_lload_n, r_lload, r_aload_n, r_aload, r_istore_n, r_istore, r_lstore_n, r_lstore, r_astore_nR, r_astoreR, r_astore_nN, r_astoreN, r_iinc, r_iadd, r_isub, r_imul, r_iand, r_idiv, r_irem, r_ineg, r_ladd, r_lsub, r_lmul, r_lxor, r_ldiv, r_lcmp, r_i2l, r_l2i, r_dup, r_pop, r_dup2, r_ifeq, r_ifne, r_iflt, r_ifge, r_ifgt, r_ifle, r_icmpeq, r_icmpne, r_icmplt, r_icmpge, r_icmpgt, r_icmple, r_acmpne, r_ifnullN, r_ifnullR, r_ifnonnullN, r_ifnonnullR, r_goto, r_getf, r_putf, r_alen, r_iald, r_bald, r_lald, r_aald, r_iast, r_bast, r_last, r_aast, gl_c, s1_d, s2_d, ins_n, ins_c, rm1_n, rm1_c, rm2_n, rm2_c, cat_i, cat_l, cat_r, cat_n, oI_t, oJ_t, oA_t, oA_u, oV_t, mO_s, aI_s, aJ_s, aQ_s, mL_0, mL_1, mL_2, mL_3, mL_4, nth_0, nth_s, rf_s, rf_n, fit_i, fit_r, fit_a, fit_b, fit_b0, fit_b1, Option.toList_some, Option.toList_none, List.cons_append, List.nil_append, List.set_cons_zero, List.set_cons_succ, List.length_cons, List.length_nil, Nat.reduceAdd, Nat.reduceEqDiff, Nat.reduceLT, reduceIte, false_implies, true_implies, not_false_eq_true, not_true_eq_false, true_and, and_true, Nat.zero_add, lv_args, nI_1, Bool.false_eq_true, eq_self]
    exact V_throw C hZ hno t_X5_71 d_X5_close_28 d_X5_close_31 d_X5_close_32 d_X5_close_35 (Nat.le_of_ble_eq_true rfl) ⟨(Nat.le_of_ble_eq_true rfl), (Nat.le_of_ble_eq_true rfl)⟩ (Nat.le_of_ble_eq_true rfl) ⟨rfl, rfl⟩
  have e2 : (nI 12).toInt = 12 := rfl
  by_cases c0 : 0 ≤ x.toInt ∧ x.toInt < 12
  · have hng : ¬ x.toInt.toNat < nv σ := fun q => hx ⟨x.toInt.toNat, toI x _ (by omega) (by omega), q⟩
    have hg8 : x.toInt.toNat < 12 := by omega
    have ex := toI x x.toInt.toNat (by omega) (by omega)
    generalize x.toInt.toNat = g at ex hng hg8
    subst ex
    have e1 : (if g < nv σ then some (A 15 g 0) else none) = none := if_neg hng
    refine V_run C b_X5_close_0 ?_
    simp only [k_X5_close_0, H.c0, H.c7, (c_ge0 g), (c_nle 12 g), (c_in g 12), (c_cl g), e1, r_nil, r_iconst, r_bipush, r_sipush, r_ldc, r_lconst0, r_lconst1, r_ldc2, r_null, r_iload_n, r_iload, r_lload_n, r_lload, r_aload_n, r_aload, r_istore_n, r_istore, r_lstore_n, r_lstore, r_astore_nR, r_astoreR, r_astore_nN, r_astoreN, r_iinc, r_iadd, r_isub, r_imul, r_iand, r_idiv, r_irem, r_ineg, r_ladd, r_lsub, r_lmul, r_lxor, r_ldiv, r_lcmp, r_i2l, r_l2i, r_dup, r_pop, r_dup2, r_ifeq, r_ifne, r_iflt, r_ifge, r_ifgt, r_ifle, r_icmpeq, r_icmpne, r_icmplt, r_icmpge, r_icmpgt, r_icmple, r_acmpne, r_ifnullN, r_ifnullR, r_ifnonnullN, r_ifnonnullR, r_goto, r_getf, r_putf, r_alen, r_iald, r_bald, r_lald, r_aald, r_iast, r_bast, r_last, r_aast, gl_c, s1_d, s2_d, ins_n, ins_c, rm1_n, rm1_c, rm2_n, rm2_c, cat_i, cat_l, cat_r, cat_n, oI_t, oJ_t, oA_t, oA_u, oV_t, mO_s, aI_s, aJ_s, aQ_s, mL_0, mL_1, mL_2, mL_3, mL_4, nth_0, nth_s, rf_s, rf_n, fit_i, fit_r, fit_a, fit_b, fit_b0, fit_b1, Option.toList_some, Option.toList_none, List.cons_append, List.nil_append, List.set_cons_zero, List.set_cons_succ, List.length_cons, List.length_nil, Nat.reduceAdd, Nat.reduceEqDiff, Nat.reduceLT, reduceIte, false_implies, true_implies, not_false_eq_true, not_true_eq_false, true_and, and_true, Nat.zero_add, lv_args, nI_1, Bool.false_eq_true, eq_self]
    exact nul
  · have nul' : V p l e s mI args below meth c D b0 10 12 4000 Z 0 0 22 ([(0, .ref (A 0 0 0)), (1, .int x), (2, .int y)]) ([]) (h) := by
      refine V_run C b_X5_close_22 ?_
      simp only [k_X5_close_22, r_nil, r_iconst, r_bipush, r_sipush, r_ldc, r_lconst0, r_lconst1, r_ldc2, r_null, r_iload_n, r_iload, r_lload_n, r_lload, r_aload_n, r_aload, r_istore_n, r_istore, r_lstore_n, r_lstore, r_astore_nR, r_astoreR, r_astore_nN, r_astoreN, r_iinc, r_iadd, r_isub, r_imul, r_iand, r_idiv, r_irem, r_ineg, r_ladd, r_lsub, r_lmul, r_lxor, r_ldiv, r_lcmp, r_i2l, r_l2i, r_dup, r_pop, r_dup2, r_ifeq, r_ifne, r_iflt, r_ifge, r_ifgt, r_ifle, r_icmpeq, r_icmpne, r_icmplt, r_icmpge, r_icmpgt, r_icmple, r_acmpne, r_ifnullN, r_ifnullR, r_ifnonnullN, r_ifnonnullR, r_goto, r_getf, r_putf, r_alen, r_iald, r_bald, r_lald, r_aald, r_iast, r_bast, r_last, r_aast, gl_c, s1_d, s2_d, ins_n, ins_c, rm1_n, rm1_c, rm2_n, rm2_c, cat_i, cat_l, cat_r, cat_n, oI_t, oJ_t, oA_t, oA_u, oV_t, mO_s, aI_s, aJ_s, aQ_s, mL_0, mL_1, mL_2, mL_3, mL_4, nth_0, nth_s, rf_s, rf_n, fit_i, fit_r, fit_a, fit_b, fit_b0, fit_b1, Option.toList_some, Option.toList_none, List.cons_append, List.nil_append, List.set_cons_zero, List.set_cons_succ, List.length_cons, List.length_nil, Nat.reduceAdd, Nat.reduceEqDiff, Nat.reduceLT, reduceIte, false_implies, true_implies, not_false_eq_true, not_true_eq_false, true_and, and_true, Nat.zero_add, lv_args, nI_1, Bool.false_eq_true, eq_self]
      exact nul
    refine V_run C b_X5_close_0 ?_
    simp only [k_X5_close_0, H.c0, H.c7, r_nil, r_iconst, r_bipush, r_sipush, r_ldc, r_lconst0, r_lconst1, r_ldc2, r_null, r_iload_n, r_iload, r_lload_n, r_lload, r_aload_n, r_aload, r_istore_n, r_istore, r_lstore_n, r_lstore, r_astore_nR, r_astoreR, r_astore_nN, r_astoreN, r_iinc, r_iadd, r_isub, r_imul, r_iand, r_idiv, r_irem, r_ineg, r_ladd, r_lsub, r_lmul, r_lxor, r_ldiv, r_lcmp, r_i2l, r_l2i, r_dup, r_pop, r_dup2, r_ifeq, r_ifne, r_iflt, r_ifge, r_ifgt, r_ifle, r_icmpeq, r_icmpne, r_icmplt, r_icmpge, r_icmpgt, r_icmple, r_acmpne, r_ifnullN, r_ifnullR, r_ifnonnullN, r_ifnonnullR, r_goto, r_getf, r_putf, r_alen, r_iald, r_bald, r_lald, r_aald, r_iast, r_bast, r_last, r_aast, gl_c, s1_d, s2_d, ins_n, ins_c, rm1_n, rm1_c, rm2_n, rm2_c, cat_i, cat_l, cat_r, cat_n, oI_t, oJ_t, oA_t, oA_u, oV_t, mO_s, aI_s, aJ_s, aQ_s, mL_0, mL_1, mL_2, mL_3, mL_4, nth_0, nth_s, rf_s, rf_n, fit_i, fit_r, fit_a, fit_b, fit_b0, fit_b1, Option.toList_some, Option.toList_none, List.cons_append, List.nil_append, List.set_cons_zero, List.set_cons_succ, List.length_cons, List.length_nil, Nat.reduceAdd, Nat.reduceEqDiff, Nat.reduceLT, reduceIte, false_implies, true_implies, not_false_eq_true, not_true_eq_false, true_and, and_true, Nat.zero_add, lv_args, nI_1, Bool.false_eq_true, eq_self]
    refine ⟨fun _ => nul', fun c1 => ⟨fun _ => nul', fun c2 => ?_⟩⟩
    exfalso
    apply c0
    rw [Int32.lt_iff_toInt_lt, i0] at c1
    rw [Int32.le_iff_toInt_le, e2] at c2
    omega
theorem CS_AG {σ' : SG} (S : CS σ R) (G : AG σ σ') (e1 : ng σ' = ng σ) (e3 : σ' 3 = σ 3) (e4 : σ' 4 = σ 4) (e6 : σ' 6 = σ 6) (e7 : σ' 7 = σ 7) (e8 : σ' 8 = σ 8) : CS σ' R := by
  refine ⟨fun g x y hg hx hy => ?_, fun g q x y hg hq hx hy => ?_⟩
  · rw [e1] at hg
    rw [G.nt1 hg] at hx ⊢
    rw [G.nt2 hg] at hy
    rw [S.1 g x y hg hx hy]
    unfold cel
    rw [e3, e4]
  · rw [e1] at hg
    rw [G.nt1 hg] at hx ⊢
    rw [G.nt2 hg] at hy
    have hq' : q < nl σ g := by
      unfold nl nt at hq ⊢
      rw [e8] at hq
      exact hq
    rw [S.2 g q x y hg hq' hx hy]
    unfold lyr
    rw [e6, e7]
theorem k_close (H : HR Y MM σ R tt A T h) (I : GI σ) (S : CS σ R) {n : Nat} (hn : n < nv σ) (is : Bool) : Ct l D Y b0 mX5_close 10 12 4000 [.ref (A 0 0 0), .int (nI n), .int (bI is)] h (sq Y MM (A 0 0 0) (su σ 17 n (bI is)) h (.int (bI (decide (¬ σ 17 n = bI is))))) noX := by
  refine Ct_of "GridStore" false rfl (by decide +kernel) (fun z => by cases z) (Nat.le_of_ble_eq_true rfl) ?_
  intro p e s mI args below meth c Z C hno hZ
  have h12 := I.2.1.1
  have hv : vI σ (100 + n) := Or.inr ⟨by omega, by omega⟩
  have e1 : (if n < nv σ then some (A 15 n 0) else none) = some (A 15 n 0) := if_pos hn
  have c15 := H.c15 hn
  unfold eWA at c15
  have G : AG σ (su σ 17 n (bI is)) := AG.cl
  have ekx : kx Y (su σ 17 n (bI is)) R tt A 15 n 0 = eWA σ (A 9 (ro σ (100 + n)) 0) (aw σ (100 + n)) (bI is) := by
    simp only [kx, reduceIte, Nat.reduceEqDiff]
    rw [G.q_ro I hv, G.q_aw I hv, su_row]
    simp [upd, eWA]
  have hlv : ∀ k i j, lv (su σ 17 n (bI is)) k i j ↔ lv σ k i j := by
    intro k i j
    unfold lv ng nv nl
    rw [nt_ne (by omega), nt_ne (by omega), nt_ne (by omega)]
  have H2 : HR Y MM (su σ 17 n (bI is)) R tt A T (up h (A 15 n 0) (kx Y (su σ 17 n (bI is)) R tt A 15 n 0)) := H.set (lv_v hn) hlv (fun k' i' j' hl' hne => kx_AG G I (fun _ _ _ _ => rfl) ((hlv _ _ _).mp hl') rfl (fun _ => ⟨by unfold ng; rw [nt_ne (by omega)], by unfold nv; rw [nt_ne (by omega)]⟩) (fun _ => su_ne (by omega)) (fun _ => by unfold ng; rw [nt_ne (by omega)]) (fun _ => by unfold nv; rw [nt_ne (by omega)]) (fun _ => by unfold nl; rw [nt_ne (by omega)]) (fun _ => rfl) (fun _ => rfl) (fun e => by
    have : i' ≠ n := fun z => hne (by
      rcases (hlv _ _ _).mp hl' with q | q | q | q
      · omega
      · omega
      · omega
      · rw [e, z, q.2.2])
    rw [su_row]
    simp [upd, this]))
  rw [ekx] at H2
  unfold eWA at H2
  have hm : ¬ MM (A 15 n 0) := (H 15 n 0 (lv_v hn)).2.2
  have fin : ∀ z : Bool, z = decide (¬ σ 17 n = bI is) → V p l e s mI args below meth c D b0 10 12 4000 Z 0 0 49 ([(0, .ref (A 0 0 0)), (1, .int (nI n)), (2, .int (bI is)), (3, .ref (A 15 n 0))]) ([.int (bI z)]) (h) := by
    intro z hz
    refine V_run C b_X5_close_49 ?_
    simp only [k_X5_close_49, c15, fit_b, r_nil, r_iconst, r_bipush, r_sipush, r_ldc, r_lconst0, r_lconst1, r_ldc2, r_null, r_iload_n, r_iload, r_lload_n, r_lload, r_aload_n, r_aload, r_istore_n, r_istore, r_lstore_n, r_lstore, r_astore_nR, r_astoreR, r_astore_nN, r_astoreN, r_iinc, r_iadd, r_isub, r_imul, r_iand, r_idiv, r_irem, r_ineg, r_ladd, r_lsub, r_lmul, r_lxor, r_ldiv, r_lcmp, r_i2l, r_l2i, r_dup, r_pop, r_dup2, r_ifeq, r_ifne, r_iflt, r_ifge, r_ifgt, r_ifle, r_icmpeq, r_icmpne, r_icmplt, r_icmpge, r_icmpgt, r_icmple, r_acmpne, r_ifnullN, r_ifnullR, r_ifnonnullN, r_ifnonnullR, r_goto, r_getf, r_putf, r_alen, r_iald, r_bald, r_lald, r_aald, r_iast, r_bast, r_last, r_aast, gl_c, s1_d, s2_d, ins_n, ins_c, rm1_n, rm1_c, rm2_n, rm2_c, cat_i, cat_l, cat_r, cat_n, oI_t, oJ_t, oA_t, oA_u, oV_t, mO_s, aI_s, aJ_s, aQ_s, mL_0, mL_1, mL_2, mL_3, mL_4, nth_0, nth_s, rf_s, rf_n, fit_i, fit_r, fit_a, fit_b, fit_b0, fit_b1, Option.toList_some, Option.toList_none, List.cons_append, List.nil_append, List.set_cons_zero, List.set_cons_succ, List.length_cons, List.length_nil, Nat.reduceAdd, Nat.reduceEqDiff, Nat.reduceLT, reduceIte, false_implies, true_implies, not_false_eq_true, not_true_eq_false, true_and, and_true, Nat.zero_add, lv_args, nI_1, Bool.false_eq_true, eq_self]
    refine V_zret C hZ rfl d_X5_close_58 (bI_01 z) ⟨by rw [hz], R, tt, A, T, ⟨H2, CS_AG S G (by unfold ng; rw [nt_ne (by omega)]) (su_ne (by omega)) (su_ne (by omega)) (su_ne (by omega)) (su_ne (by omega)) (su_ne (by omega)), rfl⟩, fun a ha => up_ne (fun q => hm (by rw [← q]; exact ha))⟩ ⟨(Nat.le_of_ble_eq_true rfl), (Nat.le_of_ble_eq_true rfl)⟩
  refine V_run C b_X5_close_0 ?_
  simp only [k_X5_close_0, H.c0, H.c7, (c_ge0 n), (c_nle 12 n), (c_in n 12), (c_cl n), e1, r_nil, r_iconst, r_bipush, r_sipush, r_ldc, r_lconst0, r_lconst1, r_ldc2, r_null, r_iload_n, r_iload, r_lload_n, r_lload, r_aload_n, r_aload, r_istore_n, r_istore, r_lstore_n, r_lstore, r_astore_nR, r_astoreR, r_astore_nN, r_astoreN, r_iinc, r_iadd, r_isub, r_imul, r_iand, r_idiv, r_irem, r_ineg, r_ladd, r_lsub, r_lmul, r_lxor, r_ldiv, r_lcmp, r_i2l, r_l2i, r_dup, r_pop, r_dup2, r_ifeq, r_ifne, r_iflt, r_ifge, r_ifgt, r_ifle, r_icmpeq, r_icmpne, r_icmplt, r_icmpge, r_icmpgt, r_icmple, r_acmpne, r_ifnullN, r_ifnullR, r_ifnonnullN, r_ifnonnullR, r_goto, r_getf, r_putf, r_alen, r_iald, r_bald, r_lald, r_aald, r_iast, r_bast, r_last, r_aast, gl_c, s1_d, s2_d, ins_n, ins_c, rm1_n, rm1_c, rm2_n, rm2_c, cat_i, cat_l, cat_r, cat_n, oI_t, oJ_t, oA_t, oA_u, oV_t, mO_s, aI_s, aJ_s, aQ_s, mL_0, mL_1, mL_2, mL_3, mL_4, nth_0, nth_s, rf_s, rf_n, fit_i, fit_r, fit_a, fit_b, fit_b0, fit_b1, Option.toList_some, Option.toList_none, List.cons_append, List.nil_append, List.set_cons_zero, List.set_cons_succ, List.length_cons, List.length_nil, Nat.reduceAdd, Nat.reduceEqDiff, Nat.reduceLT, reduceIte, false_implies, true_implies, not_false_eq_true, not_true_eq_false, true_and, and_true, Nat.zero_add, lv_args, nI_1, Bool.false_eq_true, eq_self]
  refine V_run C b_X5_close_23 ?_
  simp only [k_X5_close_23, r_nil, r_iconst, r_bipush, r_sipush, r_ldc, r_lconst0, r_lconst1, r_ldc2, r_null, r_iload_n, r_iload, r_lload_n, r_lload, r_aload_n, r_aload, r_istore_n, r_istore, r_lstore_n, r_lstore, r_astore_nR, r_astoreR, r_astore_nN, r_astoreN, r_iinc, r_iadd, r_isub, r_imul, r_iand, r_idiv, r_irem, r_ineg, r_ladd, r_lsub, r_lmul, r_lxor, r_ldiv, r_lcmp, r_i2l, r_l2i, r_dup, r_pop, r_dup2, r_ifeq, r_ifne, r_iflt, r_ifge, r_ifgt, r_ifle, r_icmpeq, r_icmpne, r_icmplt, r_icmpge, r_icmpgt, r_icmple, r_acmpne, r_ifnullN, r_ifnullR, r_ifnonnullN, r_ifnonnullR, r_goto, r_getf, r_putf, r_alen, r_iald, r_bald, r_lald, r_aald, r_iast, r_bast, r_last, r_aast, gl_c, s1_d, s2_d, ins_n, ins_c, rm1_n, rm1_c, rm2_n, rm2_c, cat_i, cat_l, cat_r, cat_n, oI_t, oJ_t, oA_t, oA_u, oV_t, mO_s, aI_s, aJ_s, aQ_s, mL_0, mL_1, mL_2, mL_3, mL_4, nth_0, nth_s, rf_s, rf_n, fit_i, fit_r, fit_a, fit_b, fit_b0, fit_b1, Option.toList_some, Option.toList_none, List.cons_append, List.nil_append, List.set_cons_zero, List.set_cons_succ, List.length_cons, List.length_nil, Nat.reduceAdd, Nat.reduceEqDiff, Nat.reduceLT, reduceIte, false_implies, true_implies, not_false_eq_true, not_true_eq_false, true_and, and_true, Nat.zero_add, lv_args, nI_1, Bool.false_eq_true, eq_self]
  refine V_run C b_X5_close_36 ?_
  simp only [k_X5_close_36, c15, r_nil, r_iconst, r_bipush, r_sipush, r_ldc, r_lconst0, r_lconst1, r_ldc2, r_null, r_iload_n, r_iload, r_lload_n, r_lload, r_aload_n, r_aload, r_istore_n, r_istore, r_lstore_n, r_lstore, r_astore_nR, r_astoreR, r_astore_nN, r_astoreN, r_iinc, r_iadd, r_isub, r_imul, r_iand, r_idiv, r_irem, r_ineg, r_ladd, r_lsub, r_lmul, r_lxor, r_ldiv, r_lcmp, r_i2l, r_l2i, r_dup, r_pop, r_dup2, r_ifeq, r_ifne, r_iflt, r_ifge, r_ifgt, r_ifle, r_icmpeq, r_icmpne, r_icmplt, r_icmpge, r_icmpgt, r_icmple, r_acmpne, r_ifnullN, r_ifnullR, r_ifnonnullN, r_ifnonnullR, r_goto, r_getf, r_putf, r_alen, r_iald, r_bald, r_lald, r_aald, r_iast, r_bast, r_last, r_aast, gl_c, s1_d, s2_d, ins_n, ins_c, rm1_n, rm1_c, rm2_n, rm2_c, cat_i, cat_l, cat_r, cat_n, oI_t, oJ_t, oA_t, oA_u, oV_t, mO_s, aI_s, aJ_s, aQ_s, mL_0, mL_1, mL_2, mL_3, mL_4, nth_0, nth_s, rf_s, rf_n, fit_i, fit_r, fit_a, fit_b, fit_b0, fit_b1, Option.toList_some, Option.toList_none, List.cons_append, List.nil_append, List.set_cons_zero, List.set_cons_succ, List.length_cons, List.length_nil, Nat.reduceAdd, Nat.reduceEqDiff, Nat.reduceLT, reduceIte, false_implies, true_implies, not_false_eq_true, not_true_eq_false, true_and, and_true, Nat.zero_add, lv_args, nI_1, Bool.false_eq_true, eq_self]
  refine ⟨fun c1 => ?_, fun c1 => ?_⟩
  · refine V_run C b_X5_close_48 ?_
    simp only [k_X5_close_48, r_nil, r_iconst, r_bipush, r_sipush, r_ldc, r_lconst0, r_lconst1, r_ldc2, r_null, r_iload_n, r_iload, r_lload_n, r_lload, r_aload_n, r_aload, r_istore_n, r_istore, r_lstore_n, r_lstore, r_astore_nR, r_astoreR, r_astore_nN, r_astoreN, r_iinc, r_iadd, r_isub, r_imul, r_iand, r_idiv, r_irem, r_ineg, r_ladd, r_lsub, r_lmul, r_lxor, r_ldiv, r_lcmp, r_i2l, r_l2i, r_dup, r_pop, r_dup2, r_ifeq, r_ifne, r_iflt, r_ifge, r_ifgt, r_ifle, r_icmpeq, r_icmpne, r_icmplt, r_icmpge, r_icmpgt, r_icmple, r_acmpne, r_ifnullN, r_ifnullR, r_ifnonnullN, r_ifnonnullR, r_goto, r_getf, r_putf, r_alen, r_iald, r_bald, r_lald, r_aald, r_iast, r_bast, r_last, r_aast, gl_c, s1_d, s2_d, ins_n, ins_c, rm1_n, rm1_c, rm2_n, rm2_c, cat_i, cat_l, cat_r, cat_n, oI_t, oJ_t, oA_t, oA_u, oV_t, mO_s, aI_s, aJ_s, aQ_s, mL_0, mL_1, mL_2, mL_3, mL_4, nth_0, nth_s, rf_s, rf_n, fit_i, fit_r, fit_a, fit_b, fit_b0, fit_b1, Option.toList_some, Option.toList_none, List.cons_append, List.nil_append, List.set_cons_zero, List.set_cons_succ, List.length_cons, List.length_nil, Nat.reduceAdd, Nat.reduceEqDiff, Nat.reduceLT, reduceIte, false_implies, true_implies, not_false_eq_true, not_true_eq_false, true_and, and_true, Nat.zero_add, lv_args, nI_1, Bool.false_eq_true, eq_self]
    exact fin false (by rw [decide_eq_false (fun q => q c1)])
  · exact fin true (by rw [decide_eq_true c1])
end
