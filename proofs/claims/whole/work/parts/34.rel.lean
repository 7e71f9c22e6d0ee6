/-! ===== a state changed off its geometry; one cell read, written, on both sides ===== -/
def GE (σ σ' : SG) : Prop := ∀ f, (f = 1 ∨ f = 2 ∨ f = 5 ∨ f = 8 ∨ f = 10 ∨ f = 11 ∨ f = 12 ∨ f = 13 ∨ f = 14 ∨ f = 15 ∨ f = 16 ∨ f = 17 ∨ f = 18) → σ' f = σ f
section
variable {σ σ' : SG}
theorem GE.q_nt (E : GE σ σ') (f : Nat) (hf : f = 1 ∨ f = 2 ∨ f = 5 ∨ f = 8 ∨ f = 10 ∨ f = 11 ∨ f = 12 ∨ f = 13 ∨ f = 14 ∨ f = 15 ∨ f = 16 ∨ f = 17 ∨ f = 18) : nt σ' f = nt σ f := by funext k; show (σ' f k).toNatClampNeg = _; rw [E f hf]; rfl
theorem GE.q_ng (E : GE σ σ') : ng σ' = ng σ := congrFun (E.q_nt 5 (by omega)) 0
theorem GE.q_nv (E : GE σ σ') : nv σ' = nv σ := congrFun (E.q_nt 18 (by omega)) 0
theorem GE.q_nl (E : GE σ σ') (g : Nat) : nl σ' g = nl σ g := congrFun (E.q_nt 8 (by omega)) g
theorem GE.q_zW (E : GE σ σ') (i : Nat) : zW σ' i = zW σ i := by unfold zW; rw [E.q_nt 1 (by omega), E.q_nt 13 (by omega), E.q_nt 14 (by omega), E.q_nt 15 (by omega)]
theorem GE.q_zH (E : GE σ σ') (i : Nat) : zH σ' i = zH σ i := by unfold zH; rw [E.q_nt 2 (by omega), E.q_nt 13 (by omega), E.q_nt 14 (by omega), E.q_nt 15 (by omega)]
theorem GE.q_vI (E : GE σ σ') (i : Nat) : vI σ' i ↔ vI σ i := by unfold vI; rw [E.q_ng, E.q_nv]
theorem GE.q_vs (E : GE σ σ') (n : Nat) (s : Nat × Nat) : vs σ' n s = vs σ n s := by unfold vs; rw [E.q_zW, E.q_zH, E.q_nt 15 (by omega), E.q_nt 11 (by omega), E.q_nt 12 (by omega), E 16 (by omega)]
theorem GE.q_plF (E : GE σ σ') : ∀ f i s, plF σ' f i s = plF σ f i s
  | 0, _, _ => rfl
  | f + 1, i, s => by unfold plF; rw [E.q_plF f, E.q_nt 10 (by omega), E.q_vs]
theorem GE.q_pl (E : GE σ σ') (i u v : Nat) : pl σ' i u v = pl σ i u v := E.q_plF 13 i (u, v)
theorem GE.q_pn (E : GE σ σ') (i u v : Nat) : pn σ' i u v = pn σ i u v := by unfold pn; rw [E.q_pl]
theorem GE.q_roF (E : GE σ σ') : ∀ f i, roF σ' f i = roF σ f i
  | 0, _ => rfl
  | f + 1, i => by unfold roF; rw [E.q_roF f, E.q_nt 10 (by omega)]
theorem GE.q_ro (E : GE σ σ') (i : Nat) : ro σ' i = ro σ i := E.q_roF 13 i
theorem GE.q_awF (E : GE σ σ') : ∀ f i, awF σ' f i = awF σ f i
  | 0, i => by unfold awF; rw [E.q_nt 1 (by omega), E.q_nt 2 (by omega)]
  | f + 1, i => by unfold awF; rw [E.q_nt 1 (by omega), E.q_nt 2 (by omega), E.q_awF f, E.q_nt 10 (by omega), E.q_nt 11 (by omega), E.q_nt 12 (by omega), E.q_nt 13 (by omega), E.q_nt 14 (by omega), E.q_nt 15 (by omega), E 16 (by omega)]
theorem GE.q_aw (E : GE σ σ') (i : Nat) : aw σ' i = aw σ i := E.q_awF 13 i
theorem GE.q_clF (E : GE σ σ') (i : Nat) : clF σ' i = clF σ i := by unfold clF; rw [E 17 (by omega)]
theorem GE.q_wH (E : GE σ σ') (i : Nat) : wH σ' i = wH σ i := by unfold wH; rw [E.q_nt 1 (by omega), E.q_nt 2 (by omega)]
theorem GE.q_lv (E : GE σ σ') (k i j : Nat) : lv σ' k i j ↔ lv σ k i j := by unfold lv; rw [E.q_ng, E.q_nv, E.q_nl]
theorem GE.q_GI (E : GE σ σ') (I : GI σ) : GI σ' := by
  unfold GI GIg GIv at *
  simp only [E.q_ng, E.q_nv, E.q_zW, E.q_zH, E.q_nt 1 (by omega), E.q_nt 2 (by omega), E.q_nt 10 (by omega), E.q_nt 11 (by omega), E.q_nt 12 (by omega), E.q_nt 13 (by omega), E.q_nt 14 (by omega), E.q_nt 15 (by omega), E 1 (by omega), E 2 (by omega), E 5 (by omega), E 18 (by omega), E 10 (by omega), E 11 (by omega), E 12 (by omega), E 13 (by omega), E 14 (by omega), E 15 (by omega), E 16 (by omega), E 17 (by omega)]
  exact I
theorem GE.q_rfl : GE σ σ := fun _ _ => Eq.refl _
theorem GE.q_tr {σ'' : SG} (E : GE σ σ') (E' : GE σ' σ'') : GE σ σ'' := fun f hf => (E' f hf).trans (E f hf)
theorem GE.q_su {f k : Nat} {v : Int32} (hf : f = 0 ∨ f = 3 ∨ f = 4 ∨ f = 6 ∨ f = 7 ∨ f = 9 ∨ f = 19 ∨ f = 20) : GE σ (su σ f k v) := fun f' hf' => su_ne (by omega)
theorem GE.q_wr {p : Nat} {b : Bool} {v : Int32} : GE σ (wrM σ p b v) := by
  unfold wrM
  split
  · exact GE.q_rfl
  · exact GE.q_tr (GE.q_su (f := 4) (by omega)) (GE.q_su (f := 3) (by omega))
theorem GE.q_okG (E : GE σ σ') (x : Int32) : okG σ' x ↔ okG σ x := by unfold okG; rw [E.q_ng]
theorem GE.q_okI (E : GE σ σ') (x : Int32) : okI σ' x ↔ okI σ x := by unfold okI; simp only [E.q_vI]
/-- what the store holds of each cell, where geometry stays -/
theorem kx_GE {Y : Nat → ClassId} {R R' : LF} {tt tt' : TT} {A : AF} (E : GE σ σ') {k i j : Nat} (h9 : σ' 9 = σ 9) (h3 : k = 3 → tt'.2.2 = tt.2.2) (h4 : k = 4 → tt'.1 = tt.1) (h5 : k = 5 → tt'.2.1 = tt.2.1) (h11 : k = 11 → R' i 0 = R i 0) (h14 : k = 14 → R' i (j + 1) = R i (j + 1)) : kx Y σ' R' tt' A k i j = kx Y σ R tt A k i j := by
  unfold kx eWA
  by_cases e3 : k = 3
  · subst e3; simp only [h3 rfl, reduceIte, Nat.reduceEqDiff]
  by_cases e4 : k = 4
  · subst e4; simp only [h4 rfl, reduceIte, Nat.reduceEqDiff]
  by_cases e5 : k = 5
  · subst e5; simp only [h5 rfl, reduceIte, Nat.reduceEqDiff]
  by_cases e11 : k = 11
  · subst e11; simp only [h11 rfl, E.q_wH, reduceIte, Nat.reduceEqDiff]
  by_cases e14 : k = 14
  · subst e14; simp only [h14 rfl, E.q_wH, reduceIte, Nat.reduceEqDiff]
  simp only [e3, e4, e5, e11, e14, if_false, E.q_ng, E.q_nv, E.q_nl, E.q_ro, E.q_aw, h9, E 17 (by omega), E.q_nt 1 (by omega), E.q_nt 2 (by omega)]
end
section
variable {l : Launch} {D : va_G} {Y : Nat → ClassId} {b0 : Nat} {h : AH} {MM : Nat → Prop} {σ : SG} {R : LF} {tt : TT} {A : AF} {T : TF}
def upR (R : LF) (g q : Nat) (f : Nat → Int64) : LF := fun g' q' => if g' = g ∧ q' = q then f else R g' q'
theorem upR_same {R : LF} {g q : Nat} {f : Nat → Int64} : upR R g q f g q = f := if_pos ⟨rfl, rfl⟩
theorem upR_ne {R : LF} {g q g' q' : Nat} {f : Nat → Int64} (h : ¬ (g' = g ∧ q' = q)) : upR R g q f g' q' = R g' q' := if_neg h
theorem upR_id {R : LF} {g q : Nat} : upR R g q (R g q) = R := by
  funext g' q'
  unfold upR
  split
  · rename_i h; rw [h.1, h.2]
  · rfl
/-- the row of a grid's cells anew -/
theorem HR.setR (H : HR Y MM σ R tt A T h) {σ' : SG} (E : GE σ σ') (h9 : σ' 9 = σ 9) {g : Nat} (hg : g < ng σ) (f : Nat → Int64) : HR Y MM σ' (upR R g 0 f) tt A T (up h (A 11 g 0) (eJ Y (nt σ 1 g * nt σ 2 g) f)) := by
  have hl : lv σ 11 g 0 := Or.inr (Or.inl ⟨by omega, by omega, hg, rfl⟩)
  have := H.set (σ' := σ') (R' := upR R g 0 f) (tt' := tt) hl (fun k i j => E.q_lv k i j) (fun k' i' j' hl' hn => kx_GE E h9 (fun _ => rfl) (fun _ => rfl) (fun _ => rfl) (fun e => upR_ne (fun z => hn (by
    rcases hl' with q | q | q | q
    · omega
    · rw [e, z.1, q.2.2.2]
    · omega
    · omega))) (fun _ => upR_ne (by omega)))
  have e : kx Y σ' (upR R g 0 f) tt A 11 g 0 = eJ Y (nt σ 1 g * nt σ 2 g) f := by
    unfold kx
    simp only [reduceIte, Nat.reduceEqDiff, E.q_wH, upR_same]
    rfl
  rw [e] at this
  exact this
theorem hoM_eq {g x y : Nat} (hx : x < 48) (hy : y < 40) : hoM (1920 * g + 48 * y + x) = (x / 8 + y / 8) % 5 := by
  unfold hoM
  have e1 : (1920 * g + 48 * y + x) % 1920 = 48 * y + x := by omega
  rw [e1]
  have e2 : (48 * y + x) % 48 = x := by omega
  have e3 : (48 * y + x) / 48 = y := by omega
  rw [e2, e3]
theorem shB_M {g x y : Nat} (hx : x < 48) (hy : y < 40) : shB (σ 9) (x / 8) (y / 8) = shM σ (1920 * g + 48 * y + x) := by
  unfold shB shM
  rw [hoM_eq hx hy]
/-- what is written: a number, or a hole -/
def isO (o : Option Int32) : Bool := match o with | none => false | some _ => true
def vlO (o : Option Int32) : Int32 := match o with | none => 0 | some v => v
theorem cel_eq (b : BI σ) {p : Nat} {o : Option Int32} : (cel σ p = o) = (saM σ p (isO o) (vlO o) = true) := by
  unfold cel saM
  rcases b.1 4 (Or.inl rfl) p with e | e
  · rw [if_pos e, e]
    cases o with
    | none => simp [isO, bI]
    | some v => simp [isO, bI]
  · rw [if_neg (by rw [e]; decide), e]
    cases o with
    | none => simp [isO, bI]
    | some v =>
      simp [isO, vlO, bI]
      exact decide_eq_true_iff.symm
theorem wr_row {p : Nat} {b : Bool} {v : Int32} {f : Nat} (h3 : f ≠ 3) (h4 : f ≠ 4) : wrM σ p b v f = σ f := by
  unfold wrM
  split
  · rfl
  · rw [su_ne h3, su_ne h4]
theorem cel_wr {p q : Nat} {o : Option Int32} : cel (wrM σ p (isO o) (vlO o)) q = if shM σ p = true then cel σ q else if q = p then o else cel σ q := by
  unfold wrM
  by_cases s : shM σ p = true
  · rw [if_pos s, if_pos s]
  · rw [if_neg s, if_neg s]
    unfold cel
    by_cases e : q = p
    · subst e
      rw [if_pos rfl]
      cases o with
      | none => simp [su, isO, bI]
      | some v => simp [su, isO, vlO, bI]
    · rw [if_neg e]
      simp [su, e]
theorem place_inj {g x y g' x' y' : Nat} (h1 : x < 48) (h2 : y < 40) (h3 : x' < 48) (h4 : y' < 40) (e : 1920 * g + 48 * y + x = 1920 * g' + 48 * y' + x') : g = g' ∧ x = x' ∧ y = y' := by omega
theorem wd_eq (b : BI σ) (S : CS σ R) (I : GI σ) {g x y : Nat} (hg : g < ng σ) (hx : x < nt σ 1 g) (hy : y < nt σ 2 g) (o : Option Int32) : wdC (σ 9) (nt σ 1 g) (R g 0) x y (c2l o) = wdM σ (1920 * g + 48 * y + x) (isO o) (vlO o) := by
  obtain ⟨-, -, -, a1, -, a2⟩ := I.2.2.1 g hg
  unfold wdC wdM
  rw [shB_M (g := g) (by omega) (by omega)]
  split
  · rfl
  · rw [S.1 g x y hg hx hy]
    have e : (c2l (cel σ (1920 * g + 48 * y + x)) = c2l o) = (saM σ (1920 * g + 48 * y + x) (isO o) (vlO o) = true) := by rw [c2l_inj, cel_eq b]
    by_cases q : saM σ (1920 * g + 48 * y + x) (isO o) (vlO o) = true
    · rw [if_pos q, if_pos (by rw [e]; exact q)]
    · rw [if_neg q, if_neg (by rw [e]; exact q)]
theorem CS_wr (S : CS σ R) (I : GI σ) {g x y : Nat} (hg : g < ng σ) (hx : x < nt σ 1 g) (hy : y < nt σ 2 g) (o : Option Int32) : CS (wrM σ (1920 * g + 48 * y + x) (isO o) (vlO o)) (upR R g 0 (wrC (σ 9) (nt σ 1 g) (R g 0) x y (c2l o))) := by
  have E : GE σ (wrM σ (1920 * g + 48 * y + x) (isO o) (vlO o)) := GE.q_wr
  obtain ⟨-, -, -, a1, -, a2⟩ := I.2.2.1 g hg
  refine ⟨fun g' x' y' hg' hx' hy' => ?_, fun g' q' x' y' hg' hq' hx' hy' => ?_⟩
  · rw [E.q_ng] at hg'
    rw [E.q_nt 1 (by omega)] at hx' ⊢
    rw [E.q_nt 2 (by omega)] at hy'
    obtain ⟨-, -, -, a3, -, a4⟩ := I.2.2.1 g' hg'
    rw [cel_wr]
    have hs := S.1 g' x' y' hg' hx' hy'
    by_cases eg : g' = g
    · subst eg
      rw [upR_same]
      unfold wrC
      rw [shB_M (g := g') (by omega) (by omega)]
      split
      · exact hs
      · by_cases ep : 1920 * g' + 48 * y' + x' = 1920 * g' + 48 * y + x
        · obtain ⟨-, e1, e2⟩ := place_inj (by omega) (by omega) (by omega) (by omega) ep
          rw [if_pos ep, e1, e2]
          simp [vp_updL]
        · rw [if_neg ep]
          have : ¬ y' * nt σ 1 g' + x' = y * nt σ 1 g' + x := fun z => by
            obtain ⟨z1, z2⟩ := idx_inj hx' hx z
            exact ep (by rw [z1, z2])
          simp only [vp_updL, if_neg this]
          exact hs
    · rw [upR_ne (by omega)]
      have ep : ¬ 1920 * g' + 48 * y' + x' = 1920 * g + 48 * y + x := fun z => eg (place_inj (by omega) (by omega) (by omega) (by omega) z).1
      rw [if_neg ep, ite_self]
      exact hs
  · rw [E.q_ng] at hg'
    rw [E.q_nl] at hq'
    rw [E.q_nt 1 (by omega)] at hx' ⊢
    rw [E.q_nt 2 (by omega)] at hy'
    rw [upR_ne (by omega), S.2 g' q' x' y' hg' hq' hx' hy']
    unfold lyr
    rw [wr_row (by omega) (by omega), wr_row (by omega) (by omega)]
theorem BI_wr (b : BI σ) {g x y : Nat} (hg : g < ng σ) (hx : x < nt σ 1 g) (hy : y < nt σ 2 g) (I : GI σ) (o : Option Int32) : BI (wrM σ (1920 * g + 48 * y + x) (isO o) (vlO o)) := by
  have E : GE σ (wrM σ (1920 * g + 48 * y + x) (isO o) (vlO o)) := GE.q_wr
  obtain ⟨-, -, -, a1, -, a2⟩ := I.2.2.1 g hg
  have e9 : wrM σ (1920 * g + 48 * y + x) (isO o) (vlO o) 9 = σ 9 := wr_row (by omega) (by omega)
  have e7 : wrM σ (1920 * g + 48 * y + x) (isO o) (vlO o) 7 = σ 7 := wr_row (by omega) (by omega)
  have e8 : wrM σ (1920 * g + 48 * y + x) (isO o) (vlO o) 8 = σ 8 := wr_row (by omega) (by omega)
  have e4 : ∀ p, wrM σ (1920 * g + 48 * y + x) (isO o) (vlO o) 4 p = if shM σ (1920 * g + 48 * y + x) = true then σ 4 p else if p = 1920 * g + 48 * y + x then bI (isO o) else σ 4 p := by
    intro p
    unfold wrM
    split
    · rfl
    · rw [su_ne (by omega)]; simp [su]
  have esh : ∀ p, shM (wrM σ (1920 * g + 48 * y + x) (isO o) (vlO o)) p = shM σ p := fun p => by unfold shM; rw [e9]
  obtain ⟨b1, b2, b3, b4, b5, b6⟩ := b
  refine ⟨fun f hf k => ?_, fun g' hg' => ?_, fun g' hg' => ?_, fun p hp hs => ?_, fun p hp hs => ?_, fun g' q k hg' hq hk hs => ?_⟩
  · by_cases f4 : f = 4
    · subst f4
      rw [e4]
      split
      · exact b1 4 hf k
      · split
        · exact bI_01 _
        · exact b1 4 hf k
    · have : wrM σ (1920 * g + 48 * y + x) (isO o) (vlO o) f = σ f := by
        unfold wrM
        split
        · rfl
        · rw [su_ne (by omega), su_ne (by omega)]
      rw [this]
      exact b1 f hf k
  · rw [E.q_ng] at hg'
    rw [e8, E.q_nl]
    exact b2 g' hg'
  · rw [E.q_ng] at hg'
    rw [e8]
    exact b3 g' hg'
  · rw [esh] at hs
    rw [e4]
    split
    · exact b4 p hp hs
    · rename_i q
      split
      · rename_i r
        rw [r] at hs
        exact absurd hs q
      · exact b4 p hp hs
  · rw [E.q_ng, E.q_nt 1 (by omega), E.q_nt 2 (by omega)] at hs
    rw [e4]
    split
    · exact b5 p hp hs
    · split
      · rename_i r
        exfalso
        have h1 : (1920 * g + 48 * y + x) / 1920 = g := by omega
        have h2 : (1920 * g + 48 * y + x) % 1920 % 48 = x := by omega
        have h3 : (1920 * g + 48 * y + x) % 1920 / 48 = y := by omega
        rw [r, h1, h2, h3] at hs
        omega
      · exact b5 p hp hs
  · rw [E.q_ng] at hg'
    rw [E.q_nl] at hq
    rw [E.q_nt 1 (by omega), E.q_nt 2 (by omega)] at hs
    rw [e7]
    exact b6 g' q k hg' hq hk hs
end
