theorem Ct_weak {l : Launch} {D : va_G} {Y : Nat → ClassId} {b0 : Nat} {mi : MI} {d mc ms : Nat} {as : List Value} {h : AH} {Q Q' : Option Value → AH → Prop} {QX QX' : String → AH → Prop} (c : Ct l D Y b0 mi d mc ms as h Q QX) (hq : ∀ v h', Q v h' → Q' v h') (hx : ∀ E h', QX E h' → QX' E h') : Ct l D Y b0 mi d mc ms as h Q' QX' := fun hfl => MetFree.mono (c hfl) (fun _ _ z => z) (fun _ _ _ _ _ z => z) (fun a s o t _ q => by
  rcases q with ⟨⟨⟨v, h', e, q, r⟩, f⟩, z⟩ | ⟨q0, e, E, ce, L, ⟨⟨h', q, r⟩, f⟩, z⟩
  · exact Or.inl ⟨⟨⟨v, h', e, hq _ _ q, r⟩, f⟩, z⟩
  · exact Or.inr ⟨q0, e, E, ce, L, ⟨⟨h', hx _ _ q, r⟩, f⟩, z⟩)
/-! ===== windows and grids of the store, by the state ===== -/
def SX (Y : Nat → ClassId) (MM : Nat → Prop) (x : Nat) (σ : SG) (h0 h : AH) : Prop := ∃ R tt A T, (HR Y MM σ R tt A T h ∧ CS σ R ∧ A 0 0 0 = x) ∧ ∀ a, MM a → h a = h0 a
def sq (Y : Nat → ClassId) (MM : Nat → Prop) (x : Nat) (σ : SG) (h0 : AH) (v : Value) : Option Value → AH → Prop := fun v' h' => v' = some v ∧ SX Y MM x σ h0 h'
/-- the same addresses, another row -/
def SR (Y : Nat → ClassId) (MM : Nat → Prop) (tt : TT) (A : AF) (T : TF) (σ : SG) (h0 h : AH) : Prop := ∃ R, (HR Y MM σ R tt A T h ∧ CS σ R) ∧ ∀ a, MM a → h a = h0 a
theorem SR.X {Y : Nat → ClassId} {MM : Nat → Prop} {tt : TT} {A : AF} {T : TF} {σ : SG} {h0 h : AH} (S : SR Y MM tt A T σ h0 h) : SX Y MM (A 0 0 0) σ h0 h := by
  obtain ⟨R, ⟨h1, h2⟩, h3⟩ := S
  exact ⟨R, tt, A, T, ⟨h1, h2, rfl⟩, h3⟩
def wrW (σ : SG) (i a b : Nat) (o : Option Int32) : SG := if clF σ i = true then σ else wrM σ (pn σ i a b) (isO o) (vlO o)
def wdW (σ : SG) (i a b : Nat) (o : Option Int32) : Nat := if clF σ i = true then 0 else wdM σ (pn σ i a b) (isO o) (vlO o)
theorem wdM_le {σ : SG} {p : Nat} {b : Bool} {v : Int32} : wdM σ p b v ≤ 1 := by unfold wdM; split <;> (try split) <;> omega
theorem wdW_le {σ : SG} {i a b : Nat} {o : Option Int32} : wdW σ i a b o ≤ 1 := by
  unfold wdW
  split
  · omega
  · exact wdM_le
section
variable {l : Launch} {D : va_G} {Y : Nat → ClassId} {b0 : Nat} {h : AH} {MM : Nat → Prop} {σ : SG} {R : LF} {tt : TT} {A : AF} {T : TF}
theorem pn_eq {i a b : Nat} : pn σ i a b = 1920 * ro σ i + 48 * (pl σ i a b).2.2 + (pl σ i a b).2.1 := by unfold pn pq; rw [pl_ro]
theorem pl_in2 (I : GI σ) {i u v : Nat} (hv : vI σ i) (h1 : u < zW σ i) (h2 : v < zH σ i) : ro σ i < ng σ ∧ (pl σ i u v).2.1 < nt σ 1 (ro σ i) ∧ (pl σ i u v).2.2 < nt σ 2 (ro σ i) := by
  have := pl_in I hv h1 h2
  rw [pl_ro] at this
  exact this
theorem GI.b1 (I : GI σ) {g : Nat} (hg : g < ng σ) : nt σ 1 g ≤ 48 ∧ nt σ 2 g ≤ 40 := ⟨(I.2.2.1 g hg).2.2.2.1, (I.2.2.1 g hg).2.2.2.2.2⟩
theorem k_cell (H : HR Y MM σ R tt A T h) (I : GI σ) (S : CS σ R) {i : Nat} (hi : vI σ i) {a b : Nat} (ha : a < zW σ i) (hb : b < zH σ i) : Ct l D Y b0 mX4_cell 4 0 0 [.ref (wa A i), .int (nI a), .int (nI b)] h (rt (.long (c2l (cel σ (pn σ i a b)))) h) noX := by
  obtain ⟨g1, g2, g3⟩ := pl_in2 I hi ha hb
  have := s_cell (l := l) (D := D) (b0 := b0) (H.win I hi) (H.G I g1) (win_x I hi ha hb) (win_y I hi ha hb) g2 g3
  rw [S.1 _ _ _ g1 g2 g3, ← pn_eq] at this
  exact this
theorem k_wableW (H : HR Y MM σ R tt A T h) (I : GI σ) {i : Nat} (hi : vI σ i) {a b : Nat} (ha : a < zW σ i) (hb : b < zH σ i) : Ct l D Y b0 mX4_writable 4 0 0 [.ref (wa A i), .int (nI a), .int (nI b)] h (rt (.int (bI (!clF σ i && !shM σ (pn σ i a b)))) h) noX := by
  obtain ⟨g1, g2, g3⟩ := pl_in2 I hi ha hb
  obtain ⟨g4, g5⟩ := I.b1 g1
  have := s_writableW (l := l) (D := D) (b0 := b0) (H.win I hi) (H.G I g1) (win_x I hi ha hb) (win_y I hi ha hb) g2 g3
  rw [shB_M (g := ro σ i) (by omega) (by omega), ← pn_eq] at this
  exact this
/-- the store's row behind a write -/
theorem HR.wr (H : HR Y MM σ R tt A T h) (I : GI σ) (S : CS σ R) {g x y : Nat} (hg : g < ng σ) (hx : x < nt σ 1 g) (hy : y < nt σ 2 g) (o : Option Int32) : SR Y MM tt A T (wrM σ (1920 * g + 48 * y + x) (isO o) (vlO o)) h (up h (A 11 g 0) (eJ Y (nt σ 1 g * nt σ 2 g) (wrC (σ 9) (nt σ 1 g) (R g 0) x y (c2l o)))) := by
  refine ⟨_, ⟨H.setR GE.q_wr (wr_row (by omega) (by omega)) hg _, CS_wr S I hg hx hy o⟩, fun a ha => up_ne (fun z => ?_)⟩
  have := (H 11 g 0 (Or.inr (Or.inl ⟨by omega, by omega, hg, rfl⟩))).2.2
  rw [← z] at this
  exact this ha
theorem k_write (H : HR Y MM σ R tt A T h) (I : GI σ) (S : CS σ R) (b : BI σ) {i : Nat} (hi : vI σ i) {a c : Nat} (ha : a < zW σ i) (hc : c < zH σ i) (o : Option Int32) : Ct l D Y b0 mX4_write 5 0 0 [.ref (wa A i), .int (nI a), .int (nI c), .long (c2l o)] h (fun v h' => v = some (.int (nI (wdW σ i a c o))) ∧ SR Y MM tt A T (wrW σ i a c o) h h') noX := by
  obtain ⟨g1, g2, g3⟩ := pl_in2 I hi ha hc
  have hw := s_writeW (l := l) (D := D) (b0 := b0) (H.win I hi) (H.G I g1) (win_x I hi ha hc) (win_y I hi ha hc) g2 g3 (c2l o)
  refine Ct_weak hw (fun v h' q => ?_) (fun _ _ z => z)
  obtain ⟨q1, q2⟩ := q
  by_cases c : clF σ i = true
  · rw [if_pos c] at q1 q2
    refine ⟨?_, ?_⟩
    · rw [q1]; unfold wdW; rw [if_pos c]
    · unfold wrW
      rw [if_pos c, ← q2, up_id (H.c11 g1)]
      exact ⟨R, ⟨H, S⟩, fun _ _ => rfl⟩
  · rw [if_neg c] at q1 q2
    refine ⟨?_, ?_⟩
    · rw [q1, wd_eq b S I g1 g2 g3, ← pn_eq]; unfold wdW; rw [if_neg c]
    · unfold wrW
      rw [if_neg c, ← q2, pn_eq]
      exact H.wr I S g1 g2 g3 o
theorem k_writeG (H : HR Y MM σ R tt A T h) (I : GI σ) (S : CS σ R) (b : BI σ) {g : Nat} (hg : g < ng σ) {x y : Nat} (hx : x < nt σ 1 g) (hy : y < nt σ 2 g) (o : Option Int32) : Ct l D Y b0 mX1_write 4 0 0 [.ref (A 9 g 0), .int (nI x), .int (nI y), .long (c2l o)] h (fun v h' => v = some (.int (nI (wdM σ (1920 * g + 48 * y + x) (isO o) (vlO o)))) ∧ SR Y MM tt A T (wrM σ (1920 * g + 48 * y + x) (isO o) (vlO o)) h h') noX := by
  refine Ct_weak (s_writeG (l := l) (D := D) (b0 := b0) (H.G I hg) hx hy (c2l o)) (fun v h' q => ?_) (fun _ _ z => z)
  obtain ⟨q1, q2⟩ := q
  refine ⟨?_, ?_⟩
  · rw [q1, wd_eq b S I hg hx hy]
  · rw [← q2]
    exact H.wr I S hg hx hy o
end
