/-! ===== totals gathered; sum, many; slide, fold, coarse ===== -/
/-- the cells of a window -/
def cw (σ : SG) (i : Nat) : Nat → Nat → Option Int32 := fun a b => cel σ (pn σ i a b)
def okTT (σ : SG) (i : Nat) (tt : TT) : Prop := tt.2.2 = (nI (zW σ i), nI (zH σ i)) ∧ okT (cfO (cw σ i)) (zW σ i) tt.1 tt.2.1 (zH σ i) 0
section
variable {l : Launch} {D : va_G} {Y : Nat → ClassId} {b0 : Nat} {h : AH} {MM : Nat → Prop} {σ : SG} {R : LF} {tt : TT} {A : AF} {T : TF}
theorem HR.setT (H : HR Y MM σ R tt A T h) (w hh : Int32) (ts : Nat → Int64) (tn : Nat → Int32) : HR Y MM σ R (ts, tn, w, hh) A T (up (up (up h (A 3 0 0) (eTot (A 4 0 0) (A 5 0 0) w hh)) (A 4 0 0) (eJ Y 1920 ts)) (A 5 0 0) (eI Y 1920 tn)) := by
  have h1 := H.set (σ' := σ) (R' := R) (tt' := (tt.1, tt.2.1, w, hh)) (k := 3) (i := 0) (j := 0) (Or.inl ⟨by omega, rfl, rfl⟩) (fun _ _ _ => Iff.rfl) (fun k' i' j' hl' hn => kx_GE GE.q_rfl rfl (fun e => by
    rcases hl' with q | q | q | q
    · exact absurd (by rw [e, q.2.1, q.2.2]) hn
    · omega
    · omega
    · omega) (fun _ => rfl) (fun _ => rfl) (fun _ => rfl) (fun _ => rfl))
  have h2 := HR.set h1 (σ' := σ) (R' := R) (tt' := (ts, tt.2.1, w, hh)) (k := 4) (i := 0) (j := 0) (Or.inl ⟨by omega, rfl, rfl⟩) (fun _ _ _ => Iff.rfl) (fun k' i' j' hl' hn => kx_GE GE.q_rfl rfl (fun _ => rfl) (fun e => by
    rcases hl' with q | q | q | q
    · exact absurd (by rw [e, q.2.1, q.2.2]) hn
    · omega
    · omega
    · omega) (fun _ => rfl) (fun _ => rfl) (fun _ => rfl))
  exact HR.set h2 (σ' := σ) (R' := R) (tt' := (ts, tn, w, hh)) (k := 5) (i := 0) (j := 0) (Or.inl ⟨by omega, rfl, rfl⟩) (fun _ _ _ => Iff.rfl) (fun k' i' j' hl' hn => kx_GE GE.q_rfl rfl (fun _ => rfl) (fun _ => rfl) (fun e => by
    rcases hl' with q | q | q | q
    · exact absurd (by rw [e, q.2.1, q.2.2]) hn
    · omega
    · omega
    · omega) (fun _ => rfl) (fun _ => rfl))
theorem HR.mm (H : HR Y MM σ R tt A T h) {k i j : Nat} (hl : lv σ k i j) : ¬ MM (A k i j) := (H k i j hl).2.2
theorem k_gather (H : HR Y MM σ R tt A T h) (I : GI σ) (S : CS σ R) {i : Nat} (hi : vI σ i) : Ct l D Y b0 mX3_gather 6 0 0 [.ref (A 3 0 0), .ref (wa A i)] h (fun v h' => v = none ∧ ∃ tt', (HR Y MM σ R tt' A T h' ∧ okTT σ i tt') ∧ ∀ a, MM a → h' a = h a) noX := by
  obtain ⟨⟨z1, z2⟩, ⟨z3, z4⟩, z5⟩ := sz_bd I i hi
  have hc : Wcell l D Y b0 (up h (A 3 0 0) (eTot (A 4 0 0) (A 5 0 0) (nI (zW σ i)) (nI (zH σ i)))) (A 4 0 0) (A 5 0 0) (wa A i) (zW σ i) (zH σ i) (cfO (cw σ i)) := fun ts tn a b ha hb => k_cell (H.setT (nI (zW σ i)) (nI (zH σ i)) ts tn) I S hi ha hb
  refine Ct_weak (s_gather H.c3 H.c4 H.c5 z5 z2 z4 (H.win I hi) hc) (fun v h' q => ?_) (fun _ _ z => z)
  obtain ⟨q1, ts', tn', hok, rfl⟩ := q
  refine ⟨q1, (ts', tn', nI (zW σ i), nI (zH σ i)), ⟨H.setT _ _ _ _, rfl, hok⟩, fun a ha => ?_⟩
  have n3 : a ≠ A 3 0 0 := fun z => H.mm (k := 3) (i := 0) (j := 0) (Or.inl ⟨by omega, rfl, rfl⟩) (by rw [← z]; exact ha)
  have n4 : a ≠ A 4 0 0 := fun z => H.mm (k := 4) (i := 0) (j := 0) (Or.inl ⟨by omega, rfl, rfl⟩) (by rw [← z]; exact ha)
  have n5 : a ≠ A 5 0 0 := fun z => H.mm (k := 5) (i := 0) (j := 0) (Or.inl ⟨by omega, rfl, rfl⟩) (by rw [← z]; exact ha)
  rw [up_ne n5, up_ne n4, up_ne n3]
theorem HR.TW (H : HR Y MM σ R tt A T h) {w hh : Nat} (e : tt.2.2 = (nI w, nI hh)) (h1 : w * hh ≤ 1920) (h2 : w ≤ 48) (h3 : hh ≤ 48) : TW Y h (A 3 0 0) (A 4 0 0) (A 5 0 0) w hh tt.1 tt.2.1 := by
  have c3 := H.c3
  rw [e] at c3
  exact ⟨c3, H.c4, H.c5, h1, h2, h3⟩
theorem lo_e {x r : Nat} (hx : x < 48) (hr : r ≤ 9) : (if nI x - nI r < 0 then 0 else nI x - nI r) = nI (x - r) := by
  have e : (nI x - nI r).toInt = (x : Int) - r := by
    rw [Int32.toInt_sub, nI_toInt (by omega), nI_toInt (by omega)]
    exact Int.bmod_eq_of_le (by omega) (by omega)
  by_cases q : r ≤ x
  · rw [nsub x r, if_neg (nI_pos (by omega))]
  · rw [if_pos (by rw [Int32.lt_iff_toInt_lt, e, i0]; omega), show x - r = 0 by omega]; rfl
theorem hi_e {w y : Nat} (hw : w ≤ 48) (hy : y < 1000) : (if nI w < nI y + 1 then nI w else nI y + 1) = nI (min w (y + 1)) := by
  rw [n1, nI_add]
  by_cases q : w < y + 1
  · rw [if_pos ((nI_ltI (by omega) (by omega)).mpr q), Nat.min_eq_left (by omega)]
  · rw [if_neg (fun z => q ((nI_ltI (by omega) (by omega)).mp z)), Nat.min_eq_right (by omega)]
theorem max_e {x : Nat} (hx : x < 1000) : (if nI x < 0 then 0 else nI x) = nI x := if_neg (nI_pos (by omega))
/-- the sum, and how many, around a cell -/
def arS (σ : SG) (i x y r : Nat) : Int64 × Nat := dS (cw σ i) (x - r) (min (zW σ i) (x + r + 1) - (x - r)) (y - r) (min (zH σ i) (y + r + 1) - (y - r))
def vSum (S : Int64 × Nat) : Option Int32 := if S.2 = 0 then none else some S.1.toInt32
theorem ok_sumCell (H : HR Y MM σ R tt A T h) {W Hh : Nat} {co : Nat → Nat → Option Int32} (e : tt.2.2 = (nI W, nI Hh)) (hok : okT (cfO co) W tt.1 tt.2.1 Hh 0) (h1 : W * Hh ≤ 1920) (h2 : W ≤ 48) (h3 : Hh ≤ 48) {x0 y0 x1 y1 : Int32} {fx fy tx ty : Nat} (e1 : (if x0 < 0 then 0 else x0) = nI fx) (e2 : (if y0 < 0 then 0 else y0) = nI fy) (e3 : (if nI W < x1 + 1 then nI W else x1 + 1) = nI tx) (e4 : (if nI Hh < y1 + 1 then nI Hh else y1 + 1) = nI ty) (k1 : fx ≤ tx) (k2 : fy ≤ ty) (k3 : tx ≤ W) (k4 : ty ≤ Hh) : Ct l D Y b0 mX3_sumCell 4 0 0 [.ref (A 3 0 0), .int x0, .int y0, .int x1, .int y1] h (rt (.long (c2l (vSum (dS co fx (tx - fx) fy (ty - fy))))) h) noX := by
  have := s_sumCell (l := l) (D := D) (b0 := b0) (H.TW e h1 h2 h3) e1 e2 e3 e4 (by omega) (by omega) k3 k4
  obtain ⟨a, b⟩ := dS_SQ hok k1 k3 k2 k4
  have hle := dS_le co fx (tx - fx) fy (ty - fy)
  have h6 : (ty - fy) * (tx - fx) ≤ 48 * 48 := Nat.mul_le_mul (by omega) (by omega)
  rw [a, b] at this
  have e9 : (if nI (dS co fx (tx - fx) fy (ty - fy)).2 = 0 then HOLE else (dS co fx (tx - fx) fy (ty - fy)).1.toInt32.toInt64) = c2l (vSum (dS co fx (tx - fx) fy (ty - fy))) := by
    unfold vSum
    by_cases q : (dS co fx (tx - fx) fy (ty - fy)).2 = 0
    · rw [if_pos q, if_pos (by rw [q]; rfl)]; rfl
    · rw [if_neg q, if_neg (by rw [n0, c_eq _ 0 (by omega) (by omega)]; exact q)]; rfl
  rw [e9] at this
  exact this
end
