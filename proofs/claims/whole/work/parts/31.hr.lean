/-! ===== the store's cells, kind by kind; what it holds of a state ===== -/
def nl (σ : SG) (g : Nat) : Nat := nt σ 8 g
def wH (σ : SG) (g : Nat) : Nat := nt σ 1 g * nt σ 2 g
/-- the affine numbers of a window as its fields -/
def eWA (σ : SG) (g : Nat) (s : Nat × Nat × CO) (cl : Int32) : va_E := eWin g (nI s.1) (nI s.2.1) (Int32.ofInt s.2.2.1) (Int32.ofInt s.2.2.2.1) (Int32.ofInt s.2.2.2.2.1) (Int32.ofInt s.2.2.2.2.2.1) (Int32.ofInt s.2.2.2.2.2.2.1) (Int32.ofInt s.2.2.2.2.2.2.2) cl
def kx (Y : Nat → ClassId) (σ : SG) (R : LF) (tt : TT) (A : AF) (k i j : Nat) : va_E :=
  if k = 0 then .inr (5, [.ref (A 1 0 0), .ref (A 3 0 0), .ref (A 6 0 0), .ref (A 7 0 0), .int (nI (ng σ)), .int (nI (nv σ))])
  else if k = 1 then eHosts (A 2 0 0)
  else if k = 2 then eZ Y 5 (σ 9)
  else if k = 3 then eTot (A 4 0 0) (A 5 0 0) tt.2.2.1 tt.2.2.2
  else if k = 4 then eJ Y 1920 tt.1
  else if k = 5 then eI Y 1920 tt.2.1
  else if k = 6 then eQ4 Y 8 (fun g => if g < ng σ then some (A 8 g 0) else none)
  else if k = 7 then eQ4 Y 12 (fun n => if n < nv σ then some (A 15 n 0) else none)
  else if k = 8 then eWin (A 9 i 0) (nI (nt σ 1 i)) (nI (nt σ 2 i)) 0 0 1 0 0 1 0
  else if k = 9 then eGrid (nI (nt σ 1 i)) (nI (nt σ 2 i)) (A 1 0 0) (A 10 i 0) (A 12 i 0) (nI (nl σ i))
  else if k = 10 then eCells (nI (nt σ 1 i)) (nI (nt σ 2 i)) (A 11 i 0)
  else if k = 11 then eJ Y (wH σ i) (R i 0)
  else if k = 12 then eQ3 Y 20 (fun q => if q < nl σ i then some (A 13 i q) else none)
  else if k = 13 then eCells (nI (nt σ 1 i)) (nI (nt σ 2 i)) (A 14 i j)
  else if k = 14 then eJ Y (wH σ i) (R i (j + 1))
  else eWA σ (A 9 (ro σ (100 + i)) 0) (aw σ (100 + i)) (σ 17 i)
def lv (σ : SG) (k i j : Nat) : Prop := (k ≤ 7 ∧ i = 0 ∧ j = 0) ∨ (8 ≤ k ∧ k ≤ 12 ∧ i < ng σ ∧ j = 0) ∨ (13 ≤ k ∧ k ≤ 14 ∧ i < ng σ ∧ j < nl σ i) ∨ (k = 15 ∧ i < nv σ ∧ j = 0)
def HR (Y : Nat → ClassId) (MM : Nat → Prop) (σ : SG) (R : LF) (tt : TT) (A : AF) (T : TF) (h : AH) : Prop := ∀ k i j, lv σ k i j → h (A k i j) = some (kx Y σ R tt A k i j) ∧ T (A k i j) = (k, i, j) ∧ ¬ MM (A k i j)
section
variable {Y : Nat → ClassId} {MM : Nat → Prop} {σ : SG} {R : LF} {tt : TT} {A : AF} {T : TF} {h : AH}
theorem HR.c0 (H : HR Y MM σ R tt A T h) : h (A 0 0 0) = some (.inr (5, [.ref (A 1 0 0), .ref (A 3 0 0), .ref (A 6 0 0), .ref (A 7 0 0), .int (nI (ng σ)), .int (nI (nv σ))])) := (H 0 0 0 (Or.inl ⟨by omega, rfl, rfl⟩)).1
theorem HR.c1 (H : HR Y MM σ R tt A T h) : h (A 1 0 0) = some (eHosts (A 2 0 0)) := (H 1 0 0 (Or.inl ⟨by omega, rfl, rfl⟩)).1
theorem HR.c2 (H : HR Y MM σ R tt A T h) : h (A 2 0 0) = some (eZ Y 5 (σ 9)) := (H 2 0 0 (Or.inl ⟨by omega, rfl, rfl⟩)).1
theorem HR.c3 (H : HR Y MM σ R tt A T h) : h (A 3 0 0) = some (eTot (A 4 0 0) (A 5 0 0) tt.2.2.1 tt.2.2.2) := (H 3 0 0 (Or.inl ⟨by omega, rfl, rfl⟩)).1
theorem HR.c4 (H : HR Y MM σ R tt A T h) : h (A 4 0 0) = some (eJ Y 1920 tt.1) := (H 4 0 0 (Or.inl ⟨by omega, rfl, rfl⟩)).1
theorem HR.c5 (H : HR Y MM σ R tt A T h) : h (A 5 0 0) = some (eI Y 1920 tt.2.1) := (H 5 0 0 (Or.inl ⟨by omega, rfl, rfl⟩)).1
theorem HR.c6 (H : HR Y MM σ R tt A T h) : h (A 6 0 0) = some (eQ4 Y 8 (fun g => if g < ng σ then some (A 8 g 0) else none)) := (H 6 0 0 (Or.inl ⟨by omega, rfl, rfl⟩)).1
theorem HR.c7 (H : HR Y MM σ R tt A T h) : h (A 7 0 0) = some (eQ4 Y 12 (fun n => if n < nv σ then some (A 15 n 0) else none)) := (H 7 0 0 (Or.inl ⟨by omega, rfl, rfl⟩)).1
theorem HR.c8 (H : HR Y MM σ R tt A T h) {g : Nat} (hg : g < ng σ) : h (A 8 g 0) = some (eWin (A 9 g 0) (nI (nt σ 1 g)) (nI (nt σ 2 g)) 0 0 1 0 0 1 0) := (H 8 g 0 (Or.inr (Or.inl ⟨by omega, by omega, hg, rfl⟩))).1
theorem HR.c9 (H : HR Y MM σ R tt A T h) {g : Nat} (hg : g < ng σ) : h (A 9 g 0) = some (eGrid (nI (nt σ 1 g)) (nI (nt σ 2 g)) (A 1 0 0) (A 10 g 0) (A 12 g 0) (nI (nl σ g))) := (H 9 g 0 (Or.inr (Or.inl ⟨by omega, by omega, hg, rfl⟩))).1
theorem HR.c10 (H : HR Y MM σ R tt A T h) {g : Nat} (hg : g < ng σ) : h (A 10 g 0) = some (eCells (nI (nt σ 1 g)) (nI (nt σ 2 g)) (A 11 g 0)) := (H 10 g 0 (Or.inr (Or.inl ⟨by omega, by omega, hg, rfl⟩))).1
theorem HR.c11 (H : HR Y MM σ R tt A T h) {g : Nat} (hg : g < ng σ) : h (A 11 g 0) = some (eJ Y (nt σ 1 g * nt σ 2 g) (R g 0)) := (H 11 g 0 (Or.inr (Or.inl ⟨by omega, by omega, hg, rfl⟩))).1
theorem HR.c12 (H : HR Y MM σ R tt A T h) {g : Nat} (hg : g < ng σ) : h (A 12 g 0) = some (eQ3 Y 20 (fun q => if q < nl σ g then some (A 13 g q) else none)) := (H 12 g 0 (Or.inr (Or.inl ⟨by omega, by omega, hg, rfl⟩))).1
theorem HR.c13 (H : HR Y MM σ R tt A T h) {g q : Nat} (hg : g < ng σ) (hq : q < nl σ g) : h (A 13 g q) = some (eCells (nI (nt σ 1 g)) (nI (nt σ 2 g)) (A 14 g q)) := (H 13 g q (Or.inr (Or.inr (Or.inl ⟨by omega, by omega, hg, hq⟩)))).1
theorem HR.c14 (H : HR Y MM σ R tt A T h) {g q : Nat} (hg : g < ng σ) (hq : q < nl σ g) : h (A 14 g q) = some (eJ Y (nt σ 1 g * nt σ 2 g) (R g (q + 1))) := (H 14 g q (Or.inr (Or.inr (Or.inl ⟨by omega, by omega, hg, hq⟩)))).1
theorem HR.c15 (H : HR Y MM σ R tt A T h) {n : Nat} (hn : n < nv σ) : h (A 15 n 0) = some (eWA σ (A 9 (ro σ (100 + n)) 0) (aw σ (100 + n)) (σ 17 n)) := (H 15 n 0 (Or.inr (Or.inr (Or.inr ⟨rfl, hn, rfl⟩)))).1
theorem HR.G (H : HR Y MM σ R tt A T h) (I : GI σ) {g : Nat} (hg : g < ng σ) : GW Y h (A 9 g 0) (nt σ 1 g) (nt σ 2 g) (A 1 0 0) (A 2 0 0) (σ 9) (A 10 g 0) (A 11 g 0) (A 12 g 0) (nI (nl σ g)) (R g 0) := by
  obtain ⟨-, -, -, a, -, b⟩ := I.2.2.1 g hg
  exact ⟨H.c9 hg, H.c1, H.c2, H.c10 hg, H.c11 hg, a, b⟩
/-- one cell anew: all else as it was -/
theorem HR.set (H : HR Y MM σ R tt A T h) {σ' : SG} {R' : LF} {tt' : TT} {k i j : Nat} (hl : lv σ k i j) (hlv : ∀ k i j, lv σ' k i j ↔ lv σ k i j) (hkx : ∀ k' i' j', lv σ k' i' j' → (k', i', j') ≠ (k, i, j) → kx Y σ' R' tt' A k' i' j' = kx Y σ R tt A k' i' j') :
    HR Y MM σ' R' tt' A T (up h (A k i j) (kx Y σ' R' tt' A k i j)) := by
  intro k' i' j' hl'
  have hl' := (hlv k' i' j').mp hl'
  obtain ⟨h1, h2, h3⟩ := H k' i' j' hl'
  refine ⟨?_, h2, h3⟩
  by_cases e : (k', i', j') = (k, i, j)
  · cases e
    exact up_same
  · have hne : A k' i' j' ≠ A k i j := by
      intro z
      apply e
      rw [← h2, z]
      exact (H k i j hl).2.1
    rw [up_ne hne, hkx k' i' j' hl' e]
    exact h1
/-- a heap that is the same where the store lies -/
theorem HR.keep (H : HR Y MM σ R tt A T h) {h' : AH} (hk : ∀ a, ¬ MM a → h' a = h a) : HR Y MM σ R tt A T h' := fun k i j hl => by
  obtain ⟨h1, h2, h3⟩ := H k i j hl
  exact ⟨by rw [hk _ h3]; exact h1, h2, h3⟩
end
/-- a cell as the store has it -/
def c2l (o : Option Int32) : Int64 := match o with | none => HOLE | some v => v.toInt64
def cel (σ : SG) (p : Nat) : Option Int32 := if σ 4 p = 0 then none else some (σ 3 p)
def lyr (σ : SG) (p : Nat) : Option Int32 := if σ 7 p = 0 then none else some (σ 6 p)
def lyA (g q k : Nat) : Nat := (20 * g + q) * 1920 + k
/-- the store's rows are the state's cells -/
def CS (σ : SG) (R : LF) : Prop := (∀ g x y, g < ng σ → x < nt σ 1 g → y < nt σ 2 g → R g 0 (y * nt σ 1 g + x) = c2l (cel σ (1920 * g + 48 * y + x))) ∧ ∀ g q x y, g < ng σ → q < nl σ g → x < nt σ 1 g → y < nt σ 2 g → R g (q + 1) (y * nt σ 1 g + x) = c2l (lyr σ (lyA g q (48 * y + x)))
/-- what holds of every state -/
def BI (σ : SG) : Prop := (∀ f, (f = 4 ∨ f = 7 ∨ f = 9 ∨ f = 16 ∨ f = 17) → ∀ k, σ f k = 0 ∨ σ f k = 1) ∧ (∀ g, g < ng σ → σ 8 g = nI (nl σ g) ∧ nl σ g ≤ 20) ∧ (∀ g, ng σ ≤ g → σ 8 g = 0) ∧ (∀ p, p < 15360 → shM σ p = true → σ 4 p = 0) ∧
  (∀ p, p < 15360 → (ng σ ≤ p / 1920 ∨ nt σ 1 (p / 1920) ≤ p % 1920 % 48 ∨ nt σ 2 (p / 1920) ≤ p % 1920 / 48) → σ 4 p = 0) ∧
  (∀ g q k, g < ng σ → q < nl σ g → k < 1920 → (nt σ 1 g ≤ k % 48 ∨ nt σ 2 g ≤ k / 48) → σ 7 (lyA g q k) = 0)
theorem c2l_hole {o : Option Int32} : (c2l o = HOLE) = (o = none) := by
  cases o with
  | none => simp [c2l]
  | some v =>
    simp only [c2l, reduceCtorEq, eq_iff_iff, iff_false]
    intro e
    have := congrArg Int64.toInt e
    rw [Int32.toInt_toInt64] at this
    have h1 := Int32.le_toInt v
    have h3 := Int32.toInt_lt v
    have h2 : HOLE.toInt = 4294967296 := by decide
    omega
theorem c2l_inj {o o' : Option Int32} : (c2l o = c2l o') = (o = o') := by
  cases o with
  | none =>
    cases o' with
    | none => simp
    | some v' =>
      refine propext ⟨fun e => ?_, fun e => by cases e⟩
      have h2 : c2l (some v') = HOLE := e.symm
      rw [c2l_hole] at h2
      cases h2
  | some v =>
    cases o' with
    | none => exact c2l_hole
    | some v' =>
      simp only [c2l, Option.some.injEq, eq_iff_iff]
      constructor
      · intro e
        have := congrArg Int64.toInt e
        rw [Int32.toInt_toInt64, Int32.toInt_toInt64] at this
        exact Int32.toInt_inj.mp this
      · intro e; rw [e]
