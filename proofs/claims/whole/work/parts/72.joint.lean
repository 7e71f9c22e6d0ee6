/-! ===== the store and the reference side by side ===== -/
abbrev MMo (B : Nat → Nat) (m o : Nat) : Nat → Prop := fun x => MB B m x ∨ x = o
/-- the store at a and the reference at m hold the same state; o is the cell of answers -/
def JS (Y : Nat → ClassId) (B : Nat → Nat) (a m o : Nat) (σ : SG) (h : AH) : Prop := (∃ R tt A T, HR Y (MMo B m o) σ R tt A T h ∧ CS σ R ∧ A 0 0 0 = a) ∧ (GI σ ∧ BI σ ∧ BV σ) ∧ (∃ t u, MR Y B m t u σ h) ∧ (∃ f, h o = some (eJ Y 1 f)) ∧ ¬ MB B m o
def JO (l : Launch) (D : va_G) (Y : Nat → ClassId) (b0 : Nat) (B : Nat → Nat) (a m o : Nat) {α : Type} (mk : α → Value) (mi5 mi6 : MI) (as : List Value) (σ : SG) (h : AH) (tbl : List (String × Int32)) : Prop :=
  (∃ (σ' : SG) (x : α), (GI σ' ∧ BI σ' ∧ BV σ') ∧ Ct l D Y b0 mi5 10 12 4000 (.ref a :: as) h (sq Y (MMo B m o) a σ' h (mk x)) noX ∧ ∀ h2 t u, MR Y B m t u σ h2 → ∃ QM, Ct l D Y b0 mi6 6 0 0 (.ref m :: as) h2 QM noX ∧ ∀ v h', QM v h' → ∃ ρ, mq Y B m h2 (mk x) 0 (s20 σ' ρ) v h') ∨
  ∃ (E : String) (c9 : Int32) (x : α), (E, c9) ∈ tbl ∧ Ct l D Y b0 mi5 10 12 4000 (.ref a :: as) h noQ (tX E h) ∧ ∀ h2 t u, MR Y B m t u σ h2 → Ct l D Y b0 mi6 6 0 0 (.ref m :: as) h2 (mq Y B m h2 (mk x) c9 σ) noX
section
variable {l : Launch} {D : va_G} {Y : Nat → ClassId} {b0 : Nat} {B : Nat → Nat} {a m o : Nat} {α : Type} {mk : α → Value} {mi5 mi6 : MI} {as : List Value} {σ : SG} {h : AH} {tbl : List (String × Int32)}
theorem JO.ok {σ' : SG} {x : α} (st : GI σ' ∧ BI σ' ∧ BV σ') (k : Ct l D Y b0 mi5 10 12 4000 (.ref a :: as) h (sq Y (MMo B m o) a σ' h (mk x)) noX) (q : ∀ h2 t u, MR Y B m t u σ h2 → Ct l D Y b0 mi6 6 0 0 (.ref m :: as) h2 (mq Y B m h2 (mk x) 0 σ') noX) : JO l D Y b0 B a m o mk mi5 mi6 as σ h tbl :=
  Or.inl ⟨σ', x, st, k, fun h2 t u M => ⟨_, q h2 t u M, fun v h' z => ⟨σ' 20, by rw [s20_id]; exact z⟩⟩⟩
theorem JO.no (E : String) (c9 : Int32) {x : α} (hE : (E, c9) ∈ tbl) (k : Ct l D Y b0 mi5 10 12 4000 (.ref a :: as) h noQ (tX E h)) (q : ∀ h2 t u, MR Y B m t u σ h2 → Ct l D Y b0 mi6 6 0 0 (.ref m :: as) h2 (mq Y B m h2 (mk x) c9 σ) noX) : JO l D Y b0 B a m o mk mi5 mi6 as σ h tbl :=
  Or.inr ⟨E, c9, x, hE, k, q⟩
theorem HM_of {t u : Int32} (M : MR Y B m t u σ h) {f : Nat → Int64} (ho : h o = some (eJ Y 1 f)) : ∀ x, MMo B m o x → ¬ h x = none := by
  rintro x ((rfl | ⟨f, hf, rfl⟩) | rfl) z
  · rw [M.1] at z; cases z
  · rw [M.2.1 f hf] at z; cases z
  · rw [ho] at z; cases z
theorem BV_GE {σ σ' : SG} (E : GE σ σ') (V : BV σ) : BV σ' := fun n hn => by
  rw [E.q_nv] at hn
  rw [E 17 (by omega)]
  exact V n hn
theorem BI_s20 {ρ : Nat → Int32} (b : BI σ) : BI (s20 σ ρ) := ⟨fun f hf k => by rw [s20_ne (by omega)]; exact b.1 f hf k, b.2⟩
theorem st_GE {σ σ' : SG} (E : GE σ σ') (b' : BI σ') (st : GI σ ∧ BI σ ∧ BV σ) : GI σ' ∧ BI σ' ∧ BV σ' := ⟨E.q_GI st.1, b', BV_GE E st.2.2⟩
theorem st_s20 {ρ : Nat → Int32} (st : GI σ ∧ BI σ ∧ BV σ) : GI (s20 σ ρ) ∧ BI (s20 σ ρ) ∧ BV (s20 σ ρ) := st_GE s20_GE (BI_s20 st.2.1) st
theorem MR.keep {t u : Int32} (M : MR Y B m t u σ h) {h' : AH} (hk : ∀ x, MB B m x → h' x = h x) : MR Y B m t u σ h' :=
  ⟨by rw [hk m (Or.inl rfl)]; exact M.1, fun f hf => by rw [hk (B f) (Or.inr ⟨f, hf, rfl⟩)]; exact M.2.1 f hf, M.2.2⟩
/-- after both did the same -/
theorem JS.next {σ' σ'' : SG} {h1 h2 h3 : AH} {t9 : Int32} {f : Nat → Int64} (J : JS Y B a m o σ h) (st : GI σ' ∧ BI σ' ∧ BV σ') (X : SX Y (MMo B m o) a σ' h h1) (h12 : ∀ x, x ≠ o → h2 x = h1 x) (ho : h2 o = some (eJ Y 1 f)) {ρ : Nat → Int32} (e9 : σ'' = s20 σ' ρ)
    (M : ∃ u, MR Y B m t9 u σ'' h3) (F : frM B m h2 h3) : JS Y B a m o σ'' h3 := by
  subst e9
  obtain ⟨R, tt, A, T, ⟨H, S, ea⟩, -⟩ := X
  obtain ⟨-, -, -, -, hmo⟩ := J
  refine ⟨⟨R, tt, A, T, ?_, S, ea⟩, st_s20 st, ⟨t9, M⟩, ⟨f, by rw [F o hmo]; exact ho⟩, hmo⟩
  refine HR.ge ?_ s20_GE (s20_ne (by omega))
  refine H.keep (fun x hx => ?_)
  rw [F x (fun z => hx (Or.inl z)), h12 x (fun z => hx (Or.inr z))]
/-- the reference is still there, after the store did -/
theorem JS.mid {σ' : SG} {h1 h2 : AH} (J : JS Y B a m o σ h) (X : SX Y (MMo B m o) a σ' h h1) (h12 : ∀ x, x ≠ o → h2 x = h1 x) : ∃ t u, MR Y B m t u σ h2 := by
  obtain ⟨-, -, ⟨t, u, M⟩, -, hmo⟩ := J
  obtain ⟨-, -, -, -, -, hk⟩ := X
  exact ⟨t, u, M.keep (fun x hx => by rw [h12 x (fun z => hmo (by rw [← z]; exact hx))]; exact hk x (Or.inl hx))⟩
theorem JS.out {σ' : SG} {h1 : AH} (J : JS Y B a m o σ h) (X : SX Y (MMo B m o) a σ' h h1) : ∃ f, h1 o = some (eJ Y 1 f) := by
  obtain ⟨-, -, -, ⟨f, ho⟩, -⟩ := J
  obtain ⟨-, -, -, -, -, hk⟩ := X
  exact ⟨f, by rw [hk o (Or.inr rfl)]; exact ho⟩
/-- after both threw the same -/
theorem JS.same {h3 : AH} {t9 : Int32} (J : JS Y B a m o σ h) (M : ∃ u, MR Y B m t9 u σ h3) (F : frM B m h h3) : JS Y B a m o σ h3 := by
  obtain ⟨⟨R, tt, A, T, H, S, ea⟩, st, -, ⟨f, ho⟩, hmo⟩ := J
  exact ⟨⟨R, tt, A, T, H.keep (fun x hx => F x (fun z => hx (Or.inl z))), S, ea⟩, st, ⟨t9, M⟩, ⟨f, by rw [F o hmo]; exact ho⟩, hmo⟩
theorem JS.here (J : JS Y B a m o σ h) : ∃ fs, h a = some (.inr (5, fs)) := by
  obtain ⟨⟨R, tt, A, T, H, S, rfl⟩, -⟩ := J
  exact ⟨_, H.c0⟩
end
theorem st_gr {σ : SG} {w hh : Nat} (st : GI σ ∧ BI σ ∧ BV σ) (h8 : ng σ < 8) (h1 : 1 ≤ w) (h2 : w ≤ 48) (h3 : 1 ≤ hh) (h4 : hh ≤ 40) : GI (grS σ w hh) ∧ BI (grS σ w hh) ∧ BV (grS σ w hh) :=
  ⟨gr_GI st.1 h8 h1 h2 h3 h4, gr_BI st.2.1 h8, fun n hn => by rw [gr_nv] at hn; rw [gr_row (by omega)]; exact st.2.2 n hn⟩
theorem st_kp {σ : SG} {g : Nat} (st : GI σ ∧ BI σ ∧ BV σ) (hg : g < ng σ) (h20 : nl σ g < 20) : GI (kpS σ g (nl σ g)) ∧ BI (kpS σ g (nl σ g)) ∧ BV (kpS σ g (nl σ g)) :=
  ⟨kp_GI st.1, kp_BI st.1 st.2.1 hg h20, fun n hn => by rw [kp_nv] at hn; rw [kp_row (by omega)]; exact st.2.2 n hn⟩
theorem st_vw {σ : SG} {i x y w hh q : Nat} {fl : Bool} (st : GI σ ∧ BI σ ∧ BV σ) (h : nv σ < 12) (hi : vI σ i) (h1 : 1 ≤ w) (h2 : 1 ≤ hh) (hx : x + w ≤ zW σ i) (hy : y + hh ≤ zH σ i) (hq : q ≤ 3) : GI (vwS σ i x y w hh q fl) ∧ BI (vwS σ i x y w hh q fl) ∧ BV (vwS σ i x y w hh q fl) :=
  ⟨vw_GI st.1 st.2.2 h hi h1 h2 hx hy hq, vw_BI st.2.1, vw_BV st.2.2 h⟩
theorem st_cl {σ : SG} {n : Nat} {c : Bool} (st : GI σ ∧ BI σ ∧ BV σ) (hn : n < nv σ) : GI (su σ 17 n (bI c)) ∧ BI (su σ 17 n (bI c)) ∧ BV (su σ 17 n (bI c)) := by
  obtain ⟨I, b, V⟩ := st
  have G : AG σ (su σ 17 n (bI c)) := AG.cl
  have eg : ng (su σ 17 n (bI c)) = ng σ := by unfold ng; rw [nt_ne (by omega)]
  have ev : nv (su σ 17 n (bI c)) = nv σ := by unfold nv; rw [nt_ne (by omega)]
  have h01 : ∀ k, su σ 17 n (bI c) 17 k = 0 ∨ su σ 17 n (bI c) 17 k = 1 := fun k => by
    rw [su_row]
    unfold upd
    split
    · exact bI_01 c
    · exact b.1 17 (by omega) k
  refine ⟨⟨?_, ?_, fun g hg => ?_, fun k hk => ?_⟩, ⟨fun f hf k => ?_, ?_⟩, fun k hk => ?_⟩
  · rw [eg, su_ne (by omega)]; exact I.1
  · rw [ev, su_ne (by omega)]; exact I.2.1
  · rw [eg] at hg; exact G.q_GIg I hg
  · rw [ev] at hk; exact G.q_GIv I hk (h01 k)
  · by_cases e : f = 17
    · subst e; exact h01 k
    · rw [su_ne e]; exact b.1 f hf k
  · have e1 := su_ne (σ := σ) (f := 17) (k := n) (v := bI c) (f' := 1) (by omega)
    have e2 := su_ne (σ := σ) (f := 17) (k := n) (v := bI c) (f' := 2) (by omega)
    have e4 := su_ne (σ := σ) (f := 17) (k := n) (v := bI c) (f' := 4) (by omega)
    have e7 := su_ne (σ := σ) (f := 17) (k := n) (v := bI c) (f' := 7) (by omega)
    have e8 := su_ne (σ := σ) (f := 17) (k := n) (v := bI c) (f' := 8) (by omega)
    have e9 := su_ne (σ := σ) (f := 17) (k := n) (v := bI c) (f' := 9) (by omega)
    have e5 := su_ne (σ := σ) (f := 17) (k := n) (v := bI c) (f' := 5) (by omega)
    have b2 := b.2
    unfold shM nl ng nt at b2 ⊢
    rw [e1, e2, e4, e5, e7, e8, e9]
    exact b2
  · rw [ev] at hk
    rw [su_row]
    unfold upd
    rw [if_neg (by omega)]
    exact V k hk
