/-! ===== each operation, on both sides ===== -/
section
variable {l : Launch} {D : va_G} {Y : Nat → ClassId} {b0 : Nat} {B : Nat → Nat} {a m o : Nat} {σ : SG} {h : AH}
theorem j_grid (J : JS Y B a m o σ h) (x y : Int32) : JO l D Y b0 B a m o Value.int mX5_grid mX6_grid [.int x, .int y] σ h [(xIAE, 1), (xUOE, 2)] := by
  obtain ⟨⟨R, tt, A, T, H, S, rfl⟩, st, ⟨t, u, M⟩, ⟨f, ho⟩, hmo⟩ := J
  have HM := HM_of M ho
  by_cases c1 : okN 1 48 x ∧ okN 1 40 y
  · obtain ⟨⟨w, rfl, w1, w2⟩, ⟨hh, rfl, h1, h2⟩⟩ := c1
    by_cases h8 : ng σ = 8
    · exact JO.no xUOE 2 (by decide) (k_grid_f H w1 w2 h1 h2 h8) (fun h2' t' u' M' => m_grid_f M' st.1 w1 w2 h1 h2 h8)
    · have h8' : ng σ < 8 := by have := st.1.1.1; omega
      exact JO.ok (st_gr st h8' w1 w2 h1 h2) (k_grid H st.1 S st.2.1 HM w1 w2 h1 h2 h8') (fun h2' t' u' M' => m_grid M' st.1 w1 w2 h1 h2 h8')
  · exact JO.no xIAE 1 (by decide) (k_grid_x H c1) (fun h2' t' u' M' => m_grid_x M' c1)
theorem j_view (J : JS Y B a m o σ h) (i x y w hq q : Int32) (fl : Bool) : JO l D Y b0 B a m o Value.int mX5_view mX6_view [.int i, .int x, .int y, .int w, .int hq, .int q, .int (bI fl)] σ h [(xIOB, 1), (xIAE, 2), (xUOE, 3)] := by
  obtain ⟨⟨R, tt, A, T, H, S, rfl⟩, st, ⟨t, u, M⟩, ⟨f, ho⟩, hmo⟩ := J
  have HM := HM_of M ho
  by_cases c1 : okI σ i
  · obtain ⟨i, rfl, hi⟩ := c1
    by_cases c2 : okR σ i x y w hq
    · obtain ⟨x, y, w, hh, rfl, rfl, rfl, rfl, w1, h1, hx, hy⟩ := c2
      by_cases c3 : okN 0 3 q
      · obtain ⟨q, rfl, -, hq⟩ := c3
        by_cases c4 : nv σ = 12
        · exact JO.no xUOE 3 (by decide) (k_view_f H st.1 hi w1 h1 hx hy hq (bI fl) c4) (fun h2' t' u' M' => m_view_f M' st.1 hi w1 h1 hx hy hq (bI fl) c4)
        · have h12 : nv σ < 12 := by have := st.1.2.1.1; omega
          exact JO.ok (st_vw st h12 hi w1 h1 hx hy hq) (k_view H st.1 S st.2.2 HM hi w1 h1 hx hy hq fl h12) (fun h2' t' u' M' => m_view M' st.1 hi w1 h1 hx hy hq fl h12)
      · exact JO.no xIAE 2 (by decide) (k_view_q H st.1 hi w1 h1 hx hy c3 (bI fl)) (fun h2' t' u' M' => m_view_q M' st.1 hi w1 h1 hx hy c3 (bI fl))
    · exact JO.no xIAE 2 (by decide) (k_view_r H st.1 hi c2 q (bI fl)) (fun h2' t' u' M' => m_view_r M' st.1 hi c2 q (bI fl))
  · exact JO.no xIOB 1 (by decide) (k_view_x H st.1 c1 x y w hq q (bI fl)) (fun h2' t' u' M' => m_view_x M' st.1 c1 x y w hq q (bI fl))
theorem j_close (J : JS Y B a m o σ h) (x : Int32) (c : Bool) : JO l D Y b0 B a m o Value.int mX5_close mX6_close [.int x, .int (bI c)] σ h [(xIOB, 1)] := by
  obtain ⟨⟨R, tt, A, T, H, S, rfl⟩, st, ⟨t, u, M⟩, ⟨f, ho⟩, hmo⟩ := J
  by_cases c1 : okV σ x
  · obtain ⟨n, rfl, hn⟩ := c1
    exact JO.ok (st_cl st hn) (k_close H st.1 S hn c) (fun h2' t' u' M' => m_close M' st.1 hn c)
  · exact JO.no xIOB 1 (by decide) (k_close_x H st.1 c1 (bI c)) (fun h2' t' u' M' => m_close_x M' st.1 c1 (bI c))
theorem j_size (J : JS Y B a m o σ h) (x : Int32) (c : Bool) : JO l D Y b0 B a m o Value.int mX5_size mX6_size [.int x, .int (bI c)] σ h [(xIOB, 1)] := by
  obtain ⟨⟨R, tt, A, T, H, S, rfl⟩, st, ⟨t, u, M⟩, ⟨f, ho⟩, hmo⟩ := J
  by_cases c1 : okI σ x
  · obtain ⟨i, rfl, hi⟩ := c1
    exact JO.ok st (k_size H st.1 S hi c) (fun h2' t' u' M' => m_size M' st.1 hi c)
  · exact JO.no xIOB 1 (by decide) (k_size_x H st.1 c1 (bI c)) (fun h2' t' u' M' => m_size_x M' st.1 c1 (bI c))
theorem st_wrW {i x y : Nat} {w : Option Int32} (st : GI σ ∧ BI σ ∧ BV σ) (hi : vI σ i) (hx : x < zW σ i) (hy : y < zH σ i) : GI (wrW σ i x y w) ∧ BI (wrW σ i x y w) ∧ BV (wrW σ i x y w) := by
  have X := XE.q_wrW (XE.rf (g := ro σ i) st.2.1) st.1 hi hx hy w
  exact st_GE X.E X.2.2 st
theorem j_set (J : JS Y B a m o σ h) (i x y v : Int32) : JO l D Y b0 B a m o Value.int mX5_set mX6_set [.int i, .int x, .int y, .int v] σ h [(xIOB, 1)] := by
  obtain ⟨⟨R, tt, A, T, H, S, rfl⟩, st, ⟨t, u, M⟩, ⟨f, ho⟩, hmo⟩ := J
  by_cases c1 : okI σ i
  · obtain ⟨i, rfl, hi⟩ := c1
    by_cases c2 : okC σ i x y
    · obtain ⟨x, y, rfl, rfl, hx, hy⟩ := c2
      exact JO.ok (st_wrW st hi hx hy) (k_set H st.1 S st.2.1 hi hx hy v) (fun h2' t' u' M' => m_set M' st.1 hi hx hy v)
    · exact JO.no xIOB 1 (by decide) (k_set_c H st.1 hi c2 v) (fun h2' t' u' M' => m_set_c M' st.1 hi c2 v)
  · exact JO.no xIOB 1 (by decide) (k_set_x H st.1 c1 x y v) (fun h2' t' u' M' => m_set_x M' st.1 c1 x y v)
theorem j_dig (J : JS Y B a m o σ h) (i x y : Int32) : JO l D Y b0 B a m o Value.int mX5_dig mX6_dig [.int i, .int x, .int y] σ h [(xIOB, 1)] := by
  obtain ⟨⟨R, tt, A, T, H, S, rfl⟩, st, ⟨t, u, M⟩, ⟨f, ho⟩, hmo⟩ := J
  by_cases c1 : okI σ i
  · obtain ⟨i, rfl, hi⟩ := c1
    by_cases c2 : okC σ i x y
    · obtain ⟨x, y, rfl, rfl, hx, hy⟩ := c2
      exact JO.ok (st_wrW st hi hx hy) (k_dig H st.1 S st.2.1 hi hx hy) (fun h2' t' u' M' => m_dig M' st.1 hi hx hy)
    · exact JO.no xIOB 1 (by decide) (k_dig_c H st.1 hi c2) (fun h2' t' u' M' => m_dig_c M' st.1 hi c2)
  · exact JO.no xIOB 1 (by decide) (k_dig_x H st.1 c1 x y) (fun h2' t' u' M' => m_dig_x M' st.1 c1 x y)
theorem j_fill (J : JS Y B a m o σ h) (i x y w hq v : Int32) : JO l D Y b0 B a m o Value.int mX5_fill mX6_fill [.int i, .int x, .int y, .int w, .int hq, .int v] σ h [(xIOB, 1), (xIAE, 2)] := by
  obtain ⟨⟨R, tt, A, T, H, S, rfl⟩, st, ⟨t, u, M⟩, ⟨f, ho⟩, hmo⟩ := J
  by_cases c1 : okI σ i
  · obtain ⟨i, rfl, hi⟩ := c1
    by_cases c2 : okR σ i x y w hq
    · obtain ⟨x, y, w, hh, rfl, rfl, rfl, rfl, w1, h1, hx, hy⟩ := c2
      have X := XE.rowF (o := some v) st.1 st.2.1 hi hx hy (Nat.le_refl hh)
      exact JO.ok (st_GE X.E X.2.2 st) (k_fill H st.1 S st.2.1 hi w1 h1 hx hy v) (fun h2' t' u' M' => m_fill M' st.1 st.2.1 hi w1 h1 hx hy v)
    · exact JO.no xIAE 2 (by decide) (k_fill_r H st.1 hi c2 v) (fun h2' t' u' M' => m_fill_r M' st.1 hi c2 v)
  · exact JO.no xIOB 1 (by decide) (k_fill_x H st.1 c1 x y w hq v) (fun h2' t' u' M' => m_fill_x M' st.1 c1 x y w hq v)
theorem j_hole (J : JS Y B a m o σ h) (i x y : Int32) : JO l D Y b0 B a m o Value.int mX5_hole mX6_hole [.int i, .int x, .int y] σ h [(xIOB, 1)] := by
  obtain ⟨⟨R, tt, A, T, H, S, rfl⟩, st, ⟨t, u, M⟩, ⟨f, ho⟩, hmo⟩ := J
  by_cases c1 : okI σ i
  · obtain ⟨i, rfl, hi⟩ := c1
    by_cases c2 : okC σ i x y
    · obtain ⟨x, y, rfl, rfl, hx, hy⟩ := c2
      exact JO.ok st (k_hole H st.1 S hi hx hy) (fun h2' t' u' M' => m_hole M' st.1 hi hx hy)
    · exact JO.no xIOB 1 (by decide) (k_hole_c H st.1 hi c2) (fun h2' t' u' M' => m_hole_c M' st.1 hi c2)
  · exact JO.no xIOB 1 (by decide) (k_hole_x H st.1 c1 x y) (fun h2' t' u' M' => m_hole_x M' st.1 c1 x y)
theorem j_get (J : JS Y B a m o σ h) (i x y : Int32) : JO l D Y b0 B a m o Value.int mX5_get mX6_get [.int i, .int x, .int y] σ h [(xIOB, 1), (xNSE, 2)] := by
  obtain ⟨⟨R, tt, A, T, H, S, rfl⟩, st, ⟨t, u, M⟩, ⟨f, ho⟩, hmo⟩ := J
  by_cases c1 : okI σ i
  · obtain ⟨i, rfl, hi⟩ := c1
    by_cases c2 : okC σ i x y
    · obtain ⟨x, y, rfl, rfl, hx, hy⟩ := c2
      cases hn : cel σ (pn σ i x y) with
      | none => exact JO.no xNSE 2 (by decide) (k_get_h H st.1 S hi hx hy hn) (fun h2' t' u' M' => m_get_h M' st.1 hi hx hy hn)
      | some v => exact JO.ok st (k_get H st.1 S hi hx hy hn) (fun h2' t' u' M' => m_get M' st.1 hi hx hy hn)
    · exact JO.no xIOB 1 (by decide) (k_get_c H st.1 hi c2) (fun h2' t' u' M' => m_get_c M' st.1 hi c2)
  · exact JO.no xIOB 1 (by decide) (k_get_x H st.1 c1 x y) (fun h2' t' u' M' => m_get_x M' st.1 c1 x y)
theorem j_kind (J : JS Y B a m o σ h) (i x y : Int32) : JO l D Y b0 B a m o Value.int mX5_kind mX6_kind [.int i, .int x, .int y] σ h [(xIOB, 1)] := by
  obtain ⟨⟨R, tt, A, T, H, S, rfl⟩, st, ⟨t, u, M⟩, ⟨f, ho⟩, hmo⟩ := J
  by_cases c1 : okG σ i
  · obtain ⟨g, rfl, hg⟩ := c1
    by_cases c2 : okP σ g x y
    · obtain ⟨x, y, rfl, rfl, hx, hy⟩ := c2
      have := k_kind (l := l) (D := D) (b0 := b0) H st.1 S hg hx hy
      rw [kind_eq S hg (by omega) (by omega)] at this
      exact JO.ok st this (fun h2' t' u' M' => m_kind M' st.1 hg hx hy)
    · exact JO.no xIOB 1 (by decide) (k_kind_p H st.1 hg c2) (fun h2' t' u' M' => m_kind_p M' st.1 hg c2)
  · exact JO.no xIOB 1 (by decide) (k_kind_x H st.1 c1 x y) (fun h2' t' u' M' => m_kind_x M' st.1 c1 x y)
theorem j_keep (J : JS Y B a m o σ h) (x : Int32) : JO l D Y b0 B a m o Value.int mX5_keep mX6_keep [.int x] σ h [(xIOB, 1)] := by
  obtain ⟨⟨R, tt, A, T, H, S, rfl⟩, st, ⟨t, u, M⟩, ⟨f, ho⟩, hmo⟩ := J
  have HM := HM_of M ho
  by_cases c1 : okG σ x
  · obtain ⟨g, rfl, hg⟩ := c1
    by_cases c2 : nl σ g = 20
    · exact JO.ok st (k_keep_f H st.1 S hg c2) (fun h2' t' u' M' => m_keep_f M' st.1 st.2.1 hg c2)
    · have h20 : nl σ g < 20 := by have := (st.2.1.2.1 g hg).2; omega
      exact JO.ok (st_kp st hg h20) (k_keep H st.1 S st.2.1 HM hg h20) (fun h2' t' u' M' => m_keep M' st.1 st.2.1 hg h20)
  · exact JO.no xIOB 1 (by decide) (k_keep_x H st.1 c1) (fun h2' t' u' M' => m_keep_x M' st.1 c1)
theorem j_back (J : JS Y B a m o σ h) (x y : Int32) : JO l D Y b0 B a m o Value.int mX5_back mX6_back [.int x, .int y] σ h [(xIOB, 1)] := by
  obtain ⟨⟨R, tt, A, T, H, S, rfl⟩, st, ⟨t, u, M⟩, ⟨f, ho⟩, hmo⟩ := J
  by_cases c1 : okG σ x
  · obtain ⟨g, rfl, hg⟩ := c1
    by_cases c2 : okL σ g y
    · obtain ⟨q, rfl, hq⟩ := c2
      obtain ⟨b', E⟩ := ba_BI st.1 st.2.1 hg hq (Nat.le_refl 1920)
      exact JO.ok (st_GE E b' st) (k_back H st.1 S st.2.1 hg hq) (fun h2' t' u' M' => m_back M' st.1 st.2.1 hg hq)
    · exact JO.no xIOB 1 (by decide) (k_back_l H st.1 st.2.1 hg c2) (fun h2' t' u' M' => m_back_l M' st.1 st.2.1 hg c2)
  · exact JO.no xIOB 1 (by decide) (k_back_x H st.1 c1 y) (fun h2' t' u' M' => m_back_x M' st.1 c1 y)
theorem j_was (J : JS Y B a m o σ h) (x y z w : Int32) : JO l D Y b0 B a m o Value.int mX5_was mX6_was [.int x, .int y, .int z, .int w] σ h [(xIOB, 1), (xNSE, 2)] := by
  obtain ⟨⟨R, tt, A, T, H, S, rfl⟩, st, ⟨t, u, M⟩, ⟨f, ho⟩, hmo⟩ := J
  by_cases c1 : okG σ x
  · obtain ⟨g, rfl, hg⟩ := c1
    by_cases c2 : okL σ g y
    · obtain ⟨q, rfl, hq⟩ := c2
      by_cases c3 : ∃ a b, z = nI a ∧ w = nI b ∧ a < nt σ 1 g ∧ b < nt σ 2 g
      · obtain ⟨z, w, rfl, rfl, hz, hw⟩ := c3
        cases hn : lyr σ (lyA g q (48 * w + z)) with
        | none => exact JO.no xNSE 2 (by decide) (k_was_h H st.1 S st.2.1 hg hq hz hw hn) (fun h2' t' u' M' => m_was_h M' st.1 st.2.1 hg hq hz hw hn)
        | some v => exact JO.ok st (k_was H st.1 S st.2.1 hg hq hz hw hn) (fun h2' t' u' M' => m_was M' st.1 st.2.1 hg hq hz hw hn)
      · exact JO.no xIOB 1 (by decide) (k_was_c H st.1 st.2.1 hg hq c3) (fun h2' t' u' M' => m_was_c M' st.1 st.2.1 hg hq c3)
    · exact JO.no xIOB 1 (by decide) (k_was_l H st.1 st.2.1 hg c2 z w) (fun h2' t' u' M' => m_was_l M' st.1 st.2.1 hg c2 z w)
  · exact JO.no xIOB 1 (by decide) (k_was_x H st.1 c1 y z w) (fun h2' t' u' M' => m_was_x M' st.1 c1 y z w)
theorem dO_or {g : Nat} (x : Int32) : (∃ a : Option Nat, x = dO a ∧ ∀ q, a = some q → q < nl σ g) ∨ (¬ x = -1 ∧ ¬ okL σ g x) := by
  by_cases c1 : x = -1
  · exact Or.inl ⟨none, c1, fun q z => by cases z⟩
  · by_cases c2 : okL σ g x
    · obtain ⟨q, e, hq⟩ := c2
      exact Or.inl ⟨some q, e, fun q' z => by cases z; exact hq⟩
    · exact Or.inr ⟨c1, c2⟩
theorem j_differ (J : JS Y B a m o σ h) (x y z : Int32) : JO l D Y b0 B a m o Value.int mX5_differ mX6_differ [.int x, .int y, .int z] σ h [(xIOB, 1)] := by
  obtain ⟨⟨R, tt, A, T, H, S, rfl⟩, st, ⟨t, u, M⟩, ⟨f, ho⟩, hmo⟩ := J
  by_cases c1 : okG σ x
  · obtain ⟨g, rfl, hg⟩ := c1
    rcases dO_or (σ := σ) (g := g) y with ⟨y, rfl, hy⟩ | ⟨n1, n2⟩
    · rcases dO_or (σ := σ) (g := g) z with ⟨z, rfl, hz⟩ | ⟨n1, n2⟩
      · exact JO.ok st (k_differ H st.1 S st.2.1 hg y z hy hz) (fun h2' t' u' M' => m_differ M' st.1 st.2.1 hg y z hy hz)
      · exact JO.no xIOB 1 (by decide) (k_differ_b H st.1 S st.2.1 hg y hy n1 n2) (fun h2' t' u' M' => m_differ_b M' st.1 st.2.1 hg y hy n1 n2)
    · exact JO.no xIOB 1 (by decide) (k_differ_a H st.1 st.2.1 hg n1 n2 z) (fun h2' t' u' M' => m_differ_a M' st.1 st.2.1 hg n1 n2 z)
  · exact JO.no xIOB 1 (by decide) (k_differ_x H st.1 c1 y z) (fun h2' t' u' M' => m_differ_x M' st.1 c1 y z)
theorem j_lose (J : JS Y B a m o σ h) (x : Int32) (c : Bool) : JO l D Y b0 B a m o Value.int mX5_lose mX6_lose [.int x, .int (bI c)] σ h [(xIOB, 1)] := by
  obtain ⟨⟨R, tt, A, T, H, S, rfl⟩, st, ⟨t, u, M⟩, ⟨f, ho⟩, hmo⟩ := J
  by_cases c1 : okN 0 4 x
  · obtain ⟨i, rfl, -, hi⟩ := c1
    have hi : i < 5 := by omega
    exact JO.ok (st_GE lo_GE (lo_BI st.2.1) st) (k_lose H st.1 S st.2.1 hi c) (fun h2' t' u' M' => m_lose M' st.1 hi c)
  · exact JO.no xIOB 1 (by decide) (k_lose_x H c1 (bI c)) (fun h2' t' u' M' => m_lose_x M' c1 (bI c))
theorem j_sum (J : JS Y B a m o σ h) (i x y r : Int32) : JO l D Y b0 B a m o Value.long mX5_sum mX6_sum [.int i, .int x, .int y, .int r] σ h [(xIOB, 1), (xIAE, 2)] := by
  obtain ⟨⟨R, tt, A, T, H, S, rfl⟩, st, ⟨t, u, M⟩, ⟨f, ho⟩, hmo⟩ := J
  by_cases c1 : okI σ i
  · obtain ⟨i, rfl, hi⟩ := c1
    by_cases c2 : okC σ i x y
    · obtain ⟨x, y, rfl, rfl, hx, hy⟩ := c2
      by_cases c3 : okA r
      · obtain ⟨r, rfl, hr⟩ := c3
        exact JO.ok st (k_sum H st.1 S hi hx hy hr) (fun h2' t' u' M' => m_sum M' st.1 hi hx hy hr)
      · exact JO.no xIAE 2 (by decide) (k_sum_r H st.1 hi hx hy c3) (fun h2' t' u' M' => m_sum_r M' st.1 hi hx hy c3)
    · exact JO.no xIOB 1 (by decide) (k_sum_c H st.1 hi c2 r) (fun h2' t' u' M' => m_sum_c M' st.1 hi c2 r)
  · exact JO.no xIOB 1 (by decide) (k_sum_x H st.1 c1 x y r) (fun h2' t' u' M' => m_sum_x M' st.1 c1 x y r)
theorem j_many (J : JS Y B a m o σ h) (i x y r : Int32) : JO l D Y b0 B a m o Value.int mX5_many mX6_many [.int i, .int x, .int y, .int r] σ h [(xIOB, 1), (xIAE, 2)] := by
  obtain ⟨⟨R, tt, A, T, H, S, rfl⟩, st, ⟨t, u, M⟩, ⟨f, ho⟩, hmo⟩ := J
  by_cases c1 : okI σ i
  · obtain ⟨i, rfl, hi⟩ := c1
    by_cases c2 : okC σ i x y
    · obtain ⟨x, y, rfl, rfl, hx, hy⟩ := c2
      by_cases c3 : okA r
      · obtain ⟨r, rfl, hr⟩ := c3
        exact JO.ok st (k_many H st.1 S hi hx hy hr) (fun h2' t' u' M' => m_many M' st.1 hi hx hy hr)
      · exact JO.no xIAE 2 (by decide) (k_many_r H st.1 hi hx hy c3) (fun h2' t' u' M' => m_many_r M' st.1 hi hx hy c3)
    · exact JO.no xIOB 1 (by decide) (k_many_c H st.1 hi c2 r) (fun h2' t' u' M' => m_many_c M' st.1 hi c2 r)
  · exact JO.no xIOB 1 (by decide) (k_many_x H st.1 c1 x y r) (fun h2' t' u' M' => m_many_x M' st.1 c1 x y r)
theorem j_find (J : JS Y B a m o σ h) (i v : Int32) : JO l D Y b0 B a m o Value.int mX5_find mX6_find [.int i, .int v] σ h [(xIOB, 1)] := by
  obtain ⟨⟨R, tt, A, T, H, S, rfl⟩, st, ⟨t, u, M⟩, ⟨f, ho⟩, hmo⟩ := J
  by_cases c1 : okI σ i
  · obtain ⟨i, rfl, hi⟩ := c1
    exact JO.ok st (k_find H st.1 S hi v) (fun h2' t' u' M' => m_find M' st.1 hi v)
  · exact JO.no xIOB 1 (by decide) (k_find_x H st.1 c1 v) (fun h2' t' u' M' => m_find_x M' st.1 c1 v)
theorem st_ac {g : Nat} {val : Nat → Nat → Option Int32} (st : GI σ ∧ BI σ ∧ BV σ) (hg : g < ng σ) : GI (acA σ g val (nt σ 1 g) (nt σ 2 g)).1 ∧ BI (acA σ g val (nt σ 1 g) (nt σ 2 g)).1 ∧ BV (acA σ g val (nt σ 1 g) (nt σ 2 g)).1 := by
  have X := XE.rowA (val := val) st.1 st.2.1 hg (Nat.le_refl (nt σ 1 g)) (Nat.le_refl (nt σ 2 g)) (Nat.le_refl (nt σ 2 g))
  exact st_GE X.E X.2.2 st
theorem j_slide (J : JS Y B a m o σ h) (i n w : Int32) : JO l D Y b0 B a m o Value.int mX5_slide mX6_slide [.int i, .int n, .int w] σ h [(xIOB, 1), (xIAE, 2)] := by
  obtain ⟨⟨R, tt, A, T, H, S, rfl⟩, st, ⟨t, u, M⟩, ⟨f, ho⟩, hmo⟩ := J
  by_cases c1 : okI σ i
  · obtain ⟨i, rfl, hi⟩ := c1
    by_cases c2 : okG σ w
    · obtain ⟨g, rfl, hg⟩ := c2
      by_cases c3 : okN 0 4 n
      · obtain ⟨n, rfl, n0, hn⟩ := c3
        by_cases c4 : fitS σ i g (zW σ i) (zH σ i)
        · exact JO.ok (st_ac st hg) (k_slide H st.1 S st.2.1 hi n0 hn hg c4) (fun h2' t' u' M' => m_slide M' st.1 st.2.1 hi hn hg c4)
        · exact JO.no xIAE 2 (by decide) (k_slide_f H st.1 hi n0 hn hg c4) (fun h2' t' u' M' => m_slide_f M' st.1 hi hn hg c4)
      · exact JO.no xIAE 2 (by decide) (k_slide_n H st.1 hi c3 hg) (fun h2' t' u' M' => m_slide_n M' st.1 hi c3 hg)
    · exact JO.no xIOB 1 (by decide) (k_slide_g H st.1 hi n c2) (fun h2' t' u' M' => m_slide_g M' st.1 hi n c2)
  · exact JO.no xIOB 1 (by decide) (k_slide_x H st.1 c1 n w) (fun h2' t' u' M' => m_slide_x M' st.1 c1 n w)
theorem j_fold (J : JS Y B a m o σ h) (i : Int32) (c : Bool) (w : Int32) : JO l D Y b0 B a m o Value.int mX5_fold mX6_fold [.int i, .int (bI c), .int w] σ h [(xIOB, 1), (xIAE, 2)] := by
  obtain ⟨⟨R, tt, A, T, H, S, rfl⟩, st, ⟨t, u, M⟩, ⟨f, ho⟩, hmo⟩ := J
  by_cases c1 : okI σ i
  · obtain ⟨i, rfl, hi⟩ := c1
    by_cases c2 : okG σ w
    · obtain ⟨g, rfl, hg⟩ := c2
      by_cases c4 : fitS σ i g (if c = true then zW σ i else 1) (if c = true then 1 else zH σ i)
      · exact JO.ok (st_ac st hg) (k_fold H st.1 S st.2.1 hi c hg c4) (fun h2' t' u' M' => m_fold M' st.1 st.2.1 hi c hg c4)
      · exact JO.no xIAE 2 (by decide) (k_fold_f H st.1 hi c hg c4) (fun h2' t' u' M' => m_fold_f M' st.1 hi c hg c4)
    · exact JO.no xIOB 1 (by decide) (k_fold_g H st.1 hi (bI c) c2) (fun h2' t' u' M' => m_fold_g M' st.1 hi (bI c) c2)
  · exact JO.no xIOB 1 (by decide) (k_fold_x H st.1 c1 (bI c) w) (fun h2' t' u' M' => m_fold_x M' st.1 c1 (bI c) w)
theorem j_join (J : JS Y B a m o σ h) (i i2 n w : Int32) : JO l D Y b0 B a m o Value.int mX5_join mX6_join [.int i, .int i2, .int n, .int w] σ h [(xIOB, 1), (xIAE, 2)] := by
  obtain ⟨⟨R, tt, A, T, H, S, rfl⟩, st, ⟨t, u, M⟩, ⟨f, ho⟩, hmo⟩ := J
  by_cases c1 : okI σ i
  · obtain ⟨i, rfl, hi⟩ := c1
    by_cases c2 : okI σ i2
    · obtain ⟨i2, rfl, hi2⟩ := c2
      by_cases c3 : okG σ w
      · obtain ⟨g, rfl, hg⟩ := c3
        by_cases c4 : okN 0 3 n
        · obtain ⟨n, rfl, -, hn⟩ := c4
          by_cases c5 : fitS σ i g (zW σ i) (zH σ i) ∧ fitS σ i2 g (zW σ i2) (zH σ i2)
          · exact JO.ok (st_ac st hg) (k_join H st.1 S st.2.1 hi hi2 hn hg c5.1 c5.2) (fun h2' t' u' M' => m_join M' st.1 st.2.1 hi hi2 hn hg c5.1 c5.2)
          · exact JO.no xIAE 2 (by decide) (k_join_f H st.1 hi hi2 hn hg c5) (fun h2' t' u' M' => m_join_f M' st.1 hi hi2 hn hg c5)
        · exact JO.no xIAE 2 (by decide) (k_join_h H st.1 hi hi2 c4 hg) (fun h2' t' u' M' => m_join_h M' st.1 hi hi2 c4 hg)
      · exact JO.no xIOB 1 (by decide) (k_join_g H st.1 hi hi2 n c3) (fun h2' t' u' M' => m_join_g M' st.1 hi hi2 n c3)
    · exact JO.no xIOB 1 (by decide) (k_join_b H st.1 hi c2 n w) (fun h2' t' u' M' => m_join_b M' st.1 hi c2 n w)
  · exact JO.no xIOB 1 (by decide) (k_join_a H st.1 c1 i2 n w) (fun h2' t' u' M' => m_join_a M' st.1 c1 i2 n w)
theorem j_coarse (J : JS Y B a m o σ h) (i n w : Int32) : JO l D Y b0 B a m o Value.int mX5_coarse mX6_coarse [.int i, .int n, .int w] σ h [(xIOB, 1), (xIAE, 2)] := by
  obtain ⟨⟨R, tt, A, T, H, S, rfl⟩, st, ⟨t, u, M⟩, ⟨f, ho⟩, hmo⟩ := J
  by_cases c1 : okI σ i
  · obtain ⟨i, rfl, hi⟩ := c1
    by_cases c2 : okG σ w
    · obtain ⟨g, rfl, hg⟩ := c2
      by_cases c3 : okN 2 8 n
      · obtain ⟨n, rfl, n0, hn⟩ := c3
        by_cases c4 : fitS σ i g ((zW σ i + n - 1) / n) ((zH σ i + n - 1) / n)
        · exact JO.ok (st_ac st hg) (k_coarse H st.1 S st.2.1 hi n0 hn hg c4) (fun h2' t' u' M' => m_coarse M' st.1 st.2.1 hi n0 hn hg c4)
        · exact JO.no xIAE 2 (by decide) (k_coarse_f H st.1 hi n0 hn hg c4) (fun h2' t' u' M' => m_coarse_f M' st.1 hi n0 hn hg c4)
      · exact JO.no xIAE 2 (by decide) (k_coarse_n H st.1 hi c3 hg) (fun h2' t' u' M' => m_coarse_n M' st.1 hi c3 hg)
    · exact JO.no xIOB 1 (by decide) (k_coarse_g H st.1 hi n c2) (fun h2' t' u' M' => m_coarse_g M' st.1 hi n c2)
  · exact JO.no xIOB 1 (by decide) (k_coarse_x H st.1 c1 n w) (fun h2' t' u' M' => m_coarse_x M' st.1 c1 n w)
theorem j_read (J : JS Y B a m o σ h) (i x y w hq : Int32) : JO l D Y b0 B a m o Value.int mX5_read mX6_read [.int i, .int x, .int y, .int w, .int hq] σ h [(xIOB, 1), (xIAE, 2)] := by
  obtain ⟨⟨R, tt, A, T, H, S, rfl⟩, st, ⟨t, u, M⟩, ⟨f, ho⟩, hmo⟩ := J
  by_cases c1 : okI σ i
  · obtain ⟨i, rfl, hi⟩ := c1
    by_cases c2 : okR σ i x y w hq
    · obtain ⟨x, y, w, hh, rfl, rfl, rfl, rfl, w1, h1, hx, hy⟩ := c2
      exact Or.inl ⟨σ, _, st, k_read H st.1 S hi w1 h1 hx hy, fun h2' t' u' M' => ⟨_, m_read M' st.1 hi w1 h1 hx hy, fun _ _ z => z⟩⟩
    · exact JO.no xIAE 2 (by decide) (k_read_r H st.1 hi c2) (fun h2' t' u' M' => m_read_r M' st.1 hi c2)
  · exact JO.no xIOB 1 (by decide) (k_read_x H st.1 c1 x y w hq) (fun h2' t' u' M' => m_read_x M' st.1 c1 x y w hq)
/-- count: both answer the same, and nothing is changed -/
theorem j_count (J : JS Y B a m o σ h) (x : Int32) : JO l D Y b0 B a m o Value.int mX5_count mX6_count [.int x] σ h [] := by
  obtain ⟨⟨R, tt, A, T, H, S, rfl⟩, st, ⟨t, u, M⟩, ⟨f, ho⟩, hmo⟩ := J
  by_cases c1 : okN 0 8 x
  · obtain ⟨c9, rfl, -, hc⟩ := c1
    have := k_count (l := l) (D := D) (b0 := b0) H st.1 S hc
    rw [cn_eq S st.1 st.2.1 hc] at this
    exact JO.ok st this (fun h2' t' u' M' => m_count M' st.1 st.2.1 hc)
  · exact JO.ok st (k_count_x H S c1) (fun h2' t' u' M' => m_count_x M' c1)
end
