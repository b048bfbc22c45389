/-! pay, bar, hold, state, wage, sum, after, step, before -/
theorem way_cases (x : Int32) : (∃ w, w ≤ 1 ∧ x = nI w ∧ f_X3_isWay x = some 1 ∧ f_X4_in x 0 1 = some 1) ∨ (f_X3_isWay x = some 0 ∧ f_X4_in x 0 1 = some 0) := by
  unfold f_X3_isWay
  rw [y_in]
  by_cases h0 : x = 0
  · subst h0
    exact Or.inl ⟨0, by omega, rfl, rfl, rfl⟩
  · by_cases h1 : x = 1
    · subst h1
      exact Or.inl ⟨1, by omega, rfl, rfl, rfl⟩
    · rw [if_neg h0, if_neg h1]
      refine Or.inr ⟨rfl, ?_⟩
      by_cases h2 : x < 0
      · rw [if_pos h2]
      · by_cases h3 : 1 < x
        · rw [if_neg h2, if_pos h3]
        · obtain ⟨k, hk, e⟩ := rng (n := 1) rfl (by decide) h2 h3
          rcases (show k = 0 ∨ k = 1 by omega) with rfl | rfl
          · exact absurd e h0
          · exact absurd e h1
theorem q_pay (σ : GS) (μ : MS) (h : Rel σ μ) (x1 x2 x3 : Int32) : ∃ r σ1 μ1, f_X3_pay σ x1 x2 x3 = some (r, σ1) ∧ f_X4_pay μ x1 x2 x3 = some (r, μ1) ∧ Rel σ1 μ1 := by
  obtain ⟨N, hB, hp, hw, hs⟩ := id h
  unfold f_X3_pay f_X4_pay
  rcases way_cases x1 with ⟨x, hx, e1, g1, g2⟩ | ⟨g1, g2⟩
  · rw [g1, g2, Option.bind_some, Option.bind_some, if_neg one_ne, if_neg one_ne]
    rcases way_cases x2 with ⟨y, hy, e2, g3, g4⟩ | ⟨g3, g4⟩
    · rw [g3, g4, Option.bind_some, Option.bind_some, if_neg one_ne, if_neg one_ne, y_in, Option.bind_some]
      by_cases h1 : x3 < -9
      · rw [if_pos h1, if_pos h1, if_pos rfl]
        exact ⟨_, σ, μ, rfl, rfl, h⟩
      · rw [if_neg h1, if_neg h1]
        by_cases h2 : 9 < x3
        · rw [if_pos h2, if_pos rfl, if_neg (lt_nle h2)]
          exact ⟨_, σ, μ, rfl, rfl, h⟩
        · rw [if_neg h2, if_neg one_ne, if_pos (nlt_le h2)]
          subst e1; subst e2
          unfold f_X1_setPay
          rw [x_payOf σ hx hy, Option.bind_some, ix2, gd_nI (by omega) (by decide), gd_nI (by omega) (by decide), gd_nI (by omega) (by decide), Option.bind_some, nI_clamp (by omega)]
          have hB1 : Base N (gtpa σ (nI (2 * x + y)) x3) := by
            obtain ⟨b1, c1, c2, c3, c4, c5⟩ := hB
            refine ⟨b1, c1, c2, fun k hk => ?_, c4, c5⟩
            show -9 ≤ (upd (gpa σ) (nI (2 * x + y)).toNatClampNeg x3 k).toInt ∧ (upd (gpa σ) (nI (2 * x + y)).toNatClampNeg x3 k).toInt ≤ 9
            unfold upd
            split
            · rw [fa_lt] at h1 h2
              have e1 : (-9 : Int32).toInt = -9 := by decide
              have e2 : (9 : Int32).toInt = 9 := by decide
              omega
            · exact c3 k hk
          obtain ⟨σ2, k1, k2⟩ := forget_rel (N := N) (μ := mtpa μ (nI (2 * x + y)) x3) hB1 (by
            obtain ⟨p1, p2, p3, p4, p5, p6⟩ := hp
            refine ⟨p1, p2, p3, p4, p5, ?_⟩
            show upd (mpa μ) _ x3 = upd (gpa σ) _ x3
            rw [p6])
          rw [k1, Option.bind_some]
          exact ⟨_, σ2, _, rfl, by rw [hp.2.2.2.2.2], N, k2⟩
    · rw [g3, g4]
      exact ⟨_, σ, μ, rfl, rfl, h⟩
  · rw [g1, g2]
    exact ⟨_, σ, μ, rfl, rfl, h⟩
theorem q_bar (σ : GS) (μ : MS) (h : Rel σ μ) (x1 : Int32) : ∃ r σ1 μ1, f_X3_bar σ x1 = some (r, σ1) ∧ f_X4_bar μ x1 = some (r, μ1) ∧ Rel σ1 μ1 := by
  obtain ⟨N, hB, hp, hw, hs⟩ := id h
  unfold f_X3_bar f_X4_bar
  rw [y_in, Option.bind_some]
  by_cases h1 : x1 < 0
  · rw [if_pos h1, if_pos h1, if_pos rfl]
    exact ⟨_, σ, μ, rfl, rfl, h⟩
  · rw [if_neg h1, if_neg h1]
    by_cases h2 : 100 < x1
    · rw [if_pos h2, if_pos rfl, if_neg (lt_nle h2)]
      exact ⟨_, σ, μ, rfl, rfl, h⟩
    · rw [if_neg h2, if_neg one_ne, if_pos (nlt_le h2)]
      obtain ⟨σ2, k1, k2⟩ := forget_rel (N := N) (σ := gsbr σ x1) (μ := msbr μ x1) hB (by
        obtain ⟨p1, p2, p3, p4, p5, p6⟩ := hp
        exact ⟨p1, rfl, p3, p4, p5, p6⟩)
      rw [k1, Option.bind_some]
      exact ⟨_, σ2, _, rfl, by rw [hp.2.1], N, k2⟩
theorem RelN.nw {N : Nat} {σ : GS} {μ : MS} (h : RelN N σ μ) {z : Nat} (hz : z < 2 ^ N) : RelN N (gsnw σ (nI z)) (msnw μ (nI z)) := by
  obtain ⟨⟨b1, c1, c2, c3, c4, c5⟩, ⟨p1, p2, p3, p4, p5, p6⟩, hw, hs⟩ := h
  exact ⟨⟨b1, c1, c2, c3, c4, z, hz, rfl⟩, ⟨p1, p2, p3, rfl, p5, p6⟩, wishOK.of rfl rfl rfl rfl rfl hw, hs⟩
theorem RelN.hd {N : Nat} {σ : GS} {μ : MS} (h : RelN N σ μ) {x : Int32} (hx : isSt N x) : RelN N (gshd σ x) (mshd μ x) := by
  obtain ⟨⟨b1, c1, c2, c3, c4, c5⟩, ⟨p1, p2, p3, p4, p5, p6⟩, hw, hs⟩ := h
  have h10 := b1.2.2.1
  exact ⟨⟨b1, c1, c2, c3, isSt_of (by omega) hx, c5⟩, ⟨p1, p2, rfl, p4, p5, p6⟩, wishOK.of rfl rfl rfl rfl rfl hw, hs⟩
theorem q_hold (σ : GS) (μ : MS) (h : Rel σ μ) (x1 x2 : Int32) : ∃ r σ1 μ1, f_X3_hold σ x1 x2 = some (r, σ1) ∧ f_X4_hold μ x1 x2 = some (r, μ1) ∧ Rel σ1 μ1 := by
  obtain ⟨N, hR⟩ := id h
  obtain ⟨a1, a2, a3⟩ := hR.pl
  unfold f_X3_hold f_X4_hold
  rcases player_cases a1 a2 a3 x1 with ⟨p, hp, e1, g1, g2⟩ | ⟨g1, g2⟩
  · rw [g1, g2, Option.bind_some, Option.bind_some, if_neg one_ne, if_neg one_ne]
    subst e1
    have hh : mhd μ = ghd σ := hR.2.1.2.2.1
    obtain ⟨hv, hhv, ehd⟩ := hR.1.2.2.2.2.1
    have hst : isSt N (ghd σ) := by rw [ehd]; exact isSt_nI hhv
    rw [x_bitOf, Option.bind_some, hh]
    by_cases h2 : x2 = 0
    · rw [if_pos h2, if_pos h2]
      exact ⟨_, _, _, rfl, rfl, N, hR.hd (isSt_stB hst hp 0)⟩
    · rw [if_neg h2, if_neg h2]
      exact ⟨_, _, _, rfl, rfl, N, hR.hd (isSt_stB hst hp 1)⟩
  · rw [g1, g2]
    exact ⟨_, σ, μ, rfl, rfl, h⟩
theorem q_state (σ : GS) (μ : MS) (h : Rel σ μ) (x1 : Int32) : ∃ r σ1 μ1, f_X3_state σ x1 = some (r, σ1) ∧ f_X4_state μ x1 = some (r, μ1) ∧ Rel σ1 μ1 := by
  obtain ⟨N, hR⟩ := id h
  obtain ⟨a1, a2, a3⟩ := hR.pl
  unfold f_X3_state f_X4_state
  rcases state_cases a1 a2 a3.2 x1 with ⟨k, hk, e1, g1, g2⟩ | ⟨g1, g2⟩
  · rw [g1, g2, Option.bind_some, Option.bind_some, if_neg one_ne, if_neg one_ne]
    subst e1
    exact ⟨_, _, _, rfl, by rw [hR.2.1.2.2.2.1], N, hR.nw hk⟩
  · rw [g1, g2]
    exact ⟨_, σ, μ, rfl, rfl, h⟩
/-- the wage by both sides -/
theorem wage_both {N : Nat} {σ : GS} {μ : MS} (h : RelN N σ μ) {p w : Nat} (hp : p < 10) (hw : w ≤ 1) (s : Int32) : f_X1_wageOf σ (nI p) (nI w) s = some (Wg N (gwe σ) (gpa σ) s p w) ∧ f_X4_wageOf μ s (nI p) (nI w) = some (Wg N (gwe σ) (gpa σ) s p w) := by
  obtain ⟨a1, a2, a3, a4⟩ := h.pl
  refine ⟨x_wageOf a1 a4 hp hw (h.1.1.2.2.2.2 p hp) s, ?_⟩
  rw [y_wageOf a2 a4 hp hw s, h.2.1.2.2.2.2.1, h.2.1.2.2.2.2.2]
theorem q_wage (σ : GS) (μ : MS) (h : Rel σ μ) (x1 x2 : Int32) : ∃ r, f_X3_wage σ x1 x2 = some r ∧ f_X4_wage μ x1 x2 = some r := by
  obtain ⟨N, hR⟩ := id h
  obtain ⟨a1, a2, a3⟩ := hR.pl
  have hnw : mnw μ = gnw σ := hR.2.1.2.2.2.1
  unfold f_X3_wage f_X4_wage
  rcases player_cases a1 a2 a3 x1 with ⟨p, hp, e1, g1, g2⟩ | ⟨g1, g2⟩
  · rw [g1, g2, Option.bind_some, Option.bind_some, if_neg one_ne, if_neg one_ne, hnw]
    subst e1
    have hb := bN_le (gnw σ) p
    have e2 : (gnw σ >>> (nI p &&& 31)) &&& (1 : Int32) = nI (bN (gnw σ) p) := bI_nI (gnw σ) (by omega)
    rw [x_bitOf, Option.bind_some, bI_nI (gnw σ) (by omega), e2]
    by_cases h0 : x2 = 0
    · subst h0
      have e3 : nI (bN (gnw σ) p) ^^^ (0 : Int32) = nI (bN (gnw σ) p) := by simp
      have e4 : f_X4_in (0 : Int32) 0 1 = some 1 := by decide
      rw [if_pos rfl, if_pos rfl, e3, e4, Option.bind_some, if_neg one_ne, (wage_both hR (by omega) hb (gnw σ)).1, (wage_both hR (by omega) hb (gnw σ)).2]
      exact ⟨_, rfl, rfl⟩
    · by_cases h1 : x2 = 1
      · subst h1
        have e3 : nI (bN (gnw σ) p) ^^^ (1 : Int32) = nI (1 - bN (gnw σ) p) := by
          rcases (show bN (gnw σ) p = 0 ∨ bN (gnw σ) p = 1 by omega) with e | e <;> rw [e] <;> decide
        have e4 : f_X4_in (1 : Int32) 0 1 = some 1 := by decide
        rw [if_neg h0, if_pos rfl, e3, e4, Option.bind_some, if_neg one_ne, if_neg h0, sub1 hb, (wage_both hR (by omega) (by omega) (gnw σ)).1, (wage_both hR (by omega) (by omega) (gnw σ)).2]
        exact ⟨_, rfl, rfl⟩
      · rw [if_neg h0, if_neg h1]
        rcases way_cases x2 with ⟨w, hw, e, -, -⟩ | ⟨-, g4⟩
        · rcases (show w = 0 ∨ w = 1 by omega) with rfl | rfl
          · exact absurd e h0
          · exact absurd e h1
        · rw [g4]
          exact ⟨_, rfl, rfl⟩
  · rw [g1, g2]
    exact ⟨_, rfl, rfl⟩
theorem q_sum (σ : GS) (μ : MS) (h : Rel σ μ) : ∃ r, f_X3_sum σ = some r ∧ f_X4_sum μ = some r := by
  obtain ⟨N, hR⟩ := id h
  obtain ⟨a1, a2, a3, a4⟩ := hR.pl
  have hnw : mnw μ = gnw σ := hR.2.1.2.2.2.1
  generalize hg : (fun p => Wg N (gwe σ) (gpa σ) (gnw σ) p (bN (gnw σ) p)) = g
  have hgp : ∀ p, g p = Wg N (gwe σ) (gpa σ) (gnw σ) p (bN (gnw σ) p) := fun p => by rw [← hg]
  refine ⟨isum g N, ?_, ?_⟩
  · unfold f_X3_sum
    refine itr_bind (itr_run (fun i => (isum g i, nI i)) N rfl (by omega) (fun i hi => ?_) ?_) rfl
    · unfold f_X3_sum_b4
      dsimp only
      rw [a1, if_neg (nI_ge hi (by omega)), x_bitOf, Option.bind_some, bI_nI (gnw σ) (by omega), (wage_both hR (by omega) (bN_le _ _) (gnw σ)).1, Option.bind_some, nI_p1, ← hgp]
      rfl
    · unfold f_X3_sum_b4
      dsimp only
      rw [a1, if_pos (nI_le (Nat.le_refl _) (by omega))]
  · unfold f_X4_sum
    refine itr_bind (itr_run (fun i => (isum g i, nI i)) N rfl (by omega) (fun i hi => ?_) ?_) rfl
    · unfold f_X4_sum_b4
      dsimp only
      have e2 : (gnw σ >>> (nI i &&& 31)) &&& (1 : Int32) = nI (bN (gnw σ) i) := bI_nI (gnw σ) (by omega)
      rw [a2, if_neg (nI_ge hi (by omega)), hnw, e2, (wage_both hR (by omega) (bN_le _ _) (gnw σ)).2, Option.bind_some, nI_p1, ← hgp]
      rfl
    · unfold f_X4_sum_b4
      dsimp only
      rw [a2, if_pos (nI_le (Nat.le_refl _) (by omega))]
/-- what comes behind, by both sides -/
def nz (N : Nat) (σ : GS) (r : Nat) (k : Nat) : Nat := nxN N (gwe σ) (gpa σ) (gbr σ) r (ghd σ) k
theorem next_h {N : Nat} {σ : GS} {μ : MS} (h : RelN N σ μ) {r k : Nat} (hr : r ≤ 3) (hk : k < 2 ^ N) (hd : Int32) : ∃ σ', f_X0_next σ (nI r) hd (nI k) = some (nI (nxN N (gwe σ) (gpa σ) (gbr σ) r hd k), σ') ∧ f_X4_next μ (nI r) (nI k) hd = some (nI (nxN N (gwe σ) (gpa σ) (gbr σ) r hd k)) ∧ RelN N σ' μ ∧ Kp σ σ' := by
  obtain ⟨a1, a2, a3, a4⟩ := h.pl
  obtain ⟨σ', h1, h2, h3⟩ := x_nextK h.1.1 h.2.2.1 hr hk hd
  refine ⟨σ', h1, ?_, h.kp h2 h3, h2⟩
  rw [y_next a2 a4 h.met.2.2.2 hr, h.2.1.2.2.2.2.1, h.2.1.2.2.2.2.2, h.2.1.2.1, (nxN_ok a4 (gwe σ) (gpa σ) (gbr σ) r hd hk).2]
theorem q_after (σ : GS) (μ : MS) (h : Rel σ μ) (x1 x2 : Int32) : ∃ r σ1, f_X3_after σ x1 x2 = some (r, σ1) ∧ f_X4_after μ x1 x2 = some r ∧ Rel σ1 μ := by
  obtain ⟨N, hR⟩ := id h
  obtain ⟨a1, a2, a3⟩ := hR.pl
  unfold f_X3_after f_X4_after
  rcases rule_cases x1 with ⟨r, hr, e1, g1, g2⟩ | ⟨g1, g2⟩
  · rw [g1, g2, Option.bind_some, Option.bind_some, if_neg one_ne, if_neg one_ne]
    rcases state_cases a1 a2 a3.2 x2 with ⟨k, hk, e2, g3, g4⟩ | ⟨g3, g4⟩
    · rw [g3, g4, Option.bind_some, Option.bind_some, if_neg one_ne, if_neg one_ne]
      subst e1; subst e2
      obtain ⟨σ', k1, k2, k3, -⟩ := next_h hR hr hk (ghd σ)
      rw [k1, Option.bind_some, hR.2.1.2.2.1, k2, Option.bind_some]
      exact ⟨_, σ', rfl, rfl, N, k3⟩
    · rw [g3, g4]
      exact ⟨_, σ, rfl, rfl, h⟩
  · rw [g1, g2]
    exact ⟨_, σ, rfl, rfl, h⟩
def stp (f : Nat → Nat) (t : Nat) : Nat → Nat
  | 0 => t
  | j + 1 => f (stp f t j)
theorem q_step (σ : GS) (μ : MS) (h : Rel σ μ) (x1 x2 : Int32) : ∃ r σ1 μ1, f_X3_step σ x1 x2 = some (r, σ1) ∧ f_X4_step μ x1 x2 = some (r, μ1) ∧ Rel σ1 μ1 := by
  obtain ⟨N, hR⟩ := id h
  obtain ⟨a1, a2, a3, a4⟩ := hR.pl
  unfold f_X3_step f_X4_step
  rcases rule_cases x1 with ⟨r, hr, e1, g1, g2⟩ | ⟨g1, g2⟩
  · rw [g1, g2, Option.bind_some, Option.bind_some, if_neg one_ne, if_neg one_ne, y_in, Option.bind_some]
    by_cases h1 : x2 < 1
    · rw [if_pos h1, if_pos h1, if_pos rfl]
      exact ⟨_, σ, μ, rfl, rfl, h⟩
    · rw [if_neg h1, if_neg h1]
      by_cases h2 : 100 < x2
      · rw [if_pos h2, if_pos rfl, if_neg (lt_nle h2)]
        exact ⟨_, σ, μ, rfl, rfl, h⟩
      · rw [if_neg h2, if_neg one_ne, if_pos (nlt_le h2)]
        have h0 : ¬ x2 < 0 := by rw [fa_lt] at *; have e1 : (1 : Int32).toInt = 1 := rfl; have e2 : (0 : Int32).toInt = 0 := rfl; omega
        obtain ⟨n, hn, e2⟩ := rng (n := 100) rfl (by decide) h0 h2
        subst e1; subst e2
        obtain ⟨t, ht, et⟩ := hR.1.2.2.2.2.2
        have et2 : mnw μ = nI t := hR.2.1.2.2.2.1.trans et
        generalize hf : nxN N (gwe σ) (gpa σ) (gbr σ) r (ghd σ) = f
        have hfl : ∀ s, s < 2 ^ N → f s < 2 ^ N := fun s hs => by rw [← hf]; exact (nxN_ok a4 (gwe σ) (gpa σ) (gbr σ) r (ghd σ) hs).1
        have hst : ∀ j, stp f t j < 2 ^ N := by
          intro j
          induction j with
          | zero => exact ht
          | succ j ih => exact hfl _ ih
        have L1 : ∃ x, itr (f_X3_step_b23 (nI n) (nI r)) FU ((0 : Int32), σ) = some x ∧ RelN N x (msnw μ (nI (stp f t n))) := by
          refine itr_inv (fun j st => ∃ x, st = (nI j, x) ∧ RelN N x (msnw μ (nI (stp f t j)))) _ n (by omega) ⟨σ, rfl, ?_⟩ ?_ ?_
          · have : msnw μ (nI (stp f t 0)) = μ := by
              show msnw μ (nI t) = μ
              rw [← et2]; rfl
            rw [this]; exact hR
          · rintro j st hj ⟨x, rfl, hx⟩
            unfold f_X3_step_b23
            dsimp only
            have q1 : gnw x = nI (stp f t j) := hx.2.1.2.2.2.1.symm
            have q2 : ghd x = ghd σ := hx.2.1.2.2.1.symm.trans hR.2.1.2.2.1
            have q3 : gwe x = gwe σ := hx.2.1.2.2.2.2.1.symm.trans hR.2.1.2.2.2.2.1
            have q4 : gpa x = gpa σ := hx.2.1.2.2.2.2.2.symm.trans hR.2.1.2.2.2.2.2
            have q5 : gbr x = gbr σ := hx.2.1.2.1.symm.trans hR.2.1.2.1
            obtain ⟨σ', k1, k2, k3, -⟩ := next_h hx hr (hst j) (ghd x)
            rw [if_neg (nI_ge hj (by omega)), q1, k1, Option.bind_some, nI_p1]
            refine ⟨_, rfl, _, rfl, ?_⟩
            dsimp only
            rw [q2, q3, q4, q5, hf]
            exact k3.nw (hst (j + 1))
          · rintro st ⟨x, rfl, hx⟩
            unfold f_X3_step_b23
            dsimp only
            rw [if_pos (nI_le (Nat.le_refl _) (by omega))]
            exact ⟨x, rfl, hx⟩
        have L2 : itr (f_X4_step_b22 (nI n) (nI r)) FU ((0 : Int32), μ) = some (msnw μ (nI (stp f t n))) := by
          refine itr_run (fun j => (nI j, msnw μ (nI (stp f t j)))) n ?_ (by omega) (fun j hj => ?_) ?_
          · show ((0 : Int32), μ) = (nI 0, msnw μ (nI t))
            rw [← et2]; rfl
          · unfold f_X4_step_b22
            dsimp only
            have q1 : mnw (msnw μ (nI (stp f t j))) = nI (stp f t j) := rfl
            have q2 : mhd (msnw μ (nI (stp f t j))) = ghd σ := hR.2.1.2.2.1
            have q3 : mwe (msnw μ (nI (stp f t j))) = gwe σ := hR.2.1.2.2.2.2.1
            have q4 : mpa (msnw μ (nI (stp f t j))) = gpa σ := hR.2.1.2.2.2.2.2
            have q5 : mbr (msnw μ (nI (stp f t j))) = gbr σ := hR.2.1.2.1
            have q6 : mpl (msnw μ (nI (stp f t j))) = nI N := a2
            rw [if_neg (nI_ge hj (by omega)), y_next q6 a4 hR.met.2.2.2 hr, Option.bind_some, nI_p1, q1, q2, q3, q4, q5, (nxN_ok a4 (gwe σ) (gpa σ) (gbr σ) r (ghd σ) (hst j)).2, hf]
            rfl
          · unfold f_X4_step_b22
            dsimp only
            rw [if_pos (nI_le (Nat.le_refl _) (by omega))]
        obtain ⟨x, hx1, hx2⟩ := L1
        rw [hx1, L2, Option.bind_some, Option.bind_some]
        exact ⟨gnw x, x, _, rfl, by rw [hx2.2.1.2.2.2.1], N, hx2⟩
  · rw [g1, g2]
    exact ⟨_, σ, μ, rfl, rfl, h⟩
