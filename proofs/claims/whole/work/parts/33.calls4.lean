/-! goes, end, basin -/
theorem surv {N r : Nat} {σ : GS} {μ : MS} (h : RelN N σ μ) (hr : r ≤ 3) : ∃ σ', f_X2_goThrough σ (nI r) (ghd σ) (gnw σ) = some σ' ∧ RelN N σ' μ ∧ SameN σ σ' ∧ sv N (gwe σ) (gpa σ) (gbr σ) r (ghd σ) (gnw σ &&& ghd σ) (gbe σ') (gen σ') (gta σ') := by
  obtain ⟨σ', k1, k2, k3, k4, k5, k6, k7⟩ := x_goThrough h.1.1 h.2.2.1 h.2.2.2 hr (ghd σ) (gnw σ)
  refine ⟨σ', k1, ⟨Base.same k2 h.1, Pair.same k2 h.2.1, k3, Or.inr ⟨r, hr, k4, ?_⟩⟩, k2, k7⟩
  rw [k5, k6, k2.2.2.2.2.1, k2.2.2.2.2.2.2, k2.2.1]
  exact k7
theorem surv2 {N r : Nat} {σ : GS} {μ : MS} (h : RelN N σ μ) (hr : r ≤ 3) : ∃ b e t, f_X4_layEnds μ (nI r) = some (yz (ybe μ b) e t) ∧ ∀ s, s < 2 ^ N → (nI s &&& ghd σ = gnw σ &&& ghd σ → b s = nI (FF N (gwe σ) (gpa σ) (gbr σ) r (ghd σ) (gnw σ &&& ghd σ) s) ∧ dn (2 ^ N) (FF N (gwe σ) (gpa σ) (gbr σ) r (ghd σ) (gnw σ &&& ghd σ)) e t s) ∧ (¬ nI s &&& ghd σ = gnw σ &&& ghd σ → e s = -6) := by
  obtain ⟨b, e, t, h1, h2⟩ := y_layEnds h.met hr
  rw [h.2.1.2.2.1, h.2.1.2.2.2.1, h.2.1.2.2.2.2.1, h.2.1.2.2.2.2.2, h.2.1.2.1] at h2
  exact ⟨b, e, t, h1, h2⟩
theorem pE_eq {M : Nat} (hM : M ≤ 1024) {F : Nat → Nat} {B : Nat → Prop} {e t e' t' : Nat → Int32} (h1 : ∀ s, s < M → (B s → dn M F e t s) ∧ (¬ B s → e s = -1)) (h2 : ∀ s, s < M → (B s → dn M F e' t' s) ∧ (¬ B s → e' s = -6)) {s : Nat} (hs : s < M) (x : Nat) (hx : x < M) : (e s = nI x ↔ e' s = nI x) ∧ (e s = nI x → B s) := by
  by_cases hb : B s
  · rw [(two_eq ((h1 s hs).1 hb) ((h2 s hs).1 hb)).1]
    exact ⟨Iff.rfl, fun _ => hb⟩
  · rw [(h1 s hs).2 hb, (h2 s hs).2 hb]
    exact ⟨⟨fun z => absurd z.symm (nI_ne_neg (by omega) (by decide)), fun z => absurd z.symm (nI_ne_neg (by omega) (by decide))⟩, fun z => absurd z.symm (nI_ne_neg (by omega) (by decide))⟩
theorem q_end (σ : GS) (μ : MS) (h : Rel σ μ) (x1 x2 : Int32) : ∃ r σ1 μ1, f_X3_end σ x1 x2 = some (r, σ1) ∧ f_X4_end μ x1 x2 = some (r, μ1) ∧ Rel σ1 μ1 := by
  obtain ⟨N, hR⟩ := id h
  obtain ⟨a1, a2, a3, a4⟩ := hR.pl
  have hpw := pw10 a4
  unfold f_X3_end f_X4_end
  rcases rule_cases x1 with ⟨r, hr, e1, g1, g2⟩ | ⟨g1, g2⟩
  · rw [g1, g2, Option.bind_some, Option.bind_some, if_neg one_ne, if_neg one_ne]
    subst e1
    obtain ⟨σ', k1, k2, k3, k4⟩ := surv hR hr
    obtain ⟨b, e, t, m1, m2⟩ := surv2 hR hr
    rw [k1, m1, Option.bind_some, Option.bind_some]
    have hst1 : f_X1_states σ' = some (nI (2 ^ N)) := x_states k2.pl.1 a4
    have hst2 : f_X4_states (yz (ybe μ b) e t) = some (nI (2 ^ N)) := y_states a2 a4
    generalize hF : FF N (gwe σ) (gpa σ) (gbr σ) r (ghd σ) (gnw σ &&& ghd σ) = F at m2
    have hk4 : ∀ s, s < 2 ^ N → (nI s &&& ghd σ = gnw σ &&& ghd σ → dn (2 ^ N) F (gen σ') (gta σ') s) ∧ (¬ nI s &&& ghd σ = gnw σ &&& ghd σ → gen σ' s = -1) := fun s hs => by rw [← hF]; exact (k4 s hs).2
    have hm2 : ∀ s, s < 2 ^ N → (nI s &&& ghd σ = gnw σ &&& ghd σ → dn (2 ^ N) F e t s) ∧ (¬ nI s &&& ghd σ = gnw σ &&& ghd σ → e s = -6) := fun s hs => ⟨fun hb => ((m2 s hs).1 hb).2, (m2 s hs).2⟩
    have hpe : ∀ s, s < 2 ^ N → pE (gen σ') s = pE e s := fun s hs => by
      unfold pE
      have := (pE_eq hpw hk4 hm2 hs s hs).1
      simp only [this]
    have hcn : ∀ n, n ≤ 2 ^ N → cnt (pE (gen σ')) n = cnt (pE e) n := fun n hn => cnt_congr (fun s hs => hpe s (by omega))
    have hRel : Rel σ' (yz (ybe μ b) e t) := ⟨N, k2.1, k2.2.1, k2.2.2⟩
    have hy := y_endAt hst2 hpw x2
    have hme : men (yz (ybe μ b) e t) = e := rfl
    rw [hme] at hy
    have hcl : ∀ s, s ≤ 2 ^ N → cnt (pE e) s < 2 ^ 31 := fun s hs => by have := cnt_le (pE e) s; omega
    by_cases hm : x2 = -1
    · rw [if_pos hm, x_howManyEnds hst1 hpw, Option.bind_some, hcn _ (Nat.le_refl _)]
      rcases hy with ⟨s, hsl, -, z, -⟩ | ⟨-, z⟩
      · rw [hm] at z
        exact absurd z.symm (nI_ne_neg (hcl s (by omega)) (by decide))
      · rw [z, if_pos hm, Option.bind_some]
        exact ⟨_, σ', _, rfl, rfl, hRel⟩
    · rw [if_neg hm]
      rcases x_endAt hst1 hpw x2 with ⟨s, u1, u2, u3, u4⟩ | ⟨u1, u2⟩
      · rw [u4, Option.bind_some]
        rcases hy with ⟨s2, w1, w2, w3, w4⟩ | ⟨w1, -⟩
        · rw [hcn s (by omega)] at u3
          have : s = s2 := cnt_inj (P := pE e) (by rw [← hpe s u1]; unfold pE; simp [u2]) (by unfold pE; simp [w2]) (nI_inj (hcl s (by omega)) (hcl s2 (by omega)) (u3.symm.trans w3))
          subst this
          rw [w4, Option.bind_some]
          exact ⟨_, σ', _, rfl, rfl, hRel⟩
        · rw [hcn s (by omega)] at u3
          exact absurd u3 (w1 s u1 ((pE_eq hpw hk4 hm2 u1 s u1).1.mp u2))
      · rw [u2, Option.bind_some]
        rcases hy with ⟨s2, w1, w2, w3, -⟩ | ⟨-, w2⟩
        · rw [← hcn s2 (by omega)] at w3
          exact absurd w3 (u1 s2 w1 ((pE_eq hpw hk4 hm2 w1 s2 w1).1.mpr w2))
        · rw [w2, if_neg hm, Option.bind_some]
          exact ⟨_, σ', _, rfl, rfl, hRel⟩
  · rw [g1, g2]
    exact ⟨_, σ, μ, rfl, rfl, h⟩
theorem mxT_congr {e t e' t' : Nat → Int32} {x : Int32} : ∀ {n : Nat}, (∀ s, s < n → (e s = x ↔ e' s = x) ∧ (e s = x → t s = t' s)) → mxT e t x n = mxT e' t' x n := by
  intro n
  induction n with
  | zero => intro _; rfl
  | succ n ih =>
    intro h
    unfold mxT
    rw [ih (fun s hs => h s (by omega))]
    obtain ⟨h1, h2⟩ := h n (by omega)
    by_cases hc : e n = x
    · rw [if_pos hc, if_pos (h1.mp hc), h2 hc]
    · rw [if_neg hc, if_neg (fun z => hc (h1.mpr z))]
theorem q_basin (σ : GS) (μ : MS) (h : Rel σ μ) (x1 x2 x3 : Int32) : ∃ r σ1 μ1, f_X3_basin σ x1 x2 x3 = some (r, σ1) ∧ f_X4_basin μ x1 x2 x3 = some (r, μ1) ∧ Rel σ1 μ1 := by
  obtain ⟨N, hR⟩ := id h
  obtain ⟨a1, a2, a3, a4⟩ := hR.pl
  have hpw := pw10 a4
  unfold f_X3_basin f_X4_basin
  rcases rule_cases x1 with ⟨r, hr, e1, g1, g2⟩ | ⟨g1, g2⟩
  · rw [g1, g2, Option.bind_some, Option.bind_some, if_neg one_ne, if_neg one_ne, y_in, Option.bind_some]
    by_cases h1 : x3 < 0
    · rw [if_pos h1, if_pos h1, if_pos rfl]
      exact ⟨_, σ, μ, rfl, rfl, h⟩
    · rw [if_neg h1, if_neg h1]
      by_cases h2 : 2 < x3
      · rw [if_pos h2, if_pos rfl, if_neg (lt_nle h2)]
        exact ⟨_, σ, μ, rfl, rfl, h⟩
      · rw [if_neg h2, if_neg one_ne, if_pos (nlt_le h2)]
        subst e1
        obtain ⟨σ', k1, k2, k3, k4⟩ := surv hR hr
        obtain ⟨b, e, t, m1, m2⟩ := surv2 hR hr
        rw [k1, m1, Option.bind_some, Option.bind_some]
        have hst1 : f_X1_states σ' = some (nI (2 ^ N)) := x_states k2.pl.1 a4
        have hst2 : f_X4_states (yz (ybe μ b) e t) = some (nI (2 ^ N)) := y_states a2 a4
        have hFl := FF_lt a4 (gwe σ) (gpa σ) (gbr σ) r (ghd σ) (gnw σ &&& ghd σ)
        have hBc : ∀ s, s < 2 ^ N → nI s &&& ghd σ = gnw σ &&& ghd σ → nI (FF N (gwe σ) (gpa σ) (gbr σ) r (ghd σ) (gnw σ &&& ghd σ) s) &&& ghd σ = gnw σ &&& ghd σ := fun s hs hb => FF_bg a4 _ _ _ _ _ _ hs hb
        generalize hF : FF N (gwe σ) (gpa σ) (gbr σ) r (ghd σ) (gnw σ &&& ghd σ) = F at m2 hFl hBc
        have hk4 : ∀ s, s < 2 ^ N → (nI s &&& ghd σ = gnw σ &&& ghd σ → dn (2 ^ N) F (gen σ') (gta σ') s) ∧ (¬ nI s &&& ghd σ = gnw σ &&& ghd σ → gen σ' s = -1) := fun s hs => by rw [← hF]; exact (k4 s hs).2
        have hm2 : ∀ s, s < 2 ^ N → (nI s &&& ghd σ = gnw σ &&& ghd σ → dn (2 ^ N) F e t s) ∧ (¬ nI s &&& ghd σ = gnw σ &&& ghd σ → e s = -6) := fun s hs => ⟨fun hb => ((m2 s hs).1 hb).2, (m2 s hs).2⟩
        have hpe : ∀ s, s < 2 ^ N → pE (gen σ') s = pE e s := fun s hs => by
          unfold pE
          have := (pE_eq hpw hk4 hm2 hs s hs).1
          simp only [this]
        have hcn : ∀ n, n ≤ 2 ^ N → cnt (pE (gen σ')) n = cnt (pE e) n := fun n hn => cnt_congr (fun s hs => hpe s (by omega))
        have hRel : Rel σ' (yz (ybe μ b) e t) := ⟨N, k2.1, k2.2.1, k2.2.2⟩
        have hy := y_endAt hst2 hpw x2
        have hme : men (yz (ybe μ b) e t) = e := rfl
        have hmt : mta (yz (ybe μ b) e t) = t := rfl
        rw [hme] at hy
        have hcl : ∀ s, s ≤ 2 ^ N → cnt (pE e) s < 2 ^ 31 := fun s hs => by have := cnt_le (pE e) s; omega
        have none6 : f_X4_basin_j38 x3 (-6) (yz (ybe μ b) e t) = some (-6, yz (ybe μ b) e t) := by
          unfold f_X4_basin_j38
          rw [if_neg (by decide)]
        rcases x_endAt hst1 hpw x2 with ⟨s, u1, u2, u3, u4⟩ | ⟨u1, u2⟩
        · rw [u4, Option.bind_some, if_neg (show ¬ nI s = (-6 : Int32) from nI_ne6 (by omega))]
          have hx0 : (0 : Int32) ≤ x2 := by rw [u3]; exact nI_ge0 (by rw [hcn s (by omega)]; exact hcl s (by omega))
          have u2' := (pE_eq hpw hk4 hm2 u1 s u1).1.mp u2
          have hbs := (pE_eq hpw hk4 hm2 u1 s u1).2 u2
          rw [if_pos hx0]
          rw [hcn s (by omega)] at u3
          rcases hy with ⟨s2, w1, w2, w3, w4⟩ | ⟨w1, -⟩
          · have : s = s2 := cnt_inj (P := pE e) (by rw [← hpe s u1]; unfold pE; simp [u2]) (by unfold pE; simp [w2]) (nI_inj (hcl s (by omega)) (hcl s2 (by omega)) (u3.symm.trans w3))
            subst this
            rw [w4, Option.bind_some]
            unfold f_X4_basin_j38
            rw [if_pos (nI_ge0 (by omega)), y_basinLoop hst2 hpw, Option.bind_some, hme, hmt]
            dsimp only
            -- the ring of the end
            obtain ⟨m, k, hm, hk, em, ek, hE, hT⟩ := (hk4 s u1).1 hbs
            have ems : m = s := nI_inj (by omega) (by omega) (em.symm.trans u2)
            subst ems
            obtain ⟨L, hL⟩ := isLen_ex hE.1
            by_cases hz : x3 = 0
            · rw [if_pos hz, if_pos hz, x_howManyComeTo hst1 hpw, Option.bind_some]
              refine ⟨_, σ', _, rfl, ?_, hRel⟩
              congr 3
              refine cnt_congr (fun s hs => ?_)
              have := (pE_eq hpw hk4 hm2 hs m u1).1
              simp only [this]
            · rw [if_neg hz, if_neg hz]
              by_cases ho : x3 = 1
              · rw [if_pos ho, if_pos ho, x_ringLength hst1 hpw, Option.bind_some]
                have hrc := ring_cnt (Bp := fun s => nI s &&& ghd σ = gnw σ &&& ghd σ) hpw hFl hBc (e := gen σ') (t := gta σ') (fun s hs hb => (hk4 s hs).1 hb) (fun s hs hb => (hk4 s hs).2 hb) u1 hbs hE hL
                rw [hrc, y_ringOf (μ := yz (ybe μ b) e t) (Bp := fun s => nI s &&& ghd σ = gnw σ &&& ghd σ) hpw hFl hBc (fun s hs hb => ((m2 s hs).1 hb).1) u1 hbs hL, Option.bind_some]
                exact ⟨_, σ', _, rfl, rfl, hRel⟩
              · rw [if_neg ho, if_neg ho, x_greatestTail hst1 hpw, Option.bind_some]
                refine ⟨_, σ', _, rfl, ?_, hRel⟩
                congr 2
                symm
                refine mxT_congr (fun s hs => ?_)
                have h5 := pE_eq hpw hk4 hm2 hs m u1
                exact ⟨h5.1, fun z => (two_eq ((hk4 s hs).1 (h5.2 z)) ((hm2 s hs).1 (h5.2 z))).2⟩
          · exact absurd u3 (w1 s u1 u2')
        · rw [u2, Option.bind_some, if_pos rfl]
          by_cases hx0 : (0 : Int32) ≤ x2
          · rw [if_pos hx0]
            rcases hy with ⟨s2, w1, w2, w3, -⟩ | ⟨-, w2⟩
            · rw [← hcn s2 (by omega)] at w3
              exact absurd w3 (u1 s2 w1 ((pE_eq hpw hk4 hm2 w1 s2 w1).1.mpr w2))
            · have hm : ¬ x2 = -1 := fun z => by rw [z] at hx0; exact absurd hx0 (by decide)
              rw [w2, if_neg hm, Option.bind_some, none6]
              exact ⟨_, σ', _, rfl, rfl, hRel⟩
          · rw [if_neg hx0, none6]
            exact ⟨_, σ', _, rfl, rfl, hRel⟩
  · rw [g1, g2]
    exact ⟨_, σ, μ, rfl, rfl, h⟩
theorem q_goes (σ : GS) (μ : MS) (h : Rel σ μ) (x1 x2 : Int32) : ∃ r σ1 μ1, f_X3_goes σ x1 x2 = some (r, σ1) ∧ f_X4_goes μ x1 x2 = some (r, μ1) ∧ Rel σ1 μ1 := by
  obtain ⟨N, hR⟩ := id h
  obtain ⟨a1, a2, a3, a4⟩ := hR.pl
  have hpw := pw10 a4
  unfold f_X3_goes f_X4_goes
  rcases rule_cases x1 with ⟨r, hr, e1, g1, g2⟩ | ⟨g1, g2⟩
  · rw [g1, g2, Option.bind_some, Option.bind_some, if_neg one_ne, if_neg one_ne, y_in, Option.bind_some]
    by_cases h1 : x2 < 0
    · rw [if_pos h1, if_pos h1, if_pos rfl]
      exact ⟨_, σ, μ, rfl, rfl, h⟩
    · rw [if_neg h1, if_neg h1]
      by_cases h2 : 3 < x2
      · rw [if_pos h2, if_pos rfl, if_neg (lt_nle h2)]
        exact ⟨_, σ, μ, rfl, rfl, h⟩
      · rw [if_neg h2, if_neg one_ne, if_pos (nlt_le h2)]
        subst e1
        obtain ⟨s0, hs0, es0⟩ := hR.1.2.2.2.2.2
        obtain ⟨σ', k1, k2, k3, k4⟩ := surv hR hr
        obtain ⟨b, m1, m2⟩ := y_layBehind hR.met hr
        rw [hR.2.1.2.2.1, hR.2.1.2.2.2.1, hR.2.1.2.2.2.2.1, hR.2.1.2.2.2.2.2, hR.2.1.2.1] at m2
        rw [k1, m1, Option.bind_some, Option.bind_some]
        have hst1 : f_X1_states σ' = some (nI (2 ^ N)) := x_states k2.pl.1 a4
        have hst2 : f_X4_states (ybe μ b) = some (nI (2 ^ N)) := y_states a2 a4
        have hFl := FF_lt a4 (gwe σ) (gpa σ) (gbr σ) r (ghd σ) (gnw σ &&& ghd σ)
        have hBc : ∀ s, s < 2 ^ N → nI s &&& ghd σ = gnw σ &&& ghd σ → nI (FF N (gwe σ) (gpa σ) (gbr σ) r (ghd σ) (gnw σ &&& ghd σ) s) &&& ghd σ = gnw σ &&& ghd σ := fun s hs hb => FF_bg a4 _ _ _ _ _ _ hs hb
        have hmb : ∀ s, s < 2 ^ N → nI s &&& ghd σ = gnw σ &&& ghd σ → mbe (ybe μ b) s = nI (FF N (gwe σ) (gpa σ) (gbr σ) r (ghd σ) (gnw σ &&& ghd σ) s) := fun s hs hb => by
          show b s = _
          rw [m2 s hs, if_pos hb]
          unfold FF
          rw [if_pos hb]
        generalize hF : FF N (gwe σ) (gpa σ) (gbr σ) r (ghd σ) (gnw σ &&& ghd σ) = F at hFl hBc hmb
        have hk4 : ∀ s, s < 2 ^ N → (nI s &&& ghd σ = gnw σ &&& ghd σ → dn (2 ^ N) F (gen σ') (gta σ') s) ∧ (¬ nI s &&& ghd σ = gnw σ &&& ghd σ → gen σ' s = -1) := fun s hs => by rw [← hF]; exact (k4 s hs).2
        have hgb : ∀ s, s < 2 ^ N → gbe σ' s = nI (F s) := fun s hs => by rw [← hF]; exact (k4 s hs).1
        have hb0 : nI s0 &&& ghd σ = gnw σ &&& ghd σ := by rw [es0]
        obtain ⟨m, k, hm, hk, em, ek, hE, hT⟩ := (hk4 s0 hs0).1 hb0
        have en1 : gnw σ' = nI s0 := k3.2.2.2.1.trans es0
        have en2 : mnw (ybe μ b) = nI s0 := hR.2.1.2.2.2.1.trans es0
        have hRel : Rel σ' (ybe μ b) := ⟨N, k2.1, k2.2.1, k2.2.2⟩
        have hon := onR_at hFl hs0
        obtain ⟨L, hL⟩ := isLen_ex hon
        have hlr := fit_lt hFl hs0 (2 ^ N)
        have hbr := fit_B (Bp := fun s => nI s &&& ghd σ = gnw σ &&& ghd σ) hBc hFl hs0 hb0 (2 ^ N)
        rw [en1, en2, y_inRing (Bp := fun s => nI s &&& ghd σ = gnw σ &&& ghd σ) hst2 hpw hFl hBc hmb hs0 hb0, Option.bind_some, y_goesLoop (Bp := fun s => nI s &&& ghd σ = gnw σ &&& ghd σ) hpw hFl hBc hmb hs0 hb0 hk hT, Option.bind_some, gd_nI (by omega) (by decide), gd_nI (by omega) (by decide), gd_nI (by omega) (by decide), nI_clamp (by omega), em, ek]
        dsimp only
        by_cases z0 : x2 = 0
        · rw [if_pos z0, if_pos z0]
          exact ⟨_, σ', _, rfl, rfl, hRel⟩
        · rw [if_neg z0, if_neg z0]
          by_cases z1 : x2 = 1
          · rw [if_pos z1, if_pos z1, x_ringLength hst1 hpw, Option.bind_some, y_ringOf (Bp := fun s => nI s &&& ghd σ = gnw σ &&& ghd σ) hpw hFl hBc hmb hlr hbr hL, Option.bind_some]
            -- the end lies on the same ring
            have hEr := isEnd_fit hE (2 ^ N)
            obtain ⟨j, hj⟩ := hEr.2.1
            have hLm : isLen F m L := by rw [← hj]; exact isLen_fit hL j
            have hbm : nI m &&& ghd σ = gnw σ &&& ghd σ := by
              rw [← hj]
              exact fit_B (Bp := fun s => nI s &&& ghd σ = gnw σ &&& ghd σ) hBc hFl hlr hbr j
            have hEm : isEnd F m m := by
              have := isEnd_fit hEr j
              rw [hj] at this
              exact this
            have hrc := ring_cnt (Bp := fun s => nI s &&& ghd σ = gnw σ &&& ghd σ) hpw hFl hBc (e := gen σ') (t := gta σ') (fun s hs hb => (hk4 s hs).1 hb) (fun s hs hb => (hk4 s hs).2 hb) hm hbm hEm hLm
            rw [hrc]
            exact ⟨_, σ', _, rfl, rfl, hRel⟩
          · rw [if_neg z1, if_neg z1]
            by_cases z2 : x2 = 2
            · rw [if_pos z2, if_pos z2, y_leastOf (Bp := fun s => nI s &&& ghd σ = gnw σ &&& ghd σ) hpw hFl hBc hmb hlr hbr hL, Option.bind_some]
              have : lst F (fit F (2 ^ N) s0) (L - 1) = m := isEnd_uq (lst_end hL) (isEnd_fit hE (2 ^ N))
              rw [this]
              exact ⟨_, σ', _, rfl, rfl, hRel⟩
            · rw [if_neg z2, if_neg z2, x_firstOfRing hpw hFl hgb hs0 hk ek, Option.bind_some]
              exact ⟨_, σ', _, rfl, rfl, hRel⟩
  · rw [g1, g2]
    exact ⟨_, σ, μ, rfl, rfl, h⟩
