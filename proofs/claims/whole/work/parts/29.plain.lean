/-! the plain calls -/
theorem one_ne : ¬ (1 : Int32) = 0 := by decide
theorem nlt_le {a b : Int32} (h : ¬ b < a) : a ≤ b := by rw [fa_le]; rw [fa_lt] at h; omega
theorem lt_nle {a b : Int32} (h : b < a) : ¬ a ≤ b := by rw [fa_le]; rw [fa_lt] at h; omega
def clr (f : Nat → Int32) (c : Int32) (j : Nat) : Nat → Int32 := fun k => if k < j then c else f k
theorem clr_0 (f : Nat → Int32) (c : Int32) : clr f c 0 = f := by funext k; unfold clr; rw [if_neg (by omega)]
theorem clr_s (f : Nat → Int32) (c : Int32) (j : Nat) : upd (clr f c j) j c = clr f c (j + 1) := by
  funext k
  unfold upd clr
  by_cases h : k = j
  · subst h; rw [if_pos rfl, if_pos (by omega)]
  · rw [if_neg h]
    by_cases hl : k < j
    · rw [if_pos hl, if_pos (by omega)]
    · rw [if_neg hl, if_neg (by omega)]
theorem nge {j n : Nat} (h : j < n) (hn : n < 2 ^ 31) : ¬ (OfNat.ofNat n : Int32) ≤ nI j := nI_ge h hn
theorem x_beginAnew (σ : GS) (x : Int32) : f_X1_beginAnew σ x = some (zal (zwe (gspl σ x) (clr (gwe σ) 0 100)) (clr (gal σ) 0 10)) := by
  unfold f_X1_beginAnew
  refine itr_bind (itr_run (fun j => (nI j, zwe (gspl σ x) (clr (gwe σ) 0 j))) 100 (x := zwe (gspl σ x) (clr (gwe σ) 0 100)) ?_ (by decide) (fun j hj => ?_) ?_) ?_
  · rw [clr_0]; rfl
  · unfold f_X1_beginAnew_b7
    dsimp only
    rw [if_neg (show ¬ (100 : Int32) ≤ nI j from nI_ge (b := 100) hj (by decide)), gd_nI hj (by decide), nI_p1]
    have e : gtwe (zwe (gspl σ x) (clr (gwe σ) 0 j)) (nI j) 0 = zwe (gspl σ x) (upd (clr (gwe σ) 0 j) (nI j).toNatClampNeg 0) := rfl
    rw [e, nI_clamp (by omega), clr_s]
  · rfl
  · refine itr_bind (itr_run (fun j => (nI j, zal (zwe (gspl σ x) (clr (gwe σ) 0 100)) (clr (gal σ) 0 j))) 10 ?_ (by decide) (fun j hj => ?_) ?_) rfl
    · rw [clr_0]; rfl
    · unfold f_X1_beginAnew_b31
      dsimp only
      rw [if_neg (show ¬ (10 : Int32) ≤ nI j from nI_ge (b := 10) hj (by decide)), gd_nI hj (by decide), nI_p1]
      have e : gtal (zal (zwe (gspl σ x) (clr (gwe σ) 0 100)) (clr (gal σ) 0 j)) (nI j) 0 = zal (zwe (gspl σ x) (clr (gwe σ) 0 100)) (upd (clr (gal σ) 0 j) (nI j).toNatClampNeg 0) := rfl
      rw [e, nI_clamp (by omega), clr_s]
    · rfl
theorem isum_0 {f : Nat → Int32} : ∀ {n : Nat}, (∀ j, j < n → f j = 0) → isum f n = 0 := by
  intro n
  induction n with
  | zero => intro _; rfl
  | succ n ih => intro h; simp only [isum]; rw [ih (fun j hj => h j (by omega)), h n (by omega)]; rfl
theorem q_players (σ : GS) (μ : MS) (h : Rel σ μ) (x1 : Int32) : ∃ r σ1 μ1, f_X3_players σ x1 = some (r, σ1) ∧ f_X4_players μ x1 = some (r, μ1) ∧ Rel σ1 μ1 := by
  obtain ⟨N, hB, hp, hw, hs⟩ := id h
  unfold f_X3_players f_X4_players
  rw [y_in, Option.bind_some]
  by_cases h1 : x1 < 2
  · rw [if_pos h1, if_pos h1, if_pos rfl]
    exact ⟨_, σ, μ, rfl, rfl, h⟩
  · rw [if_neg h1, if_neg h1]
    by_cases h2 : 10 < x1
    · rw [if_pos h2, if_pos rfl, if_neg (lt_nle h2)]
      exact ⟨_, σ, μ, rfl, rfl, h⟩
    · rw [if_neg h2, if_neg one_ne, if_pos (nlt_le h2)]
      have h0 : ¬ x1 < 0 := by rw [fa_lt] at *; have e1 : (2 : Int32).toInt = 2 := rfl; have e2 : (0 : Int32).toInt = 0 := rfl; omega
      obtain ⟨n, hn, e⟩ := rng (n := 10) rfl (by decide) h0 h2
      have hn2 : 2 ≤ n := by
        subst e
        rcases Nat.lt_or_ge n 2 with h | h
        · exact absurd (nI_lt (b := 2) h (by decide)) h1
        · exact h
      rw [x_beginAnew, Option.bind_some]
      generalize hσ1 : gsnw (gshd (zal (zwe (gspl σ x1) (clr (gwe σ) 0 100)) (clr (gal σ) 0 10)) 0) 0 = σ1
      -- the reference's loop
      have L2 : itr f_X4_players_b35 FU ((0 : Int32), msnw (mshd (mspl μ x1) 0) 0) = some (ywe (msnw (mshd (mspl μ x1) 0) 0) (clr (mwe μ) 0 100)) := by
        refine itr_run (fun j => (nI j, ywe (msnw (mshd (mspl μ x1) 0) 0) (clr (mwe μ) 0 j))) 100 ?_ (by decide) (fun j hj => ?_) ?_
        · rw [clr_0]; rfl
        · unfold f_X4_players_b35
          dsimp only
          rw [if_neg (show ¬ (100 : Int32) ≤ nI j from nI_ge (b := 100) hj (by decide)), gd_nI hj (by decide), nI_p1]
          have e : mtwe (ywe (msnw (mshd (mspl μ x1) 0) 0) (clr (mwe μ) 0 j)) (nI j) 0 = ywe (msnw (mshd (mspl μ x1) 0) 0) (upd (clr (mwe μ) 0 j) (nI j).toNatClampNeg 0) := rfl
          rw [e, nI_clamp (by omega), clr_s]
        · rfl
      rw [L2, Option.bind_some]
      have we0 : ∀ k, k < 100 → clr (gwe σ) 0 100 k = 0 := fun k hk => by unfold clr; rw [if_pos hk]
      have hB1 : Base n σ1 := by
        subst hσ1
        refine ⟨⟨e, hn2, hn, fun k hk => ⟨0, by omega, we0 k hk⟩, fun p hp => ?_⟩, fun a b ha hb => ?_, fun a b ha hb _ => we0 _ (by omega), hB.2.2.2.1, ⟨0, Nat.two_pow_pos n, rfl⟩, ⟨0, Nat.two_pow_pos n, rfl⟩⟩
        · show clr (gal σ) 0 10 p = isum (fun j => clr (gwe σ) 0 100 (10 * p + j)) n
          rw [isum_0 (fun j hj => we0 _ (by omega))]
          unfold clr; rw [if_pos hp]
        · show clr (gwe σ) 0 100 _ = clr (gwe σ) 0 100 _
          rw [we0 _ (by omega), we0 _ (by omega)]
      obtain ⟨σ2, g1, g2⟩ := forget_rel (N := n) (σ := σ1) (μ := ywe (msnw (mshd (mspl μ x1) 0) 0) (clr (mwe μ) 0 100)) hB1 (by
        obtain ⟨p1, p2, p3, p4, p5, p6⟩ := hp
        subst hσ1
        refine ⟨rfl, p2, rfl, rfl, ?_, p6⟩
        show clr (mwe μ) 0 100 = clr (gwe σ) 0 100
        rw [p5])
      rw [g1, Option.bind_some]
      exact ⟨gpl σ, σ2, _, rfl, by rw [hp.1], n, g2⟩
theorem join_cases {σ : GS} {μ : MS} {N : Nat} (h1 : gpl σ = nI N) (h2 : mpl μ = nI N) (hN : 2 ≤ N ∧ N ≤ 10) (x y : Int32) : (∃ a b, a < N ∧ b < N ∧ a ≠ b ∧ x = nI a ∧ y = nI b ∧ f_X1_mayJoin σ x y = some 1 ∧ f_X4_arePair μ x y = some 1) ∨ (f_X1_mayJoin σ x y = some 0 ∧ f_X4_arePair μ x y = some 0) := by
  unfold f_X1_mayJoin f_X4_arePair
  rcases player_cases h1 h2 hN x with ⟨a, ha, e1, g1, g2⟩ | ⟨g1, g2⟩
  · rw [g1, g2, Option.bind_some, Option.bind_some, if_neg one_ne, if_neg one_ne]
    rcases player_cases h1 h2 hN y with ⟨b, hb, e2, g3, g4⟩ | ⟨g3, g4⟩
    · rw [g3, g4, Option.bind_some, if_neg one_ne]
      by_cases hab : a = b
      · have : x = y := by rw [e1, e2, hab]
        rw [if_pos this]
        exact Or.inr ⟨rfl, rfl⟩
      · have : ¬ x = y := by rw [e1, e2]; exact fun z => hab (nI_inj (by omega) (by omega) z)
        rw [if_neg this]
        exact Or.inl ⟨a, b, ha, hb, hab, e1, e2, rfl, rfl⟩
    · rw [g3, g4]
      exact Or.inr ⟨rfl, rfl⟩
  · rw [g1, g2]
    exact Or.inr ⟨rfl, rfl⟩
theorem RelN.pl {N : Nat} {σ : GS} {μ : MS} (h : RelN N σ μ) : gpl σ = nI N ∧ mpl μ = nI N ∧ 2 ≤ N ∧ N ≤ 10 := ⟨h.1.1.1, h.2.1.1.trans h.1.1.1, h.1.1.2.1, h.1.1.2.2.1⟩
theorem q_weight (σ : GS) (μ : MS) (h : Rel σ μ) (x1 x2 : Int32) : ∃ r, f_X3_weight σ x1 x2 = some r ∧ f_X4_weight μ x1 x2 = some r := by
  obtain ⟨N, h⟩ := h
  obtain ⟨a1, a2, a3⟩ := h.pl
  unfold f_X3_weight f_X4_weight
  rcases join_cases a1 a2 a3 x1 x2 with ⟨a, b, ha, hb, hab, e1, e2, g1, g2⟩ | ⟨g1, g2⟩
  · rw [g1, g2, Option.bind_some, Option.bind_some, if_neg one_ne, if_neg one_ne]
    subst e1; subst e2
    rw [x_weightOf σ (by omega) (by omega), ix10', gd_nI (by omega) (by decide), nI_clamp (by omega), h.2.1.2.2.2.2.1]
    exact ⟨_, rfl, rfl⟩
  · rw [g1, g2]
    exact ⟨_, rfl, rfl⟩
theorem isum_one {f g : Nat → Int32} {n j : Nat} (hj : j < n) (h : ∀ i, i < n → i ≠ j → f i = g i) : isum f n = isum g n + (f j - g j) := by
  induction n with
  | zero => omega
  | succ n ih =>
    simp only [isum]
    by_cases hjn : j = n
    · subst hjn
      rw [isum_congr (fun i hi => h i (by omega) (by omega))]
      grind
    · rw [ih (by omega) (fun i hi => h i (by omega)), h n (by omega) (fun z => hjn z.symm)]
      grind
theorem q_line (σ : GS) (μ : MS) (h : Rel σ μ) (x1 x2 x3 : Int32) : ∃ r σ1 μ1, f_X3_line σ x1 x2 x3 = some (r, σ1) ∧ f_X4_line μ x1 x2 x3 = some (r, μ1) ∧ Rel σ1 μ1 := by
  obtain ⟨N, hR⟩ := id h
  obtain ⟨a1, a2, a3⟩ := hR.pl
  obtain ⟨hB, hp, hw, hs⟩ := id hR
  unfold f_X3_line f_X4_line
  rcases join_cases a1 a2 a3 x1 x2 with ⟨a, b, ha, hb, hab, e1, e2, g1, g2⟩ | ⟨g1, g2⟩
  · rw [g1, g2, Option.bind_some, Option.bind_some, if_neg one_ne, if_neg one_ne, y_in, Option.bind_some]
    by_cases h1 : x3 < 0
    · rw [if_pos h1, if_pos h1, if_pos rfl]
      exact ⟨_, σ, μ, rfl, rfl, h⟩
    · rw [if_neg h1, if_neg h1]
      by_cases h2 : 9 < x3
      · rw [if_pos h2, if_pos rfl, if_neg (lt_nle h2)]
        exact ⟨_, σ, μ, rfl, rfl, h⟩
      · rw [if_neg h2, if_neg one_ne, if_pos (nlt_le h2)]
        obtain ⟨w, hwn, e3⟩ := rng (n := 9) rfl (by decide) h1 h2
        subst e1; subst e2
        obtain ⟨p1, p2, p3, p4, p5, p6⟩ := id hp
        rw [x_weightOf σ (by omega) (by omega), Option.bind_some]
        unfold f_X1_setWeight
        rw [x_weightOf σ (by omega) (by omega), Option.bind_some, ix10, ix10, ix10', ix10']
        rw [gd_nI (by omega) (by decide), gd_nI (by omega) (by decide), gd_nI (by omega) (by decide), gd_nI (by omega) (by decide), gd_nI (by omega) (by decide), gd_nI (by omega) (by decide), gd_nI (by omega) (by decide), gd_nI (by omega) (by decide), gd_nI (by omega) (by decide), Option.bind_some]
        simp only [nI_clamp (show a < 2 ^ 31 by omega), nI_clamp (show b < 2 ^ 31 by omega), nI_clamp (show 10 * a + b < 2 ^ 31 by omega)]
        generalize hd : x3 - gwe σ (10 * a + b) = d
        have e5 : gal (gtal σ (nI a) (gal σ a + d)) b = gal σ b := by
          show upd (gal σ) (nI a).toNatClampNeg (gal σ a + d) b = gal σ b
          rw [nI_clamp (by omega)]
          unfold upd; rw [if_neg (fun z => hab z.symm)]
        rw [e5]
        generalize hσ1 : gtwe (gtwe (gtal (gtal σ (nI a) (gal σ a + d)) (nI b) (gal σ b + d)) (nI (10 * a + b)) x3) (nI (10 * b + a)) x3 = σ1
        have ew : gwe σ1 = upd (upd (gwe σ) (10 * a + b) x3) (10 * b + a) x3 := by
          subst hσ1
          show upd (upd (gwe σ) (nI (10 * a + b)).toNatClampNeg x3) (nI (10 * b + a)).toNatClampNeg x3 = _
          rw [nI_clamp (by omega), nI_clamp (by omega)]
        have ea : gal σ1 = upd (upd (gal σ) a (gal σ a + d)) b (gal σ b + d) := by
          subst hσ1
          show upd (upd (gal σ) (nI a).toNatClampNeg (gal σ a + d)) (nI b).toNatClampNeg (gal σ b + d) = _
          rw [nI_clamp (by omega), nI_clamp (by omega)]
        have ev : ∀ k, gwe σ1 k = if k = 10 * b + a then x3 else if k = 10 * a + b then x3 else gwe σ k := fun k => by rw [ew]; rfl
        have hB1 : Base N σ1 := by
          obtain ⟨⟨b1, b2, b3, b4, b5⟩, c1, c2, c3, c4, c5⟩ := id hB
          have f1 : gpl σ1 = nI N := by subst hσ1; exact b1
          have f2 : gpa σ1 = gpa σ := by subst hσ1; rfl
          have f3 : ghd σ1 = ghd σ := by subst hσ1; rfl
          have f4 : gnw σ1 = gnw σ := by subst hσ1; rfl
          refine ⟨⟨f1, b2, b3, fun k hk => ?_, fun p hp => ?_⟩, fun i j hi hj => ?_, fun i j hi hj hz => ?_, by rw [f2]; exact c3, by rw [f3]; exact c4, by rw [f4]; exact c5⟩
          · rw [ev]
            split
            · exact ⟨w, hwn, e3⟩
            · split
              · exact ⟨w, hwn, e3⟩
              · exact b4 k hk
          · rw [ea]
            unfold al
            have old := b5 p hp
            unfold al at old
            by_cases hpb : p = b
            · subst hpb
              have : isum (fun j => gwe σ1 (10 * p + j)) N = isum (fun j => gwe σ (10 * p + j)) N + (gwe σ1 (10 * p + a) - gwe σ (10 * p + a)) := isum_one (f := fun j => gwe σ1 (10 * p + j)) (g := fun j => gwe σ (10 * p + j)) ha (fun i hiN hi => by
                rw [ev, if_neg (by omega), if_neg (by omega)])
              rw [this, ← old, ev, if_pos rfl, ← c1 a p (by omega) (by omega), hd]
              simp [upd]
            · by_cases hpa : p = a
              · subst hpa
                have : isum (fun j => gwe σ1 (10 * p + j)) N = isum (fun j => gwe σ (10 * p + j)) N + (gwe σ1 (10 * p + b) - gwe σ (10 * p + b)) := isum_one (f := fun j => gwe σ1 (10 * p + j)) (g := fun j => gwe σ (10 * p + j)) hb (fun i hiN hi => by
                  rw [ev, if_neg (by omega), if_neg (by omega)])
                rw [this, ← old, ev, if_neg (by omega), if_pos rfl, hd]
                simp [upd, hpb]
              · have : isum (fun j => gwe σ1 (10 * p + j)) N = isum (fun j => gwe σ (10 * p + j)) N := isum_congr (fun i hi => by
                  rw [ev, if_neg (by omega), if_neg (by omega)])
                rw [this, ← old]
                simp [upd, hpb, hpa]
          · rw [ev, ev]
            by_cases z1 : 10 * i + j = 10 * b + a
            · have q1 : i = b := by omega
              have q2 : j = a := by omega
              subst q1; subst q2
              rw [if_pos rfl, if_neg (by omega), if_pos rfl]
            · by_cases z2 : 10 * i + j = 10 * a + b
              · have q1 : i = a := by omega
                have q2 : j = b := by omega
                subst q1; subst q2
                rw [if_neg z1, if_pos rfl, if_pos rfl]
              · rw [if_neg z1, if_neg z2, if_neg (by omega), if_neg (by omega)]
                exact c1 i j hi hj
          · rw [ev, if_neg (by omega), if_neg (by omega)]
            exact c2 i j hi hj hz
        obtain ⟨σ2, k1, k2⟩ := forget_rel (N := N) (σ := σ1) (μ := mtwe (mtwe μ (nI (10 * a + b)) x3) (nI (10 * b + a)) x3) hB1 (by
          refine ⟨by subst hσ1; exact p1, by subst hσ1; exact p2, by subst hσ1; exact p3, by subst hσ1; exact p4, ?_, by subst hσ1; exact p6⟩
          rw [ew, ← p5]
          show upd (upd (mwe μ) (nI (10 * a + b)).toNatClampNeg x3) (nI (10 * b + a)).toNatClampNeg x3 = _
          rw [nI_clamp (by omega), nI_clamp (by omega)])
        rw [k1, Option.bind_some]
        exact ⟨_, σ2, _, rfl, by rw [p5], N, k2⟩
  · rw [g1, g2]
    exact ⟨_, σ, μ, rfl, rfl, h⟩
