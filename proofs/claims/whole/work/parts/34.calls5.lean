/-! rise, highest, told, share, hangs -/
/-- a sum from a on, added to what was there -/
def fsum (f : Nat → Int32) (a : Nat) (c : Int32) : Nat → Int32
  | 0 => c
  | n + 1 => fsum f a c n + f (a + n)
theorem fsum_congr {f g : Nat → Int32} {a : Nat} {c : Int32} : ∀ {n : Nat}, (∀ j, j < n → f (a + j) = g (a + j)) → fsum f a c n = fsum g a c n := by
  intro n
  induction n with
  | zero => intro _; rfl
  | succ n ih => intro h; unfold fsum; rw [ih (fun j hj => h j (by omega)), h n (by omega)]
/-- what two players on a line add -/
def rz (pa : Nat → Int32) (s : Int32) (a b : Nat) : Int32 := if bt s a = bt s b then (if bt s a then pa 3 - pa 1 else pa 0 - pa 2) else 0
def rsA (N : Nat) (we pa : Nat → Int32) (s : Int32) : Nat → Int32
  | 0 => 0
  | a + 1 => fsum (fun b => we (10 * a + b) * rz pa s a b) (a + 1) (rsA N we pa s a) (N - (a + 1))
theorem pay00 (σ : GS) : f_X1_gainOfZero σ = some (gpa σ 0 - gpa σ 2) := rfl
theorem pay11 (σ : GS) : f_X1_gainOfOne σ = some (gpa σ 3 - gpa σ 1) := rfl
theorem x_riseOf {σ : GS} {N : Nat} (h : NetOK N σ) (s : Int32) : f_X1_riseOf σ s = some (rsA N (gwe σ) (gpa σ) s N) := by
  obtain ⟨hN, h2, h10, hw, hal⟩ := h
  unfold f_X1_riseOf
  refine itr_bind (itr_run (fun i => (rsA N (gwe σ) (gpa σ) s i, nI i)) N rfl (by omega) (fun a ha => ?_) ?_) rfl
  · unfold f_X1_riseOf_b4
    dsimp only
    rw [hN, if_neg (nI_ge ha (by omega)), x_bitOf, Option.bind_some, pay11, pay00, Option.bind_some, Option.bind_some, bI_bt s (by omega)]
    have key : ∀ (v g : Int32), (v = if bt s a then 1 else 0) → (∀ b, b < N → (bI s b = v → g = rz (gpa σ) s a b) ∧ (bI s b ≠ v → rz (gpa σ) s a b = 0)) → f_X1_riseOf_j36 σ s (rsA N (gwe σ) (gpa σ) s a) (nI a) v g = some (.inl (rsA N (gwe σ) (gpa σ) s (a + 1), nI (a + 1))) := by
      intro v g hv hg
      unfold f_X1_riseOf_j36
      rw [nI_p1]
      refine itr_bind (itr_run (fun i => (fsum (fun b => gwe σ (10 * a + b) * rz (gpa σ) s a b) (a + 1) (rsA N (gwe σ) (gpa σ) s a) i, nI (a + 1 + i))) (N - (a + 1)) (x := rsA N (gwe σ) (gpa σ) s (a + 1)) rfl (by omega) (fun i hi => ?_) ?_) rfl
      · unfold f_X1_riseOf_b43
        dsimp only
        rw [hN, if_neg (nI_ge (by omega) (by omega)), x_bitOf, Option.bind_some, x_weightOf σ (by omega) (by omega), Option.bind_some, nI_p1]
        obtain ⟨q1, q2⟩ := hg (a + 1 + i) (by omega)
        have e : fsum (fun b => gwe σ (10 * a + b) * rz (gpa σ) s a b) (a + 1) (rsA N (gwe σ) (gpa σ) s a) (i + 1) = fsum (fun b => gwe σ (10 * a + b) * rz (gpa σ) s a b) (a + 1) (rsA N (gwe σ) (gpa σ) s a) i + gwe σ (10 * a + (a + 1 + i)) * rz (gpa σ) s a (a + 1 + i) := rfl
        rw [e]
        by_cases hb : bI s (a + 1 + i) = v
        · rw [if_pos hb, q1 hb]; rfl
        · rw [if_neg hb, q2 hb]; simp; rfl
      · unfold f_X1_riseOf_b43
        dsimp only
        rw [hN, if_pos (nI_le (by omega) (by omega))]
        rfl
    cases hb : bt s a
    · rw [if_neg (by decide)]
      refine key _ _ (by rw [hb]) (fun b hbN => ?_)
      unfold rz
      rw [hb, bI_bt s (by omega)]
      cases hb2 : bt s b <;> simp
    · rw [if_pos (by rfl)]
      refine key _ _ (by rw [hb]) (fun b hbN => ?_)
      unfold rz
      rw [hb, bI_bt s (by omega)]
      cases hb2 : bt s b <;> simp
  · unfold f_X1_riseOf_b4
    dsimp only
    rw [hN, if_pos (nI_le (Nat.le_refl _) (by omega))]
theorem y_riseOf {μ : MS} {N : Nat} (h : MetOK N μ) (s : Int32) : f_X4_riseOf μ s = some (rsA N (mwe μ) (mpa μ) s N) := by
  obtain ⟨hN, h2, h10, hw⟩ := h
  unfold f_X4_riseOf
  refine itr_bind (itr_run (fun i => (rsA N (mwe μ) (mpa μ) s i, nI i)) N rfl (by omega) (fun a ha => ?_) ?_) rfl
  · unfold f_X4_riseOf_b4
    dsimp only
    rw [hN, if_neg (nI_ge ha (by omega)), nI_p1]
    refine itr_bind (itr_run (fun i => (fsum (fun b => mwe μ (10 * a + b) * rz (mpa μ) s a b) (a + 1) (rsA N (mwe μ) (mpa μ) s a) i, nI (a + 1 + i))) (N - (a + 1)) (x := rsA N (mwe μ) (mpa μ) s (a + 1)) rfl (by omega) (fun i hi => ?_) ?_) rfl
    · unfold f_X4_riseOf_b17
      dsimp only
      have e1 : (s >>> (nI a &&& 31)) &&& (1 : Int32) = if bt s a then 1 else 0 := bI_bt s (by omega)
      have e2 : (s >>> (nI (a + 1 + i) &&& 31)) &&& (1 : Int32) = if bt s (a + 1 + i) then 1 else 0 := bI_bt s (by omega)
      rw [hN, if_neg (nI_ge (by omega) (by omega)), ix10', gd_nI (by omega) (by decide), nI_clamp (by omega), e1, e2, nI_p1]
      have e : fsum (fun b => mwe μ (10 * a + b) * rz (mpa μ) s a b) (a + 1) (rsA N (mwe μ) (mpa μ) s a) (i + 1) = fsum (fun b => mwe μ (10 * a + b) * rz (mpa μ) s a b) (a + 1) (rsA N (mwe μ) (mpa μ) s a) i + mwe μ (10 * a + (a + 1 + i)) * rz (mpa μ) s a (a + 1 + i) := rfl
      rw [e]
      unfold rz
      cases bt s a <;> cases bt s (a + 1 + i)
      · rw [if_pos (by decide)]; rfl
      · rw [if_neg (by decide), if_neg (by decide)]; rfl
      · rw [if_neg (by decide), if_neg (by decide)]; rfl
      · rw [if_neg (by decide), if_pos (by decide)]; rfl
    · unfold f_X4_riseOf_b17
      dsimp only
      rw [hN, if_pos (nI_le (by omega) (by omega))]
      rfl
  · unfold f_X4_riseOf_b4
    dsimp only
    rw [hN, if_pos (nI_le (Nat.le_refl _) (by omega))]
def rsN (N : Nat) (σ : GS) (s : Nat) : Int32 := rsA N (gwe σ) (gpa σ) (nI s) N
theorem rise_both {N : Nat} {σ : GS} {μ : MS} (h : RelN N σ μ) (s : Nat) : f_X1_riseOf σ (nI s) = some (rsN N σ s) ∧ f_X4_riseOf μ (nI s) = some (rsN N σ s) := by
  refine ⟨x_riseOf h.1.1 _, ?_⟩
  rw [y_riseOf h.met, h.2.1.2.2.2.2.1, h.2.1.2.2.2.2.2]
  rfl
theorem q_rise (σ : GS) (μ : MS) (h : Rel σ μ) : ∃ r, f_X3_rise σ = some r ∧ f_X4_rise μ = some r := by
  obtain ⟨N, hR⟩ := id h
  obtain ⟨t, ht, et⟩ := hR.1.2.2.2.2.2
  have hmn : mnw μ = nI t := hR.2.1.2.2.2.1.trans et
  unfold f_X3_rise f_X4_rise
  rw [et, hmn, (rise_both hR t).1, (rise_both hR t).2]
  exact ⟨_, rfl, rfl⟩
theorem q_highest (σ : GS) (μ : MS) (h : Rel σ μ) : ∃ r, f_X3_highest σ = some r ∧ f_X4_highest μ = some r := by
  obtain ⟨N, hR⟩ := id h
  obtain ⟨a1, a2, a3, a4⟩ := hR.pl
  have hpw := pw10 a4
  obtain ⟨t, ht, et⟩ := hR.1.2.2.2.2.2
  have hmh : mhd μ = ghd σ := hR.2.1.2.2.1
  have hmn : mnw μ = gnw σ := hR.2.1.2.2.2.1
  have hr := fun s => (rise_both hR s).1
  have hr2 := fun s => (rise_both hR s).2
  generalize rsN N σ = R at hr hr2
  -- the least of the greatest
  let top : Nat → Prop := fun m => m < 2 ^ N ∧ (nI m &&& ghd σ = gnw σ &&& ghd σ) ∧ ∀ s, s < 2 ^ N → (nI s &&& ghd σ = gnw σ &&& ghd σ) → R s ≤ R m ∧ (R s = R m → m ≤ s)
  have uq : ∀ m m', top m → top m' → m = m' := by
    rintro m m' ⟨u1, u2, u3⟩ ⟨v1, v2, v3⟩
    obtain ⟨w1, w2⟩ := u3 m' v1 v2
    obtain ⟨w3, w4⟩ := v3 m u1 u2
    have : R m = R m' := by rw [fa_eq]; rw [fa_le] at w1 w3; omega
    have := w2 this.symm
    have := w4 ‹R m = R m'›
    omega
  have hbt : nI t &&& ghd σ = gnw σ &&& ghd σ := by rw [et]
  have L1 : ∃ v, itr (f_X3_highest_b19 σ) FU (gnw σ, R t, (0 : Int32)) = some v ∧ ∃ m, v = nI m ∧ top m := by
    refine itr_inv (fun j st => ∃ m, st = (nI m, R m, nI j) ∧ m < 2 ^ N ∧ (nI m &&& ghd σ = gnw σ &&& ghd σ) ∧ ∀ s, s < j → (nI s &&& ghd σ = gnw σ &&& ghd σ) → R s ≤ R m ∧ (R s = R m → m ≤ s)) _ (2 ^ N) (by omega) ⟨t, by rw [et]; rfl, ht, hbt, fun s hs => by omega⟩ ?_ ?_
    · rintro j st hj ⟨m, rfl, hm, hbm, hall⟩
      unfold f_X3_highest_b19
      dsimp only
      rw [x_states a1 a4, Option.bind_some, if_neg (nI_ge hj (by omega)), x_isBegG, Option.bind_some, nI_p1, hr j, Option.bind_some]
      by_cases hb : nI j &&& ghd σ = gnw σ &&& ghd σ
      · rw [if_pos hb, if_neg one_ne]
        by_cases hg : R m < R j
        · rw [if_pos hg]
          refine ⟨_, rfl, j, rfl, hj, hb, fun s hs hbs => ?_⟩
          by_cases hsj : s = j
          · subst hsj; exact ⟨by rw [fa_le]; omega, fun _ => Nat.le_refl s⟩
          · obtain ⟨w1, -⟩ := hall s (by omega) hbs
            rw [fa_le] at w1; rw [fa_lt] at hg
            exact ⟨by rw [fa_le]; omega, fun z => by rw [fa_eq] at z; omega⟩
        · rw [if_neg hg]
          by_cases he : R j = R m
          · rw [if_pos he]
            by_cases hle : m ≤ j
            · rw [if_pos (nI_le hle (by omega))]
              refine ⟨_, rfl, m, rfl, hm, hbm, fun s hs hbs => ?_⟩
              by_cases hsj : s = j
              · subst hsj; exact ⟨by rw [he, fa_le]; omega, fun _ => hle⟩
              · exact hall s (by omega) hbs
            · rw [if_neg (nI_ge (by omega) (by omega))]
              refine ⟨_, rfl, j, rfl, hj, hb, fun s hs hbs => ?_⟩
              by_cases hsj : s = j
              · subst hsj; exact ⟨by rw [fa_le]; omega, fun _ => Nat.le_refl s⟩
              · obtain ⟨w1, w2⟩ := hall s (by omega) hbs
                rw [he]
                exact ⟨w1, fun z => by have := w2 z; omega⟩
          · rw [if_neg he]
            refine ⟨_, rfl, m, rfl, hm, hbm, fun s hs hbs => ?_⟩
            by_cases hsj : s = j
            · subst hsj
              exact ⟨by rw [fa_le]; rw [fa_lt] at hg; omega, fun z => absurd z he⟩
            · exact hall s (by omega) hbs
      · rw [if_neg hb, if_pos rfl]
        refine ⟨_, rfl, m, rfl, hm, hbm, fun s hs hbs => ?_⟩
        by_cases hsj : s = j
        · subst hsj; exact absurd hbs hb
        · exact hall s (by omega) hbs
    · rintro st ⟨m, rfl, hm, hbm, hall⟩
      unfold f_X3_highest_b19
      dsimp only
      rw [x_states a1 a4, Option.bind_some, if_pos (nI_le (Nat.le_refl _) (by omega))]
      exact ⟨_, rfl, m, rfl, hm, hbm, hall⟩
  have L2 : ∃ v, itr (f_X4_highest_b5 μ) FU ((-6 : Int32), (0 : Int32)) = some v ∧ ∃ m, v = nI m ∧ top m := by
    refine itr_inv (fun j st => (st = (-6, nI j) ∧ ∀ s, s < j → ¬ nI s &&& ghd σ = gnw σ &&& ghd σ) ∨ ∃ m, st = (nI m, nI j) ∧ m < j ∧ (nI m &&& ghd σ = gnw σ &&& ghd σ) ∧ ∀ s, s < j → (nI s &&& ghd σ = gnw σ &&& ghd σ) → R s ≤ R m ∧ (R s = R m → m ≤ s)) _ (2 ^ N) (by omega) (Or.inl ⟨rfl, fun s hs => by omega⟩) ?_ ?_
    · rintro j st hj hst
      rcases hst with ⟨rfl, hno⟩ | ⟨m, rfl, hm, hbm, hall⟩
      · unfold f_X4_highest_b5
        dsimp only
        rw [y_states a2 a4, Option.bind_some, if_neg (nI_ge hj (by omega)), y_isBeg, Option.bind_some, nI_p1, hmh, hmn]
        by_cases hb : nI j &&& ghd σ = gnw σ &&& ghd σ
        · rw [if_pos hb, if_neg one_ne, if_pos (by decide)]
          refine ⟨_, rfl, Or.inr ⟨j, rfl, by omega, hb, fun s hs hbs => ?_⟩⟩
          by_cases hsj : s = j
          · subst hsj; exact ⟨by rw [fa_le]; omega, fun _ => Nat.le_refl s⟩
          · exact absurd hbs (hno s (by omega))
        · rw [if_neg hb, if_pos rfl]
          refine ⟨_, rfl, Or.inl ⟨rfl, fun s hs => ?_⟩⟩
          by_cases hsj : s = j
          · subst hsj; exact hb
          · exact hno s (by omega)
      · unfold f_X4_highest_b5
        dsimp only
        rw [y_states a2 a4, Option.bind_some, if_neg (nI_ge hj (by omega)), y_isBeg, Option.bind_some, nI_p1, hmh, hmn, hr2 j, hr2 m, Option.bind_some, Option.bind_some]
        by_cases hb : nI j &&& ghd σ = gnw σ &&& ghd σ
        · rw [if_pos hb, if_neg one_ne, if_neg (show ¬ nI m < 0 from nI_pos (by omega))]
          by_cases hle : R j ≤ R m
          · rw [if_pos hle]
            refine ⟨_, rfl, Or.inr ⟨m, rfl, by omega, hbm, fun s hs hbs => ?_⟩⟩
            by_cases hsj : s = j
            · subst hsj
              exact ⟨hle, fun _ => by omega⟩
            · exact hall s (by omega) hbs
          · rw [if_neg hle]
            refine ⟨_, rfl, Or.inr ⟨j, rfl, by omega, hb, fun s hs hbs => ?_⟩⟩
            by_cases hsj : s = j
            · subst hsj; exact ⟨by rw [fa_le]; omega, fun _ => Nat.le_refl s⟩
            · obtain ⟨w1, -⟩ := hall s (by omega) hbs
              rw [fa_le] at w1 hle
              exact ⟨by rw [fa_le]; omega, fun z => by rw [fa_eq] at z; omega⟩
        · rw [if_neg hb, if_pos rfl]
          refine ⟨_, rfl, Or.inr ⟨m, rfl, by omega, hbm, fun s hs hbs => ?_⟩⟩
          by_cases hsj : s = j
          · subst hsj; exact absurd hbs hb
          · exact hall s (by omega) hbs
    · rintro st hst
      rcases hst with ⟨rfl, hno⟩ | ⟨m, rfl, hm, hbm, hall⟩
      · exact absurd hbt (hno t ht)
      · unfold f_X4_highest_b5
        dsimp only
        rw [y_states a2 a4, Option.bind_some, if_pos (nI_le (Nat.le_refl _) (by omega))]
        exact ⟨_, rfl, m, rfl, hm, hbm, hall⟩
  obtain ⟨v, hv, m, rfl, hm⟩ := L1
  obtain ⟨v2, hv2, m2, rfl, hm2⟩ := L2
  have := uq m m2 hm hm2
  subst this
  unfold f_X3_highest f_X4_highest
  have e1 : f_X1_riseOf σ (gnw σ) = some (R t) := by rw [et]; exact hr t
  rw [e1, Option.bind_some, hv, hv2]
  exact ⟨_, rfl, rfl⟩
