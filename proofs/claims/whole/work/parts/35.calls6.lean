/-! hangs, told, share -/
theorem sums_nat {we : Nat → Int32} (hw : weOK we) (s : Int32) {p : Nat} (hp : p < 10) : ∀ n, n ≤ 10 → ∃ A O, isum (fun j => we (10 * p + j)) n = nI A ∧ isum (fun j => we (10 * p + j) * bI s j) n = nI O ∧ O ≤ A ∧ A ≤ 9 * n := by
  intro n
  induction n with
  | zero => intro _; exact ⟨0, 0, rfl, rfl, Nat.le_refl 0, Nat.le_refl 0⟩
  | succ n ih =>
    intro hn
    obtain ⟨A, O, h1, h2, h3, h4⟩ := ih (by omega)
    obtain ⟨w, hw9, e⟩ := hw (10 * p + n) (by omega)
    have hb := bN_le s n
    refine ⟨A + w, O + w * bN s n, ?_, ?_, ?_, by omega⟩
    · simp only [isum]; rw [h1, e, nI_add]
    · simp only [isum]; rw [h2, e, bI_nI s (by omega), pk_mul, nI_add]
    · rcases (show bN s n = 0 ∨ bN s n = 1 by omega) with e | e <;> rw [e] <;> omega
theorem q_hangs (σ : GS) (μ : MS) (h : Rel σ μ) (x1 x2 : Int32) : ∃ r, f_X3_hangs σ x1 x2 = some r ∧ f_X4_hangs μ x1 x2 = some r := by
  obtain ⟨N, hR⟩ := id h
  obtain ⟨a1, a2, a3, a4⟩ := hR.pl
  have hmw : mwe μ = gwe σ := hR.2.1.2.2.2.2.1
  unfold f_X3_hangs f_X4_hangs
  rcases state_cases a1 a2 a4 x1 with ⟨k, hk, e1, g1, g2⟩ | ⟨g1, g2⟩
  · rw [g1, g2, Option.bind_some, Option.bind_some, if_neg one_ne, if_neg one_ne, y_in, Option.bind_some]
    by_cases h1 : x2 < 1
    · rw [if_pos h1, if_pos h1, if_pos rfl]
      exact ⟨_, rfl, rfl⟩
    · rw [if_neg h1, if_neg h1]
      by_cases h2 : 100 < x2
      · rw [if_pos h2, if_pos rfl, if_neg (lt_nle h2)]
        exact ⟨_, rfl, rfl⟩
      · rw [if_neg h2, if_neg one_ne, if_pos (nlt_le h2)]
        subst e1
        let bad : Nat → Prop := fun p => bt (nI k) p = true ∧ 100 * on N (gwe σ) (nI k) p < x2 * al N (gwe σ) p
        have L1 : ∃ v, itr (f_X3_hangs_b27 σ (nI k) x2) FU (0 : Int32) = some v ∧ ((v = .inl () ∧ ∃ p, p < N ∧ bad p) ∨ (v = .inr () ∧ ∀ p, p < N → ¬ bad p)) := by
          refine itr_cut (fun i st => st = nI i ∧ ∀ p, p < i → ¬ bad p) _ N (by omega) ⟨rfl, fun p hp => by omega⟩ ?_
          rintro i st hi ⟨rfl, hno⟩
          unfold f_X3_hangs_b27
          rw [a1]
          by_cases hiN : i = N
          · subst hiN
            rw [if_pos (nI_le (Nat.le_refl _) (by omega))]
            exact Or.inr ⟨_, rfl, Or.inr ⟨rfl, hno⟩⟩
          · rw [if_neg (nI_ge (by omega) (by omega)), x_bitOf, Option.bind_some, x_reaches hR.1.1 (by omega), Option.bind_some, nI_p1, bI_bt (nI k) (by omega)]
            cases hb : bt (nI k) i
            · rw [if_neg (by decide)]
              refine Or.inl ⟨_, rfl, by omega, rfl, fun p hp hbad => ?_⟩
              by_cases hpi : p = i
              · subst hpi; exact absurd (hb.symm.trans hbad.1) (by decide)
              · exact hno p (by omega) hbad
            · rw [if_pos (by decide)]
              by_cases hc : 100 * on N (gwe σ) (nI k) i < x2 * al N (gwe σ) i
              · rw [if_pos hc, if_pos rfl]
                exact Or.inr ⟨_, rfl, Or.inl ⟨rfl, i, by omega, hb, hc⟩⟩
              · rw [if_neg hc, if_neg one_ne]
                refine Or.inl ⟨_, rfl, by omega, rfl, fun p hp hbad => ?_⟩
                by_cases hpi : p = i
                · subst hpi; exact hc hbad.2
                · exact hno p (by omega) hbad
        have L2 : ∃ v, itr (f_X4_hangs_b23 μ (nI k) x2) FU (0 : Int32) = some v ∧ ((v = .inl () ∧ ∃ p, p < N ∧ bad p) ∨ (v = .inr () ∧ ∀ p, p < N → ¬ bad p)) := by
          refine itr_cut (fun i st => st = nI i ∧ ∀ p, p < i → ¬ bad p) _ N (by omega) ⟨rfl, fun p hp => by omega⟩ ?_
          rintro i st hi ⟨rfl, hno⟩
          unfold f_X4_hangs_b23
          rw [a2]
          by_cases hiN : i = N
          · subst hiN
            rw [if_pos (nI_le (Nat.le_refl _) (by omega))]
            exact Or.inr ⟨_, rfl, Or.inr ⟨rfl, hno⟩⟩
          · have L3 : itr (f_X4_hangs_b40 μ (nI i) (nI k)) FU ((0 : Int32), (0 : Int32), (0 : Int32)) = some (al N (gwe σ) i, on N (gwe σ) (nI k) i) := by
              rw [← hmw]
              refine itr_run (fun j => (isum (fun q => mwe μ (10 * i + q)) j, isum (fun q => mwe μ (10 * i + q) * bI (nI k) q) j, nI j)) N rfl (by omega) (fun j hj => ?_) ?_
              · unfold f_X4_hangs_b40
                dsimp only
                rw [a2, if_neg (nI_ge hj (by omega)), nI_p1]
                exact y_sums (μ := μ) a4 (by omega) (nI k) hj (fun a b => some (Sum.inl (a, b, nI (j + 1)) : (Int32 × Int32 × Int32) ⊕ (Int32 × Int32)))
              · unfold f_X4_hangs_b40
                dsimp only
                rw [a2, if_pos (nI_le (Nat.le_refl _) (by omega))]
                rfl
            have e0 : (nI k >>> (nI i &&& 31)) &&& (1 : Int32) = if bt (nI k) i then 1 else 0 := bI_bt (nI k) (by omega)
            rw [if_neg (nI_ge (by omega) (by omega)), L3, Option.bind_some, nI_p1, e0]
            dsimp only
            cases hb : bt (nI k) i
            · rw [if_neg (by decide)]
              refine Or.inl ⟨_, rfl, by omega, rfl, fun p hp hbad => ?_⟩
              by_cases hpi : p = i
              · subst hpi; exact absurd (hb.symm.trans hbad.1) (by decide)
              · exact hno p (by omega) hbad
            · rw [if_pos (by decide)]
              obtain ⟨A, O, s1, s2, s3, s4⟩ := sums_nat hR.1.1.2.2.2.1 (nI k) (p := i) (by omega) N (by omega)
              have s1' : al N (gwe σ) i = nI A := s1
              have s2' : on N (gwe σ) (nI k) i = nI O := s2
              have notbad : (¬ 100 * on N (gwe σ) (nI k) i < x2 * al N (gwe σ) i) → ∃ s', some (Sum.inl (nI (i + 1)) : Int32 ⊕ (Unit ⊕ Unit)) = some (Sum.inl s') ∧ i < N ∧ s' = nI (i + 1) ∧ ∀ p, p < i + 1 → ¬ bad p := fun hc => ⟨_, rfl, by omega, rfl, fun p hp hbad => by
                by_cases hpi : p = i
                · subst hpi; exact hc hbad.2
                · exact hno p (by omega) hbad⟩
              by_cases hA : al N (gwe σ) i ≤ 0
              · rw [if_pos hA]
                have hA0 : A = 0 := by
                  rw [s1', fa_le, nI_toInt (by omega)] at hA
                  have : (0 : Int32).toInt = 0 := rfl
                  omega
                have hO0 : O = 0 := by omega
                refine Or.inl (notbad ?_)
                rw [s1', s2', hA0, hO0]
                show ¬ (100 : Int32) * 0 < x2 * 0
                simp
              · rw [if_neg hA]
                by_cases hc : 100 * on N (gwe σ) (nI k) i < x2 * al N (gwe σ) i
                · rw [if_neg (lt_nle hc)]
                  exact Or.inr ⟨_, rfl, Or.inl ⟨rfl, i, by omega, hb, hc⟩⟩
                · rw [if_pos (nlt_le hc)]
                  exact Or.inl (notbad hc)
        obtain ⟨v, hv, hq⟩ := L1
        obtain ⟨v2, hv2, hq2⟩ := L2
        rw [hv, hv2, Option.bind_some, Option.bind_some]
        rcases hq with ⟨rfl, p, hp, hb⟩ | ⟨rfl, hno⟩
        · rcases hq2 with ⟨rfl, -⟩ | ⟨-, hno⟩
          · exact ⟨_, rfl, rfl⟩
          · exact absurd hb (hno p hp)
        · rcases hq2 with ⟨-, p, hp, hb⟩ | ⟨rfl, -⟩
          · exact absurd hb (hno p hp)
          · exact ⟨_, rfl, rfl⟩
  · rw [g1, g2]
    exact ⟨_, rfl, rfl⟩
/-! the lines -/
def cf (P : Nat → Nat → Bool) (a : Nat) : Nat → Nat
  | 0 => 0
  | k + 1 => cf P a k + if P a (a + 1 + k) then 1 else 0
def SS (P : Nat → Nat → Bool) (N : Nat) : Nat → Nat
  | 0 => 0
  | a + 1 => SS P N a + cf P a (N - (a + 1))
def LB (P : Nat → Nat → Bool) : Nat → Nat
  | 0 => 0
  | a + 1 => LB P a + cnt (P a) a
theorem SS_s (P : Nat → Nat → Bool) (N : Nat) : ∀ a, a ≤ N → SS P (N + 1) a = SS P N a + cnt (fun x => P x N) a := by
  intro a
  induction a with
  | zero => intro _; rfl
  | succ a ih =>
    intro ha
    have e : N + 1 - (a + 1) = N - (a + 1) + 1 := by omega
    have e2 : cf P a (N - (a + 1) + 1) = cf P a (N - (a + 1)) + if P a (a + 1 + (N - (a + 1))) then 1 else 0 := rfl
    have e3 : a + 1 + (N - (a + 1)) = N := by omega
    rw [show SS P (N + 1) (a + 1) = SS P (N + 1) a + cf P a (N + 1 - (a + 1)) from rfl, show SS P N (a + 1) = SS P N a + cf P a (N - (a + 1)) from rfl, ih (by omega), e, e2, e3, cnt_s]
    omega
theorem SS_LB {P : Nat → Nat → Bool} : ∀ N, (∀ a b, a < N → b < N → P a b = P b a) → SS P N N = LB P N := by
  intro N
  induction N with
  | zero => intro _; rfl
  | succ N ih =>
    intro h
    have e : cf P N (N + 1 - (N + 1)) = 0 := by rw [Nat.sub_self]; rfl
    rw [show SS P (N + 1) (N + 1) = SS P (N + 1) N + cf P N (N + 1 - (N + 1)) from rfl, show LB P (N + 1) = LB P N + cnt (P N) N from rfl, SS_s P N N (Nat.le_refl N), ih (fun a b ha hb => h a b (by omega) (by omega)), e]
    have : cnt (fun x => P x N) N = cnt (P N) N := cnt_congr (fun s hs => h s N (by omega) (by omega))
    omega
theorem cf_le (P : Nat → Nat → Bool) (a k : Nat) : cf P a k ≤ k := by
  induction k with
  | zero => exact Nat.le_refl 0
  | succ k ih => unfold cf; split <;> omega
theorem lines_both {N : Nat} {σ : GS} {μ : MS} (h : RelN N σ μ) : ∃ r, f_X1_howManyLines σ = some r ∧ f_X4_lines μ = some r := by
  obtain ⟨a1, a2, a3, a4⟩ := h.pl
  have hmw : mwe μ = gwe σ := h.2.1.2.2.2.2.1
  have hw := h.1.1.2.2.2.1
  generalize hP : (fun a b => decide (¬ gwe σ (10 * a + b) = 0)) = P
  have hPs : ∀ a b, P a b = decide (¬ gwe σ (10 * a + b) = 0) := fun a b => by rw [← hP]
  have hsym : ∀ a b, a < N → b < N → P a b = P b a := fun a b ha hb => by rw [hPs, hPs, h.1.2.1 a b (by omega) (by omega)]
  refine ⟨nI (SS P N N), ?_, ?_⟩
  · unfold f_X1_howManyLines
    refine itr_bind (itr_run (fun i => (nI (SS P N i), nI i)) N rfl (by omega) (fun a ha => ?_) ?_) rfl
    · unfold f_X1_howManyLines_b4
      dsimp only
      rw [a1, if_neg (nI_ge ha (by omega)), nI_p1]
      refine itr_bind (itr_run (fun i => (nI (SS P N a + cf P a i), nI (a + 1 + i))) (N - (a + 1)) (x := nI (SS P N (a + 1))) rfl (by omega) (fun i hi => ?_) ?_) rfl
      · unfold f_X1_howManyLines_b16
        dsimp only
        have e : cf P a (i + 1) = cf P a i + if P a (a + 1 + i) then 1 else 0 := rfl
        rw [a1, if_neg (nI_ge (by omega) (by omega)), x_weightOf σ (by omega) (by omega), Option.bind_some, nI_p1, nI_p1, e, hPs]
        by_cases hc : gwe σ (10 * a + (a + 1 + i)) = 0
        · rw [if_pos hc]; simp [hc]; rfl
        · rw [if_neg hc]; simp [hc]; exact ⟨rfl, rfl⟩
      · unfold f_X1_howManyLines_b16
        dsimp only
        rw [a1, if_pos (nI_le (by omega) (by omega))]
        rfl
    · unfold f_X1_howManyLines_b4
      dsimp only
      rw [a1, if_pos (nI_le (Nat.le_refl _) (by omega))]
  · rw [SS_LB N hsym]
    unfold f_X4_lines
    refine itr_bind (itr_run (fun i => (nI (LB P i), nI i)) N rfl (by omega) (fun a ha => ?_) ?_) rfl
    · unfold f_X4_lines_b4
      dsimp only
      rw [a2, if_neg (nI_ge ha (by omega)), nI_p1]
      refine itr_bind (itr_run (fun i => (nI (LB P a + cnt (P a) i), nI i)) a (x := nI (LB P (a + 1))) rfl (by omega) (fun i hi => ?_) ?_) rfl
      · unfold f_X4_lines_b14
        dsimp only
        rw [if_neg (nI_ge hi (by omega)), ix10', gd_nI (by omega) (by decide), nI_clamp (by omega), nI_p1, nI_p1, hmw, cnt_s, hPs]
        by_cases hc : gwe σ (10 * a + i) = 0
        · rw [if_pos ((hw.le0 (by omega)).mpr hc)]; simp [hc]
        · rw [if_neg (fun z => hc ((hw.le0 (by omega)).mp z))]; simp [hc]; rfl
      · unfold f_X4_lines_b14
        dsimp only
        rw [if_pos (nI_le (Nat.le_refl _) (by omega))]
        rfl
    · unfold f_X4_lines_b4
      dsimp only
      rw [a2, if_pos (nI_le (Nat.le_refl _) (by omega))]
theorem q_told (σ : GS) (μ : MS) (h : Rel σ μ) (x1 : Int32) : ∃ r, f_X3_told σ x1 = some r ∧ f_X4_told μ x1 = some r := by
  obtain ⟨N, hR⟩ := id h
  obtain ⟨p1, p2, p3, p4, p5, p6⟩ := hR.2.1
  unfold f_X3_told f_X4_told
  by_cases h0 : x1 = 0
  · rw [if_pos h0, if_pos h0, p1]; exact ⟨_, rfl, rfl⟩
  · rw [if_neg h0, if_neg h0]
    by_cases h1 : x1 = 1
    · rw [if_pos h1, if_pos h1]
      obtain ⟨r, k1, k2⟩ := lines_both hR
      rw [k1, k2]; exact ⟨_, rfl, rfl⟩
    · rw [if_neg h1, if_neg h1]
      by_cases h2 : x1 = 2
      · rw [if_pos h2, if_pos h2, p3]; exact ⟨_, rfl, rfl⟩
      · rw [if_neg h2, if_neg h2]
        by_cases h3 : x1 = 3
        · rw [if_pos h3, if_pos h3, p4]; exact ⟨_, rfl, rfl⟩
        · rw [if_neg h3, if_neg h3]
          by_cases h4 : x1 = 4
          · rw [if_pos h4, if_pos h4, p2]; exact ⟨_, rfl, rfl⟩
          · rw [if_neg h4, if_neg h4, y_in, Option.bind_some]
            unfold f_X3_toldPay
            by_cases h5 : x1 < 10
            · rw [if_pos h5, if_pos h5, if_pos rfl]; exact ⟨_, rfl, rfl⟩
            · rw [if_neg h5, if_neg h5]
              by_cases h6 : 13 < x1
              · rw [if_pos h6, if_pos rfl, if_neg (lt_nle h6)]; exact ⟨_, rfl, rfl⟩
              · rw [if_neg h6, if_neg one_ne, if_pos (nlt_le h6)]
                have hn : ¬ x1 < 0 := by rw [fa_lt] at *; have e1 : (10 : Int32).toInt = 10 := rfl; have e2 : (0 : Int32).toInt = 0 := rfl; omega
                obtain ⟨k, hk, e⟩ := rng (n := 13) rfl (by decide) hn h6
                have hk10 : 10 ≤ k := by
                  subst e
                  rcases Nat.lt_or_ge k 10 with hh | hh
                  · exact absurd (nI_lt (b := 10) hh (by decide)) h5
                  · exact hh
                subst e
                rw [p6]
                rcases (show k = 10 ∨ k = 11 ∨ k = 12 ∨ k = 13 by omega) with rfl | rfl | rfl | rfl <;> exact ⟨_, rfl, rfl⟩
/-! share -/
theorem gcds : ∀ a, a < 37 → ∀ z, z ≤ a → 1 ≤ a → f_X3_commonDivisor (nI a) (nI z) = some (nI (Nat.gcd a z)) ∧ f_X4_common (nI z) (nI a) = some (nI (Nat.gcd a z)) := by decide +kernel
theorem q_share (σ : GS) (μ : MS) (h : Rel σ μ) (x1 : Int32) : ∃ r, f_X3_share σ x1 = some r ∧ f_X4_share μ x1 = some r := by
  obtain ⟨N, hR⟩ := id h
  obtain ⟨p1, p2, p3, p4, p5, p6⟩ := hR.2.1
  have hpay := hR.1.2.2.2.1
  have hz : (gpa σ 0 - gpa σ 2).toInt = (gpa σ 0).toInt - (gpa σ 2).toInt := by
    obtain ⟨b1, b2⟩ := hpay 0 (by omega)
    obtain ⟨b3, b4⟩ := hpay 2 (by omega)
    rw [Int32.toInt_sub, Int.bmod_eq_of_le] <;> omega
  have ho : (gpa σ 3 - gpa σ 1).toInt = (gpa σ 3).toInt - (gpa σ 1).toInt := by
    obtain ⟨b1, b2⟩ := hpay 3 (by omega)
    obtain ⟨b3, b4⟩ := hpay 1 (by omega)
    rw [Int32.toInt_sub, Int.bmod_eq_of_le] <;> omega
  have hb : -18 ≤ (gpa σ 0 - gpa σ 2).toInt ∧ (gpa σ 0 - gpa σ 2).toInt ≤ 18 ∧ -18 ≤ (gpa σ 3 - gpa σ 1).toInt ∧ (gpa σ 3 - gpa σ 1).toInt ≤ 18 := by
    have b0 := hpay 0 (by omega)
    have b1 := hpay 1 (by omega)
    have b2 := hpay 2 (by omega)
    have b3 := hpay 3 (by omega)
    omega
  have eall : gpa σ 0 - gpa σ 2 + gpa σ 3 - gpa σ 1 = (gpa σ 0 - gpa σ 2) + (gpa σ 3 - gpa σ 1) := by grind
  have hgd : ∀ {k : Nat} {o : Option Int32}, k < 4 → gd (nI k) 4 o = o := fun h => gd_nI h (by decide)
  unfold f_X3_share f_X4_share
  rw [pay00, pay11, y_in, Option.bind_some, Option.bind_some, p6]
  have c0 : (0 : Int32).toNatClampNeg = 0 := by decide
  have c1 : (1 : Int32).toNatClampNeg = 1 := by decide
  have c2 : (2 : Int32).toNatClampNeg = 2 := by decide
  have c3 : (3 : Int32).toNatClampNeg = 3 := by decide
  have d0 : ∀ {o : Option Int32}, gd (0 : Int32) 4 o = o := hgd (k := 0) (by omega)
  have d1 : ∀ {o : Option Int32}, gd (1 : Int32) 4 o = o := hgd (k := 1) (by omega)
  have d2 : ∀ {o : Option Int32}, gd (2 : Int32) 4 o = o := hgd (k := 2) (by omega)
  have d3 : ∀ {o : Option Int32}, gd (3 : Int32) 4 o = o := hgd (k := 3) (by omega)
  simp only [c0, c1, c2, c3, d0, d1, d2, d3, eall]
  generalize gpa σ 0 - gpa σ 2 = Z at hb
  generalize gpa σ 3 - gpa σ 1 = O at hb
  have hs : (Z + O).toInt = Z.toInt + O.toInt := by rw [Int32.toInt_add, Int.bmod_eq_of_le] <;> omega
  generalize hA : Z + O = A at hs
  rw [y_in, Option.bind_some]
  have z0 : (0 : Int32).toInt = 0 := rfl
  -- what both answer when the share stands
  have core : ∃ v, (if A ≤ 0 then some (-3 : Int32) else if Z < 0 then some (-3) else if Z ≤ A then (f_X3_commonDivisor A Z).bind (fun q3 => if 1 ≤ q3 then (if x1 = 0 then gz q3 (some (Z / q3)) else gz q3 (some (A / q3))) else some (-3)) else some (-3)) = some v ∧ (if A ≤ 0 then some (-3 : Int32) else if (if Z < 0 then (0 : Int32) else if A < Z then 0 else 1) = 0 then some (-3) else if x1 = 0 then (f_X4_common Z A).bind (fun q4 => gz q4 (some (Z / q4))) else (f_X4_common Z A).bind (fun q3 => gz q3 (some (A / q3)))) = some v := by
    by_cases h1 : A ≤ 0
    · rw [if_pos h1, if_pos h1]; exact ⟨_, rfl, rfl⟩
    · rw [if_neg h1, if_neg h1]
      by_cases h2 : Z < 0
      · rw [if_pos h2, if_pos h2, if_pos rfl]; exact ⟨_, rfl, rfl⟩
      · rw [if_neg h2, if_neg h2]
        by_cases h3 : A < Z
        · rw [if_neg (show ¬ Z ≤ A by rw [fa_le]; rw [fa_lt] at h3; omega), if_pos h3, if_pos rfl]; exact ⟨_, rfl, rfl⟩
        · rw [if_pos (nlt_le h3), if_neg h3, if_neg one_ne]
          have hA0 : ¬ A < 0 := by rw [fa_lt]; rw [fa_le] at h1; omega
          obtain ⟨a, ha, ea⟩ := nI_of hA0
          obtain ⟨z, hz', ez⟩ := nI_of h2
          subst ea; subst ez
          rw [nI_toInt ha, nI_toInt hz'] at hs
          rw [nI_toInt hz'] at hb
          rw [fa_le, nI_toInt ha] at h1
          rw [fa_lt, nI_toInt ha, nI_toInt hz'] at h3
          obtain ⟨k1, k2⟩ := gcds a (by omega) z (by omega) (by omega)
          have hgp : 1 ≤ Nat.gcd a z := Nat.gcd_pos_of_pos_left z (by omega)
          have hga : Nat.gcd a z ≤ a := Nat.gcd_le_left z (by omega)
          have hne : ¬ nI (Nat.gcd a z) = 0 := nI_ne0 hgp (by omega)
          rw [k1, k2, Option.bind_some, Option.bind_some, Option.bind_some, if_pos (show (1 : Int32) ≤ nI (Nat.gcd a z) from nI_le (a := 1) hgp (by omega)), gz_ne hne, gz_ne hne]
          split <;> exact ⟨_, rfl, rfl⟩
  obtain ⟨v, c1, c2⟩ := core
  by_cases x0 : x1 = 0
  · have e2 : ¬ (if x1 < 0 then (0 : Int32) else if 1 < x1 then 0 else 1) = 0 := by rw [x0]; decide
    rw [if_pos x0, if_neg e2]
    exact ⟨v, c1, c2⟩
  · rw [if_neg x0]
    by_cases x11 : x1 = 1
    · have e2 : ¬ (if x1 < 0 then (0 : Int32) else if 1 < x1 then 0 else 1) = 0 := by rw [x11]; decide
      rw [if_pos x11, if_neg e2]
      exact ⟨v, c1, c2⟩
    · rw [if_neg x11]
      have e2 : (if x1 < 0 then (0 : Int32) else if 1 < x1 then 0 else 1) = 0 := by
        rcases way_cases x1 with ⟨w, hw, e, -, -⟩ | ⟨-, g4⟩
        · rcases (show w = 0 ∨ w = 1 by omega) with rfl | rfl
          · exact absurd e x0
          · exact absurd e x11
        · rw [y_in] at g4; exact Option.some.inj g4
      rw [if_pos e2]
      exact ⟨_, rfl, rfl⟩
