/-! the relation between the two sides -/
def Base (N : Nat) (σ : GS) : Prop := NetOK N σ ∧ (∀ a b, a < 10 → b < 10 → gwe σ (10 * a + b) = gwe σ (10 * b + a)) ∧ (∀ a b, a < 10 → b < 10 → (N ≤ a ∨ N ≤ b ∨ a = b) → gwe σ (10 * a + b) = 0) ∧ (∀ k, k < 4 → -9 ≤ (gpa σ k).toInt ∧ (gpa σ k).toInt ≤ 9) ∧ (∃ h, h < 2 ^ N ∧ ghd σ = nI h) ∧ ∃ t, t < 2 ^ N ∧ gnw σ = nI t
def Pair (σ : GS) (μ : MS) : Prop := mpl μ = gpl σ ∧ mbr μ = gbr σ ∧ mhd μ = ghd σ ∧ mnw μ = gnw σ ∧ mwe μ = gwe σ ∧ mpa μ = gpa σ
def RelN (N : Nat) (σ : GS) (μ : MS) : Prop := Base N σ ∧ Pair σ μ ∧ wishOK N σ ∧ svOK N σ
def Rel (σ : GS) (μ : MS) : Prop := ∃ N, RelN N σ μ
theorem Base.same {N : Nat} {σ σ' : GS} (h : SameN σ σ') (hB : Base N σ) : Base N σ' := by
  obtain ⟨h1, h2⟩ := hB
  refine ⟨NetOK.same h h1, ?_⟩
  obtain ⟨a1, a2, a3, a4, a5, a6, a7⟩ := h
  rw [a3, a4, a5, a7]
  exact h2
theorem Pair.same {σ σ' : GS} {μ : MS} (h : SameN σ σ') (hp : Pair σ μ) : Pair σ' μ := by
  obtain ⟨a1, a2, a3, a4, a5, a6, a7⟩ := h
  unfold Pair
  rw [a1, a2, a3, a4, a5, a7]
  exact hp
theorem svOK.kp {N : Nat} {σ σ' : GS} (h : Kp σ σ') (hs : svOK N σ) : svOK N σ' := by
  obtain ⟨⟨a1, a2, a3, a4, a5, a6, a7⟩, b1, b2, b3, b4, b5, b6, b7, b8⟩ := h
  unfold svOK
  rw [b1, b2, b3, b4, b5, b6, b7, a5, a7, a2]
  exact hs
theorem RelN.kp {N : Nat} {σ σ' : GS} {μ : MS} (h : RelN N σ μ) (hk : Kp σ σ') (hw : wishOK N σ') : RelN N σ' μ := ⟨Base.same hk.1 h.1, Pair.same hk.1 h.2.1, hw, svOK.kp hk h.2.2.2⟩
theorem RelN.met {N : Nat} {σ : GS} {μ : MS} (h : RelN N σ μ) : MetOK N μ := by
  obtain ⟨⟨⟨h1, h2, h3, h4, h5⟩, -⟩, ⟨p1, p2, p3, p4, p5, p6⟩, -⟩ := h
  exact ⟨p1.trans h1, h2, h3, by rw [p5]; exact h4⟩
/-! arguments -/
theorem y_in (x lo hi : Int32) : f_X4_in x lo hi = some (if x < lo then 0 else if hi < x then 0 else 1) := by
  unfold f_X4_in
  split
  · rfl
  · split <;> rfl
theorem rng {x : Int32} {n : Nat} {hi : Int32} (hh : hi = nI n) (hn : n < 2 ^ 31) (h1 : ¬ x < 0) (h2 : ¬ hi < x) : ∃ k, k ≤ n ∧ x = nI k := by
  obtain ⟨j, hj, e⟩ := nI_of h1
  subst e
  rw [hh] at h2
  refine ⟨j, ?_, rfl⟩
  rcases Nat.lt_or_ge n j with h | h
  · exact absurd (nI_lt h hj) h2
  · exact h
theorem rule_cases (x : Int32) : (∃ r, r ≤ 3 ∧ x = nI r ∧ f_X3_isRule x = some 1 ∧ f_X4_isRule x = some 1) ∨ (f_X3_isRule x = some 0 ∧ f_X4_isRule x = some 0) := by
  unfold f_X3_isRule f_X4_isRule
  rw [y_in, Option.bind_some]
  by_cases h1 : x < 0
  · rw [if_pos h1, if_pos h1]
    exact Or.inr ⟨rfl, bz_in (Or.inl rfl)⟩
  · rw [if_neg h1, if_neg h1]
    by_cases h2 : 3 < x
    · rw [if_pos h2, if_pos h2]
      exact Or.inr ⟨rfl, bz_in (Or.inl rfl)⟩
    · rw [if_neg h2, if_neg h2]
      obtain ⟨k, hk, e⟩ := rng (n := 3) rfl (by decide) h1 h2
      exact Or.inl ⟨k, hk, e, rfl, bz_in (Or.inr rfl)⟩
theorem player_cases {σ : GS} {μ : MS} {N : Nat} (h1 : gpl σ = nI N) (h2 : mpl μ = nI N) (hN : 2 ≤ N ∧ N ≤ 10) (x : Int32) : (∃ p, p < N ∧ x = nI p ∧ f_X1_has σ x = some 1 ∧ f_X4_isOne μ x = some 1) ∨ (f_X1_has σ x = some 0 ∧ f_X4_isOne μ x = some 0) := by
  unfold f_X1_has f_X4_isOne
  rw [h1, h2, y_in, Option.bind_some, show nI N - (1 : Int32) = nI (N - 1) from pk_sub (b := 1) (by omega)]
  by_cases h3 : x < 0
  · rw [if_pos h3, if_pos h3]
    exact Or.inr ⟨rfl, bz_in (Or.inl rfl)⟩
  · rw [if_neg h3, if_neg h3]
    obtain ⟨j, hj, e⟩ := nI_of h3
    subst e
    by_cases h4 : j < N
    · rw [if_neg (nI_ge h4 (by omega)), if_neg (nI_nlt (by omega) (by omega))]
      exact Or.inl ⟨j, h4, rfl, rfl, bz_in (Or.inr rfl)⟩
    · rw [if_pos (nI_le (by omega) (by omega)), if_pos (nI_lt (by omega) (by omega))]
      exact Or.inr ⟨rfl, bz_in (Or.inl rfl)⟩
theorem state_cases {σ : GS} {μ : MS} {N : Nat} (h1 : gpl σ = nI N) (h2 : mpl μ = nI N) (hN : N ≤ 10) (x : Int32) : (∃ k, k < 2 ^ N ∧ x = nI k ∧ f_X1_isState σ x = some 1 ∧ f_X4_isState μ x = some 1) ∨ (f_X1_isState σ x = some 0 ∧ f_X4_isState μ x = some 0) := by
  have hp := pw10 hN
  have h0 : 1 ≤ 2 ^ N := Nat.one_le_two_pow
  unfold f_X1_isState f_X4_isState
  rw [x_states h1 hN, y_states h2 hN, Option.bind_some, Option.bind_some, y_in, Option.bind_some, show nI (2 ^ N) - (1 : Int32) = nI (2 ^ N - 1) from pk_sub (b := 1) h0]
  by_cases h3 : x < 0
  · rw [if_pos h3, if_pos h3]
    exact Or.inr ⟨rfl, bz_in (Or.inl rfl)⟩
  · rw [if_neg h3, if_neg h3]
    obtain ⟨j, hj, e⟩ := nI_of h3
    subst e
    by_cases h4 : j < 2 ^ N
    · rw [if_neg (nI_ge h4 (by omega)), if_neg (nI_nlt (by omega) (by omega))]
      exact Or.inl ⟨j, h4, rfl, rfl, bz_in (Or.inr rfl)⟩
    · rw [if_pos (nI_le (by omega) (by omega)), if_pos (nI_lt (by omega) (by omega))]
      exact Or.inr ⟨rfl, bz_in (Or.inl rfl)⟩
/-! forgetting -/
theorem x_forget (σ : GS) : ∃ u, f_X3_forgetMoves σ = some (gsst (zus σ u) 0) ∧ ∀ r, r < 3 → u r = 0 := by
  have L1 : f_X0_forget σ = some (zus σ (upd (upd (upd (gus σ) 0 0) 1 0) 2 0)) := by
    unfold f_X0_forget
    refine itr_bind (itr_run (fun j => (nI j, zus σ (match j with | 0 => gus σ | 1 => upd (gus σ) 0 0 | 2 => upd (upd (gus σ) 0 0) 1 0 | _ => upd (upd (upd (gus σ) 0 0) 1 0) 2 0))) 3 rfl (by decide) (fun j hj => ?_) ?_) rfl
    · rcases (show j = 0 ∨ j = 1 ∨ j = 2 by omega) with rfl | rfl | rfl <;> rfl
    · rfl
  refine ⟨upd (upd (upd (gus σ) 0 0) 1 0) 2 0, ?_, ?_⟩
  · unfold f_X3_forgetMoves
    rw [L1]
    rfl
  · intro r hr
    rcases (show r = 0 ∨ r = 1 ∨ r = 2 by omega) with rfl | rfl | rfl <;> rfl
theorem forget_rel {N : Nat} {σ : GS} {μ : MS} (hB : Base N σ) (hp : Pair σ μ) : ∃ σ', f_X3_forgetMoves σ = some σ' ∧ RelN N σ' μ := by
  obtain ⟨u, h1, h2⟩ := x_forget σ
  exact ⟨_, h1, hB, hp, fun r hr => Or.inl (h2 r hr), Or.inl rfl⟩
