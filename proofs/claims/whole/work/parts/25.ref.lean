def yz (σ : MS) (e t : Nat → Int32) : MS := (σ.1, σ.2.1, σ.2.2.1, σ.2.2.2.1, σ.2.2.2.2.1, σ.2.2.2.2.2.1, σ.2.2.2.2.2.2.1, e, t)
/-! the reference: behind, rings, ends -/
def MetOK (N : Nat) (μ : MS) : Prop := mpl μ = nI N ∧ 2 ≤ N ∧ N ≤ 10 ∧ weOK (mwe μ)
theorem xor_and0 (a b c : Int32) : ((a ^^^ b) &&& c) = 0 ↔ a &&& c = b &&& c := by
  constructor
  · intro h
    apply b_ext
    intro i hi
    have := congrArg (fun x => bt x i) h
    simp only [b_and, b_xor, b_0] at this
    rw [b_and, b_and]
    cases h1 : bt a i <;> cases h2 : bt b i <;> cases h3 : bt c i <;> simp [h1, h2, h3] at this ⊢
  · intro h
    apply b_ext
    intro i hi
    have := congrArg (fun x => bt x i) h
    simp only [b_and] at this
    simp only [b_and, b_xor, b_0]
    cases h1 : bt a i <;> cases h2 : bt b i <;> cases h3 : bt c i <;> simp [h1, h2, h3] at this ⊢
theorem y_isBeg (μ : MS) (s : Nat) : f_X4_isBeginning μ (nI s) = some (if nI s &&& mhd μ = mnw μ &&& mhd μ then 1 else 0) := by
  unfold f_X4_isBeginning
  by_cases h : nI s &&& mhd μ = mnw μ &&& mhd μ
  · rw [if_pos ((xor_and0 _ _ _).mpr h), if_pos h]
  · rw [if_neg (fun z => h ((xor_and0 _ _ _).mp z)), if_neg h]
theorem x_isBegG (σ : GS) (s : Nat) : f_X3_isBeginning σ (nI s) = some (if nI s &&& ghd σ = gnw σ &&& ghd σ then 1 else 0) := by
  unfold f_X3_isBeginning
  by_cases h : nI s &&& ghd σ = gnw σ &&& ghd σ
  · rw [if_pos ((xor_and0 _ _ _).mpr h), if_pos h]
  · rw [if_neg (fun z => h ((xor_and0 _ _ _).mp z)), if_neg h]
theorem y_layBehind {μ : MS} {N r : Nat} (h : MetOK N μ) (hr : r ≤ 3) : ∃ b, f_X4_layBehind μ (nI r) = some (ybe μ b) ∧ ∀ s, s < 2 ^ N → b s = if nI s &&& mhd μ = mnw μ &&& mhd μ then nI (nxN N (mwe μ) (mpa μ) (mbr μ) r (mhd μ) s) else -6 := by
  obtain ⟨hN, h2, h10, hw⟩ := h
  have hp := pw10 h10
  generalize hv : (fun s => if nI s &&& mhd μ = mnw μ &&& mhd μ then nI (nxN N (mwe μ) (mpa μ) (mbr μ) r (mhd μ) s) else (-6 : Int32)) = val
  refine ⟨fun s => if s < 2 ^ N then val s else mbe μ s, ?_, fun s hs => by dsimp only; rw [if_pos hs, ← hv]⟩
  unfold f_X4_layBehind
  refine itr_bind (itr_run (fun j => (nI j, ybe μ (fun s => if s < j then val s else mbe μ s))) (2 ^ N) (x := ybe μ (fun s => if s < 2 ^ N then val s else mbe μ s)) ?_ (by omega) (fun j hj => ?_) ?_) rfl
  · have : (fun s => if s < 0 then val s else mbe μ s) = mbe μ := by funext s; rw [if_neg (by omega)]
    show ((0 : Int32), μ) = (nI 0, ybe μ (fun s => if s < 0 then val s else mbe μ s))
    rw [this]; rfl
  · generalize hb : (fun s => if s < j then val s else mbe μ s) = b
    have hN' : mpl (ybe μ b) = nI N := hN
    have hu : ∀ v, v = val j → mtbe (ybe μ b) (nI j) v = ybe μ (fun s => if s < j + 1 then val s else mbe μ s) := by
      intro v hv1
      have : mtbe (ybe μ b) (nI j) v = ybe μ (upd b (nI j).toNatClampNeg v) := rfl
      rw [this, nI_clamp (by omega)]
      congr 1
      funext s
      simp only [upd]
      by_cases hs : s = j
      · subst hs; rw [if_pos rfl, if_pos (by omega), hv1]
      · rw [if_neg hs, ← hb]
        dsimp only
        by_cases hl : s < j
        · rw [if_pos hl, if_pos (by omega)]
        · rw [if_neg hl, if_neg (by omega)]
    unfold f_X4_layBehind_b2
    dsimp only
    rw [y_states hN' h10, Option.bind_some, if_neg (nI_ge hj (by omega)), y_isBeg, Option.bind_some, nI_p1]
    have e1 : mhd (ybe μ b) = mhd μ := rfl
    have e2 : mnw (ybe μ b) = mnw μ := rfl
    rw [e1, e2]
    by_cases hc : nI j &&& mhd μ = mnw μ &&& mhd μ
    · rw [if_pos hc, if_neg (by decide), y_next hN' h10 hw hr, Option.bind_some, gd_nI (by omega) (by decide)]
      have e3 : mnx N (mwe (ybe μ b)) (mpa (ybe μ b)) (mbr (ybe μ b)) r (mhd μ) (nI j) N = nI (nxN N (mwe μ) (mpa μ) (mbr μ) r (mhd μ) j) := (nxN_ok h10 (mwe μ) (mpa μ) (mbr μ) r (mhd μ) hj).2
      rw [e3, hu _ (by rw [← hv]; dsimp only; rw [if_pos hc])]
    · rw [if_neg hc, if_pos rfl, gd_nI (by omega) (by decide), hu _ (by rw [← hv]; dsimp only; rw [if_neg hc])]
  · unfold f_X4_layBehind_b2
    dsimp only
    have hN' : mpl (ybe μ (fun s => if s < 2 ^ N then val s else mbe μ s)) = nI N := hN
    rw [y_states hN' h10, Option.bind_some, if_pos (nI_le (Nat.le_refl _) (by omega))]
section RG
variable {μ : MS} {M : Nat} {F : Nat → Nat} {Bp : Nat → Prop}
theorem fit_B (hB : ∀ s, s < M → Bp s → Bp (F s)) (hF : ∀ s, s < M → F s < M) {s : Nat} (hs : s < M) (hb : Bp s) (k : Nat) : Bp (fit F k s) := by
  induction k generalizing s with
  | zero => exact hb
  | succ k ih => exact ih (hF s hs) (hB s hs hb)
theorem y_inRing (hst : f_X4_states μ = some (nI M)) (hM : M ≤ 1024) (hF : ∀ s, s < M → F s < M) (hB : ∀ s, s < M → Bp s → Bp (F s)) (hbe : ∀ s, s < M → Bp s → mbe μ s = nI (F s)) {s : Nat} (hs : s < M) (hb : Bp s) : f_X4_inRing μ (nI s) = some (nI (fit F M s)) := by
  unfold f_X4_inRing
  refine itr_bind (itr_run (fun j => (nI (fit F j s), nI j)) M rfl (by omega) (fun j hj => ?_) ?_) rfl
  · have hl := fit_lt hF hs j
    unfold f_X4_inRing_b4
    dsimp only
    rw [hst, Option.bind_some, if_neg (nI_ge hj (by omega)), gd_nI (by omega) (by decide), nI_clamp (by omega), hbe _ hl (fit_B hB hF hs hb j), nI_p1, ← fit_s F j s]
  · unfold f_X4_inRing_b4
    dsimp only
    rw [hst, Option.bind_some, if_pos (nI_le (Nat.le_refl _) (by omega))]
theorem y_ringOf (hM : M ≤ 1024) (hF : ∀ s, s < M → F s < M) (hB : ∀ s, s < M → Bp s → Bp (F s)) (hbe : ∀ s, s < M → Bp s → mbe μ s = nI (F s)) {r L : Nat} (hr : r < M) (hb : Bp r) (hL : isLen F r L) : f_X4_ringOf μ (nI r) = some (nI L) := by
  have hLM := isLen_le hF hr hL
  have hL0 := hL.1
  unfold f_X4_ringOf
  rw [gd_nI (by omega) (by decide), nI_clamp (by omega), hbe r hr hb]
  refine itr_bind (itr_run (fun j => (nI (j + 1), nI (fit F (j + 1) r))) (L - 1) (x := nI L) rfl (by omega) (fun j hj => ?_) ?_) rfl
  · have hl := fit_lt hF hr (j + 1)
    unfold f_X4_ringOf_b9
    dsimp only
    rw [if_neg (show ¬ nI (fit F (j + 1) r) = nI r from fun z => hL.2.2 (j + 1) (by omega) (by omega) (nI_inj (by omega) (by omega) z)), gd_nI (by omega) (by decide), nI_clamp (by omega), hbe _ hl (fit_B hB hF hr hb (j + 1)), nI_p1, ← fit_s F (j + 1) r]
  · unfold f_X4_ringOf_b9
    dsimp only
    have e1 : fit F (L - 1 + 1) r = r := by rw [show L - 1 + 1 = L by omega]; exact hL.2.1
    rw [e1, if_pos rfl, show L - 1 + 1 = L by omega]
theorem y_leastOf (hM : M ≤ 1024) (hF : ∀ s, s < M → F s < M) (hB : ∀ s, s < M → Bp s → Bp (F s)) (hbe : ∀ s, s < M → Bp s → mbe μ s = nI (F s)) {r L : Nat} (hr : r < M) (hb : Bp r) (hL : isLen F r L) : f_X4_leastOf μ (nI r) = some (nI (lst F r (L - 1))) := by
  have hLM := isLen_le hF hr hL
  have hL0 := hL.1
  unfold f_X4_leastOf
  rw [gd_nI (by omega) (by decide), nI_clamp (by omega), hbe r hr hb]
  refine itr_bind (itr_run (fun j => (nI (lst F r j), nI (fit F (j + 1) r))) (L - 1) (x := nI (lst F r (L - 1))) rfl (by omega) (fun j hj => ?_) ?_) rfl
  · have hl := fit_lt hF hr (j + 1)
    obtain ⟨j2, -, e2⟩ := lst_in F r j
    have hl2 : lst F r j < M := by rw [e2]; exact fit_lt hF hr j2
    unfold f_X4_leastOf_b9
    dsimp only
    rw [if_neg (show ¬ nI (fit F (j + 1) r) = nI r from fun z => hL.2.2 (j + 1) (by omega) (by omega) (nI_inj (by omega) (by omega) z)), gd_nI (by omega) (by decide), gd_nI (by omega) (by decide), nI_clamp (by omega), hbe _ hl (fit_B hB hF hr hb (j + 1)), ← fit_s F (j + 1) r]
    have e4 : lst F r (j + 1) = if lst F r j ≤ fit F (j + 1) r then lst F r j else fit F (j + 1) r := rfl
    rw [e4]
    by_cases hc : lst F r j ≤ fit F (j + 1) r
    · rw [if_pos hc, if_pos (nI_le hc (by omega))]
    · rw [if_neg hc, if_neg (nI_ge (by omega) (by omega))]
  · unfold f_X4_leastOf_b9
    dsimp only
    have e1 : fit F (L - 1 + 1) r = r := by rw [show L - 1 + 1 = L by omega]; exact hL.2.1
    rw [e1, if_pos rfl]
theorem y_isOn (hM : M ≤ 1024) (hF : ∀ s, s < M → F s < M) (hB : ∀ s, s < M → Bp s → Bp (F s)) (hbe : ∀ s, s < M → Bp s → mbe μ s = nI (F s)) {r L s : Nat} (hr : r < M) (hb : Bp r) (hL : isLen F r L) (hs : s < M) : ∃ v, f_X4_isOn μ (nI s) (nI r) = some v ∧ ((v = 1 ∧ ∃ j, fit F j r = s) ∨ (v = 0 ∧ ∀ j, fit F j r ≠ s)) := by
  have hLM := isLen_le hF hr hL
  have hL0 := hL.1
  have hfl := fun j => fit_lt hF hr j
  have key : ∀ v0 : Int32, ((v0 = 1 ∧ s = r) ∨ (v0 = 0 ∧ s ≠ r)) → ∃ v, f_X4_isOn_j10 (nI r) μ (nI s) v0 = some v ∧ ((v = 1 ∧ ∃ j, fit F j r = s) ∨ (v = 0 ∧ ∀ j, fit F j r ≠ s)) := by
    intro v0 hv0
    unfold f_X4_isOn_j10
    rw [gd_nI (by omega) (by decide), nI_clamp (by omega), hbe r hr hb]
    have L1 : ∃ x, itr (f_X4_isOn_b19 μ (nI r) (nI s)) FU (v0, nI (F r)) = some x ∧ ((x = 1 ∧ ∃ j, fit F j r = s) ∨ (x = 0 ∧ ∀ j, fit F j r ≠ s)) := by
      refine itr_cut (fun i st => st.2 = nI (fit F (i + 1) r) ∧ ((st.1 = 1 ∧ ∃ j, fit F j r = s) ∨ (st.1 = 0 ∧ ∀ j, j ≤ i → fit F j r ≠ s))) _ (L - 1) (by omega) ⟨rfl, ?_⟩ ?_
      · rcases hv0 with ⟨a, b⟩ | ⟨a, b⟩
        · exact Or.inl ⟨a, 0, b.symm⟩
        · exact Or.inr ⟨a, fun j hj => by rw [show j = 0 by omega]; exact fun z => b z.symm⟩
      · rintro i ⟨x1, x2⟩ hi ⟨h1, h2⟩
        dsimp only at h1 h2
        subst h1
        unfold f_X4_isOn_b19
        dsimp only
        have hl := hfl (i + 1)
        by_cases he : fit F (i + 1) r = r
        · rw [he, if_pos rfl]
          refine Or.inr ⟨x1, rfl, ?_⟩
          rcases h2 with h2 | ⟨h2, h3⟩
          · exact Or.inl h2
          · refine Or.inr ⟨h2, fun j z => ?_⟩
            have hLi : L ≤ i + 1 := by
              rcases Nat.lt_or_ge (i + 1) L with h | h
              · exact absurd he (hL.2.2 (i + 1) (by omega) h)
              · exact h
            rw [isLen_mod hL j] at z
            have := Nat.mod_lt j hL0
            exact h3 (j % L) (by omega) z
        · have hiL : i + 1 < L := by
            rcases Nat.lt_or_ge (i + 1) L with h | h
            · exact h
            · have hiL : i + 1 = L := Nat.le_antisymm (Nat.add_le_of_le_sub hL0 hi) h
              rw [hiL] at he
              exact absurd hL.2.1 he
          rw [if_neg (show ¬ nI (fit F (i + 1) r) = nI r from fun z => he (nI_inj (by omega) (by omega) z))]
          rcases h2 with ⟨h2, h3⟩ | ⟨h2, h3⟩
          · rw [if_neg (by rw [h2]; decide)]
            exact Or.inr ⟨x1, rfl, Or.inl ⟨h2, h3⟩⟩
          · rw [if_pos h2, gd_nI (by omega) (by decide), gd_nI (by omega) (by decide), nI_clamp (by omega), hbe _ hl (fit_B hB hF hr hb (i + 1)), ← fit_s F (i + 1) r]
            by_cases hes : fit F (i + 1) r = s
            · rw [if_pos (by rw [hes])]
              exact Or.inl ⟨_, rfl, by omega, rfl, Or.inl ⟨rfl, i + 1, hes⟩⟩
            · rw [if_neg (show ¬ nI (fit F (i + 1) r) = nI s from fun z => hes (nI_inj (by omega) (by omega) z))]
              refine Or.inl ⟨_, rfl, by omega, rfl, Or.inr ⟨rfl, fun j hj => ?_⟩⟩
              rcases Nat.lt_or_ge j (i + 1) with h | h
              · exact h3 j (by omega)
              · rw [show j = i + 1 by omega]; exact hes
    obtain ⟨x, hx, hq⟩ := L1
    refine ⟨x, ?_, hq⟩
    rw [hx, Option.bind_some]
    exact bz_in (by rcases hq with ⟨h, -⟩ | ⟨h, -⟩ <;> rw [h] <;> simp)
  unfold f_X4_isOn
  by_cases hsr : s = r
  · subst hsr
    rw [if_pos rfl]
    exact key 1 (Or.inl ⟨rfl, rfl⟩)
  · rw [if_neg (show ¬ nI s = nI r from fun z => hsr (nI_inj (by omega) (by omega) z))]
    exact key 0 (Or.inr ⟨rfl, hsr⟩)
theorem y_goesLoop (hM : M ≤ 1024) (hF : ∀ s, s < M → F s < M) (hB : ∀ s, s < M → Bp s → Bp (F s)) (hbe : ∀ s, s < M → Bp s → mbe μ s = nI (F s)) {s0 k : Nat} (hs : s0 < M) (hb : Bp s0) (hk : k ≤ M) (ht : isTail F s0 k) : itr (f_X4_goes_b42 μ (nI (fit F M s0))) FU ((0 : Int32), nI s0) = some (nI k, nI (fit F k s0)) := by
  have hon := onR_at hF hs
  obtain ⟨L, hL⟩ := isLen_ex hon
  have hbr := fit_B hB hF hs hb M
  have hlr := fit_lt hF hs M
  refine itr_run (fun j => (nI j, nI (fit F j s0))) k rfl (by omega) (fun j hj => ?_) ?_
  · have hl := fit_lt hF hs j
    obtain ⟨v, h1, h2⟩ := y_isOn hM hF hB hbe hlr hbr hL hl
    unfold f_X4_goes_b42
    dsimp only
    rw [h1, Option.bind_some]
    rcases h2 with ⟨-, j2, h3⟩ | ⟨h2, -⟩
    · exact absurd (by rw [← h3]; exact onR_fit hon j2) (ht.2 j hj)
    · rw [if_pos h2, gd_nI (by omega) (by decide), nI_clamp (by omega), hbe _ hl (fit_B hB hF hs hb j), nI_p1, ← fit_s F j s0]
  · have hl := fit_lt hF hs k
    obtain ⟨v, h1, h2⟩ := y_isOn hM hF hB hbe hlr hbr hL hl
    unfold f_X4_goes_b42
    dsimp only
    rw [h1, Option.bind_some]
    rcases h2 with ⟨h2, -⟩ | ⟨-, h2⟩
    · rw [if_neg (by rw [h2]; decide)]
    · obtain ⟨j, hj⟩ := onR_back ht.1 (M - k)
      rw [← fit_add F k (M - k) s0, show k + (M - k) = M by omega] at hj
      exact absurd hj (h2 j)
end RG
