/-! what is asked of the survey: both sides -/
theorem cnt_s (P : Nat → Bool) (n : Nat) : cnt P (n + 1) = cnt P n + if P n then 1 else 0 := rfl
theorem cnt_up {P : Nat → Bool} {a b : Nat} (h : a ≤ b) : cnt P a ≤ cnt P b := by
  induction b with
  | zero => rw [show a = 0 by omega]; exact Nat.le_refl _
  | succ b ih =>
    rcases Nat.lt_or_ge a (b + 1) with h1 | h1
    · have := ih (by omega)
      rw [cnt_s]; omega
    · rw [show a = b + 1 by omega]; exact Nat.le_refl _
theorem cnt_inj {P : Nat → Bool} {a b : Nat} (ha : P a = true) (hb : P b = true) (h : cnt P a = cnt P b) : a = b := by
  rcases Nat.lt_trichotomy a b with h1 | h1 | h1
  · have := cnt_up (P := P) (a := a + 1) (b := b) h1
    rw [cnt_s, ha] at this
    simp at this; omega
  · exact h1
  · have := cnt_up (P := P) (a := b + 1) (b := a) h1
    rw [cnt_s, hb] at this
    simp at this; omega
theorem isLen_fit {F : Nat → Nat} {r L : Nat} (h : isLen F r L) (j : Nat) : isLen F (fit F j r) L := by
  refine ⟨h.1, ?_, fun i h1 h2 z => ?_⟩
  · rw [← fit_add, Nat.add_comm, fit_add, h.2.1]
  · have hr : onR F r := ⟨L, h.1, h.2.1⟩
    obtain ⟨q, hq⟩ := onR_back hr j
    have z2 : fit F q (fit F i (fit F j r)) = fit F q (fit F j r) := by rw [z]
    rw [hq, ← fit_add, Nat.add_comm, fit_add, hq] at z2
    exact h.2.2 i h1 h2 z2
section AS
variable {σ : GS} {μ : MS} {M : Nat} {F : Nat → Nat} {Bp : Nat → Prop}
def pE (e : Nat → Int32) (s : Nat) : Bool := decide (e s = nI s)
theorem x_howManyEnds (hst : f_X1_states σ = some (nI M)) (hM : M ≤ 1024) : f_X2_howManyEnds σ = some (nI (cnt (pE (gen σ)) M)) := by
  unfold f_X2_howManyEnds
  refine itr_bind (itr_run (fun j => (nI (cnt (pE (gen σ)) j), nI j)) M rfl (by omega) (fun j hj => ?_) ?_) rfl
  · unfold f_X2_howManyEnds_b4
    dsimp only
    rw [hst, Option.bind_some, if_neg (nI_ge hj (by omega)), gd_nI (by omega) (by decide), nI_clamp (by omega), nI_p1, nI_p1, cnt_s]
    unfold pE
    by_cases h : gen σ j = nI j
    · rw [if_pos h]; simp [h]
    · rw [if_neg h]; simp [h]
  · unfold f_X2_howManyEnds_b4
    dsimp only
    rw [hst, Option.bind_some, if_pos (nI_le (Nat.le_refl _) (by omega))]
theorem x_endAt (hst : f_X1_states σ = some (nI M)) (hM : M ≤ 1024) (x : Int32) : (∃ s, s < M ∧ gen σ s = nI s ∧ x = nI (cnt (pE (gen σ)) s) ∧ f_X2_endAt σ x = some (nI s)) ∨ ((∀ s, s < M → gen σ s = nI s → x ≠ nI (cnt (pE (gen σ)) s)) ∧ f_X2_endAt σ x = some (-6)) := by
  have L1 : ∃ v, itr (f_X2_endAt_b4 σ x) FU ((0 : Int32), (0 : Int32)) = some v ∧ ((∃ s, s < M ∧ gen σ s = nI s ∧ x = nI (cnt (pE (gen σ)) s) ∧ v = .inl (nI s)) ∨ ((∀ s, s < M → gen σ s = nI s → x ≠ nI (cnt (pE (gen σ)) s)) ∧ v = .inr ())) := by
    refine itr_cut (fun j st => st = (nI (cnt (pE (gen σ)) j), nI j) ∧ ∀ s, s < j → gen σ s = nI s → x ≠ nI (cnt (pE (gen σ)) s)) _ M (by omega) ⟨rfl, fun s hs => by omega⟩ ?_
    rintro j st hj ⟨rfl, hno⟩
    unfold f_X2_endAt_b4
    dsimp only
    rw [hst, Option.bind_some]
    by_cases hjM : j = M
    · subst hjM
      rw [if_pos (nI_le (Nat.le_refl _) (by omega))]
      exact Or.inr ⟨_, rfl, Or.inr ⟨hno, rfl⟩⟩
    · rw [if_neg (nI_ge (by omega) (by omega)), gd_nI (by omega) (by decide), nI_clamp (by omega), nI_p1, nI_p1]
      by_cases h : gen σ j = nI j
      · rw [if_pos h]
        by_cases hx : nI (cnt (pE (gen σ)) j) = x
        · rw [if_pos hx]
          exact Or.inr ⟨_, rfl, Or.inl ⟨j, by omega, h, hx.symm, rfl⟩⟩
        · rw [if_neg hx]
          refine Or.inl ⟨_, rfl, by omega, ?_, fun s hs hes => ?_⟩
          · rw [cnt_s]; unfold pE; simp [h]
          · by_cases hsj : s = j
            · subst hsj; exact fun z => hx z.symm
            · exact hno s (by omega) hes
      · rw [if_neg h]
        refine Or.inl ⟨_, rfl, by omega, ?_, fun s hs hes => ?_⟩
        · rw [cnt_s]; unfold pE; simp [h]
        · by_cases hsj : s = j
          · subst hsj; exact absurd hes h
          · exact hno s (by omega) hes
  obtain ⟨v, hv, hq⟩ := L1
  unfold f_X2_endAt
  rw [hv, Option.bind_some]
  rcases hq with ⟨s, a, b, c, rfl⟩ | ⟨a, rfl⟩
  · exact Or.inl ⟨s, a, b, c, rfl⟩
  · exact Or.inr ⟨a, rfl⟩
theorem y_endAt (hst : f_X4_states μ = some (nI M)) (hM : M ≤ 1024) (x : Int32) : (∃ s, s < M ∧ men μ s = nI s ∧ x = nI (cnt (pE (men μ)) s) ∧ f_X4_endAt μ x = some (nI s)) ∨ ((∀ s, s < M → men μ s = nI s → x ≠ nI (cnt (pE (men μ)) s)) ∧ f_X4_endAt μ x = some (if x = -1 then nI (cnt (pE (men μ)) M) else -6)) := by
  have L1 : ∃ v, itr (f_X4_endAt_b4 μ x) FU ((0 : Int32), (0 : Int32)) = some v ∧ ((∃ s, s < M ∧ men μ s = nI s ∧ x = nI (cnt (pE (men μ)) s) ∧ v = .inl (nI s)) ∨ ((∀ s, s < M → men μ s = nI s → x ≠ nI (cnt (pE (men μ)) s)) ∧ v = .inr (nI (cnt (pE (men μ)) M)))) := by
    refine itr_cut (fun j st => st = (nI (cnt (pE (men μ)) j), nI j) ∧ ∀ s, s < j → men μ s = nI s → x ≠ nI (cnt (pE (men μ)) s)) _ M (by omega) ⟨rfl, fun s hs => by omega⟩ ?_
    rintro j st hj ⟨rfl, hno⟩
    unfold f_X4_endAt_b4
    dsimp only
    rw [hst, Option.bind_some]
    by_cases hjM : j = M
    · subst hjM
      rw [if_pos (nI_le (Nat.le_refl _) (by omega))]
      exact Or.inr ⟨_, rfl, Or.inr ⟨hno, rfl⟩⟩
    · rw [if_neg (nI_ge (by omega) (by omega)), gd_nI (by omega) (by decide), nI_clamp (by omega), nI_p1, nI_p1]
      by_cases h : men μ j = nI j
      · rw [if_pos h]
        by_cases hx : nI (cnt (pE (men μ)) j) = x
        · rw [if_pos hx]
          exact Or.inr ⟨_, rfl, Or.inl ⟨j, by omega, h, hx.symm, rfl⟩⟩
        · rw [if_neg hx]
          refine Or.inl ⟨_, rfl, by omega, ?_, fun s hs hes => ?_⟩
          · rw [cnt_s]; unfold pE; simp [h]
          · by_cases hsj : s = j
            · subst hsj; exact fun z => hx z.symm
            · exact hno s (by omega) hes
      · rw [if_neg h]
        refine Or.inl ⟨_, rfl, by omega, ?_, fun s hs hes => ?_⟩
        · rw [cnt_s]; unfold pE; simp [h]
        · by_cases hsj : s = j
          · subst hsj; exact absurd hes h
          · exact hno s (by omega) hes
  obtain ⟨v, hv, hq⟩ := L1
  unfold f_X4_endAt
  rw [hv, Option.bind_some]
  rcases hq with ⟨s, a, b, c, rfl⟩ | ⟨a, rfl⟩
  · exact Or.inl ⟨s, a, b, c, rfl⟩
  · refine Or.inr ⟨a, ?_⟩
    dsimp only
    split <;> rfl
theorem x_howManyComeTo (hst : f_X1_states σ = some (nI M)) (hM : M ≤ 1024) (x : Int32) : f_X2_howManyComeTo σ x = some (nI (cnt (fun s => decide (gen σ s = x)) M)) := by
  unfold f_X2_howManyComeTo
  refine itr_bind (itr_run (fun j => (nI (cnt (fun s => decide (gen σ s = x)) j), nI j)) M rfl (by omega) (fun j hj => ?_) ?_) rfl
  · unfold f_X2_howManyComeTo_b4
    dsimp only
    rw [hst, Option.bind_some, if_neg (nI_ge hj (by omega)), gd_nI (by omega) (by decide), nI_clamp (by omega), nI_p1, nI_p1, cnt_s]
    by_cases h : gen σ j = x
    · rw [if_pos h]; simp [h]
    · rw [if_neg h]; simp [h]
  · unfold f_X2_howManyComeTo_b4
    dsimp only
    rw [hst, Option.bind_some, if_pos (nI_le (Nat.le_refl _) (by omega))]
theorem x_ringLength (hst : f_X1_states σ = some (nI M)) (hM : M ≤ 1024) (x : Int32) : f_X2_ringLength σ x = some (nI (cnt (fun s => decide (gen σ s = x) && decide (gta σ s = 0)) M)) := by
  unfold f_X2_ringLength
  refine itr_bind (itr_run (fun j => (nI (cnt (fun s => decide (gen σ s = x) && decide (gta σ s = 0)) j), nI j)) M rfl (by omega) (fun j hj => ?_) ?_) rfl
  · unfold f_X2_ringLength_b4
    dsimp only
    rw [hst, Option.bind_some, if_neg (nI_ge hj (by omega)), gd_nI (by omega) (by decide), gd_nI (by omega) (by decide), nI_clamp (by omega), nI_p1, nI_p1, cnt_s]
    by_cases h : gen σ j = x
    · rw [if_pos h]
      by_cases h2 : gta σ j = 0
      · rw [if_pos h2]; simp [h, h2]
      · rw [if_neg h2]; simp [h2]
    · rw [if_neg h]; simp [h]
  · unfold f_X2_ringLength_b4
    dsimp only
    rw [hst, Option.bind_some, if_pos (nI_le (Nat.le_refl _) (by omega))]
def mxT (e t : Nat → Int32) (x : Int32) : Nat → Int32
  | 0 => 0
  | j + 1 => if e j = x then (if mxT e t x j < t j then t j else mxT e t x j) else mxT e t x j
theorem x_greatestTail (hst : f_X1_states σ = some (nI M)) (hM : M ≤ 1024) (x : Int32) : f_X2_greatestTail σ x = some (mxT (gen σ) (gta σ) x M) := by
  unfold f_X2_greatestTail
  refine itr_bind (itr_run (fun j => (mxT (gen σ) (gta σ) x j, nI j)) M rfl (by omega) (fun j hj => ?_) ?_) rfl
  · unfold f_X2_greatestTail_b4
    dsimp only
    rw [hst, Option.bind_some, if_neg (nI_ge hj (by omega)), gd_nI (by omega) (by decide), gd_nI (by omega) (by decide), nI_clamp (by omega), nI_p1]
    have e : mxT (gen σ) (gta σ) x (j + 1) = if gen σ j = x then (if mxT (gen σ) (gta σ) x j < gta σ j then gta σ j else mxT (gen σ) (gta σ) x j) else mxT (gen σ) (gta σ) x j := rfl
    rw [e]
    split <;> rfl
  · unfold f_X2_greatestTail_b4
    dsimp only
    rw [hst, Option.bind_some, if_pos (nI_le (Nat.le_refl _) (by omega))]
theorem y_basinLoop (hst : f_X4_states μ = some (nI M)) (hM : M ≤ 1024) (x : Int32) : itr (f_X4_basin_b57 μ x) FU ((0 : Int32), (0 : Int32), (0 : Int32)) = some (nI (cnt (fun s => decide (men μ s = x)) M), mxT (men μ) (mta μ) x M) := by
  refine itr_run (fun j => (nI (cnt (fun s => decide (men μ s = x)) j), mxT (men μ) (mta μ) x j, nI j)) M rfl (by omega) (fun j hj => ?_) ?_
  · unfold f_X4_basin_b57
    dsimp only
    rw [hst, Option.bind_some, if_neg (nI_ge hj (by omega)), gd_nI (by omega) (by decide), gd_nI (by omega) (by decide), gd_nI (by omega) (by decide), nI_clamp (by omega), nI_p1, nI_p1, cnt_s]
    have e : mxT (men μ) (mta μ) x (j + 1) = if men μ j = x then (if mxT (men μ) (mta μ) x j < mta μ j then mta μ j else mxT (men μ) (mta μ) x j) else mxT (men μ) (mta μ) x j := rfl
    rw [e]
    by_cases h : men μ j = x
    · rw [if_pos h, if_pos h]
      by_cases h2 : mxT (men μ) (mta μ) x j < mta μ j
      · rw [if_pos h2, if_neg (by rw [fa_le]; rw [fa_lt] at h2; omega)]; simp [h]
      · rw [if_neg h2, if_pos (by rw [fa_le]; rw [fa_lt] at h2; omega)]; simp [h]
    · rw [if_neg h, if_neg h]; simp [h]
  · unfold f_X4_basin_b57
    dsimp only
    rw [hst, Option.bind_some, if_pos (nI_le (Nat.le_refl _) (by omega))]
theorem x_firstOfRing (hM : M ≤ 1024) (hF : ∀ s, s < M → F s < M) (hbe : ∀ s, s < M → gbe σ s = nI (F s)) {s k : Nat} (hs : s < M) (hk : k ≤ M) (ht : gta σ s = nI k) : f_X2_firstOfRing σ (nI s) = some (nI (fit F k s)) := by
  unfold f_X2_firstOfRing
  rw [gd_nI (by omega) (by decide)]
  refine itr_bind (itr_run (fun j => (nI (fit F j s), nI j)) k rfl (by omega) (fun j hj => ?_) ?_) rfl
  · have hl := fit_lt hF hs j
    unfold f_X2_firstOfRing_b12
    dsimp only
    rw [nI_clamp (by omega), ht, if_neg (nI_ge hj (by omega)), gd_nI (by omega) (by decide), nI_clamp (by omega), hbe _ hl, nI_p1, ← fit_s F j s]
  · unfold f_X2_firstOfRing_b12
    dsimp only
    rw [nI_clamp (by omega), ht, if_pos (nI_le (Nat.le_refl _) (by omega))]
/-- the length of a ring, counted -/
theorem ring_cnt (hM : M ≤ 1024) (hF : ∀ s, s < M → F s < M) (hB : ∀ s, s < M → Bp s → Bp (F s)) {e t : Nat → Int32} (hy : ∀ s, s < M → Bp s → dn M F e t s) (hn : ∀ s, s < M → ¬ Bp s → e s = -1) {r L : Nat} (hr : r < M) (hb : Bp r) (hE : isEnd F r r) (hL : isLen F r L) : cnt (fun s => decide (e s = nI r) && decide (t s = 0)) M = L := by
  refine cnt_enum (g := fun i => fit F i r) (fun i _ => fit_lt hF hr i) (isLen_inj hL) (fun s hs => ?_)
  simp only [Bool.and_eq_true, decide_eq_true_eq]
  constructor
  · rintro ⟨h1, h2⟩
    by_cases hbs : Bp s
    · obtain ⟨m, k, hm, hk, em, ek, hEs, hTs⟩ := hy s hs hbs
      have e1 : m = r := nI_inj (by omega) (by omega) (em.symm.trans h1)
      have e2 : k = 0 := nI_inj (b := 0) (by omega) (by decide) (ek.symm.trans h2)
      subst e1; subst e2
      have hon := isTail_on hTs
      obtain ⟨k2, hk2⟩ := hEs.2.1
      obtain ⟨j, hj⟩ := onR_back hon k2
      rw [hk2, isLen_mod hL j] at hj
      exact ⟨j % L, Nat.mod_lt _ hL.1, hj⟩
    · rw [hn s hs hbs] at h1
      exact absurd h1.symm (nI_ne_neg (by omega) (by decide))
  · rintro ⟨i, hi, rfl⟩
    obtain ⟨m, k, hm, hk, em, ek, hEs, hTs⟩ := hy _ hs (fit_B hB hF hr hb i)
    have e1 : m = r := isEnd_uq hEs (isEnd_fit hE i)
    have e2 : k = 0 := isTail_uq hTs (isTail_0 (onR_fit ⟨L, hL.1, hL.2.1⟩ i))
    subst e1; subst e2
    exact ⟨em, ek⟩
theorem two_eq {e t e' t' : Nat → Int32} {s : Nat} (h : dn M F e t s) (h' : dn M F e' t' s) : e s = e' s ∧ t s = t' s := by
  obtain ⟨m, k, -, -, a, b, c, d⟩ := h
  obtain ⟨m', k', -, -, a', b', c', d'⟩ := h'
  rw [a, b, a', b', isEnd_uq c c', isTail_uq d d']
  exact ⟨rfl, rfl⟩
end AS
