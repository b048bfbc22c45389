/-! rests, restMany -/
def okb (N : Nat) (we pa : Nat → Int32) (hd s : Int32) (p : Nat) : Bool := bt hd p || !decide (Wg N we pa s p (bN s p) < Wg N we pa s p (1 - bN s p))
def rst (ok : Nat → Bool) : Nat → Nat
  | 0 => 1
  | i + 1 => if rst ok i = 0 then 0 else if ok i then 1 else 0
theorem rst_iff (ok : Nat → Bool) : ∀ n, (rst ok n = 1 ↔ ∀ p, p < n → ok p = true) ∧ rst ok n ≤ 1 := by
  intro n
  induction n with
  | zero => exact ⟨⟨fun _ p hp => by omega, fun _ => rfl⟩, Nat.le_refl 1⟩
  | succ n ih =>
    obtain ⟨h1, h2⟩ := ih
    unfold rst
    by_cases h0 : rst ok n = 0
    · rw [if_pos h0]
      refine ⟨⟨fun z => by omega, fun z => ?_⟩, by omega⟩
      have := h1.mpr (fun p hp => z p (by omega))
      omega
    · rw [if_neg h0]
      have h3 := h1.mp (by omega)
      cases ho : ok n
      · refine ⟨⟨fun z => ?_, fun z => ?_⟩, by simp⟩
        · simp at z
        · have := z n (by omega)
          rw [ho] at this; exact absurd this (by decide)
      · refine ⟨⟨fun _ p hp => ?_, fun _ => by simp⟩, by simp⟩
        by_cases hpn : p = n
        · subst hpn; exact ho
        · exact h3 p (by omega)
theorem rest_iff {N : Nat} (h10 : N ≤ 10) (we pa : Nat → Int32) (br hd : Int32) {k : Nat} (hk : k < 2 ^ N) : nxN N we pa br 0 hd k = k ↔ ∀ p, p < N → okb N we pa hd (nI k) p = true := by
  have hpw := pw10 h10
  have e1 : nxN N we pa br 0 hd k = k ↔ mnx N we pa br 0 hd (nI k) N = nI k := by
    obtain ⟨a, b⟩ := nxN_ok h10 we pa br 0 hd hk
    rw [b]
    exact ⟨fun z => by rw [z], fun z => nI_inj (by omega) (by omega) z⟩
  rw [e1]
  have hw : ∀ p, way N we pa br 0 (nI k) p = wayR N we pa (nI k) p := fun p => rfl
  constructor
  · intro h p hp
    have h1 := bt_mnx (N := N) (we := we) (pa := pa) (br := br) (r := 0) (by decide) (h := hd) (s := nI k) (i := p) (by omega) (p := N) (by omega)
    rw [h, hw] at h1
    unfold okb
    cases hh : bt hd p
    · rw [if_pos ⟨hp, hh⟩] at h1
      by_cases hg : Wg N we pa (nI k) p (bN (nI k) p) < Wg N we pa (nI k) p (1 - bN (nI k) p)
      · unfold wayR at h1
        rw [if_pos hg] at h1
        cases hb : bt (nI k) p
        · rw [hb, bN_zero.mpr hb] at h1; simp at h1
        · rw [hb, bN_one.mpr hb] at h1; simp at h1
      · simp [hg]
    · simp
  · intro h
    apply b_ext
    intro i hi
    rw [bt_mnx (by decide) hi (by omega)]
    by_cases hc : i < N ∧ bt hd i = false
    · rw [if_pos hc, hw]
      have h1 := h i hc.1
      unfold okb at h1
      rw [hc.2] at h1
      simp only [Bool.false_or, Bool.not_eq_true', decide_eq_false_iff_not] at h1
      unfold wayR
      rw [if_neg h1]
      cases hb : bt (nI k) i
      · rw [bN_zero.mpr hb]; rfl
      · rw [bN_one.mpr hb]; rfl
    · rw [if_neg hc]
theorem y_restsIn {N : Nat} {σ : GS} {μ : MS} (h : RelN N σ μ) {k : Nat} (hk : k < 2 ^ N) : f_X4_restsIn μ (nI k) = some (if nxN N (gwe σ) (gpa σ) (gbr σ) 0 (ghd σ) k = k then 1 else 0) := by
  obtain ⟨a1, a2, a3, a4⟩ := h.pl
  have hmh : mhd μ = ghd σ := h.2.1.2.2.1
  have hmw : mwe μ = gwe σ := h.2.1.2.2.2.2.1
  have hmp : mpa μ = gpa σ := h.2.1.2.2.2.2.2
  generalize hok : okb N (gwe σ) (gpa σ) (ghd σ) (nI k) = ok
  obtain ⟨r1, r2⟩ := rst_iff ok N
  have L : itr (f_X4_restsIn_b4 μ (nI k)) FU ((1 : Int32), (0 : Int32)) = some (nI (rst ok N)) := by
    refine itr_run (fun i => (nI (rst ok i), nI i)) N rfl (by omega) (fun i hi => ?_) ?_
    · unfold f_X4_restsIn_b4
      dsimp only
      have e0 : ((mhd μ >>> (nI i &&& 31)) &&& (1 : Int32)) = bI (ghd σ) i := by rw [hmh]; rfl
      rw [a2, if_neg (nI_ge hi (by omega)), nI_p1, e0, y_gains a2 a4 (by omega) (nI k), Option.bind_some, hmw, hmp]
      have e : rst ok (i + 1) = if rst ok i = 0 then 0 else if ok i then 1 else 0 := rfl
      rw [e]
      by_cases h0 : rst ok i = 0
      · rw [h0, if_pos rfl, if_pos (by rfl)]; rfl
      · have hle := (rst_iff ok i).2
        have h1 : rst ok i = 1 := by omega
        rw [h1, if_neg (show ¬ (1 : Nat) = 0 by omega), if_neg (show ¬ nI 1 = (0 : Int32) by decide)]
        have hoki : ok i = (bt (ghd σ) i || !decide (Wg N (gwe σ) (gpa σ) (nI k) i (bN (nI k) i) < Wg N (gwe σ) (gpa σ) (nI k) i (1 - bN (nI k) i))) := by rw [← hok]; rfl
        rw [hoki, bI_bt (ghd σ) (by omega)]
        cases hb : bt (ghd σ) i
        · rw [if_neg (show ¬ (if false = true then (1 : Int32) else 0) = 1 by decide)]
          by_cases hg : Wg N (gwe σ) (gpa σ) (nI k) i (bN (nI k) i) < Wg N (gwe σ) (gpa σ) (nI k) i (1 - bN (nI k) i)
          · rw [if_pos hg, if_neg one_ne]; simp [hg]; rfl
          · rw [if_neg hg, if_pos rfl]; simp [hg]; rfl
        · simp; rfl
    · unfold f_X4_restsIn_b4
      dsimp only
      rw [a2, if_pos (nI_le (Nat.le_refl _) (by omega))]
  unfold f_X4_restsIn
  rw [L, Option.bind_some]
  have hiff := rest_iff a4 (gwe σ) (gpa σ) (gbr σ) (ghd σ) hk
  rw [hok, ← r1] at hiff
  by_cases hc : nxN N (gwe σ) (gpa σ) (gbr σ) 0 (ghd σ) k = k
  · rw [if_pos hc, hiff.mp hc]
    exact bz_in (Or.inr rfl)
  · have : rst ok N = 0 := by
      have : ¬ rst ok N = 1 := fun z => hc (hiff.mpr z)
      omega
    rw [if_neg hc, this]
    exact bz_in (Or.inl rfl)
theorem x_isAtRest {N : Nat} {σ : GS} {μ : MS} (h : RelN N σ μ) {k : Nat} (hk : k < 2 ^ N) : ∃ σ', f_X3_isAtRest σ (nI k) = some (if nxN N (gwe σ) (gpa σ) (gbr σ) 0 (ghd σ) k = k then 1 else 0, σ') ∧ RelN N σ' μ ∧ Kp σ σ' := by
  obtain ⟨a1, a2, a3, a4⟩ := h.pl
  have hpw := pw10 a4
  obtain ⟨σ', k1, k2, k3, k4⟩ := next_h h (r := 0) (by omega) hk (ghd σ)
  refine ⟨σ', ?_, k3, k4⟩
  unfold f_X3_isAtRest
  have k1' : f_X0_next σ (0 : Int32) (ghd σ) (nI k) = some (nI (nxN N (gwe σ) (gpa σ) (gbr σ) 0 (ghd σ) k), σ') := k1
  rw [k1', Option.bind_some]
  dsimp only
  have hl := (nxN_ok a4 (gwe σ) (gpa σ) (gbr σ) 0 (ghd σ) hk).1
  by_cases hc : nxN N (gwe σ) (gpa σ) (gbr σ) 0 (ghd σ) k = k
  · rw [hc, if_pos rfl, if_pos rfl]
  · rw [if_neg (show ¬ nI _ = nI k from fun z => hc (nI_inj (by omega) (by omega) z)), if_neg hc]
theorem q_rests (σ : GS) (μ : MS) (h : Rel σ μ) : ∃ r σ1, f_X3_rests σ = some (r, σ1) ∧ f_X4_rests μ = some r ∧ Rel σ1 μ := by
  obtain ⟨N, hR⟩ := id h
  obtain ⟨t, ht, et⟩ := hR.1.2.2.2.2.2
  have hmn : mnw μ = nI t := hR.2.1.2.2.2.1.trans et
  obtain ⟨σ', k1, k2, -⟩ := x_isAtRest hR ht
  unfold f_X3_rests f_X4_rests
  rw [et, k1, Option.bind_some, hmn, y_restsIn hR ht, Option.bind_some]
  dsimp only
  split
  · rw [if_neg one_ne, if_neg one_ne]
    exact ⟨_, σ', rfl, rfl, N, k2⟩
  · rw [if_pos rfl, if_pos rfl]
    exact ⟨_, σ', rfl, rfl, N, k2⟩
theorem q_restMany (σ : GS) (μ : MS) (h : Rel σ μ) : ∃ r σ1, f_X3_restMany σ = some (r, σ1) ∧ f_X4_restMany μ = some r ∧ Rel σ1 μ := by
  obtain ⟨N, hR⟩ := id h
  obtain ⟨a1, a2, a3, a4⟩ := hR.pl
  have hpw := pw10 a4
  have hmh : mhd μ = ghd σ := hR.2.1.2.2.1
  have hmn : mnw μ = gnw σ := hR.2.1.2.2.2.1
  generalize hP : (fun s => bgB σ s && decide (nxN N (gwe σ) (gpa σ) (gbr σ) 0 (ghd σ) s = s)) = P
  have hPs : ∀ s, P s = (bgB σ s && decide (nxN N (gwe σ) (gpa σ) (gbr σ) 0 (ghd σ) s = s)) := fun s => by rw [← hP]
  have L1 : ∃ v, itr f_X3_restMany_b4 FU ((0 : Int32), (0 : Int32), σ) = some v ∧ ∃ x, v = (nI (cnt P (2 ^ N)), x) ∧ RelN N x μ := by
    refine itr_inv (fun j st => ∃ x, st = (nI (cnt P j), nI j, x) ∧ RelN N x μ ∧ Kp σ x) _ (2 ^ N) (by omega) ⟨σ, rfl, hR, Kp.refl σ⟩ ?_ ?_
    · rintro j st hj ⟨x, rfl, hx, hk⟩
      obtain ⟨b1, b2, b3, b4, b5⟩ := kp_beg hk
      unfold f_X3_restMany_b4
      dsimp only
      rw [x_states hx.pl.1 a4, Option.bind_some, if_neg (nI_ge hj (by omega)), x_isBegG, Option.bind_some, nI_p1, nI_p1, b1, b2]
      by_cases hb : nI j &&& ghd σ = gnw σ &&& ghd σ
      · rw [if_pos hb, if_neg one_ne]
        obtain ⟨σ', k1, k2, k3⟩ := x_isAtRest hx hj
        rw [k1, Option.bind_some, b1, b3, b4, b5]
        dsimp only
        by_cases hc : nxN N (gwe σ) (gpa σ) (gbr σ) 0 (ghd σ) j = j
        · have hPj : P j = true := by rw [hPs]; unfold bgB; simp [hb, hc]
          rw [if_pos hc, if_neg one_ne]
          exact ⟨_, rfl, σ', by rw [cnt_s, hPj]; rfl, k2, hk.trans k3⟩
        · have hPj : P j = false := by rw [hPs]; simp [hc]
          rw [if_neg hc, if_pos rfl]
          exact ⟨_, rfl, σ', by rw [cnt_s, hPj]; rfl, k2, hk.trans k3⟩
      · have hPj : P j = false := by rw [hPs]; unfold bgB; simp [hb]
        rw [if_neg hb, if_pos rfl]
        exact ⟨_, rfl, x, by rw [cnt_s, hPj]; rfl, hx, hk⟩
    · rintro st ⟨x, rfl, hx, hk⟩
      unfold f_X3_restMany_b4
      dsimp only
      rw [x_states hx.pl.1 a4, Option.bind_some, if_pos (nI_le (Nat.le_refl _) (by omega))]
      exact ⟨_, rfl, x, rfl, hx⟩
  have L2 : itr (f_X4_restMany_b4 μ) FU ((0 : Int32), (0 : Int32)) = some (nI (cnt P (2 ^ N))) := by
    refine itr_run (fun j => (nI (cnt P j), nI j)) (2 ^ N) rfl (by omega) (fun j hj => ?_) ?_
    · unfold f_X4_restMany_b4
      dsimp only
      rw [y_states a2 a4, Option.bind_some, if_neg (nI_ge hj (by omega)), y_isBeg, Option.bind_some, nI_p1, nI_p1, hmh, hmn, y_restsIn hR hj, Option.bind_some, cnt_s, hPs]
      unfold bgB
      by_cases hb : nI j &&& ghd σ = gnw σ &&& ghd σ
      · rw [if_pos hb, if_neg one_ne]
        by_cases hc : nxN N (gwe σ) (gpa σ) (gbr σ) 0 (ghd σ) j = j
        · rw [if_pos hc, if_neg one_ne]; simp [hb, hc]
        · rw [if_neg hc, if_pos rfl]; simp [hc]
      · rw [if_neg hb, if_pos rfl]; simp [hb]
    · unfold f_X4_restMany_b4
      dsimp only
      rw [y_states a2 a4, Option.bind_some, if_pos (nI_le (Nat.le_refl _) (by omega))]
  obtain ⟨v, hv, x, rfl, hx⟩ := L1
  unfold f_X3_restMany f_X4_restMany
  rw [hv, L2, Option.bind_some, Option.bind_some]
  exact ⟨_, x, rfl, rfl, N, hx⟩
