/-! before, lone, rests, restMany -/
def bgB (σ : GS) (s : Nat) : Bool := decide (nI s &&& ghd σ = gnw σ &&& ghd σ)
theorem kp_beg {σ σ' : GS} (h : Kp σ σ') : ghd σ' = ghd σ ∧ gnw σ' = gnw σ ∧ gwe σ' = gwe σ ∧ gpa σ' = gpa σ ∧ gbr σ' = gbr σ := ⟨h.1.2.2.1, h.1.2.2.2.1, h.1.2.2.2.2.1, h.1.2.2.2.2.2.2, h.1.2.1⟩
theorem q_before (σ : GS) (μ : MS) (h : Rel σ μ) (x1 x2 : Int32) : ∃ r σ1, f_X3_before σ x1 x2 = some (r, σ1) ∧ f_X4_before μ x1 x2 = some r ∧ Rel σ1 μ := by
  obtain ⟨N, hR⟩ := id h
  obtain ⟨a1, a2, a3, a4⟩ := hR.pl
  have hpw := pw10 a4
  unfold f_X3_before f_X4_before
  rcases rule_cases x1 with ⟨r, hr, e1, g1, g2⟩ | ⟨g1, g2⟩
  · rw [g1, g2, Option.bind_some, Option.bind_some, if_neg one_ne, if_neg one_ne]
    subst e1
    generalize hP : (fun s => bgB σ s && decide (nI (nxN N (gwe σ) (gpa σ) (gbr σ) r (ghd σ) s) = gnw σ)) = P
    have hPs : ∀ s, P s = (bgB σ s && decide (nI (nxN N (gwe σ) (gpa σ) (gbr σ) r (ghd σ) s) = gnw σ)) := fun s => by rw [← hP]
    have hst2 := y_states a2 a4
    have hmh : mhd μ = ghd σ := hR.2.1.2.2.1
    have hmn : mnw μ = gnw σ := hR.2.1.2.2.2.1
    -- the class
    have L1 : ∃ v, itr (f_X3_before_b15 (nI r) x2) FU ((0 : Int32), (0 : Int32), σ) = some v ∧ ((∃ s σ', s < 2 ^ N ∧ P s = true ∧ x2 = nI (cnt P s) ∧ v = .inl (nI s, σ') ∧ RelN N σ' μ) ∨ (∃ σ', (∀ s, s < 2 ^ N → P s = true → x2 ≠ nI (cnt P s)) ∧ v = .inr (nI (cnt P (2 ^ N)), σ') ∧ RelN N σ' μ)) := by
      refine itr_cut (fun j st => ∃ σ', st = (nI (cnt P j), nI j, σ') ∧ RelN N σ' μ ∧ Kp σ σ' ∧ ∀ s, s < j → P s = true → x2 ≠ nI (cnt P s)) _ (2 ^ N) (by omega) ⟨σ, rfl, hR, Kp.refl σ, fun s hs => by omega⟩ ?_
      rintro j st hj ⟨x, rfl, hx, hk, hno⟩
      obtain ⟨b1, b2, b3, b4, b5⟩ := kp_beg hk
      unfold f_X3_before_b15
      dsimp only
      rw [x_states hx.pl.1 a4, Option.bind_some]
      by_cases hjM : j = 2 ^ N
      · rw [hjM, if_pos (nI_le (Nat.le_refl _) (by omega))]
        refine Or.inr ⟨_, rfl, Or.inr ⟨x, ?_, rfl, hx⟩⟩
        rw [← hjM]; exact hno
      · rw [if_neg (nI_ge (by omega) (by omega)), x_isBegG, Option.bind_some, nI_p1, nI_p1, b1, b2]
        by_cases hb : nI j &&& ghd σ = gnw σ &&& ghd σ
        · rw [if_pos hb, if_neg one_ne]
          obtain ⟨σ', k1, k2, k3, k4⟩ := next_h hx hr (by omega : j < 2 ^ N) (ghd σ)
          rw [k1, Option.bind_some]
          dsimp only
          have b6 : gnw σ' = gnw σ := (kp_beg k4).2.1.trans b2
          rw [b3, b4, b5, b6]
          by_cases hn : nI (nxN N (gwe σ) (gpa σ) (gbr σ) r (ghd σ) j) = gnw σ
          · have hPj : P j = true := by rw [hPs]; unfold bgB; simp [hb, hn]
            rw [if_pos hn]
            by_cases hc : nI (cnt P j) = x2
            · rw [if_pos hc]
              exact Or.inr ⟨_, rfl, Or.inl ⟨j, σ', by omega, hPj, hc.symm, rfl, k3⟩⟩
            · rw [if_neg hc]
              refine Or.inl ⟨_, rfl, by omega, σ', by rw [cnt_s, hPj]; rfl, k3, hk.trans k4, fun s hs hps => ?_⟩
              by_cases hsj : s = j
              · subst hsj; exact fun z => hc z.symm
              · exact hno s (by omega) hps
          · have hPj : P j = false := by rw [hPs]; simp [hn]
            rw [if_neg hn]
            refine Or.inl ⟨_, rfl, by omega, σ', by rw [cnt_s, hPj]; rfl, k3, hk.trans k4, fun s hs hps => ?_⟩
            by_cases hsj : s = j
            · subst hsj; rw [hPj] at hps; exact absurd hps (by decide)
            · exact hno s (by omega) hps
        · have hPj : P j = false := by rw [hPs]; unfold bgB; simp [hb]
          rw [if_neg hb, if_pos rfl]
          refine Or.inl ⟨_, rfl, by omega, x, by rw [cnt_s, hPj]; rfl, hx, hk, fun s hs hps => ?_⟩
          by_cases hsj : s = j
          · subst hsj; rw [hPj] at hps; exact absurd hps (by decide)
          · exact hno s (by omega) hps
    -- the reference
    have L2 : ∃ v, itr (f_X4_before_b15 μ (nI r) x2) FU ((0 : Int32), (0 : Int32)) = some v ∧ ((∃ s, s < 2 ^ N ∧ P s = true ∧ x2 = nI (cnt P s) ∧ v = .inl (nI s)) ∨ ((∀ s, s < 2 ^ N → P s = true → x2 ≠ nI (cnt P s)) ∧ v = .inr (nI (cnt P (2 ^ N))))) := by
      refine itr_cut (fun j st => st = (nI (cnt P j), nI j) ∧ ∀ s, s < j → P s = true → x2 ≠ nI (cnt P s)) _ (2 ^ N) (by omega) ⟨rfl, fun s hs => by omega⟩ ?_
      rintro j st hj ⟨rfl, hno⟩
      unfold f_X4_before_b15
      dsimp only
      rw [hst2, Option.bind_some]
      by_cases hjM : j = 2 ^ N
      · rw [hjM, if_pos (nI_le (Nat.le_refl _) (by omega))]
        refine Or.inr ⟨_, rfl, Or.inr ⟨?_, rfl⟩⟩
        rw [← hjM]; exact hno
      · rw [if_neg (nI_ge (by omega) (by omega)), y_isBeg, Option.bind_some, nI_p1, nI_p1, hmh, hmn]
        by_cases hb : nI j &&& ghd σ = gnw σ &&& ghd σ
        · rw [if_pos hb, if_neg one_ne]
          obtain ⟨σ', k1, k2, k3, k4⟩ := next_h hR hr (by omega : j < 2 ^ N) (ghd σ)
          rw [k2, Option.bind_some]
          by_cases hn : nI (nxN N (gwe σ) (gpa σ) (gbr σ) r (ghd σ) j) = gnw σ
          · have hPj : P j = true := by rw [hPs]; unfold bgB; simp [hb, hn]
            rw [if_pos hn]
            by_cases hc : nI (cnt P j) = x2
            · rw [if_pos hc]
              exact Or.inr ⟨_, rfl, Or.inl ⟨j, by omega, hPj, hc.symm, rfl⟩⟩
            · rw [if_neg hc]
              refine Or.inl ⟨_, rfl, by omega, by rw [cnt_s, hPj]; rfl, fun s hs hps => ?_⟩
              by_cases hsj : s = j
              · subst hsj; exact fun z => hc z.symm
              · exact hno s (by omega) hps
          · have hPj : P j = false := by rw [hPs]; simp [hn]
            rw [if_neg hn]
            refine Or.inl ⟨_, rfl, by omega, by rw [cnt_s, hPj]; rfl, fun s hs hps => ?_⟩
            by_cases hsj : s = j
            · subst hsj; rw [hPj] at hps; exact absurd hps (by decide)
            · exact hno s (by omega) hps
        · have hPj : P j = false := by rw [hPs]; unfold bgB; simp [hb]
          rw [if_neg hb, if_pos rfl]
          refine Or.inl ⟨_, rfl, by omega, by rw [cnt_s, hPj]; rfl, fun s hs hps => ?_⟩
          by_cases hsj : s = j
          · subst hsj; rw [hPj] at hps; exact absurd hps (by decide)
          · exact hno s (by omega) hps
    obtain ⟨v, hv, hq⟩ := L1
    obtain ⟨v2, hv2, hq2⟩ := L2
    rw [hv, hv2, Option.bind_some, Option.bind_some]
    have hcl : ∀ s, s < 2 ^ N → cnt P s < 2 ^ 31 := fun s hs => by have := cnt_le P s; omega
    rcases hq with ⟨s, σ', u1, u2, u3, rfl, u5⟩ | ⟨σ', u1, rfl, u3⟩
    · rcases hq2 with ⟨s2, w1, w2, w3, rfl⟩ | ⟨w1, -⟩
      · have : s = s2 := cnt_inj u2 w2 (nI_inj (hcl s u1) (hcl s2 w1) (u3.symm.trans w3))
        subst this
        exact ⟨nI s, σ', rfl, rfl, N, u5⟩
      · exact absurd u3 (w1 s u1 u2)
    · rcases hq2 with ⟨s2, w1, w2, w3, -⟩ | ⟨-, rfl⟩
      · exact absurd w3 (u1 s2 w1 w2)
      · dsimp only
        by_cases hm : x2 = -1
        · rw [if_pos hm, if_pos hm]
          exact ⟨_, σ', rfl, rfl, N, u3⟩
        · rw [if_neg hm, if_neg hm]
          exact ⟨_, σ', rfl, rfl, N, u3⟩
  · rw [g1, g2]
    exact ⟨_, σ, rfl, rfl, h⟩
/-! lone -/
theorem x_clearMarks {σ : GS} {N : Nat} (h1 : gpl σ = nI N) (h10 : N ≤ 10) : f_X3_clearMarks σ = some (zma σ (clr (gma σ) (-1) (2 ^ N))) := by
  have hpw := pw10 h10
  unfold f_X3_clearMarks
  refine itr_bind (itr_run (fun j => (nI j, zma σ (clr (gma σ) (-1) j))) (2 ^ N) ?_ (by omega) (fun j hj => ?_) ?_) rfl
  · rw [clr_0]; rfl
  · have hN' : gpl (zma σ (clr (gma σ) (-1) j)) = nI N := h1
    unfold f_X3_clearMarks_b2
    dsimp only
    rw [x_states hN' h10, Option.bind_some, if_neg (nI_ge hj (by omega)), gd_nI (by omega) (by decide), nI_p1]
    have e : gtma (zma σ (clr (gma σ) (-1) j)) (nI j) (-1) = zma σ (upd (clr (gma σ) (-1) j) (nI j).toNatClampNeg (-1)) := rfl
    rw [e, nI_clamp (by omega), clr_s]
  · have hN' : gpl (zma σ (clr (gma σ) (-1) (2 ^ N))) = nI N := h1
    unfold f_X3_clearMarks_b2
    dsimp only
    rw [x_states hN' h10, Option.bind_some, if_pos (nI_le (Nat.le_refl _) (by omega))]
theorem RelN.ma {N : Nat} {σ : GS} {μ : MS} (h : RelN N σ μ) (f : Nat → Int32) : RelN N (zma σ f) μ := ⟨h.1, h.2.1, wishOK.of rfl rfl rfl rfl rfl h.2.2.1, h.2.2.2⟩
theorem q_lone (σ : GS) (μ : MS) (h : Rel σ μ) (x1 : Int32) : ∃ r σ1 μ1, f_X3_lone σ x1 = some (r, σ1) ∧ f_X4_lone μ x1 = some (r, μ1) ∧ Rel σ1 μ1 := by
  obtain ⟨N, hR⟩ := id h
  obtain ⟨a1, a2, a3, a4⟩ := hR.pl
  have hpw := pw10 a4
  unfold f_X3_lone f_X4_lone
  rcases rule_cases x1 with ⟨r, hr, e1, g1, g2⟩ | ⟨g1, g2⟩
  · rw [g1, g2, Option.bind_some, Option.bind_some, if_neg one_ne, if_neg one_ne]
    subst e1
    have hmh : mhd μ = ghd σ := hR.2.1.2.2.1
    have hmn : mnw μ = gnw σ := hR.2.1.2.2.2.1
    have hmw : mwe μ = gwe σ := hR.2.1.2.2.2.2.1
    have hmp : mpa μ = gpa σ := hR.2.1.2.2.2.2.2
    have hmb : mbr μ = gbr σ := hR.2.1.2.1
    generalize hf : nxN N (gwe σ) (gpa σ) (gbr σ) r (ghd σ) = f
    have hfl : ∀ s, s < 2 ^ N → f s < 2 ^ N := fun s hs => by rw [← hf]; exact (nxN_ok a4 (gwe σ) (gpa σ) (gbr σ) r (ghd σ) hs).1
    -- the class
    rw [x_clearMarks a1 a4, Option.bind_some]
    generalize hσ0 : zma σ (clr (gma σ) (-1) (2 ^ N)) = σ0
    have hR0 : RelN N σ0 μ := by rw [← hσ0]; exact hR.ma _
    have hm0 : ∀ s, s < 2 ^ N → gma σ0 s = -1 := fun s hs => by
      rw [← hσ0]
      show clr (gma σ) (-1) (2 ^ N) s = -1
      unfold clr; rw [if_pos hs]
    have L1 : ∃ x, itr (f_X3_lone_b16 (nI r)) FU ((0 : Int32), σ0) = some x ∧ RelN N x μ ∧ ∀ s, s < 2 ^ N → (gma x s = -1 ↔ ¬ ∃ i, i < 2 ^ N ∧ (nI i &&& ghd σ = gnw σ &&& ghd σ) ∧ f i = s) := by
      refine itr_inv (fun j st => ∃ x, st = (nI j, x) ∧ RelN N x μ ∧ ∀ s, s < 2 ^ N → (gma x s = -1 ↔ ¬ ∃ i, i < j ∧ (nI i &&& ghd σ = gnw σ &&& ghd σ) ∧ f i = s)) _ (2 ^ N) (by omega) ⟨σ0, rfl, hR0, fun s hs => ⟨fun _ ⟨i, hi, _⟩ => by omega, fun _ => hm0 s hs⟩⟩ ?_ ?_
      · rintro j st hj ⟨x, rfl, hx, hq⟩
        have q1 : gnw x = gnw σ := hx.2.1.2.2.2.1.symm.trans hmn
        have q2 : ghd x = ghd σ := hx.2.1.2.2.1.symm.trans hmh
        have q3 : gwe x = gwe σ := hx.2.1.2.2.2.2.1.symm.trans hmw
        have q4 : gpa x = gpa σ := hx.2.1.2.2.2.2.2.symm.trans hmp
        have q5 : gbr x = gbr σ := hx.2.1.2.1.symm.trans hmb
        unfold f_X3_lone_b16
        dsimp only
        rw [x_states hx.pl.1 a4, Option.bind_some, if_neg (nI_ge hj (by omega)), x_isBegG, Option.bind_some, nI_p1, q1, q2]
        by_cases hb : nI j &&& ghd σ = gnw σ &&& ghd σ
        · rw [if_pos hb, if_neg one_ne]
          obtain ⟨σ', k1, k2, k3, k4⟩ := next_h hx hr hj (ghd σ)
          rw [q3, q4, q5, hf] at k1
          have hfj := hfl j hj
          rw [k1, Option.bind_some, gd_nI (by omega) (by decide)]
          refine ⟨_, rfl, _, rfl, ?_, fun s hs => ?_⟩
          · exact ⟨k3.1, k3.2.1, wishOK.of rfl rfl rfl rfl rfl k3.2.2.1, k3.2.2.2⟩
          · have e5 : gma (gtma σ' (nI (f j)) (nI j)) s = if s = f j then nI j else gma x s := by
              show upd (gma σ') (nI (f j)).toNatClampNeg (nI j) s = _
              rw [nI_clamp (by omega), k4.2.2.2.2.2.2.2.2]
              rfl
            dsimp only
            rw [e5]
            by_cases hsj : s = f j
            · rw [if_pos hsj]
              exact ⟨fun z => absurd z (nI_ne_neg (by omega) (by decide)), fun z => absurd ⟨j, by omega, hb, hsj.symm⟩ z⟩
            · rw [if_neg hsj, hq s hs]
              constructor
              · rintro z ⟨i, hi, hbi, hfi⟩
                refine z ⟨i, ?_, hbi, hfi⟩
                rcases Nat.lt_or_ge i j with h | h
                · exact h
                · rw [show i = j by omega] at hfi; exact absurd hfi.symm hsj
              · rintro z ⟨i, hi, hbi, hfi⟩
                exact z ⟨i, by omega, hbi, hfi⟩
        · rw [if_neg hb, if_pos rfl]
          refine ⟨_, rfl, _, rfl, hx, fun s hs => ?_⟩
          rw [hq s hs]
          constructor
          · rintro z ⟨i, hi, hbi, hfi⟩
            refine z ⟨i, ?_, hbi, hfi⟩
            rcases Nat.lt_or_ge i j with h | h
            · exact h
            · rw [show i = j by omega] at hbi; exact absurd hbi hb
          · rintro z ⟨i, hi, hbi, hfi⟩
            exact z ⟨i, by omega, hbi, hfi⟩
      · rintro st ⟨x, rfl, hx, hq⟩
        unfold f_X3_lone_b16
        dsimp only
        rw [x_states hx.pl.1 a4, Option.bind_some, if_pos (nI_le (Nat.le_refl _) (by omega))]
        exact ⟨x, rfl, hx, hq⟩
    obtain ⟨x, hx1, hx, hxq⟩ := L1
    rw [hx1, Option.bind_some]
    have q1 : gnw x = gnw σ := hx.2.1.2.2.2.1.symm.trans hmn
    have q2 : ghd x = ghd σ := hx.2.1.2.2.1.symm.trans hmh
    generalize hP : (fun s => bgB σ s && decide (gma x s = -1)) = P
    have hPs : ∀ s, P s = (bgB σ s && decide (gma x s = -1)) := fun s => by rw [← hP]
    have L2 : itr (f_X3_lone_b64 x) FU ((0 : Int32), (0 : Int32)) = some (nI (cnt P (2 ^ N))) := by
      refine itr_run (fun j => (nI (cnt P j), nI j)) (2 ^ N) rfl (by omega) (fun j hj => ?_) ?_
      · unfold f_X3_lone_b64
        dsimp only
        rw [x_states hx.pl.1 a4, Option.bind_some, if_neg (nI_ge hj (by omega)), x_isBegG, Option.bind_some, nI_p1, nI_p1, q1, q2, gd_nI (by omega) (by decide), nI_clamp (by omega), cnt_s, hPs]
        unfold bgB
        by_cases hb : nI j &&& ghd σ = gnw σ &&& ghd σ
        · rw [if_pos hb, if_neg one_ne]
          by_cases h2 : gma x j = -1
          · rw [if_pos h2]; simp [hb, h2]
          · rw [if_neg h2]; simp [h2]
        · rw [if_neg hb, if_pos rfl]; simp [hb]
      · unfold f_X3_lone_b64
        dsimp only
        rw [x_states hx.pl.1 a4, Option.bind_some, if_pos (nI_le (Nat.le_refl _) (by omega))]
    rw [L2, Option.bind_some]
    -- the reference
    obtain ⟨b, k1, k2⟩ := y_layBehind hR.met hr
    rw [k1, Option.bind_some]
    have hbs : ∀ s, s < 2 ^ N → nI s &&& ghd σ = gnw σ &&& ghd σ → b s = nI (f s) := fun s hs hb => by
      have := k2 s hs
      rw [hmh, hmn, if_pos hb, hmw, hmp, hmb, hf] at this
      exact this
    have hst : ∀ e, f_X4_states (yen (ybe μ b) e) = some (nI (2 ^ N)) := fun _ => y_states a2 a4
    have M1 : itr f_X4_lone_b17 FU ((0 : Int32), ybe μ b) = some (yen (ybe μ b) (clr (men μ) 0 (2 ^ N))) := by
      refine itr_run (fun j => (nI j, yen (ybe μ b) (clr (men μ) 0 j))) (2 ^ N) ?_ (by omega) (fun j hj => ?_) ?_
      · rw [clr_0]; rfl
      · unfold f_X4_lone_b17
        dsimp only
        rw [hst, Option.bind_some, if_neg (nI_ge hj (by omega)), gd_nI (by omega) (by decide), nI_p1]
        have e : mten (yen (ybe μ b) (clr (men μ) 0 j)) (nI j) 0 = yen (ybe μ b) (upd (clr (men μ) 0 j) (nI j).toNatClampNeg 0) := rfl
        rw [e, nI_clamp (by omega), clr_s]
      · unfold f_X4_lone_b17
        dsimp only
        rw [hst, Option.bind_some, if_pos (nI_le (Nat.le_refl _) (by omega))]
    rw [M1, Option.bind_some]
    have M2 : ∃ y, itr f_X4_lone_b40 FU ((0 : Int32), yen (ybe μ b) (clr (men μ) 0 (2 ^ N))) = some y ∧ ∃ e, y = yen (ybe μ b) e ∧ ∀ s, s < 2 ^ N → (e s = 0 ↔ ¬ ∃ i, i < 2 ^ N ∧ (nI i &&& ghd σ = gnw σ &&& ghd σ) ∧ f i = s) := by
      refine itr_inv (fun j st => ∃ e, st = (nI j, yen (ybe μ b) e) ∧ ∀ s, s < 2 ^ N → (e s = 0 ↔ ¬ ∃ i, i < j ∧ (nI i &&& ghd σ = gnw σ &&& ghd σ) ∧ f i = s)) _ (2 ^ N) (by omega) ⟨_, rfl, fun s hs => ⟨fun _ ⟨i, hi, _⟩ => by omega, fun _ => by unfold clr; rw [if_pos hs]⟩⟩ ?_ ?_
      · rintro j st hj ⟨e, rfl, hq⟩
        have r1 : mnw (yen (ybe μ b) e) = gnw σ := hmn
        have r2 : mhd (yen (ybe μ b) e) = ghd σ := hmh
        unfold f_X4_lone_b40
        dsimp only
        rw [hst, Option.bind_some, if_neg (nI_ge hj (by omega)), y_isBeg, Option.bind_some, nI_p1, r1, r2]
        by_cases hb : nI j &&& ghd σ = gnw σ &&& ghd σ
        · have hfj := hfl j hj
          have r3 : mbe (yen (ybe μ b) e) j = nI (f j) := hbs j hj hb
          rw [if_pos hb, if_neg one_ne, gd_nI (by omega) (by decide), nI_clamp (by omega), r3, gd_nI (by omega) (by decide)]
          have e6 : mten (yen (ybe μ b) e) (nI (f j)) 1 = yen (ybe μ b) (upd e (nI (f j)).toNatClampNeg 1) := rfl
          rw [e6, nI_clamp (by omega)]
          refine ⟨_, rfl, _, rfl, fun s hs => ?_⟩
          have e5 : upd e (f j) 1 s = if s = f j then 1 else e s := rfl
          rw [e5]
          by_cases hsj : s = f j
          · rw [if_pos hsj]
            exact ⟨fun z => absurd z one_ne, fun z => absurd ⟨j, by omega, hb, hsj.symm⟩ z⟩
          · rw [if_neg hsj, hq s hs]
            constructor
            · rintro z ⟨i, hi, hbi, hfi⟩
              refine z ⟨i, ?_, hbi, hfi⟩
              rcases Nat.lt_or_ge i j with h | h
              · exact h
              · rw [show i = j by omega] at hfi; exact absurd hfi.symm hsj
            · rintro z ⟨i, hi, hbi, hfi⟩
              exact z ⟨i, by omega, hbi, hfi⟩
        · rw [if_neg hb, if_pos rfl]
          refine ⟨_, rfl, _, rfl, fun s hs => ?_⟩
          rw [hq s hs]
          constructor
          · rintro z ⟨i, hi, hbi, hfi⟩
            refine z ⟨i, ?_, hbi, hfi⟩
            rcases Nat.lt_or_ge i j with h | h
            · exact h
            · rw [show i = j by omega] at hbi; exact absurd hbi hb
          · rintro z ⟨i, hi, hbi, hfi⟩
            exact z ⟨i, by omega, hbi, hfi⟩
      · rintro st ⟨e, rfl, hq⟩
        unfold f_X4_lone_b40
        dsimp only
        rw [hst, Option.bind_some, if_pos (nI_le (Nat.le_refl _) (by omega))]
        exact ⟨_, rfl, e, rfl, hq⟩
    obtain ⟨y, hy1, e, rfl, hyq⟩ := M2
    rw [hy1, Option.bind_some]
    have M3 : itr (f_X4_lone_b78 (yen (ybe μ b) e)) FU ((0 : Int32), (0 : Int32)) = some (nI (cnt P (2 ^ N))) := by
      refine itr_run (fun j => (nI (cnt P j), nI j)) (2 ^ N) rfl (by omega) (fun j hj => ?_) ?_
      · have r1 : mnw (yen (ybe μ b) e) = gnw σ := hmn
        have r2 : mhd (yen (ybe μ b) e) = ghd σ := hmh
        have r3 : men (yen (ybe μ b) e) j = e j := rfl
        unfold f_X4_lone_b78
        dsimp only
        rw [hst, Option.bind_some, if_neg (nI_ge hj (by omega)), y_isBeg, Option.bind_some, nI_p1, nI_p1, r1, r2, gd_nI (by omega) (by decide), nI_clamp (by omega), r3, cnt_s, hPs]
        unfold bgB
        by_cases hb : nI j &&& ghd σ = gnw σ &&& ghd σ
        · rw [if_pos hb, if_neg one_ne]
          by_cases h2 : e j = 0
          · have h3 : gma x j = -1 := (hxq j hj).mpr ((hyq j hj).mp h2)
            rw [if_pos h2]; simp [hb, h3]
          · have h3 : ¬ gma x j = -1 := fun z => h2 ((hyq j hj).mpr ((hxq j hj).mp z))
            rw [if_neg h2]; simp [h3]
        · rw [if_neg hb, if_pos rfl]; simp [hb]
      · unfold f_X4_lone_b78
        dsimp only
        rw [hst, Option.bind_some, if_pos (nI_le (Nat.le_refl _) (by omega))]
    rw [M3, Option.bind_some]
    exact ⟨_, x, _, rfl, rfl, N, hx.1, hx.2.1, hx.2.2⟩
  · rw [g1, g2]
    exact ⟨_, σ, μ, rfl, rfl, h⟩
