/-! the reference's ends -/
theorem cnt_mono {P Q : Nat → Bool} : ∀ {n : Nat}, (∀ s, s < n → P s = true → Q s = true) → cnt P n ≤ cnt Q n := by
  intro n
  induction n with
  | zero => intro _; exact Nat.le_refl 0
  | succ n ih =>
    intro h
    have h1 := ih (fun s hs => h s (by omega))
    have h2 := h n (by omega)
    unfold cnt
    cases hp : P n <;> cases hq : Q n <;> simp_all <;> omega
theorem cnt_lt {P Q : Nat → Bool} {n a : Nat} (h : ∀ s, s < n → P s = true → Q s = true) (ha : a < n) (hq : Q a = true) (hp : P a = false) : cnt P n < cnt Q n := by
  rw [cnt_rm hq ha]
  have := cnt_mono (P := P) (Q := fun s => Q s && decide (s ≠ a)) (n := n) (fun s hs h1 => by
    have h2 := h s hs h1
    have h3 : s ≠ a := fun z => by rw [z, hp] at h1; exact absurd h1 (by decide)
    simp [h2, h3])
  omega
section EN
variable {μ : MS} {M : Nat} {F : Nat → Nat} {hd hw : Int32}
theorem nI_ne6 {m : Nat} (h : m < 2 ^ 31) : nI m ≠ (-6 : Int32) := nI_ne_neg h (by decide)
def Q1 (M : Nat) (F : Nat → Nat) (Bp : Nat → Prop) (e t : Nat → Int32) : Prop := ∀ s, s < M → (e s = -6 ∨ (Bp s ∧ onR F s ∧ dn M F e t s)) ∧ (e s ≠ -6 → e (F s) ≠ -6)
def Q2 (M : Nat) (F : Nat → Nat) (Bp : Nat → Prop) (e t : Nat → Int32) : Prop := ∀ s, s < M → (e s = -6 ∨ (Bp s ∧ dn M F e t s)) ∧ (Bp s → onR F s → e s ≠ -6)
theorem dn_6 {e t : Nat → Int32} {s : Nat} (hM : M ≤ 1024) (h : dn M F e t s) : e s ≠ -6 ∧ 0 ≤ e s := by
  obtain ⟨m, k, hm, -, e1, -⟩ := h
  rw [e1]
  exact ⟨nI_ne6 (by omega), nI_ge0 (by omega)⟩
theorem y_ends1 (hst : f_X4_states μ = some (nI M)) (hM : M ≤ 1024) : ∃ e, itr f_X4_layEnds_b7 FU ((0 : Int32), μ) = some (yz μ e (mta μ)) ∧ ∀ s, s < M → e s = -6 := by
  refine ⟨fun s => if s < M then -6 else men μ s, ?_, fun s hs => by dsimp only; rw [if_pos hs]⟩
  refine itr_run (fun j => (nI j, yz μ (fun s => if s < j then -6 else men μ s) (mta μ))) M ?_ (by omega) (fun j hj => ?_) ?_
  · have : (fun s => if s < 0 then (-6 : Int32) else men μ s) = men μ := by funext s; rw [if_neg (by omega)]
    show ((0 : Int32), μ) = (nI 0, yz μ (fun s => if s < 0 then -6 else men μ s) (mta μ))
    rw [this]; rfl
  · have h1 : f_X4_states (yz μ (fun s => if s < j then -6 else men μ s) (mta μ)) = some (nI M) := hst
    unfold f_X4_layEnds_b7
    dsimp only
    rw [h1, Option.bind_some, if_neg (nI_ge hj (by omega)), gd_nI (by omega) (by decide), nI_p1]
    have e1 : mten (yz μ (fun s => if s < j then -6 else men μ s) (mta μ)) (nI j) (-6) = yz μ (upd (fun s => if s < j then -6 else men μ s) (nI j).toNatClampNeg (-6)) (mta μ) := rfl
    rw [e1, nI_clamp (by omega)]
    have e2 : upd (fun s => if s < j then (-6 : Int32) else men μ s) j (-6) = fun s => if s < j + 1 then -6 else men μ s := by
      funext s
      simp only [upd]
      by_cases hs : s = j
      · subst hs; rw [if_pos rfl, if_pos (by omega)]
      · rw [if_neg hs]
        by_cases hl : s < j
        · rw [if_pos hl, if_pos (by omega)]
        · rw [if_neg hl, if_neg (by omega)]
    rw [e2]
  · have h1 : f_X4_states (yz μ (fun s => if s < M then -6 else men μ s) (mta μ)) = some (nI M) := hst
    unfold f_X4_layEnds_b7
    dsimp only
    rw [h1, Option.bind_some, if_pos (nI_le (Nat.le_refl _) (by omega))]
theorem y_fill (hM : M ≤ 1024) (hF : ∀ s, s < M → F s < M) {Bp : Nat → Prop} (hB : ∀ s, s < M → Bp s → Bp (F s)) (hbe : ∀ s, s < M → Bp s → mbe μ s = nI (F s)) {e t : Nat → Int32} {r L m : Nat} (hr : r < M) (hb : Bp r) (hL : isLen F r L) : itr (f_X4_layEnds_b92 (nI r) (nI m)) FU (nI (F r), yz μ (upd e r (nI m)) (upd t r 0)) = some (yz μ (pw (fun j => fit F j r) (fun _ => nI m) e L) (pw (fun j => fit F j r) (fun _ => 0) t L)) := by
  have hLM := isLen_le hF hr hL
  have hL0 := hL.1
  refine itr_run (fun j => (nI (fit F (j + 1) r), yz μ (pw (fun j => fit F j r) (fun _ => nI m) e (j + 1)) (pw (fun j => fit F j r) (fun _ => 0) t (j + 1)))) (L - 1) rfl (by omega) (fun j hj => ?_) ?_
  · have hl := fit_lt hF hr (j + 1)
    generalize hE : pw (fun j => fit F j r) (fun _ => nI m) e (j + 1) = E
    generalize hT : pw (fun j => fit F j r) (fun _ => 0) t (j + 1) = T
    unfold f_X4_layEnds_b92
    dsimp only
    rw [if_neg (show ¬ nI (fit F (j + 1) r) = nI r from fun z => hL.2.2 (j + 1) (by omega) (by omega) (nI_inj (by omega) (by omega) z)), gd_nI (by omega) (by decide), gd_nI (by omega) (by decide), gd_nI (by omega) (by decide)]
    have e1 : mbe (mtta (mten (yz μ E T) (nI (fit F (j + 1) r)) (nI m)) (nI (fit F (j + 1) r)) 0) (nI (fit F (j + 1) r)).toNatClampNeg = mbe μ (nI (fit F (j + 1) r)).toNatClampNeg := rfl
    have e2 : mtta (mten (yz μ E T) (nI (fit F (j + 1) r)) (nI m)) (nI (fit F (j + 1) r)) 0 = yz μ (upd E (nI (fit F (j + 1) r)).toNatClampNeg (nI m)) (upd T (nI (fit F (j + 1) r)).toNatClampNeg 0) := rfl
    rw [e1, e2, nI_clamp (by omega), hbe _ hl (fit_B hB hF hr hb (j + 1)), ← fit_s F (j + 1) r, ← hE, ← hT]
    rfl
  · unfold f_X4_layEnds_b92
    dsimp only
    have e1 : fit F (L - 1 + 1) r = r := by rw [show L - 1 + 1 = L by omega]; exact hL.2.1
    rw [e1, if_pos rfl, show L - 1 + 1 = L by omega]
theorem y_ends2 (hst : f_X4_states μ = some (nI M)) (hM : M ≤ 1024) (hF : ∀ s, s < M → F s < M) (h1 : mhd μ = hd) (h2 : mnw μ &&& mhd μ = hw) (hB : ∀ s, s < M → nI s &&& hd = hw → nI (F s) &&& hd = hw) (hbe : ∀ s, s < M → nI s &&& hd = hw → mbe μ s = nI (F s)) {e t : Nat → Int32} (he : ∀ s, s < M → e s = -6) : ∃ e' t', itr f_X4_layEnds_b31 FU ((0 : Int32), yz μ e t) = some (yz μ e' t') ∧ Q2 M F (fun s => nI s &&& hd = hw) e' t' := by
  have L1 : ∃ x, itr f_X4_layEnds_b31 FU ((0 : Int32), yz μ e t) = some x ∧ ∃ e' t', x = yz μ e' t' ∧ Q1 M F (fun s => nI s &&& hd = hw) e' t' ∧ ∀ s, s < M → nI s &&& hd = hw → onR F s → e' s ≠ -6 := by
    refine itr_inv (fun j st => ∃ e' t', st = (nI j, yz μ e' t') ∧ Q1 M F (fun s => nI s &&& hd = hw) e' t' ∧ ∀ s, s < j → nI s &&& hd = hw → onR F s → e' s ≠ -6) _ M (by omega) ⟨e, t, rfl, fun s hs => ⟨Or.inl (he s hs), fun z => absurd (he s hs) z⟩, fun s hs => by omega⟩ ?_ ?_
    · rintro j st hj ⟨e, t, rfl, hq, hdn⟩
      have hst' : f_X4_states (yz μ e t) = some (nI M) := hst
      have g1 : mhd (yz μ e t) = hd := h1
      have g2 : mnw (yz μ e t) &&& hd = hw := by rw [← h2, h1]; rfl
      unfold f_X4_layEnds_b31
      dsimp only
      rw [hst', Option.bind_some, if_neg (nI_ge hj (by omega)), y_isBeg, Option.bind_some, g1, g2, nI_p1]
      by_cases hb : nI j &&& hd = hw
      · have hbe' : ∀ s, s < M → nI s &&& hd = hw → mbe (yz μ e t) s = nI (F s) := hbe
        have hlr := fit_lt hF hj M
        have hbr : nI (fit F M j) &&& hd = hw := fit_B (Bp := fun s => nI s &&& hd = hw) hB hF hj hb M
        have hon := onR_at hF hj
        rw [if_pos hb, if_neg (by decide), y_inRing (Bp := fun s => nI s &&& hd = hw) hst' hM hF hB hbe' hj hb, Option.bind_some, gd_nI (by omega) (by decide), nI_clamp (by omega)]
        generalize hr : fit F M j = r at hlr hbr hon
        have hen : men (yz μ e t) r = e r := rfl
        rw [hen]
        by_cases h6 : e r = -6
        · rw [h6, if_neg (by decide)]
          obtain ⟨L, hL⟩ := isLen_ex hon
          rw [y_leastOf (Bp := fun s => nI s &&& hd = hw) hM hF hB hbe' hlr hbr hL, Option.bind_some, gd_nI (by omega) (by decide), gd_nI (by omega) (by decide), gd_nI (by omega) (by decide)]
          have hmE := lst_end hL
          have hmM : lst F r (L - 1) < M := by
            obtain ⟨j2, -, e2⟩ := lst_in F r (L - 1)
            rw [e2]; exact fit_lt hF hlr j2
          generalize lst F r (L - 1) = m at hmE hmM
          have e1 : mbe (mtta (mten (yz μ e t) (nI r) (nI m)) (nI r) 0) r = mbe μ r := rfl
          have e2 : mtta (mten (yz μ e t) (nI r) (nI m)) (nI r) 0 = yz μ (upd e (nI r).toNatClampNeg (nI m)) (upd t (nI r).toNatClampNeg 0) := rfl
          rw [e1, e2, nI_clamp (by omega), hbe r hlr hbr, y_fill (Bp := fun s => nI s &&& hd = hw) hM hF hB hbe hlr hbr hL, Option.bind_some]
          have hin := isLen_inj hL
          have i1 : ∀ j2, j2 < L → pw (fun j => fit F j r) (fun _ => nI m) e L (fit F j2 r) = nI m := fun j2 h => pw_in hin j2 h
          have i2 : ∀ j2, j2 < L → pw (fun j => fit F j r) (fun _ => 0) t L (fit F j2 r) = 0 := fun j2 h => pw_in hin j2 h
          have any : ∀ j2, ∃ j3, j3 < L ∧ fit F j2 r = fit F j3 r := fun j2 => ⟨j2 % L, Nat.mod_lt _ hL.1, isLen_mod hL j2⟩
          have dnr : ∀ j2, dn M F (pw (fun j => fit F j r) (fun _ => nI m) e L) (pw (fun j => fit F j r) (fun _ => 0) t L) (fit F j2 r) := fun j2 => by
            obtain ⟨j3, h3, e3⟩ := any j2
            refine ⟨m, 0, hmM, Nat.zero_le M, ?_, ?_, isEnd_fit hmE j2, isTail_0 (onR_fit hon j2)⟩
            · rw [e3]; exact i1 j3 h3
            · rw [e3]; exact i2 j3 h3
          have keep : ∀ s, s < M → e s ≠ -6 → pw (fun j => fit F j r) (fun _ => nI m) e L s ≠ -6 := fun s hs h => by
            by_cases hc : ∃ j2, j2 < L ∧ fit F j2 r = s
            · obtain ⟨j2, h3, rfl⟩ := hc
              rw [i1 j2 h3]; exact nI_ne6 (by omega)
            · rw [pw_out (fun j2 h3 z => hc ⟨j2, h3, z⟩)]; exact h
          refine ⟨_, rfl, _, _, rfl, fun s hs => ?_, fun s hs hbs hos => ?_⟩
          · by_cases hc : ∃ j2, j2 < L ∧ fit F j2 r = s
            · obtain ⟨j2, h3, rfl⟩ := hc
              refine ⟨Or.inr ⟨fit_B (Bp := fun s => nI s &&& hd = hw) hB hF hlr hbr j2, onR_fit hon j2, dnr j2⟩, fun _ => ?_⟩
              rw [← fit_s F j2 r]
              exact (dn_6 hM (dnr (j2 + 1))).1
            · have ho1 : pw (fun j => fit F j r) (fun _ => nI m) e L s = e s := pw_out (fun j2 h3 z => hc ⟨j2, h3, z⟩)
              have ho2 : pw (fun j => fit F j r) (fun _ => 0) t L s = t s := pw_out (fun j2 h3 z => hc ⟨j2, h3, z⟩)
              obtain ⟨a, b⟩ := hq s hs
              refine ⟨?_, fun h3 => ?_⟩
              · rcases a with a | ⟨a1, a2, m1, k1, x1, x2, x3, x4, x5, x6⟩
                · exact Or.inl (by rw [ho1]; exact a)
                · exact Or.inr ⟨a1, a2, m1, k1, x1, x2, by rw [ho1]; exact x3, by rw [ho2]; exact x4, x5, x6⟩
              · rw [ho1] at h3
                exact keep _ (hF s hs) (b h3)
          · by_cases hsj : s = j
            · subst hsj
              obtain ⟨i, hi⟩ := onR_back hos M
              rw [hr] at hi
              rw [← hi]
              exact (dn_6 hM (dnr i)).1
            · exact keep s (by omega) (hdn s (by omega) hbs hos)
        · have hge : (0 : Int32) ≤ e r := by
            obtain ⟨-, -, h5⟩ := (hq r hlr).1.resolve_left h6
            exact (dn_6 hM h5).2
          rw [if_pos hge]
          refine ⟨_, rfl, e, t, rfl, hq, fun s hs hbs hos => ?_⟩
          by_cases hsj : s = j
          · subst hsj
            obtain ⟨i, hi⟩ := onR_back hos M
            rw [hr] at hi
            have hcl : ∀ i x, x < M → e x ≠ -6 → e (fit F i x) ≠ -6 := by
              intro i
              induction i with
              | zero => intro x _ h; exact h
              | succ i ih => intro x hx h; exact ih (F x) (hF x hx) ((hq x hx).2 h)
            rw [← hi]
            exact hcl i r hlr h6
          · exact hdn s (by omega) hbs hos
      · rw [if_neg hb, if_pos rfl]
        refine ⟨_, rfl, e, t, rfl, hq, fun s hs hbs hos => ?_⟩
        by_cases hsj : s = j
        · subst hsj; exact absurd hbs hb
        · exact hdn s (by omega) hbs hos
    · rintro st ⟨e, t, rfl, hq, hdn⟩
      have hst' : f_X4_states (yz μ e t) = some (nI M) := hst
      unfold f_X4_layEnds_b31
      dsimp only
      rw [hst', Option.bind_some, if_pos (nI_le (Nat.le_refl _) (by omega))]
      exact ⟨_, rfl, e, t, rfl, hq, hdn⟩
  obtain ⟨x, hx, e', t', rfl, hq, hdn⟩ := L1
  exact ⟨e', t', hx, fun s hs => ⟨(hq s hs).1.imp id (fun z => ⟨z.1, z.2.2⟩), hdn s hs⟩⟩
theorem y_pass (hst : f_X4_states μ = some (nI M)) (hM : M ≤ 1024) (hF : ∀ s, s < M → F s < M) (h1 : mhd μ = hd) (h2 : mnw μ &&& mhd μ = hw) (hbe : ∀ s, s < M → nI s &&& hd = hw → mbe μ s = nI (F s)) {e t : Nat → Int32} (hq : Q2 M F (fun s => nI s &&& hd = hw) e t) : ∃ mo e' t', itr f_X4_layEnds_b143 FU ((0 : Int32), (0 : Int32), yz μ e t) = some (mo, yz μ e' t') ∧ Q2 M F (fun s => nI s &&& hd = hw) e' t' ∧ (∀ s, s < M → e s ≠ -6 → e' s ≠ -6) ∧ ((mo = 0 ∧ e' = e ∧ ∀ s, s < M → nI s &&& hd = hw → e s = -6 → e (F s) = -6) ∨ (mo = 1 ∧ ∃ s, s < M ∧ e s = -6 ∧ e' s ≠ -6)) := by
  have L1 : ∃ x, itr f_X4_layEnds_b143 FU ((0 : Int32), (0 : Int32), yz μ e t) = some x ∧ ∃ mo e' t', x = (mo, yz μ e' t') ∧ Q2 M F (fun s => nI s &&& hd = hw) e' t' ∧ (∀ s, s < M → e s ≠ -6 → e' s ≠ -6) ∧ ((mo = 0 ∧ e' = e ∧ ∀ s, s < M → nI s &&& hd = hw → e s = -6 → e (F s) = -6) ∨ (mo = 1 ∧ ∃ s, s < M ∧ e s = -6 ∧ e' s ≠ -6)) := by
    refine itr_inv (fun j st => ∃ mo e' t', st = (mo, nI j, yz μ e' t') ∧ Q2 M F (fun s => nI s &&& hd = hw) e' t' ∧ (∀ s, s < M → e s ≠ -6 → e' s ≠ -6) ∧ ((mo = 0 ∧ e' = e ∧ ∀ s, s < j → nI s &&& hd = hw → e s = -6 → e (F s) = -6) ∨ (mo = 1 ∧ ∃ s, s < M ∧ e s = -6 ∧ e' s ≠ -6))) _ M (by omega) ⟨0, e, t, rfl, hq, fun _ _ h => h, Or.inl ⟨rfl, rfl, fun s hs => by omega⟩⟩ ?_ ?_
    · rintro j st hj ⟨mo, e', t', rfl, hq', hmon, hmo⟩
      have hst' : f_X4_states (yz μ e' t') = some (nI M) := hst
      have g1 : mhd (yz μ e' t') = hd := h1
      have g2 : mnw (yz μ e' t') &&& hd = hw := by rw [← h2, h1]; rfl
      -- nothing changes at j
      have same : (nI j &&& hd = hw → e' j = -6 → e' (F j) = -6) → ∃ s', some (Sum.inl (mo, nI (j + 1), yz μ e' t') : (Int32 × Int32 × MS) ⊕ (Int32 × MS)) = some (Sum.inl s') ∧ ∃ mo2 e2 t2, s' = (mo2, nI (j + 1), yz μ e2 t2) ∧ Q2 M F (fun s => nI s &&& hd = hw) e2 t2 ∧ (∀ s, s < M → e s ≠ -6 → e2 s ≠ -6) ∧ ((mo2 = 0 ∧ e2 = e ∧ ∀ s, s < j + 1 → nI s &&& hd = hw → e s = -6 → e (F s) = -6) ∨ (mo2 = 1 ∧ ∃ s, s < M ∧ e s = -6 ∧ e2 s ≠ -6)) := by
        intro hj1
        refine ⟨_, rfl, mo, e', t', rfl, hq', hmon, ?_⟩
        rcases hmo with ⟨a, b, c⟩ | h
        · refine Or.inl ⟨a, b, fun s hs hbs h6 => ?_⟩
          by_cases hsj : s = j
          · subst hsj; rw [← b]; exact hj1 hbs (by rw [b]; exact h6)
          · exact c s (by omega) hbs h6
        · exact Or.inr h
      unfold f_X4_layEnds_b143
      dsimp only
      rw [hst', Option.bind_some, if_neg (nI_ge hj (by omega)), y_isBeg, Option.bind_some, g1, g2, nI_p1]
      by_cases hb : nI j &&& hd = hw
      · have hFj := hF j hj
        have eb : mbe (yz μ e' t') j = nI (F j) := hbe j hj hb
        rw [if_pos hb, if_neg (by decide), gd_nI (by omega) (by decide), nI_clamp (by omega), eb]
        have en1 : men (yz μ e' t') j = e' j := rfl
        rw [en1]
        by_cases h6 : e' j = -6
        · rw [h6, if_neg (by decide), gd_nI (by omega) (by decide), gd_nI (by omega) (by decide), nI_clamp (by omega)]
          have en2 : men (yz μ e' t') (F j) = e' (F j) := rfl
          rw [en2]
          by_cases h7 : e' (F j) = -6
          · rw [h7, if_pos (by decide)]
            exact same (fun _ _ => h7)
          · obtain ⟨hb2, m, k, hm, hk, em, ek, hE, hT⟩ := (hq' (F j) hFj).1.resolve_left h7
            have hno : ¬ onR F j := fun z => (hq' j hj).2 hb z h6
            have hT1 := isTail_s hno hT
            have hkM : k + 1 ≤ M := by
              obtain ⟨k2, q1, q2⟩ := isTail_ex hF hj
              rw [isTail_uq hT1 q2]; exact q1
            rw [em, if_neg (show ¬ nI m < 0 from nI_pos (by omega)), gd_nI (by omega) (by decide), gd_nI (by omega) (by decide), gd_nI (by omega) (by decide), gd_nI (by omega) (by decide)]
            have e5 : mbe (mten (yz μ e' t') (nI j) (nI m)) j = nI (F j) := eb
            rw [e5, gd_nI (by omega) (by decide), gd_nI (by omega) (by decide), nI_clamp (by omega)]
            have e6 : mta (mten (yz μ e' t') (nI j) (nI m)) (F j) = nI k := ek
            rw [e6, nI_p1]
            have e7 : mtta (mten (yz μ e' t') (nI j) (nI m)) (nI j) (nI (k + 1)) = yz μ (upd e' (nI j).toNatClampNeg (nI m)) (upd t' (nI j).toNatClampNeg (nI (k + 1))) := rfl
            rw [e7, nI_clamp (by omega)]
            have u1 : ∀ s, s ≠ j → upd e' j (nI m) s = e' s := fun s h => by simp [upd, h]
            have u2 : ∀ s, s ≠ j → upd t' j (nI (k + 1)) s = t' s := fun s h => by simp [upd, h]
            have u3 : upd e' j (nI m) j = nI m := by simp [upd]
            have u4 : upd t' j (nI (k + 1)) j = nI (k + 1) := by simp [upd]
            have hne : ∀ s, s < M → e' s ≠ -6 → upd e' j (nI m) s ≠ -6 := fun s hs h => by
              by_cases hsj : s = j
              · rw [hsj, u3]; exact nI_ne6 (by omega)
              · rw [u1 s hsj]; exact h
            refine ⟨_, rfl, 1, upd e' j (nI m), upd t' j (nI (k + 1)), rfl, fun s hs => ?_, fun s hs h => hne s hs (hmon s hs h), Or.inr ⟨rfl, ?_⟩⟩
            · by_cases hsj : s = j
              · subst hsj
                exact ⟨Or.inr ⟨hb, m, k + 1, hm, hkM, u3, u4, isEnd_s hE, hT1⟩, fun _ _ => by rw [u3]; exact nI_ne6 (by omega)⟩
              · obtain ⟨a, b⟩ := hq' s hs
                refine ⟨?_, fun x y => by rw [u1 s hsj]; exact b x y⟩
                rcases a with a | ⟨a1, m1, k1, x1, x2, x3, x4, x5, x6⟩
                · exact Or.inl (by rw [u1 s hsj]; exact a)
                · exact Or.inr ⟨a1, m1, k1, x1, x2, by rw [u1 s hsj]; exact x3, by rw [u2 s hsj]; exact x4, x5, x6⟩
            · rcases hmo with ⟨a, b, c⟩ | ⟨a, s, hs, h8, h9⟩
              · exact ⟨j, hj, by rw [← b]; exact h6, by rw [u3]; exact nI_ne6 (by omega)⟩
              · exact ⟨s, hs, h8, hne s hs h9⟩
        · have hge : (0 : Int32) ≤ e' j := (dn_6 hM ((hq' j hj).1.resolve_left h6).2).2
          rw [if_pos hge]
          exact same (fun _ z => absurd z h6)
      · rw [if_neg hb, if_pos rfl]
        exact same (fun z => absurd z hb)
    · rintro st ⟨mo, e', t', rfl, hq', hmon, hmo⟩
      have hst' : f_X4_states (yz μ e' t') = some (nI M) := hst
      unfold f_X4_layEnds_b143
      dsimp only
      rw [hst', Option.bind_some, if_pos (nI_le (Nat.le_refl _) (by omega))]
      exact ⟨_, rfl, mo, e', t', rfl, hq', hmon, hmo⟩
  obtain ⟨x, hx, mo, e', t', rfl, a, b, c⟩ := L1
  exact ⟨mo, e', t', hx, a, b, c⟩
theorem y_passes (hst : f_X4_states μ = some (nI M)) (hM : M ≤ 1024) (hF : ∀ s, s < M → F s < M) (h1 : mhd μ = hd) (h2 : mnw μ &&& mhd μ = hw) (hB : ∀ s, s < M → nI s &&& hd = hw → nI (F s) &&& hd = hw) (hbe : ∀ s, s < M → nI s &&& hd = hw → mbe μ s = nI (F s)) {e t : Nat → Int32} (hq : Q2 M F (fun s => nI s &&& hd = hw) e t) : ∃ e' t', itr f_X4_layEnds_b135 FU ((1 : Int32), yz μ e t) = some (yz μ e' t') ∧ ∀ s, s < M → (nI s &&& hd = hw → dn M F e' t' s) ∧ (¬ nI s &&& hd = hw → e' s = -6) := by
  let un : (Nat → Int32) → Nat := fun e => cnt (fun s => decide (e s = -6)) M
  have L1 : ∃ x, itr f_X4_layEnds_b135 FU ((1 : Int32), yz μ e t) = some x ∧ ∃ e' t', x = yz μ e' t' ∧ Q2 M F (fun s => nI s &&& hd = hw) e' t' ∧ ∀ s, s < M → nI s &&& hd = hw → e' s = -6 → e' (F s) = -6 := by
    refine itr_cut (fun i st => ∃ mo e' t', st = (mo, yz μ e' t') ∧ Q2 M F (fun s => nI s &&& hd = hw) e' t' ∧ ((mo = 1 ∧ i + un e' ≤ M) ∨ (mo = 0 ∧ ∀ s, s < M → nI s &&& hd = hw → e' s = -6 → e' (F s) = -6))) _ (M + 1) (by omega) ⟨1, e, t, rfl, hq, Or.inl ⟨rfl, by rw [Nat.zero_add]; exact cnt_le _ _⟩⟩ ?_
    rintro i st hi ⟨mo, e', t', rfl, hq', hmo⟩
    unfold f_X4_layEnds_b135
    dsimp only
    rcases hmo with ⟨rfl, hu⟩ | ⟨rfl, hs⟩
    · rw [if_neg (by decide)]
      obtain ⟨mo2, e2, t2, g1, g2, g3, g4⟩ := y_pass hst hM hF h1 h2 hbe hq'
      rw [g1, Option.bind_some]
      refine Or.inl ⟨_, rfl, by omega, mo2, e2, t2, rfl, g2, ?_⟩
      rcases g4 with ⟨a, b, c⟩ | ⟨a, s, hs, h8, h9⟩
      · subst b
        exact Or.inr ⟨a, c⟩
      · refine Or.inl ⟨a, ?_⟩
        have : un e2 < un e' := cnt_lt (a := s) (fun x hx hp => by
          simp only [decide_eq_true_eq] at hp ⊢
          exact Classical.byContradiction fun z => g3 x hx z hp) hs (by simp [h8]) (by simp [h9])
        omega
    · rw [if_pos rfl]
      exact Or.inr ⟨_, rfl, e', t', rfl, hq', hs⟩
  obtain ⟨x, hx, e', t', rfl, hq', hs⟩ := L1
  refine ⟨e', t', hx, fun s hsM => ⟨fun hb => ?_, fun hb => ?_⟩⟩
  · refine ((hq' s hsM).1.resolve_left (fun h6 => ?_)).2
    have all6 : ∀ k, e' (fit F k s) = -6 := by
      intro k
      induction k with
      | zero => exact h6
      | succ k ih =>
        rw [fit_s]
        exact hs _ (fit_lt hF hsM k) (fit_B (Bp := fun s => nI s &&& hd = hw) hB hF hsM hb k) ih
    exact (hq' _ (fit_lt hF hsM M)).2 (fit_B (Bp := fun s => nI s &&& hd = hw) hB hF hsM hb M) (onR_at hF hsM) (all6 M)
  · rcases (hq' s hsM).1 with h | h
    · exact h
    · exact absurd h.1 hb
end EN
theorem y_layEnds {μ : MS} {N r : Nat} (h : MetOK N μ) (hr : r ≤ 3) : ∃ b e t, f_X4_layEnds μ (nI r) = some (yz (ybe μ b) e t) ∧ ∀ s, s < 2 ^ N → (nI s &&& mhd μ = mnw μ &&& mhd μ → b s = nI (FF N (mwe μ) (mpa μ) (mbr μ) r (mhd μ) (mnw μ &&& mhd μ) s) ∧ dn (2 ^ N) (FF N (mwe μ) (mpa μ) (mbr μ) r (mhd μ) (mnw μ &&& mhd μ)) e t s) ∧ (¬ nI s &&& mhd μ = mnw μ &&& mhd μ → e s = -6) := by
  have h10 := h.2.2.1
  have hp := pw10 h10
  obtain ⟨b, g1, g2⟩ := y_layBehind h hr
  have hF := FF_lt h10 (mwe μ) (mpa μ) (mbr μ) r (mhd μ) (mnw μ &&& mhd μ)
  have hB : ∀ s, s < 2 ^ N → nI s &&& mhd μ = mnw μ &&& mhd μ → nI (FF N (mwe μ) (mpa μ) (mbr μ) r (mhd μ) (mnw μ &&& mhd μ) s) &&& mhd μ = mnw μ &&& mhd μ := fun s hs hb => FF_bg h10 _ _ _ _ _ _ hs hb
  have hbe : ∀ s, s < 2 ^ N → nI s &&& mhd μ = mnw μ &&& mhd μ → mbe (ybe μ b) s = nI (FF N (mwe μ) (mpa μ) (mbr μ) r (mhd μ) (mnw μ &&& mhd μ) s) := fun s hs hb => by
    show b s = _
    rw [g2 s hs, if_pos hb]
    unfold FF
    rw [if_pos hb]
  generalize FF N (mwe μ) (mpa μ) (mbr μ) r (mhd μ) (mnw μ &&& mhd μ) = F at hF hB hbe
  have hst : f_X4_states (ybe μ b) = some (nI (2 ^ N)) := y_states h.1 h10
  obtain ⟨e1, i1, i2⟩ := y_ends1 hst hp
  obtain ⟨e2, t2, i3, i4⟩ := y_ends2 (μ := ybe μ b) (hd := mhd μ) (hw := mnw μ &&& mhd μ) hst hp hF rfl rfl hB hbe (t := mta (ybe μ b)) i2
  obtain ⟨e3, t3, i5, i6⟩ := y_passes (μ := ybe μ b) (hd := mhd μ) (hw := mnw μ &&& mhd μ) hst hp hF rfl rfl hB hbe i4
  refine ⟨b, e3, t3, ?_, fun s hs => ⟨fun hb => ⟨hbe s hs hb, (i6 s hs).1 hb⟩, (i6 s hs).2⟩⟩
  unfold f_X4_layEnds
  rw [g1, Option.bind_some, i1, Option.bind_some, i3, Option.bind_some, i5, Option.bind_some]
