/-! tip -/
theorem never {F : Nat → Nat} {s a i j : Nat} (hji : j < i) (e : fit F j s = fit F i s) (hno : ∀ l, l < i → fit F l s ≠ a) : ∀ k, fit F k s ≠ a := by
  intro k
  induction k using Nat.strongRecOn with
  | _ k ih =>
    rcases Nat.lt_or_ge k i with h | h
    · exact hno k h
    · have e2 : fit F k s = fit F (j + (k - i)) s := by
        rw [fit_add, e, ← fit_add, show i + (k - i) = k by omega]
      rw [e2]
      exact ih _ (by omega)
theorem never_M {F : Nat → Nat} {M : Nat} (hF : ∀ s, s < M → F s < M) {s a : Nat} (hs : s < M) (hno : ∀ l, l < M → fit F l s ≠ a) : ∀ k, fit F k s ≠ a := by
  have h : ¬ ∀ i j, i < M + 1 → j < M + 1 → fit F i s = fit F j s → i = j := fun h => by
    have := pig (g := fun i => fit F i s) (n := M + 1) (M := M) (fun i _ => fit_lt hF hs i) h
    omega
  refine Classical.byContradiction fun hn => h (fun i j hi hj e => ?_)
  rcases Nat.lt_trichotomy i j with h1 | h1 | h1
  · exact absurd (never h1 e (fun l hl => hno l (by omega))) hn
  · exact h1
  · exact absurd (never h1 e.symm (fun l hl => hno l (by omega))) hn
theorem next_m {N : Nat} {σ : GS} {μ : MS} (h : RelN N σ μ) {r k : Nat} (hr : r ≤ 3) (hk : k < 2 ^ N) (hd : Int32) : ∃ σ', f_X0_next σ (nI r) hd (nI k) = some (nI (nxN N (mwe μ) (mpa μ) (mbr μ) r hd k), σ') ∧ f_X4_next μ (nI r) (nI k) hd = some (nI (nxN N (mwe μ) (mpa μ) (mbr μ) r hd k)) ∧ RelN N σ' μ ∧ Kp σ σ' := by
  rw [h.2.1.2.2.2.2.1, h.2.1.2.2.2.2.2, h.2.1.2.1]
  exact next_h h hr hk hd
def TP (N : Nat) (μ : MS) (r s : Nat) : Prop := ∃ k, fit (nxN N (mwe μ) (mpa μ) (mbr μ) r (nI s)) k s = 2 ^ N - 1
theorem m1pow (N : Nat) : nI (2 ^ N) - (1 : Int32) = nI (2 ^ N - 1) := pk_sub (b := 1) Nat.one_le_two_pow
theorem x_tips {N : Nat} {σ : GS} {μ : MS} (h : RelN N σ μ) {r s : Nat} (hr : r ≤ 3) (hs : s < 2 ^ N) (hm : ∀ y, y < 2 ^ N → gma σ y ≠ nI s) : ∃ v σ', f_X3_tipsAll σ (nI r) (nI s) = some (v, σ') ∧ RelN N σ' μ ∧ (∀ y, y < 2 ^ N → gma σ' y = nI s ∨ gma σ' y = gma σ y) ∧ ((v = 1 ∧ TP N μ r s) ∨ (v = 0 ∧ ¬ TP N μ r s)) := by
  obtain ⟨a1, a2, a3, a4⟩ := h.pl
  have hpw := pw10 a4
  unfold f_X3_tipsAll TP
  rw [x_states a1 a4, Option.bind_some]
  have hFl : ∀ y, y < 2 ^ N → nxN N (mwe μ) (mpa μ) (mbr μ) r (nI s) y < 2 ^ N := fun y hy => (nxN_ok a4 (mwe μ) (mpa μ) (mbr μ) r (nI s) hy).1
  have hnx : ∀ (x : GS), RelN N x μ → ∀ y, y < 2 ^ N → ∃ σ', f_X0_next x (nI r) (nI s) (nI y) = some (nI (nxN N (mwe μ) (mpa μ) (mbr μ) r (nI s) y), σ') ∧ RelN N σ' μ ∧ Kp x σ' := fun x hx y hy => by
    obtain ⟨σ', k1, -, k3, k4⟩ := next_m hx hr hy (nI s)
    exact ⟨σ', k1, k3, k4⟩
  generalize nxN N (mwe μ) (mpa μ) (mbr μ) r (nI s) = F at hFl hnx
  have L : ∃ v, itr (f_X3_tipsAll_b16 (nI s) (nI (2 ^ N)) (nI r)) FU (nI s, (0 : Int32), σ) = some v ∧ ∃ x, RelN N x μ ∧ (∀ y, y < 2 ^ N → gma x y = nI s ∨ gma x y = gma σ y) ∧ ((v = .inl x ∧ ∃ k, fit F k s = 2 ^ N - 1) ∨ (v = .inr x ∧ ∀ k, fit F k s ≠ 2 ^ N - 1)) := by
    refine itr_cut (fun i st => ∃ x, st = (nI (fit F i s), nI i, x) ∧ RelN N x μ ∧ (∀ y, y < 2 ^ N → gma x y = nI s ∨ gma x y = gma σ y) ∧ (∀ y, y < 2 ^ N → (gma x y = nI s ↔ ∃ j, j < i ∧ fit F j s = y)) ∧ (∀ j, j < i → fit F j s ≠ 2 ^ N - 1) ∧ ∀ a b, a < i → b < i → fit F a s = fit F b s → a = b) _ (2 ^ N) (by omega) ?_ ?_
    · refine ⟨σ, rfl, h, fun y _ => Or.inr rfl, fun y hy => ⟨fun z => absurd z (hm y hy), ?_⟩, fun j hj => by omega, fun a b ha => by omega⟩
      rintro ⟨j, hj, -⟩
      omega
    · rintro i st hi ⟨x, rfl, hx, hk, hq, hno, hinj⟩
      have hlt := fit_lt hFl hs i
      unfold f_X3_tipsAll_b16
      dsimp only
      rw [if_neg (show ¬ (1024 : Int32) < nI i from nI_nlt (b := i) (a := 1024) (by omega) (by omega)), gd_nI (by omega) (by decide), gd_nI (by omega) (by decide), nI_clamp (by omega), m1pow]
      by_cases h1 : gma x (fit F i s) = nI s
      · rw [if_pos h1]
        obtain ⟨j, hj, e⟩ := (hq _ hlt).mp h1
        exact Or.inr ⟨_, rfl, x, hx, hk, Or.inr ⟨rfl, never hj e hno⟩⟩
      · rw [if_neg h1]
        by_cases h2 : fit F i s = 2 ^ N - 1
        · rw [if_pos (by rw [h2])]
          exact Or.inr ⟨_, rfl, x, hx, hk, Or.inl ⟨rfl, i, h2⟩⟩
        · rw [if_neg (fun z => h2 (nI_inj (by omega) (by omega) z))]
          have hx2 : RelN N (gtma x (nI (fit F i s)) (nI s)) μ := ⟨hx.1, hx.2.1, wishOK.of rfl rfl rfl rfl rfl hx.2.2.1, hx.2.2.2⟩
          obtain ⟨σ', k1, k3, k4⟩ := hnx _ hx2 _ hlt
          rw [k1, Option.bind_some, nI_p1]
          have hg : ∀ y, gma σ' y = if y = fit F i s then nI s else gma x y := fun y => by
            rw [k4.2.2.2.2.2.2.2.2]
            show upd (gma x) (nI (fit F i s)).toNatClampNeg (nI s) y = _
            rw [nI_clamp (by omega)]
            rfl
          have hnew : ∀ j, j < i → fit F j s ≠ fit F i s := fun j hj e => h1 ((hq _ hlt).mpr ⟨j, hj, e⟩)
          have hinj2 : ∀ a b, a < i + 1 → b < i + 1 → fit F a s = fit F b s → a = b := fun a b ha hb e => by
            by_cases e1 : a = i
            · by_cases e2 : b = i
              · omega
              · subst e1; exact absurd e.symm (hnew b (by omega))
            · by_cases e2 : b = i
              · subst e2; exact absurd e (hnew a (by omega))
              · exact hinj a b (by omega) (by omega) e
          have hile : i + 1 ≤ 2 ^ N := pig (g := fun j => fit F j s) (fun j _ => fit_lt hFl hs j) hinj2
          refine Or.inl ⟨_, rfl, by omega, σ', ?_, k3, fun y hy => ?_, fun y hy => ?_, fun j hj => ?_, hinj2⟩
          · rw [fit_s F i s]
          · rw [hg y]
            by_cases e : y = fit F i s
            · rw [if_pos e]; exact Or.inl rfl
            · rw [if_neg e]; exact hk y hy
          · rw [hg y]
            by_cases e : y = fit F i s
            · rw [if_pos e]; exact ⟨fun _ => ⟨i, by omega, e.symm⟩, fun _ => rfl⟩
            · rw [if_neg e, hq y hy]
              constructor
              · rintro ⟨j, hj, ej⟩
                exact ⟨j, by omega, ej⟩
              · rintro ⟨j, hj, ej⟩
                rcases Nat.lt_or_ge j i with hh | hh
                · exact ⟨j, hh, ej⟩
                · rw [show j = i by omega] at ej
                  exact absurd ej.symm e
          · by_cases e : j = i
            · subst e; exact h2
            · exact hno j (by omega)
  obtain ⟨v, hv, x, hx, hk, hres⟩ := L
  rw [hv, Option.bind_some]
  rcases hres with ⟨rfl, hT⟩ | ⟨rfl, hT⟩
  · exact ⟨_, x, rfl, hx, hk, Or.inl ⟨rfl, hT⟩⟩
  · exact ⟨_, x, rfl, hx, hk, Or.inr ⟨rfl, fun ⟨k, e⟩ => hT k e⟩⟩
theorem y_tips {N : Nat} {σ : GS} {μ : MS} (h : RelN N σ μ) {r s : Nat} (hr : r ≤ 3) (hs : s < 2 ^ N) : ∃ v, f_X4_tips μ (nI r) (nI s) = some v ∧ ((v = 1 ∧ TP N μ r s) ∨ (v = 0 ∧ ¬ TP N μ r s)) := by
  obtain ⟨a1, a2, a3, a4⟩ := h.pl
  have hpw := pw10 a4
  unfold f_X4_tips TP
  rw [y_states a2 a4, Option.bind_some]
  have hFl : ∀ y, y < 2 ^ N → nxN N (mwe μ) (mpa μ) (mbr μ) r (nI s) y < 2 ^ N := fun y hy => (nxN_ok a4 (mwe μ) (mpa μ) (mbr μ) r (nI s) hy).1
  have hnx : ∀ y, y < 2 ^ N → f_X4_next μ (nI r) (nI y) (nI s) = some (nI (nxN N (mwe μ) (mpa μ) (mbr μ) r (nI s) y)) := fun y hy => by
    obtain ⟨σ', -, k1, -⟩ := next_m h hr hy (nI s)
    exact k1
  generalize nxN N (mwe μ) (mpa μ) (mbr μ) r (nI s) = F at hFl hnx
  have L : ∃ v, itr (f_X4_tips_b16 μ (nI (2 ^ N)) (nI r) (nI s)) FU (nI s, (-1 : Int32), (0 : Int32)) = some v ∧ ∃ k, v = nI (fit F k s) ∧ (fit F k s = 2 ^ N - 1 ∨ ∀ l, fit F l s ≠ 2 ^ N - 1) := by
    refine itr_cut (fun i st => ∃ m, st = (nI (fit F i s), m, nI i) ∧ (m = -1 ∨ ∃ j, j < i ∧ m = nI (fit F j s)) ∧ ∀ j, j < i → fit F j s ≠ 2 ^ N - 1) _ 1024 (by omega) ⟨-1, rfl, Or.inl rfl, fun j hj => by omega⟩ ?_
    rintro i st hi ⟨m, rfl, hm, hno⟩
    have hlt := fit_lt hFl hs i
    unfold f_X4_tips_b16
    dsimp only
    rw [m1pow]
    by_cases h0 : i = 1024
    · rw [if_pos (show (1024 : Int32) ≤ nI i from nI_le (a := 1024) (by omega) (by omega))]
      exact Or.inr ⟨_, rfl, i, rfl, Or.inr (never_M hFl hs (fun l hl => hno l (by omega)))⟩
    · rw [if_neg (nge1024 (by omega))]
      by_cases h2 : fit F i s = 2 ^ N - 1
      · rw [if_pos (by rw [h2])]
        exact Or.inr ⟨_, rfl, i, rfl, Or.inl h2⟩
      · rw [if_neg (fun z => h2 (nI_inj (by omega) (by omega) z))]
        by_cases h3 : nI (fit F i s) = m
        · rw [if_pos h3]
          rcases hm with e | ⟨j, hj, e⟩
          · exact absurd (h3.trans e) (nI_ne_neg (by omega) (by decide))
          · have hlj := fit_lt hFl hs j
            have e2 : fit F j s = fit F i s := nI_inj (by omega) (by omega) (e.symm.trans h3.symm)
            exact Or.inr ⟨_, rfl, i, rfl, Or.inr (never hj e2 hno)⟩
        · rw [if_neg h3, hnx _ hlt, Option.bind_some, Option.bind_some, nI_p1, ← fit_s F i s]
          have hno2 : ∀ j, j < i + 1 → fit F j s ≠ 2 ^ N - 1 := fun j hj => by
            by_cases e : j = i
            · subst e; exact h2
            · exact hno j (by omega)
          by_cases h4 : (nI i &&& (nI i - (1 : Int32))) = 0
          · rw [if_pos h4]
            exact Or.inl ⟨_, rfl, by omega, _, rfl, Or.inr ⟨i, by omega, rfl⟩, hno2⟩
          · rw [if_neg h4]
            refine Or.inl ⟨_, rfl, by omega, _, rfl, ?_, hno2⟩
            rcases hm with e | ⟨j, hj, e⟩
            · exact Or.inl e
            · exact Or.inr ⟨j, by omega, e⟩
  obtain ⟨v, hv, k, rfl, hres⟩ := L
  have hlt := fit_lt hFl hs k
  rw [hv, Option.bind_some, m1pow]
  by_cases h2 : fit F k s = 2 ^ N - 1
  · rw [if_pos (by rw [h2])]
    exact ⟨_, rfl, Or.inl ⟨rfl, k, h2⟩⟩
  · rw [if_neg (fun z => h2 (nI_inj (by omega) (by omega) z))]
    rcases hres with e | e
    · exact absurd e h2
    · exact ⟨_, rfl, Or.inr ⟨rfl, fun ⟨l, e2⟩ => e l e2⟩⟩
def bc (s : Nat) : Nat := cnt (fun p => s.testBit p) 10
theorem x_bits0 : ∀ a, a < 32 → ∀ b, b < 32 → f_J6_bitCount_0f7a4 (nI (32 * a + b)) = some (nI (bc (32 * a + b))) := by decide +kernel
theorem x_bits {s : Nat} (h : s < 1024) : f_J6_bitCount_0f7a4 (nI s) = some (nI (bc s)) := by
  have := x_bits0 (s / 32) (by omega) (s % 32) (by omega)
  rw [show 32 * (s / 32) + s % 32 = s by omega] at this
  exact this
theorem cnt_more {P : Nat → Bool} {n m : Nat} (h : ∀ p, n ≤ p → p < n + m → P p = false) : cnt P (n + m) = cnt P n := by
  induction m with
  | zero => rfl
  | succ m ih =>
    have e : cnt P (n + (m + 1)) = cnt P (n + m) + if P (n + m) then 1 else 0 := rfl
    rw [e, ih (fun p h1 h2 => h p h1 (by omega)), h (n + m) (by omega) (by omega)]
    rfl
theorem bc_N {N s : Nat} (hN : N ≤ 10) (hs : s < 2 ^ N) : bc s = cnt (fun p => s.testBit p) N := by
  have := cnt_more (P := fun p => s.testBit p) (n := N) (m := 10 - N) (fun p h1 _ => Nat.testBit_lt_two_pow (Nat.lt_of_lt_of_le hs (Nat.pow_le_pow_right (by omega) h1)))
  rw [show N + (10 - N) = 10 by omega] at this
  exact this
theorem y_bits {μ : MS} {N s : Nat} (h2 : mpl μ = nI N) (hN : N ≤ 10) (hs : s < 2 ^ N) : f_X4_bits μ (nI s) = some (nI (bc s)) := by
  rw [bc_N hN hs]
  unfold f_X4_bits
  refine itr_bind (itr_run (fun p => (nI (cnt (fun p => s.testBit p) p), nI p)) N rfl (by omega) (fun p hp => ?_) ?_) rfl
  · unfold f_X4_bits_b4
    dsimp only
    have e : (nI s >>> (nI p &&& 31)) &&& (1 : Int32) = nI (bN (nI s) p) := bI_nI (nI s) (by omega)
    have e2 : bN (nI s) p = if s.testBit p then 1 else 0 := by unfold bN; rw [b_nI (by omega)]
    rw [h2, if_neg (nI_ge hp (by omega)), e, nI_add, nI_p1, cnt_s, e2]
  · unfold f_X4_bits_b4
    dsimp only
    rw [h2, if_pos (nI_le (Nat.le_refl _) (by omega))]
theorem q_tip (σ : GS) (μ : MS) (h : Rel σ μ) (x1 : Int32) : ∃ r σ1, f_X3_tip σ x1 = some (r, σ1) ∧ f_X4_tip μ x1 = some r ∧ Rel σ1 μ := by
  obtain ⟨N, hR⟩ := id h
  obtain ⟨a1, a2, a3, a4⟩ := hR.pl
  have hpw := pw10 a4
  unfold f_X3_tip f_X4_tip
  rcases rule_cases x1 with ⟨r, hr, e1, g1, g2⟩ | ⟨g1, g2⟩
  · rw [g1, g2, Option.bind_some, Option.bind_some, if_neg one_ne, if_neg one_ne]
    subst e1
    rw [x_clearMarks a1 a4, Option.bind_some]
    generalize hσ0 : zma σ (clr (gma σ) (-1) (2 ^ N)) = σ0
    have hR0 : RelN N σ0 μ := by rw [← hσ0]; exact hR.ma _
    have hm0 : ∀ s, s < 2 ^ N → gma σ0 s = -1 := fun s hs => by
      rw [← hσ0]
      show clr (gma σ) (-1) (2 ^ N) s = -1
      unfold clr; rw [if_pos hs]
    have hxt : ∀ (x : GS), RelN N x μ → ∀ s, s < 2 ^ N → (∀ y, y < 2 ^ N → gma x y ≠ nI s) → ∃ v σ', f_X3_tipsAll x (nI r) (nI s) = some (v, σ') ∧ RelN N σ' μ ∧ (∀ y, y < 2 ^ N → gma σ' y = nI s ∨ gma σ' y = gma x y) ∧ ((v = 1 ∧ TP N μ r s) ∨ (v = 0 ∧ ¬ TP N μ r s)) := fun x hx s hs hm => x_tips hx hr hs hm
    have hyt : ∀ s, s < 2 ^ N → ∃ v, f_X4_tips μ (nI r) (nI s) = some v ∧ ((v = 1 ∧ TP N μ r s) ∨ (v = 0 ∧ ¬ TP N μ r s)) := fun s hs => y_tips hR hr hs
    generalize TP N μ r = T at hxt hyt
    have hbl : ∀ s, s < 2 ^ N → bc s ≤ N := fun s hs => by rw [bc_N a4 hs]; exact cnt_le _ _
    let bef : Nat → Nat → Nat → Prop := fun n j t => t < 2 ^ N ∧ (bc t < n ∨ (bc t = n ∧ t < j))
    let fst : Nat → Prop := fun s => s < 2 ^ N ∧ T s ∧ ∀ t, bef (bc s) s t → ¬ T t
    have hbs : ∀ n j t, bef n (j + 1) t → bef n j t ∨ (t = j ∧ bc t = n) := fun n j t hb => by
      obtain ⟨b1, b2⟩ := hb
      rcases b2 with b2 | ⟨b2, b3⟩
      · exact Or.inl ⟨b1, Or.inl b2⟩
      · by_cases e : t = j
        · exact Or.inr ⟨e, b2⟩
        · exact Or.inl ⟨b1, Or.inr ⟨b2, by omega⟩⟩
    have hbm : ∀ n j t, bef n j t → bef n (j + 1) t := fun n j t hb => ⟨hb.1, by
      rcases hb.2 with b | ⟨b, c⟩
      · exact Or.inl b
      · exact Or.inr ⟨b, by omega⟩⟩
    have hb0 : ∀ n t, bef (n + 1) 0 t ↔ bef n (2 ^ N) t := fun n t => by
      constructor
      · rintro ⟨b1, b2⟩
        refine ⟨b1, ?_⟩
        rcases b2 with b | ⟨b, c⟩
        · rcases Nat.lt_or_ge (bc t) n with hh | hh
          · exact Or.inl hh
          · exact Or.inr ⟨by omega, b1⟩
        · omega
      · rintro ⟨b1, b2⟩
        refine ⟨b1, Or.inl ?_⟩
        rcases b2 with b | ⟨b, c⟩ <;> omega
    -- the class
    have L1 : ∃ v, itr (f_X3_tip_b16 (nI r)) FU ((0 : Int32), σ0) = some v ∧ ((∃ s x, v = .inl (nI s, x) ∧ fst s ∧ RelN N x μ) ∨ (∃ x, v = .inr x ∧ (∀ t, t < 2 ^ N → ¬ T t) ∧ RelN N x μ)) := by
      refine itr_cut (fun n st => ∃ x, st = (nI n, x) ∧ RelN N x μ ∧ (∀ y, y < 2 ^ N → gma x y = -1 ∨ ∃ t, bef n 0 t ∧ gma x y = nI t) ∧ ∀ t, bef n 0 t → ¬ T t) _ (N + 1) (by omega) ⟨σ0, rfl, hR0, fun y hy => Or.inl (hm0 y hy), fun t ht => ?_⟩ ?_
      · obtain ⟨-, b | ⟨-, b⟩⟩ := ht <;> omega
      · rintro n st hn ⟨x, rfl, hx, hma, hno⟩
        unfold f_X3_tip_b16
        dsimp only
        rw [hx.pl.1]
        by_cases hnN : n = N + 1
        · rw [if_pos (nI_lt (by omega) (by omega))]
          refine Or.inr ⟨_, rfl, Or.inr ⟨x, rfl, fun t ht => hno t ⟨ht, Or.inl ?_⟩, hx⟩⟩
          have := hbl t ht
          omega
        · rw [if_neg (nI_nlt (by omega) (by omega))]
          have L2 : ∃ v, itr (f_X3_tip_b29 (nI n) (nI r)) FU ((0 : Int32), x) = some v ∧ ((∃ s x, v = .inl (nI s, x) ∧ fst s ∧ RelN N x μ) ∨ (∃ x, v = .inr x ∧ RelN N x μ ∧ (∀ y, y < 2 ^ N → gma x y = -1 ∨ ∃ t, bef n (2 ^ N) t ∧ gma x y = nI t) ∧ ∀ t, bef n (2 ^ N) t → ¬ T t)) := by
            refine itr_cut (fun j st => ∃ x, st = (nI j, x) ∧ RelN N x μ ∧ (∀ y, y < 2 ^ N → gma x y = -1 ∨ ∃ t, bef n j t ∧ gma x y = nI t) ∧ ∀ t, bef n j t → ¬ T t) _ (2 ^ N) (by omega) ⟨x, rfl, hx, hma, hno⟩ ?_
            rintro j st hj ⟨x, rfl, hx, hma, hno⟩
            unfold f_X3_tip_b29
            dsimp only
            rw [x_states hx.pl.1 a4, Option.bind_some]
            by_cases hjM : j = 2 ^ N
            · subst hjM
              rw [if_pos (nI_le (Nat.le_refl _) (by omega))]
              exact Or.inr ⟨_, rfl, Or.inr ⟨x, rfl, hx, hma, hno⟩⟩
            · have hj2 : j < 2 ^ N := by omega
              have hbj := hbl j hj2
              rw [if_neg (nI_ge hj2 (by omega)), x_bits (by omega), Option.bind_some, nI_p1]
              by_cases hb : bc j = n
              · rw [if_pos (by rw [hb])]
                have hfresh : ∀ y, y < 2 ^ N → gma x y ≠ nI j := fun y hy e => by
                  rcases hma y hy with z | ⟨t, ht, z⟩
                  · exact nI_ne_neg (n := j) (by omega) (z := -1) (by decide) (e.symm.trans z)
                  · obtain ⟨b1, b2⟩ := ht
                    have : t = j := nI_inj (by omega) (by omega) (z.symm.trans e)
                    subst this
                    rcases b2 with b | ⟨-, b⟩ <;> omega
                obtain ⟨v, σ', k1, k2, k3, k4⟩ := hxt x hx j hj2 hfresh
                rw [k1, Option.bind_some]
                dsimp only
                rcases k4 with ⟨rfl, hT⟩ | ⟨rfl, hT⟩
                · rw [if_neg one_ne]
                  refine Or.inr ⟨_, rfl, Or.inl ⟨j, σ', rfl, ⟨hj2, hT, ?_⟩, k2⟩⟩
                  rw [hb]
                  exact hno
                · rw [if_pos rfl]
                  refine Or.inl ⟨_, rfl, hj2, σ', rfl, k2, fun y hy => ?_, fun t ht => ?_⟩
                  · rcases k3 y hy with z | z
                    · exact Or.inr ⟨j, ⟨hj2, Or.inr ⟨hb, by omega⟩⟩, z⟩
                    · rw [z]
                      rcases hma y hy with w | ⟨t, ht, w⟩
                      · exact Or.inl w
                      · exact Or.inr ⟨t, hbm n j t ht, w⟩
                  · rcases hbs n j t ht with z | ⟨z, -⟩
                    · exact hno t z
                    · rw [z]; exact hT
              · rw [if_neg (fun z => hb (nI_inj (by omega) (by omega) z))]
                refine Or.inl ⟨_, rfl, hj2, x, rfl, hx, fun y hy => ?_, fun t ht => ?_⟩
                · rcases hma y hy with w | ⟨t, ht, w⟩
                  · exact Or.inl w
                  · exact Or.inr ⟨t, hbm n j t ht, w⟩
                · rcases hbs n j t ht with z | ⟨z, z2⟩
                  · exact hno t z
                  · rw [z] at z2; exact absurd z2 hb
          obtain ⟨v, hv, hq⟩ := L2
          rw [hv, Option.bind_some]
          rcases hq with ⟨s, x', rfl, hs, hx'⟩ | ⟨x', rfl, hx', hma', hno'⟩
          · exact Or.inr ⟨_, rfl, Or.inl ⟨s, x', rfl, hs, hx'⟩⟩
          · dsimp only
            rw [nI_p1]
            refine Or.inl ⟨_, rfl, by omega, x', rfl, hx', fun y hy => ?_, fun t ht => hno' t ((hb0 n t).mp ht)⟩
            rcases hma' y hy with w | ⟨t, ht, w⟩
            · exact Or.inl w
            · exact Or.inr ⟨t, (hb0 n t).mpr ht, w⟩
    -- the reference
    have L3 : ∃ v, itr (f_X4_tip_b12 μ (nI r)) FU (0 : Int32) = some v ∧ ((∃ s, v = .inl (nI s) ∧ fst s) ∨ (v = .inr () ∧ (∀ t, t < 2 ^ N → ¬ T t))) := by
      refine itr_cut (fun n st => st = nI n ∧ ∀ t, bef n 0 t → ¬ T t) _ (N + 1) (by omega) ⟨rfl, fun t ht => ?_⟩ ?_
      · obtain ⟨-, b | ⟨-, b⟩⟩ := ht <;> omega
      · rintro n st hn ⟨rfl, hno⟩
        unfold f_X4_tip_b12
        rw [a2]
        by_cases hnN : n = N + 1
        · rw [if_pos (nI_lt (by omega) (by omega))]
          refine Or.inr ⟨_, rfl, Or.inr ⟨rfl, fun t ht => hno t ⟨ht, Or.inl ?_⟩⟩⟩
          have := hbl t ht
          omega
        · rw [if_neg (nI_nlt (by omega) (by omega))]
          have L2 : ∃ v, itr (f_X4_tip_b22 μ (nI n) (nI r)) FU (0 : Int32) = some v ∧ ((∃ s, v = .inl (nI s) ∧ fst s) ∨ (v = .inr () ∧ ∀ t, bef n (2 ^ N) t → ¬ T t)) := by
            refine itr_cut (fun j st => st = nI j ∧ ∀ t, bef n j t → ¬ T t) _ (2 ^ N) (by omega) ⟨rfl, hno⟩ ?_
            rintro j st hj ⟨rfl, hno⟩
            unfold f_X4_tip_b22
            rw [y_states a2 a4, Option.bind_some]
            by_cases hjM : j = 2 ^ N
            · subst hjM
              rw [if_pos (nI_le (Nat.le_refl _) (by omega))]
              exact Or.inr ⟨_, rfl, Or.inr ⟨rfl, hno⟩⟩
            · have hj2 : j < 2 ^ N := by omega
              have hbj := hbl j hj2
              rw [if_neg (nI_ge hj2 (by omega)), y_bits a2 a4 hj2, Option.bind_some, nI_p1]
              by_cases hb : bc j = n
              · rw [if_pos (by rw [hb])]
                obtain ⟨v, k1, k4⟩ := hyt j hj2
                rw [k1, Option.bind_some]
                rcases k4 with ⟨rfl, hT⟩ | ⟨rfl, hT⟩
                · rw [if_neg one_ne]
                  refine Or.inr ⟨_, rfl, Or.inl ⟨j, rfl, ⟨hj2, hT, ?_⟩⟩⟩
                  rw [hb]
                  exact hno
                · rw [if_pos rfl]
                  refine Or.inl ⟨_, rfl, hj2, rfl, fun t ht => ?_⟩
                  rcases hbs n j t ht with z | ⟨z, -⟩
                  · exact hno t z
                  · rw [z]; exact hT
              · rw [if_neg (fun z => hb (nI_inj (by omega) (by omega) z))]
                refine Or.inl ⟨_, rfl, hj2, rfl, fun t ht => ?_⟩
                rcases hbs n j t ht with z | ⟨z, z2⟩
                · exact hno t z
                · rw [z] at z2; exact absurd z2 hb
          obtain ⟨v, hv, hq⟩ := L2
          rw [hv, Option.bind_some]
          rcases hq with ⟨s, rfl, hs⟩ | ⟨rfl, hno'⟩
          · exact Or.inr ⟨_, rfl, Or.inl ⟨s, rfl, hs⟩⟩
          · dsimp only
            rw [nI_p1]
            exact Or.inl ⟨_, rfl, by omega, rfl, fun t ht => hno' t ((hb0 n t).mp ht)⟩
    obtain ⟨v, hv, hq⟩ := L1
    obtain ⟨v2, hv2, hq2⟩ := L3
    rw [hv, hv2, Option.bind_some, Option.bind_some]
    rcases hq with ⟨s, x, rfl, ⟨u1, u2, u3⟩, hx⟩ | ⟨x, rfl, hno, hx⟩
    · rcases hq2 with ⟨s2, rfl, w1, w2, w3⟩ | ⟨-, hno⟩
      · have e : s = s2 := by
          rcases Nat.lt_trichotomy (bc s) (bc s2) with c | c | c
          · exact absurd u2 (w3 s ⟨u1, Or.inl c⟩)
          · rcases Nat.lt_trichotomy s s2 with d | d | d
            · exact absurd u2 (w3 s ⟨u1, Or.inr ⟨c, d⟩⟩)
            · exact d
            · exact absurd w2 (u3 s2 ⟨w1, Or.inr ⟨c.symm, d⟩⟩)
          · exact absurd w2 (u3 s2 ⟨w1, Or.inl c⟩)
        subst e
        exact ⟨_, x, rfl, rfl, N, hx⟩
      · exact absurd u2 (hno s u1)
    · rcases hq2 with ⟨s2, -, w1, w2, -⟩ | ⟨rfl, -⟩
      · exact absurd w2 (hno s2 w1)
      · exact ⟨_, x, rfl, rfl, N, hx⟩
  · rw [g1, g2]
    exact ⟨_, σ, rfl, rfl, h⟩
