/-! the way that a player takes behind a state, by a rule -/
def wayR (N : Nat) (we pa : Nat → Int32) (s : Int32) (p : Nat) : Nat := if Wg N we pa s p (bN s p) < Wg N we pa s p (1 - bN s p) then 1 - bN s p else bN s p
def cpB (N : Nat) (we pa : Nat → Int32) (s : Int32) (p : Nat) : Nat → Nat
  | 0 => p
  | j + 1 => if ¬ we (10 * p + j) = 0 ∧ Wg N we pa s (cpB N we pa s p j) (bN s (cpB N we pa s p j)) < Wg N we pa s j (bN s j) then j else cpB N we pa s p j
def wayC (N : Nat) (we pa : Nat → Int32) (s : Int32) (p : Nat) : Nat := bN s (cpB N we pa s p N)
def wayB (N : Nat) (we : Nat → Int32) (br s : Int32) (p : Nat) : Nat := if al N we p = 0 then bN s p else if 100 * on N we s p < br * al N we p then 0 else 1
def way (N : Nat) (we pa : Nat → Int32) (br : Int32) (r : Nat) (s : Int32) (p : Nat) : Nat := if r = 1 then wayC N we pa s p else if r = 2 then wayB N we br s p else wayR N we pa s p
theorem wayR_le (N : Nat) (we pa : Nat → Int32) (s : Int32) (p : Nat) : wayR N we pa s p ≤ 1 := by
  have := bN_le s p
  unfold wayR
  split <;> omega
theorem wayB_le (N : Nat) (we : Nat → Int32) (br s : Int32) (p : Nat) : wayB N we br s p ≤ 1 := by
  have := bN_le s p
  unfold wayB
  split
  · omega
  · split <;> omega
theorem way_le (N : Nat) (we pa : Nat → Int32) (br : Int32) (r : Nat) (s : Int32) (p : Nat) : way N we pa br r s p ≤ 1 := by
  unfold way
  split
  · exact bN_le _ _
  · split
    · exact wayB_le _ _ _ _ _
    · exact wayR_le _ _ _ _ _
theorem cpB_lt {N : Nat} {we pa : Nat → Int32} {s : Int32} {p : Nat} (hp : p < 10) : ∀ {j : Nat}, j ≤ 10 → cpB N we pa s p j < 10 := by
  intro j
  induction j with
  | zero => intro _; exact hp
  | succ j ih =>
    intro hj
    unfold cpB
    split
    · omega
    · exact ih (by omega)
def weOK (we : Nat → Int32) : Prop := ∀ k, k < 100 → ∃ w, w ≤ 9 ∧ we k = nI w
theorem weOK.le0 {we : Nat → Int32} (h : weOK we) {k : Nat} (hk : k < 100) : we k ≤ 0 ↔ we k = 0 := by
  obtain ⟨w, hw, e⟩ := h k hk
  rw [e]
  constructor
  · intro h1
    rw [fa_le, nI_toInt (by omega)] at h1
    have : w = 0 := by
      have h2 : (0 : Int32).toInt = 0 := rfl
      omega
    rw [this]; rfl
  · intro h1; rw [h1]; decide
theorem sub1 {b : Nat} (hb : b ≤ 1) : (1 : Int32) - nI b = nI (1 - b) := by
  show nI 1 - nI b = _
  exact pk_sub hb
theorem y_gains {μ : MS} {N : Nat} (hN : mpl μ = nI N) (h10 : N ≤ 10) {p : Nat} (hp : p < 10) (s : Int32) : f_X4_gains μ s (nI p) = some (if Wg N (mwe μ) (mpa μ) s p (bN s p) < Wg N (mwe μ) (mpa μ) s p (1 - bN s p) then 1 else 0) := by
  have hb := bN_le s p
  have e1 : (s >>> (nI p &&& 31)) &&& (1 : Int32) = nI (bN s p) := bI_nI s (by omega)
  unfold f_X4_gains
  rw [e1, sub1 hb, y_wageOf hN h10 hp (by omega) s, Option.bind_some, y_wageOf hN h10 hp hb s, Option.bind_some]
  by_cases h : Wg N (mwe μ) (mpa μ) s p (bN s p) < Wg N (mwe μ) (mpa μ) s p (1 - bN s p)
  · rw [if_neg (by rw [fa_le]; rw [fa_lt] at h; omega), if_pos h]
  · rw [if_pos (by rw [fa_le]; rw [fa_lt] at h; omega), if_neg h]
theorem y_copied {μ : MS} {N : Nat} (hN : mpl μ = nI N) (h10 : N ≤ 10) (hw : weOK (mwe μ)) {p : Nat} (hp : p < 10) (s : Int32) : f_X4_copied μ s (nI p) = some (nI (wayC N (mwe μ) (mpa μ) s p)) := by
  unfold f_X4_copied
  refine itr_bind (itr_run (fun i => (nI (cpB N (mwe μ) (mpa μ) s p i), nI i)) N rfl (by omega) (fun i hi => ?_) (x := nI (cpB N (mwe μ) (mpa μ) s p N)) ?_) (congrArg some (bI_nI s (by have := cpB_lt (N := N) (we := mwe μ) (pa := mpa μ) (s := s) hp h10; omega)))
  · have hc : cpB N (mwe μ) (mpa μ) s p i < 10 := cpB_lt hp (by omega)
    have e1 : (s >>> (nI i &&& 31)) &&& (1 : Int32) = nI (bN s i) := bI_nI s (by omega)
    have e2 : (s >>> (nI (cpB N (mwe μ) (mpa μ) s p i) &&& 31)) &&& (1 : Int32) = nI (bN s (cpB N (mwe μ) (mpa μ) s p i)) := bI_nI s (by omega)
    unfold f_X4_copied_b5
    dsimp only
    rw [hN, if_neg (nI_ge hi (by omega)), ix10', gd_nI (by omega) (by decide), nI_clamp (by omega), e1, e2, y_wageOf hN h10 (by omega) (bN_le _ _) s, y_wageOf hN h10 hc (bN_le _ _) s, nI_p1]
    simp only [Option.bind_some]
    by_cases h0 : mwe μ (10 * p + i) = 0
    · rw [if_pos ((hw.le0 (by omega)).mpr h0)]
      have : cpB N (mwe μ) (mpa μ) s p (i + 1) = cpB N (mwe μ) (mpa μ) s p i := by
        show (if _ then _ else _) = _
        rw [if_neg (fun h => h.1 h0)]
      rw [this]
    · rw [if_neg (fun h => h0 ((hw.le0 (by omega)).mp h))]
      by_cases h1 : Wg N (mwe μ) (mpa μ) s (cpB N (mwe μ) (mpa μ) s p i) (bN s (cpB N (mwe μ) (mpa μ) s p i)) < Wg N (mwe μ) (mpa μ) s i (bN s i)
      · rw [if_neg (by rw [fa_le]; rw [fa_lt] at h1; omega)]
        have : cpB N (mwe μ) (mpa μ) s p (i + 1) = i := by
          show (if _ then _ else _) = _
          rw [if_pos ⟨h0, h1⟩]
        rw [this]
      · rw [if_pos (by rw [fa_le]; rw [fa_lt] at h1; omega)]
        have : cpB N (mwe μ) (mpa μ) s p (i + 1) = cpB N (mwe μ) (mpa μ) s p i := by
          show (if _ then _ else _) = _
          rw [if_neg (fun h => h1 h.2)]
        rw [this]
  · unfold f_X4_copied_b5
    dsimp only
    rw [hN, if_pos (nI_le (Nat.le_refl _) (by omega))]
theorem y_sums {μ : MS} {N : Nat} (h10 : N ≤ 10) {p : Nat} (hp : p < 10) (s : Int32) {i : Nat} (hi : i < N) {α : Type} (k : Int32 → Int32 → Option α) : (gd ((10 : Int32) * nI p + nI i) 100 <| if ((s >>> (nI i &&& 31)) &&& (1 : Int32)) = (1 : Int32) then gd ((10 : Int32) * nI p + nI i) 100 <| k (isum (fun j => mwe μ (10 * p + j)) i + mwe μ ((10 : Int32) * nI p + nI i : Int32).toNatClampNeg) (isum (fun j => mwe μ (10 * p + j) * bI s j) i + mwe μ ((10 : Int32) * nI p + nI i : Int32).toNatClampNeg) else k (isum (fun j => mwe μ (10 * p + j)) i + mwe μ ((10 : Int32) * nI p + nI i : Int32).toNatClampNeg) (isum (fun j => mwe μ (10 * p + j) * bI s j) i + (0 : Int32))) = k (isum (fun j => mwe μ (10 * p + j)) (i + 1)) (isum (fun j => mwe μ (10 * p + j) * bI s j) (i + 1)) := by
  rw [ix10', gd_nI (by omega) (by decide), gd_nI (by omega) (by decide), nI_clamp (by omega)]
  have e1 : (s >>> (nI i &&& 31)) &&& (1 : Int32) = bI s i := rfl
  rw [e1]
  have e2 : isum (fun j => mwe μ (10 * p + j) * bI s j) (i + 1) = isum (fun j => mwe μ (10 * p + j) * bI s j) i + mwe μ (10 * p + i) * bI s i := rfl
  rw [e2, bI_bt s (by omega)]
  cases bt s i
  · rw [if_neg (by decide)]
    simp
    rfl
  · rw [if_pos (by decide)]
    simp
    rfl
theorem y_tipped {μ : MS} {N : Nat} (hN : mpl μ = nI N) (h10 : N ≤ 10) {p : Nat} (hp : p < 10) (s : Int32) : f_X4_tipped μ s (nI p) = some (nI (wayB N (mwe μ) (mbr μ) s p)) := by
  unfold f_X4_tipped
  refine itr_bind (itr_run (fun i => (isum (fun j => mwe μ (10 * p + j)) i, isum (fun j => mwe μ (10 * p + j) * bI s j) i, nI i)) N rfl (by omega) (fun i hi => ?_) (x := (al N (mwe μ) p, on N (mwe μ) s p)) ?_) ?_
  · unfold f_X4_tipped_b8
    dsimp only
    rw [hN, if_neg (nI_ge hi (by omega)), nI_p1]
    exact y_sums (μ := μ) h10 hp s hi (fun a b => some (Sum.inl (a, b, nI (i + 1)) : (Int32 × Int32 × Int32) ⊕ (Int32 × Int32)))
  · unfold f_X4_tipped_b8
    dsimp only
    rw [hN, if_pos (nI_le (Nat.le_refl _) (by omega))]
    rfl
  · dsimp only
    unfold wayB
    by_cases h0 : al N (mwe μ) p = 0
    · rw [if_pos h0, if_pos h0]
      exact congrArg some (bI_nI s (by omega))
    · rw [if_neg h0, if_neg h0]
      split <;> rfl
theorem y_wayBehind {μ : MS} {N : Nat} (hN : mpl μ = nI N) (h10 : N ≤ 10) (hw : weOK (mwe μ)) {r p : Nat} (hr : r ≤ 3) (hp : p < 10) (s : Int32) : f_X4_wayBehind μ (nI r) s (nI p) = some (nI (way N (mwe μ) (mpa μ) (mbr μ) r s p)) := by
  unfold f_X4_wayBehind way
  by_cases h1 : r = 1
  · subst h1
    rw [if_pos (by rfl), if_pos rfl, y_copied hN h10 hw hp s, Option.bind_some]
  · rw [if_neg (show ¬ nI r = (1 : Int32) from fun h => h1 (nI_inj (by omega) (by decide) h)), if_neg h1]
    by_cases h2 : r = 2
    · subst h2
      rw [if_pos (by rfl), if_pos rfl, y_tipped hN h10 hp s, Option.bind_some]
    · rw [if_neg (show ¬ nI r = (2 : Int32) from fun h => h2 (nI_inj (by omega) (by decide) h)), if_neg h2, y_gains hN h10 hp s, Option.bind_some]
      unfold wayR
      have e1 : (s >>> (nI p &&& 31)) &&& (1 : Int32) = nI (bN s p) := bI_nI s (by omega)
      rw [e1, sub1 (bN_le s p)]
      by_cases h : Wg N (mwe μ) (mpa μ) s p (bN s p) < Wg N (mwe μ) (mpa μ) s p (1 - bN s p)
      · rw [if_pos h, if_pos h, if_neg (by decide)]
      · rw [if_neg h, if_neg h, if_pos (by rfl)]
