/-! the wage: both sides -/
def Wg (N : Nat) (we pa : Nat → Int32) (s : Int32) (p w : Nat) : Int32 := isum (fun j => we (10 * p + j) * pa (2 * w + bN s j)) N
def al (N : Nat) (we : Nat → Int32) (p : Nat) : Int32 := isum (fun j => we (10 * p + j)) N
def on (N : Nat) (we : Nat → Int32) (s : Int32) (p : Nat) : Int32 := isum (fun j => we (10 * p + j) * bI s j) N
theorem x_weightsInto {σ : GS} {N : Nat} (hN : gpl σ = nI N) (h10 : N ≤ 10) {p : Nat} (hp : p < 10) (s : Int32) : f_X1_weightsInto σ (nI p) s = some (on N (gwe σ) s p) := by
  unfold f_X1_weightsInto
  refine itr_bind (itr_run (fun i => (isum (fun j => gwe σ (10 * p + j) * bI s j) i, nI i)) N rfl (by omega) (fun i hi => ?_) ?_) rfl
  · unfold f_X1_weightsInto_b5
    dsimp only
    rw [hN, if_neg (nI_ge hi (by omega)), ix10, gd_nI (by omega) (by decide), nI_clamp (by omega), nI_p1]
    rfl
  · unfold f_X1_weightsInto_b5
    dsimp only
    rw [hN, if_pos (nI_le (Nat.le_refl _) (by omega))]
    rfl
theorem x_payOf (σ : GS) {x y : Nat} (hx : x ≤ 1) (hy : y ≤ 1) : f_X1_payOf σ (nI x) (nI y) = some (gpa σ (2 * x + y)) := by
  unfold f_X1_payOf
  rw [ix2, gd_nI (by omega) (by decide), nI_clamp (by omega)]
theorem isum_add (f g : Nat → Int32) (n : Nat) : isum (fun j => f j + g j) n = isum f n + isum g n := by
  induction n with
  | zero => rfl
  | succ n ih => simp only [isum]; rw [ih]; simp only [Int32.add_assoc]; congr 1; rw [← Int32.add_assoc, ← Int32.add_assoc, Int32.add_comm (isum g n)]
theorem isum_mul (f : Nat → Int32) (c : Int32) (n : Nat) : isum (fun j => f j * c) n = isum f n * c := by
  induction n with
  | zero => simp [isum]
  | succ n ih => simp only [isum]; rw [ih, Int32.add_mul]
theorem isum_sub (f g : Nat → Int32) (n : Nat) : isum (fun j => f j - g j) n = isum f n - isum g n := by
  induction n with
  | zero => simp [isum]
  | succ n ih => simp only [isum]; rw [ih]; grind
theorem wg_two (N : Nat) (h10 : N ≤ 10) (we pa : Nat → Int32) (s : Int32) (p w : Nat) : on N we s p * pa (2 * w + 1) + (al N we p - on N we s p) * pa (2 * w) = Wg N we pa s p w := by
  unfold on al Wg
  rw [← isum_sub, ← isum_mul, ← isum_mul, ← isum_add]
  refine isum_congr (fun j hj => ?_)
  rw [bI_nI s (by omega)]
  have hb := bN_le s j
  rcases (show bN s j = 0 ∨ bN s j = 1 by omega) with h | h <;> rw [h]
  · show we (10 * p + j) * 0 * pa (2 * w + 1) + (we (10 * p + j) - we (10 * p + j) * 0) * pa (2 * w) = we (10 * p + j) * pa (2 * w + 0)
    simp
  · show we (10 * p + j) * 1 * pa (2 * w + 1) + (we (10 * p + j) - we (10 * p + j) * 1) * pa (2 * w) = we (10 * p + j) * pa (2 * w + 1)
    simp
theorem x_wageOf {σ : GS} {N : Nat} (hN : gpl σ = nI N) (h10 : N ≤ 10) {p w : Nat} (hp : p < 10) (hw : w ≤ 1) (hal : gal σ p = al N (gwe σ) p) (s : Int32) : f_X1_wageOf σ (nI p) (nI w) s = some (Wg N (gwe σ) (gpa σ) s p w) := by
  unfold f_X1_wageOf
  rw [x_weightsInto hN h10 hp s, Option.bind_some, gd_nI hp (by decide), show (1 : Int32) = nI 1 from rfl, x_payOf σ hw (Nat.le_refl 1), Option.bind_some, show (0 : Int32) = nI 0 from rfl, x_payOf σ hw (Nat.zero_le 1), Option.bind_some, nI_clamp (by omega), hal]
  exact congrArg some (wg_two N h10 (gwe σ) (gpa σ) s p w)
theorem y_wageOf {μ : MS} {N : Nat} (hN : mpl μ = nI N) (h10 : N ≤ 10) {p w : Nat} (hp : p < 10) (hw : w ≤ 1) (s : Int32) : f_X4_wageOf μ s (nI p) (nI w) = some (Wg N (mwe μ) (mpa μ) s p w) := by
  unfold f_X4_wageOf
  refine itr_bind (itr_run (fun i => (isum (fun j => mwe μ (10 * p + j) * mpa μ (2 * w + bN s j)) i, nI i)) N rfl (by omega) (fun i hi => ?_) ?_) rfl
  · have hb := bN_le s i
    have e1 : (s >>> (nI i &&& 31)) &&& (1 : Int32) = nI (bN s i) := bI_nI s (by omega)
    unfold f_X4_wageOf_b6
    dsimp only
    rw [hN, if_neg (nI_ge hi (by omega)), ix10', gd_nI (by omega) (by decide), nI_clamp (by omega), e1, ix2, gd_nI (by omega) (by decide), nI_clamp (by omega), nI_p1]
    rfl
  · unfold f_X4_wageOf_b6
    dsimp only
    rw [hN, if_pos (nI_le (Nat.le_refl _) (by omega))]
    rfl
