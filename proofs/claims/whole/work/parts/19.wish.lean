def zwe (σ : GS) (f : Nat → Int32) : GS := (σ.1, σ.2.1, σ.2.2.1, σ.2.2.2.1, σ.2.2.2.2.1, σ.2.2.2.2.2.1, σ.2.2.2.2.2.2.1, σ.2.2.2.2.2.2.2.1, f, σ.2.2.2.2.2.2.2.2.2.1, σ.2.2.2.2.2.2.2.2.2.2.1, σ.2.2.2.2.2.2.2.2.2.2.2.1, σ.2.2.2.2.2.2.2.2.2.2.2.2.1, σ.2.2.2.2.2.2.2.2.2.2.2.2.2.1, σ.2.2.2.2.2.2.2.2.2.2.2.2.2.2.1, σ.2.2.2.2.2.2.2.2.2.2.2.2.2.2.2.1, σ.2.2.2.2.2.2.2.2.2.2.2.2.2.2.2.2.1, σ.2.2.2.2.2.2.2.2.2.2.2.2.2.2.2.2.2)
def zal (σ : GS) (f : Nat → Int32) : GS := (σ.1, σ.2.1, σ.2.2.1, σ.2.2.2.1, σ.2.2.2.2.1, σ.2.2.2.2.2.1, σ.2.2.2.2.2.2.1, σ.2.2.2.2.2.2.2.1, σ.2.2.2.2.2.2.2.2.1, f, σ.2.2.2.2.2.2.2.2.2.2.1, σ.2.2.2.2.2.2.2.2.2.2.2.1, σ.2.2.2.2.2.2.2.2.2.2.2.2.1, σ.2.2.2.2.2.2.2.2.2.2.2.2.2.1, σ.2.2.2.2.2.2.2.2.2.2.2.2.2.2.1, σ.2.2.2.2.2.2.2.2.2.2.2.2.2.2.2.1, σ.2.2.2.2.2.2.2.2.2.2.2.2.2.2.2.2.1, σ.2.2.2.2.2.2.2.2.2.2.2.2.2.2.2.2.2)
def zpa (σ : GS) (f : Nat → Int32) : GS := (σ.1, σ.2.1, σ.2.2.1, σ.2.2.2.1, σ.2.2.2.2.1, σ.2.2.2.2.2.1, σ.2.2.2.2.2.2.1, σ.2.2.2.2.2.2.2.1, σ.2.2.2.2.2.2.2.2.1, σ.2.2.2.2.2.2.2.2.2.1, f, σ.2.2.2.2.2.2.2.2.2.2.2.1, σ.2.2.2.2.2.2.2.2.2.2.2.2.1, σ.2.2.2.2.2.2.2.2.2.2.2.2.2.1, σ.2.2.2.2.2.2.2.2.2.2.2.2.2.2.1, σ.2.2.2.2.2.2.2.2.2.2.2.2.2.2.2.1, σ.2.2.2.2.2.2.2.2.2.2.2.2.2.2.2.2.1, σ.2.2.2.2.2.2.2.2.2.2.2.2.2.2.2.2.2)
def zwi (σ : GS) (f : Nat → Int32) : GS := (σ.1, σ.2.1, σ.2.2.1, σ.2.2.2.1, σ.2.2.2.2.1, σ.2.2.2.2.2.1, σ.2.2.2.2.2.2.1, σ.2.2.2.2.2.2.2.1, σ.2.2.2.2.2.2.2.2.1, σ.2.2.2.2.2.2.2.2.2.1, σ.2.2.2.2.2.2.2.2.2.2.1, f, σ.2.2.2.2.2.2.2.2.2.2.2.2.1, σ.2.2.2.2.2.2.2.2.2.2.2.2.2.1, σ.2.2.2.2.2.2.2.2.2.2.2.2.2.2.1, σ.2.2.2.2.2.2.2.2.2.2.2.2.2.2.2.1, σ.2.2.2.2.2.2.2.2.2.2.2.2.2.2.2.2.1, σ.2.2.2.2.2.2.2.2.2.2.2.2.2.2.2.2.2)
def zus (σ : GS) (f : Nat → Int32) : GS := (σ.1, σ.2.1, σ.2.2.1, σ.2.2.2.1, σ.2.2.2.2.1, σ.2.2.2.2.2.1, σ.2.2.2.2.2.2.1, σ.2.2.2.2.2.2.2.1, σ.2.2.2.2.2.2.2.2.1, σ.2.2.2.2.2.2.2.2.2.1, σ.2.2.2.2.2.2.2.2.2.2.1, σ.2.2.2.2.2.2.2.2.2.2.2.1, f, σ.2.2.2.2.2.2.2.2.2.2.2.2.2.1, σ.2.2.2.2.2.2.2.2.2.2.2.2.2.2.1, σ.2.2.2.2.2.2.2.2.2.2.2.2.2.2.2.1, σ.2.2.2.2.2.2.2.2.2.2.2.2.2.2.2.2.1, σ.2.2.2.2.2.2.2.2.2.2.2.2.2.2.2.2.2)
def zwg (σ : GS) (f : Nat → Int32) : GS := (σ.1, σ.2.1, σ.2.2.1, σ.2.2.2.1, σ.2.2.2.2.1, σ.2.2.2.2.2.1, σ.2.2.2.2.2.2.1, σ.2.2.2.2.2.2.2.1, σ.2.2.2.2.2.2.2.2.1, σ.2.2.2.2.2.2.2.2.2.1, σ.2.2.2.2.2.2.2.2.2.2.1, σ.2.2.2.2.2.2.2.2.2.2.2.1, σ.2.2.2.2.2.2.2.2.2.2.2.2.1, f, σ.2.2.2.2.2.2.2.2.2.2.2.2.2.2.1, σ.2.2.2.2.2.2.2.2.2.2.2.2.2.2.2.1, σ.2.2.2.2.2.2.2.2.2.2.2.2.2.2.2.2.1, σ.2.2.2.2.2.2.2.2.2.2.2.2.2.2.2.2.2)
def zbe (σ : GS) (f : Nat → Int32) : GS := (σ.1, σ.2.1, σ.2.2.1, σ.2.2.2.1, σ.2.2.2.2.1, σ.2.2.2.2.2.1, σ.2.2.2.2.2.2.1, σ.2.2.2.2.2.2.2.1, σ.2.2.2.2.2.2.2.2.1, σ.2.2.2.2.2.2.2.2.2.1, σ.2.2.2.2.2.2.2.2.2.2.1, σ.2.2.2.2.2.2.2.2.2.2.2.1, σ.2.2.2.2.2.2.2.2.2.2.2.2.1, σ.2.2.2.2.2.2.2.2.2.2.2.2.2.1, f, σ.2.2.2.2.2.2.2.2.2.2.2.2.2.2.2.1, σ.2.2.2.2.2.2.2.2.2.2.2.2.2.2.2.2.1, σ.2.2.2.2.2.2.2.2.2.2.2.2.2.2.2.2.2)
def zen (σ : GS) (f : Nat → Int32) : GS := (σ.1, σ.2.1, σ.2.2.1, σ.2.2.2.1, σ.2.2.2.2.1, σ.2.2.2.2.2.1, σ.2.2.2.2.2.2.1, σ.2.2.2.2.2.2.2.1, σ.2.2.2.2.2.2.2.2.1, σ.2.2.2.2.2.2.2.2.2.1, σ.2.2.2.2.2.2.2.2.2.2.1, σ.2.2.2.2.2.2.2.2.2.2.2.1, σ.2.2.2.2.2.2.2.2.2.2.2.2.1, σ.2.2.2.2.2.2.2.2.2.2.2.2.2.1, σ.2.2.2.2.2.2.2.2.2.2.2.2.2.2.1, f, σ.2.2.2.2.2.2.2.2.2.2.2.2.2.2.2.2.1, σ.2.2.2.2.2.2.2.2.2.2.2.2.2.2.2.2.2)
def zta (σ : GS) (f : Nat → Int32) : GS := (σ.1, σ.2.1, σ.2.2.1, σ.2.2.2.1, σ.2.2.2.2.1, σ.2.2.2.2.2.1, σ.2.2.2.2.2.2.1, σ.2.2.2.2.2.2.2.1, σ.2.2.2.2.2.2.2.2.1, σ.2.2.2.2.2.2.2.2.2.1, σ.2.2.2.2.2.2.2.2.2.2.1, σ.2.2.2.2.2.2.2.2.2.2.2.1, σ.2.2.2.2.2.2.2.2.2.2.2.2.1, σ.2.2.2.2.2.2.2.2.2.2.2.2.2.1, σ.2.2.2.2.2.2.2.2.2.2.2.2.2.2.1, σ.2.2.2.2.2.2.2.2.2.2.2.2.2.2.2.1, f, σ.2.2.2.2.2.2.2.2.2.2.2.2.2.2.2.2.2)
def zma (σ : GS) (f : Nat → Int32) : GS := (σ.1, σ.2.1, σ.2.2.1, σ.2.2.2.1, σ.2.2.2.2.1, σ.2.2.2.2.2.1, σ.2.2.2.2.2.2.1, σ.2.2.2.2.2.2.2.1, σ.2.2.2.2.2.2.2.2.1, σ.2.2.2.2.2.2.2.2.2.1, σ.2.2.2.2.2.2.2.2.2.2.1, σ.2.2.2.2.2.2.2.2.2.2.2.1, σ.2.2.2.2.2.2.2.2.2.2.2.2.1, σ.2.2.2.2.2.2.2.2.2.2.2.2.2.1, σ.2.2.2.2.2.2.2.2.2.2.2.2.2.2.1, σ.2.2.2.2.2.2.2.2.2.2.2.2.2.2.2.1, σ.2.2.2.2.2.2.2.2.2.2.2.2.2.2.2.2.1, f)
def zc (σ : GS) (i u w : Nat → Int32) : GS := (σ.1, σ.2.1, σ.2.2.1, σ.2.2.2.1, σ.2.2.2.2.1, σ.2.2.2.2.2.1, σ.2.2.2.2.2.2.1, σ.2.2.2.2.2.2.2.1, σ.2.2.2.2.2.2.2.2.1, σ.2.2.2.2.2.2.2.2.2.1, σ.2.2.2.2.2.2.2.2.2.2.1, i, u, w, σ.2.2.2.2.2.2.2.2.2.2.2.2.2.2.1, σ.2.2.2.2.2.2.2.2.2.2.2.2.2.2.2.1, σ.2.2.2.2.2.2.2.2.2.2.2.2.2.2.2.2.1, σ.2.2.2.2.2.2.2.2.2.2.2.2.2.2.2.2.2)
def ywe (σ : MS) (f : Nat → Int32) : MS := (σ.1, σ.2.1, σ.2.2.1, σ.2.2.2.1, f, σ.2.2.2.2.2.1, σ.2.2.2.2.2.2.1, σ.2.2.2.2.2.2.2.1, σ.2.2.2.2.2.2.2.2)
def ypa (σ : MS) (f : Nat → Int32) : MS := (σ.1, σ.2.1, σ.2.2.1, σ.2.2.2.1, σ.2.2.2.2.1, f, σ.2.2.2.2.2.2.1, σ.2.2.2.2.2.2.2.1, σ.2.2.2.2.2.2.2.2)
def ybe (σ : MS) (f : Nat → Int32) : MS := (σ.1, σ.2.1, σ.2.2.1, σ.2.2.2.1, σ.2.2.2.2.1, σ.2.2.2.2.2.1, f, σ.2.2.2.2.2.2.2.1, σ.2.2.2.2.2.2.2.2)
def yen (σ : MS) (f : Nat → Int32) : MS := (σ.1, σ.2.1, σ.2.2.1, σ.2.2.2.1, σ.2.2.2.2.1, σ.2.2.2.2.2.1, σ.2.2.2.2.2.2.1, f, σ.2.2.2.2.2.2.2.2)
def yta (σ : MS) (f : Nat → Int32) : MS := (σ.1, σ.2.1, σ.2.2.1, σ.2.2.2.1, σ.2.2.2.2.1, σ.2.2.2.2.2.1, σ.2.2.2.2.2.2.1, σ.2.2.2.2.2.2.2.1, f)
/-! the class's wishes -/
def NetOK (N : Nat) (σ : GS) : Prop := gpl σ = nI N ∧ 2 ≤ N ∧ N ≤ 10 ∧ weOK (gwe σ) ∧ ∀ p, p < 10 → gal σ p = al N (gwe σ) p
def wsh (g : Nat → Nat) : Nat → Int32
  | 0 => 0
  | p + 1 => if g p = 1 then wsh g p ||| ((1 : Int32) <<< (nI p &&& 31)) else wsh g p
theorem wsh_congr {g g' : Nat → Nat} : ∀ {n : Nat}, (∀ p, p < n → g p = g' p) → wsh g n = wsh g' n := by
  intro n
  induction n with
  | zero => intro _; rfl
  | succ n ih => intro h; simp only [wsh]; rw [ih (fun p hp => h p (by omega)), h n (by omega)]
theorem x_weightOf (σ : GS) {a b : Nat} (ha : a < 10) (hb : b < 10) : f_X1_weightOf σ (nI a) (nI b) = some (gwe σ (10 * a + b)) := by
  unfold f_X1_weightOf
  rw [ix10, gd_nI (by omega) (by decide), nI_clamp (by omega)]
theorem x_bitOf (s : Int32) (p : Nat) : f_X3_bitOf (nI p) s = some (bI s p) := rfl
theorem x_repliesTo {σ : GS} {N : Nat} (h : NetOK N σ) (s : Int32) : f_X0_repliesTo σ s = some (wsh (wayR N (gwe σ) (gpa σ) s) N) := by
  obtain ⟨hN, h2, h10, hw, hal⟩ := h
  unfold f_X0_repliesTo
  refine itr_bind (itr_run (fun i => (wsh (wayR N (gwe σ) (gpa σ) s) i, nI i)) N rfl (by omega) (fun i hi => ?_) ?_) rfl
  · unfold f_X0_repliesTo_b4
    dsimp only
    rw [hN, if_neg (nI_ge hi (by omega)), show (0 : Int32) = nI 0 from rfl, x_wageOf hN h10 (by omega) (by omega) (hal i (by omega)) s, Option.bind_some, show (1 : Int32) = nI 1 from rfl, x_wageOf hN h10 (by omega) (by omega) (hal i (by omega)) s, Option.bind_some, x_bitOf, Option.bind_some, bI_nI s (by omega), ← show (1 : Int32) = nI 1 from rfl, nI_p1]
    have e : wsh (wayR N (gwe σ) (gpa σ) s) (i + 1) = if wayR N (gwe σ) (gpa σ) s i = 1 then wsh (wayR N (gwe σ) (gpa σ) s) i ||| ((1 : Int32) <<< (nI i &&& 31)) else wsh (wayR N (gwe σ) (gpa σ) s) i := rfl
    rw [e]
    unfold wayR
    have hb := bN_le s i
    generalize Wg N (gwe σ) (gpa σ) s i = g
    rcases (show bN s i = 0 ∨ bN s i = 1 by omega) with h0 | h0 <;> rw [h0]
    · by_cases hl : g 0 < g 1
      · rw [if_pos hl, if_pos (by rw [if_pos hl])]
      · have hr : ¬ (if g 0 < g (1 - 0) then 1 - 0 else 0) = 1 := by
          have hl' : ¬ g 0 < g (1 - 0) := hl
          rw [if_neg hl']; omega
        rw [if_neg hl, if_neg hr]
        split
        · rw [if_neg (by decide)]
        · rfl
    · by_cases hl : g 0 < g 1
      · have hl2 : ¬ g 1 < g 0 := by rw [fa_lt] at *; omega
        rw [if_pos hl, if_pos (by rw [if_neg hl2])]
      · rw [if_neg hl]
        by_cases he : g 1 = g 0
        · have hl2 : ¬ g 1 < g 0 := by rw [he]; rw [fa_lt]; omega
          rw [if_pos he, if_pos (by decide), if_pos (by rw [if_neg hl2])]
        · have hl2 : g 1 < g 0 := by
            rw [fa_eq] at he; rw [fa_lt] at *; omega
          rw [if_neg he, if_neg (by rw [if_pos hl2]; omega)]
  · unfold f_X0_repliesTo_b4
    dsimp only
    rw [hN, if_pos (nI_le (Nat.le_refl _) (by omega))]
theorem x_bestBeside {σ : GS} {N : Nat} (h : NetOK N σ) {s : Int32} (hwg : ∀ j, j < N → gwg σ j = Wg N (gwe σ) (gpa σ) s j (bN s j)) {p : Nat} (hp : p < N) : f_X0_bestBeside σ (nI p) = some (nI (cpB N (gwe σ) (gpa σ) s p N)) := by
  obtain ⟨hN, h2, h10, hw, hal⟩ := h
  unfold f_X0_bestBeside
  have hcN : ∀ j, j ≤ N → cpB N (gwe σ) (gpa σ) s p j < N := by
    intro j
    induction j with
    | zero => intro _; exact hp
    | succ j ih =>
      intro hj
      unfold cpB
      split
      · omega
      · exact ih (by omega)
  refine itr_bind (itr_run (fun i => (nI (cpB N (gwe σ) (gpa σ) s p i), nI i)) N rfl (by omega) (fun i hi => ?_) ?_) rfl
  · have hc := hcN i (by omega)
    unfold f_X0_bestBeside_b4
    dsimp only
    rw [hN, if_neg (nI_ge hi (by omega)), x_weightOf σ (by omega) (by omega), Option.bind_some, gd_nI (by omega) (by decide), gd_nI (by omega) (by decide), nI_clamp (by omega), nI_clamp (by omega), hwg i hi, hwg _ hc, nI_p1]
    by_cases h0 : gwe σ (10 * p + i) = 0
    · rw [if_pos h0]
      have : cpB N (gwe σ) (gpa σ) s p (i + 1) = cpB N (gwe σ) (gpa σ) s p i := by
        show (if _ then _ else _) = _
        rw [if_neg (fun h => h.1 h0)]
      rw [this]
    · rw [if_neg h0]
      by_cases h1 : Wg N (gwe σ) (gpa σ) s (cpB N (gwe σ) (gpa σ) s p i) (bN s (cpB N (gwe σ) (gpa σ) s p i)) < Wg N (gwe σ) (gpa σ) s i (bN s i)
      · rw [if_neg (by rw [fa_le]; rw [fa_lt] at h1; omega)]
        have : cpB N (gwe σ) (gpa σ) s p (i + 1) = i := by
          show (if _ then _ else _) = _
          rw [if_pos ⟨h0, h1⟩]
        rw [this]
      · rw [if_pos (by rw [fa_le]; rw [fa_lt] at h1; omega)]
        have : cpB N (gwe σ) (gpa σ) s p (i + 1) = cpB N (gwe σ) (gpa σ) s p i := by
          show (if _ then _ else _) = _
          rw [if_neg (fun h => h1 h.2)]
        rw [this]
  · unfold f_X0_bestBeside_b4
    dsimp only
    rw [hN, if_pos (nI_le (Nat.le_refl _) (by omega))]
theorem x_copiesIn {σ : GS} {N : Nat} (h : NetOK N σ) (s : Int32) : ∃ w, f_X0_copiesIn σ s = some (wsh (wayC N (gwe σ) (gpa σ) s) N, zwg σ w) := by
  obtain ⟨hN, h2, h10, hw, hal⟩ := id h
  let F : Nat → Nat → Int32 := fun i j => if j < i then Wg N (gwe σ) (gpa σ) s j (bN s j) else gwg σ j
  refine ⟨F N, ?_⟩
  unfold f_X0_copiesIn
  refine itr_bind (itr_run (fun i => (nI i, zwg σ (F i))) N (x := zwg σ (F N)) ?_ (by omega) (fun i hi => ?_) ?_) ?_
  · show ((0 : Int32), σ) = (nI 0, zwg σ (F 0))
    have : F 0 = gwg σ := by funext j; simp [F]
    rw [this]; rfl
  · unfold f_X0_copiesIn_b2
    dsimp only
    have hN' : gpl (zwg σ (F i)) = nI N := hN
    have hal' : gal (zwg σ (F i)) i = al N (gwe (zwg σ (F i))) i := hal i (by omega)
    rw [hN', if_neg (nI_ge hi (by omega)), x_bitOf, Option.bind_some, bI_nI s (by omega), x_wageOf hN' h10 (by omega) (bN_le _ _) hal' s, Option.bind_some, gd_nI (by omega) (by decide), nI_p1]
    have e : gtwg (zwg σ (F i)) (nI i) (Wg N (gwe (zwg σ (F i))) (gpa (zwg σ (F i))) s i (bN s i)) = zwg σ (upd (F i) (nI i).toNatClampNeg (Wg N (gwe σ) (gpa σ) s i (bN s i))) := rfl
    rw [e, nI_clamp (by omega)]
    have e2 : upd (F i) i (Wg N (gwe σ) (gpa σ) s i (bN s i)) = F (i + 1) := by
      funext j
      simp only [upd, F]
      by_cases hj : j = i
      · subst hj; rw [if_pos rfl, if_pos (by omega)]
      · rw [if_neg hj]
        by_cases hl : j < i
        · rw [if_pos hl, if_pos (by omega)]
        · rw [if_neg hl, if_neg (by omega)]
    rw [e2]
  · unfold f_X0_copiesIn_b2
    dsimp only
    have hN' : gpl (zwg σ (F N)) = nI N := hN
    rw [hN', if_pos (nI_le (Nat.le_refl _) (by omega))]
  · have h' : NetOK N (zwg σ (F N)) := h
    have hwg : ∀ j, j < N → gwg (zwg σ (F N)) j = Wg N (gwe (zwg σ (F N))) (gpa (zwg σ (F N))) s j (bN s j) := by
      intro j hj
      show (if j < N then _ else _) = _
      rw [if_pos hj]; rfl
    refine itr_bind (itr_run (fun i => (wsh (wayC N (gwe σ) (gpa σ) s) i, nI i)) N rfl (by omega) (fun i hi => ?_) ?_) rfl
    · unfold f_X0_copiesIn_b43
      dsimp only
      rw [h'.1, if_neg (nI_ge hi (by omega)), x_bestBeside h' hwg hi, Option.bind_some, x_bitOf, Option.bind_some, nI_p1]
      have hc : cpB N (gwe σ) (gpa σ) s i N < 10 := cpB_lt (by omega) h10
      have e : wsh (wayC N (gwe σ) (gpa σ) s) (i + 1) = if wayC N (gwe σ) (gpa σ) s i = 1 then wsh (wayC N (gwe σ) (gpa σ) s) i ||| ((1 : Int32) <<< (nI i &&& 31)) else wsh (wayC N (gwe σ) (gpa σ) s) i := rfl
      have e0 : cpB N (gwe (zwg σ (F N))) (gpa (zwg σ (F N))) s i N = cpB N (gwe σ) (gpa σ) s i N := rfl
      rw [e, e0, bI_bt s (by omega)]
      unfold wayC bN
      cases bt s (cpB N (gwe σ) (gpa σ) s i N)
      · have z : ∀ p, p < 32 → (0 : Int32) <<< (nI p &&& 31) = 0 := by decide +kernel
        simp [z i (by omega)]
      · simp
    · unfold f_X0_copiesIn_b43
      dsimp only
      rw [h'.1, if_pos (nI_le (Nat.le_refl _) (by omega))]
theorem x_reaches {σ : GS} {N : Nat} (h : NetOK N σ) {p : Nat} (hp : p < 10) (s x : Int32) : f_X1_reaches σ (nI p) s x = some (if 100 * on N (gwe σ) s p < x * al N (gwe σ) p then 0 else 1) := by
  obtain ⟨hN, h2, h10, hw, hal⟩ := h
  unfold f_X1_reaches
  rw [x_weightsInto hN h10 hp s, Option.bind_some, gd_nI hp (by decide), nI_clamp (by omega), hal p hp]
  split <;> rfl
theorem x_overBarIn {σ : GS} {N : Nat} (h : NetOK N σ) (s : Int32) : f_X0_overBarIn σ s = some (wsh (wayB N (gwe σ) (gbr σ) s) N) := by
  obtain ⟨hN, h2, h10, hw, hal⟩ := id h
  unfold f_X0_overBarIn
  refine itr_bind (itr_run (fun i => (wsh (wayB N (gwe σ) (gbr σ) s) i, nI i)) N rfl (by omega) (fun i hi => ?_) ?_) rfl
  · unfold f_X0_overBarIn_b4
    dsimp only
    rw [hN, if_neg (nI_ge hi (by omega)), gd_nI (by omega) (by decide), nI_clamp (by omega), hal i (by omega), x_bitOf, Option.bind_some, x_reaches h (by omega), Option.bind_some, nI_p1]
    have e : wsh (wayB N (gwe σ) (gbr σ) s) (i + 1) = if wayB N (gwe σ) (gbr σ) s i = 1 then wsh (wayB N (gwe σ) (gbr σ) s) i ||| ((1 : Int32) <<< (nI i &&& 31)) else wsh (wayB N (gwe σ) (gbr σ) s) i := rfl
    rw [e]
    unfold wayB
    by_cases h0 : al N (gwe σ) i = 0
    · rw [if_pos h0, if_pos h0, bI_bt s (by omega)]
      unfold bN
      cases bt s i <;> simp
    · rw [if_neg h0, if_neg h0]
      by_cases h1 : 100 * on N (gwe σ) s i < gbr σ * al N (gwe σ) i
      · rw [if_pos h1, if_pos h1, if_pos rfl, if_neg (by omega)]
      · rw [if_neg h1, if_neg h1, if_neg (by decide), if_pos rfl]
  · unfold f_X0_overBarIn_b4
    dsimp only
    rw [hN, if_pos (nI_le (Nat.le_refl _) (by omega))]
