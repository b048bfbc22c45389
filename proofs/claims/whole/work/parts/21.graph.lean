/-! going round: a function on the numbers below M -/
def fit (F : Nat → Nat) : Nat → Nat → Nat
  | 0, s => s
  | k + 1, s => fit F k (F s)
theorem fit_add (F : Nat → Nat) (a b s : Nat) : fit F (a + b) s = fit F b (fit F a s) := by
  induction a generalizing s with
  | zero => rw [Nat.zero_add]; rfl
  | succ a ih => rw [show a + 1 + b = (a + b) + 1 by omega]; exact ih (F s)
theorem fit_s (F : Nat → Nat) (k s : Nat) : fit F (k + 1) s = F (fit F k s) := fit_add F k 1 s
theorem fit_lt {F : Nat → Nat} {M : Nat} (hF : ∀ s, s < M → F s < M) {s : Nat} (hs : s < M) (k : Nat) : fit F k s < M := by
  induction k generalizing s with
  | zero => exact hs
  | succ k ih => exact ih (hF s hs)
/-! counting -/
def cnt (P : Nat → Bool) : Nat → Nat
  | 0 => 0
  | n + 1 => cnt P n + if P n then 1 else 0
theorem cnt_le (P : Nat → Bool) (n : Nat) : cnt P n ≤ n := by
  induction n with
  | zero => exact Nat.le_refl 0
  | succ n ih => unfold cnt; split <;> omega
theorem cnt_congr {P Q : Nat → Bool} : ∀ {n : Nat}, (∀ s, s < n → P s = Q s) → cnt P n = cnt Q n := by
  intro n
  induction n with
  | zero => intro _; rfl
  | succ n ih => intro h; unfold cnt; rw [ih (fun s hs => h s (by omega)), h n (by omega)]
theorem cnt_rm {P : Nat → Bool} {a : Nat} (ha : P a = true) : ∀ {M : Nat}, a < M → cnt P M = cnt (fun s => P s && decide (s ≠ a)) M + 1 := by
  intro M
  induction M with
  | zero => intro h; omega
  | succ M ih =>
    intro h
    unfold cnt
    by_cases hM : a = M
    · subst hM
      have e : cnt (fun s => P s && decide (s ≠ a)) a = cnt P a := cnt_congr (fun s hs => by simp [show s ≠ a by omega])
      rw [e]
      simp [ha]
    · rw [ih (by omega)]
      have : (P M && decide (M ≠ a)) = P M := by simp [show M ≠ a from fun e => hM e.symm]
      rw [this]
      omega
theorem cnt_false (M : Nat) : cnt (fun _ => false) M = 0 := by
  induction M with
  | zero => rfl
  | succ M ih => unfold cnt; rw [ih]; rfl
theorem cnt_enum {g : Nat → Nat} {M : Nat} : ∀ {n : Nat} {P : Nat → Bool}, (∀ i, i < n → g i < M) → (∀ i j, i < n → j < n → g i = g j → i = j) → (∀ s, s < M → (P s = true ↔ ∃ i, i < n ∧ g i = s)) → cnt P M = n := by
  intro n
  induction n with
  | zero =>
    intro P _ _ hP
    have : ∀ s, s < M → P s = (fun _ => false) s := fun s hs => by
      cases h : P s
      · rfl
      · obtain ⟨i, hi, -⟩ := (hP s hs).mp h; omega
    rw [cnt_congr this]
    exact cnt_false M
  | succ n ih =>
    intro P hg hinj hP
    have ha : P (g n) = true := (hP (g n) (hg n (by omega))).mpr ⟨n, by omega, rfl⟩
    rw [cnt_rm ha (hg n (by omega))]
    congr 1
    refine ih (fun i hi => hg i (by omega)) (fun i j hi hj => hinj i j (by omega) (by omega)) (fun s hs => ?_)
    simp only [Bool.and_eq_true, decide_eq_true_eq]
    rw [hP s hs]
    constructor
    · rintro ⟨⟨i, hi, e⟩, hne⟩
      refine ⟨i, ?_, e⟩
      rcases Nat.lt_or_ge i n with h | h
      · exact h
      · have : i = n := by omega
        subst this
        exact absurd e.symm hne
    · rintro ⟨i, hi, e⟩
      refine ⟨⟨i, by omega, e⟩, fun e2 => ?_⟩
      have := hinj i n (by omega) (by omega) (e.trans e2)
      omega
theorem pig {g : Nat → Nat} {n M : Nat} (hg : ∀ i, i < n → g i < M) (hinj : ∀ i j, i < n → j < n → g i = g j → i = j) : n ≤ M := by
  have h := cnt_enum (P := fun s => @decide (∃ i, i < n ∧ g i = s) (Classical.propDecidable _)) hg hinj (fun s _ => @decide_eq_true_iff _ (Classical.propDecidable _))
  rw [← h]
  exact cnt_le _ _
/-! rings -/
def onR (F : Nat → Nat) (s : Nat) : Prop := ∃ k, 0 < k ∧ fit F k s = s
theorem onR_F {F : Nat → Nat} {s : Nat} (h : onR F s) : onR F (F s) := by
  obtain ⟨k, hk, e⟩ := h
  refine ⟨k, hk, ?_⟩
  have : fit F k (F s) = fit F (k + 1) s := rfl
  rw [this, fit_s, e]
theorem onR_fit {F : Nat → Nat} {s : Nat} (h : onR F s) (k : Nat) : onR F (fit F k s) := by
  induction k generalizing s with
  | zero => exact h
  | succ k ih => exact ih (onR_F h)
theorem fit_mul {F : Nat → Nat} {s p : Nat} (h : fit F p s = s) (n : Nat) : fit F (n * p) s = s := by
  induction n with
  | zero => rw [Nat.zero_mul]; rfl
  | succ n ih => rw [Nat.succ_mul, fit_add, ih, h]
theorem onR_back {F : Nat → Nat} {s : Nat} (h : onR F s) (i : Nat) : ∃ j, fit F j (fit F i s) = s := by
  obtain ⟨p, hp, e⟩ := h
  refine ⟨i * p - i, ?_⟩
  rw [← fit_add]
  have : i ≤ i * p := Nat.le_mul_of_pos_right i hp
  rw [show i + (i * p - i) = i * p by omega]
  exact fit_mul e i
theorem onR_at {F : Nat → Nat} {M : Nat} (hF : ∀ s, s < M → F s < M) {s : Nat} (hs : s < M) : onR F (fit F M s) := by
  have h : ¬ ∀ i j, i < M + 1 → j < M + 1 → fit F i s = fit F j s → i = j := fun h => by
    have := pig (g := fun i => fit F i s) (n := M + 1) (M := M) (fun i _ => fit_lt hF hs i) h
    omega
  have key : ∀ i j, i < j → j < M + 1 → fit F i s = fit F j s → onR F (fit F M s) := by
    intro i j hij hj e
    have h1 : onR F (fit F i s) := ⟨j - i, by omega, by rw [← fit_add, show i + (j - i) = j by omega]; exact e.symm⟩
    have h2 := onR_fit h1 (M - i)
    rw [← fit_add, show i + (M - i) = M by omega] at h2
    exact h2
  refine Classical.byContradiction fun hn => h (fun i j hi hj e => ?_)
  rcases Nat.lt_trichotomy i j with h1 | h1 | h1
  · exact absurd (key i j h1 hj e) hn
  · exact h1
  · exact absurd (key j i h1 hi e.symm) hn
def isTail (F : Nat → Nat) (s k : Nat) : Prop := onR F (fit F k s) ∧ ∀ j, j < k → ¬ onR F (fit F j s)
theorem isTail_uq {F : Nat → Nat} {s k k' : Nat} (h : isTail F s k) (h' : isTail F s k') : k = k' := by
  rcases Nat.lt_trichotomy k k' with h1 | h1 | h1
  · exact absurd h.1 (h'.2 k h1)
  · exact h1
  · exact absurd h'.1 (h.2 k' h1)
theorem isTail_ex {F : Nat → Nat} {M : Nat} (hF : ∀ s, s < M → F s < M) {s : Nat} (hs : s < M) : ∃ k, k ≤ M ∧ isTail F s k := by
  obtain ⟨k, h1, h2⟩ := pk_least (fun k => onR F (fit F k s)) ⟨M, onR_at hF hs⟩
  refine ⟨k, ?_, h1, h2⟩
  rcases Nat.lt_or_ge M k with h | h
  · exact absurd (onR_at hF hs) (h2 M h)
  · exact h
theorem isTail_0 {F : Nat → Nat} {s : Nat} (h : onR F s) : isTail F s 0 := ⟨h, fun j hj => by omega⟩
theorem isTail_s {F : Nat → Nat} {s k : Nat} (h : ¬ onR F s) (ht : isTail F (F s) k) : isTail F s (k + 1) := by
  refine ⟨ht.1, fun j hj => ?_⟩
  cases j with
  | zero => exact h
  | succ j => exact ht.2 j (by omega)
theorem isTail_on {F : Nat → Nat} {s : Nat} (h : isTail F s 0) : onR F s := h.1
def isEnd (F : Nat → Nat) (s m : Nat) : Prop := onR F m ∧ (∃ k, fit F k s = m) ∧ ∀ k, onR F (fit F k s) → m ≤ fit F k s
theorem isEnd_uq {F : Nat → Nat} {s m m' : Nat} (h : isEnd F s m) (h' : isEnd F s m') : m = m' := by
  obtain ⟨a, ⟨k, e⟩, b⟩ := h
  obtain ⟨a', ⟨k', e'⟩, b'⟩ := h'
  have h1 := b k' (by rw [e']; exact a')
  have h2 := b' k (by rw [e]; exact a)
  rw [e'] at h1
  rw [e] at h2
  omega
theorem isEnd_s {F : Nat → Nat} {s m : Nat} (h : isEnd F (F s) m) : isEnd F s m := by
  obtain ⟨a, ⟨k, e⟩, b⟩ := h
  refine ⟨a, ⟨k + 1, e⟩, fun j hj => ?_⟩
  cases j with
  | zero =>
    obtain ⟨p, hp, e2⟩ := hj
    have e3 : fit F (p - 1) (F s) = s := by
      have : fit F (p - 1) (F s) = fit F (p - 1 + 1) s := rfl
      rw [this, show p - 1 + 1 = p by omega]; exact e2
    have := b (p - 1) (by rw [e3]; exact ⟨p, hp, e2⟩)
    rw [e3] at this
    exact this
  | succ j => exact b j hj
theorem isEnd_F {F : Nat → Nat} {s m : Nat} (h : isEnd F s m) : isEnd F (F s) m := by
  obtain ⟨a, ⟨k, e⟩, b⟩ := h
  refine ⟨a, ?_, fun j hj => b (j + 1) hj⟩
  cases k with
  | succ k => exact ⟨k, e⟩
  | zero =>
    have e : s = m := e
    subst e
    obtain ⟨p, hp, e2⟩ := a
    refine ⟨p - 1, ?_⟩
    have : fit F (p - 1) (F s) = fit F (p - 1 + 1) s := rfl
    rw [this, show p - 1 + 1 = p by omega]; exact e2
theorem isEnd_fit {F : Nat → Nat} {s m : Nat} (h : isEnd F s m) (k : Nat) : isEnd F (fit F k s) m := by
  induction k generalizing s with
  | zero => exact h
  | succ k ih => exact ih (isEnd_F h)
theorem isEnd_of {F : Nat → Nat} {s m : Nat} (k : Nat) (h : isEnd F (fit F k s) m) : isEnd F s m := by
  induction k generalizing s with
  | zero => exact h
  | succ k ih => exact isEnd_s (ih h)
def isLen (F : Nat → Nat) (r L : Nat) : Prop := 0 < L ∧ fit F L r = r ∧ ∀ j, 0 < j → j < L → fit F j r ≠ r
theorem isLen_uq {F : Nat → Nat} {r L L' : Nat} (h : isLen F r L) (h' : isLen F r L') : L = L' := by
  rcases Nat.lt_trichotomy L L' with h1 | h1 | h1
  · exact absurd h.2.1 (h'.2.2 L h.1 h1)
  · exact h1
  · exact absurd h'.2.1 (h.2.2 L' h'.1 h1)
theorem isLen_inj {F : Nat → Nat} {r L : Nat} (h : isLen F r L) : ∀ i j, i < L → j < L → fit F i r = fit F j r → i = j := by
  have key : ∀ i j, i < j → j < L → fit F i r = fit F j r → False := by
    intro i j hij hj e
    have h1 : fit F (i + (L - j)) r = fit F (j + (L - j)) r := by rw [fit_add, fit_add, e]
    rw [show j + (L - j) = L by omega, h.2.1] at h1
    exact h.2.2 (i + (L - j)) (by omega) (by omega) h1
  intro i j hi hj e
  rcases Nat.lt_trichotomy i j with h1 | h1 | h1
  · exact (key i j h1 hj e).elim
  · exact h1
  · exact (key j i h1 hi e.symm).elim
theorem isLen_le {F : Nat → Nat} {M : Nat} (hF : ∀ s, s < M → F s < M) {r L : Nat} (hr : r < M) (h : isLen F r L) : L ≤ M :=
  pig (g := fun i => fit F i r) (fun i _ => fit_lt hF hr i) (isLen_inj h)
theorem isLen_ex {F : Nat → Nat} {r : Nat} (h : onR F r) : ∃ L, isLen F r L := by
  obtain ⟨L, h1, h2⟩ := pk_least (fun k => 0 < k ∧ fit F k r = r) h
  exact ⟨L, h1.1, h1.2, fun j hj hl e => h2 j hl ⟨hj, e⟩⟩
theorem isLen_mod {F : Nat → Nat} {r L : Nat} (h : isLen F r L) (k : Nat) : fit F k r = fit F (k % L) r := by
  have e : k = k / L * L + k % L := by rw [Nat.mul_comm]; exact (Nat.div_add_mod k L).symm
  have : fit F k r = fit F (k / L * L + k % L) r := by rw [← e]
  rw [this, fit_add, fit_mul h.2.1]
/-- the least along the first steps -/
def lst (F : Nat → Nat) (r : Nat) : Nat → Nat
  | 0 => r
  | i + 1 => if lst F r i ≤ fit F (i + 1) r then lst F r i else fit F (i + 1) r
theorem lst_in (F : Nat → Nat) (r : Nat) : ∀ i, ∃ j, j ≤ i ∧ lst F r i = fit F j r := by
  intro i
  induction i with
  | zero => exact ⟨0, Nat.le_refl 0, rfl⟩
  | succ i ih =>
    unfold lst
    split
    · obtain ⟨j, hj, e⟩ := ih
      exact ⟨j, by omega, e⟩
    · exact ⟨i + 1, Nat.le_refl _, rfl⟩
theorem lst_le (F : Nat → Nat) (r : Nat) : ∀ i j, j ≤ i → lst F r i ≤ fit F j r := by
  intro i
  induction i with
  | zero => intro j hj; rw [show j = 0 by omega]; exact Nat.le_refl _
  | succ i ih =>
    intro j hj
    unfold lst
    rcases Nat.lt_or_ge j (i + 1) with h | h
    · have := ih j (by omega)
      split <;> omega
    · rw [show j = i + 1 by omega]
      split <;> omega
theorem lst_end {F : Nat → Nat} {r L : Nat} (h : isLen F r L) : isEnd F r (lst F r (L - 1)) := by
  have hr : onR F r := ⟨L, h.1, h.2.1⟩
  obtain ⟨j, hj, e⟩ := lst_in F r (L - 1)
  refine ⟨by rw [e]; exact onR_fit hr j, ⟨j, e.symm⟩, fun k _ => ?_⟩
  rw [isLen_mod h k]
  have := Nat.mod_lt k h.1
  exact lst_le F r (L - 1) (k % L) (by omega)
