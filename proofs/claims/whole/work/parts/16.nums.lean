def bt (x : Int32) (i : Nat) : Bool := x.toBitVec.getLsbD i
theorem b_ext {x y : Int32} (h : ∀ i, i < 32 → bt x i = bt y i) : x = y := Int32.toBitVec_inj.mp (BitVec.eq_of_getLsbD_eq (fun i hi => h i hi))
theorem b_or (x y : Int32) (i : Nat) : bt (x ||| y) i = (bt x i || bt y i) := by unfold bt; rw [Int32.toBitVec_or, BitVec.getLsbD_or]
theorem b_and (x y : Int32) (i : Nat) : bt (x &&& y) i = (bt x i && bt y i) := by unfold bt; rw [Int32.toBitVec_and, BitVec.getLsbD_and]
theorem b_xor (x y : Int32) (i : Nat) : bt (x ^^^ y) i = (bt x i ^^ bt y i) := by unfold bt; rw [Int32.toBitVec_xor, BitVec.getLsbD_xor]
theorem b_big {x : Int32} {i : Nat} (h : 32 ≤ i) : bt x i = false := BitVec.getLsbD_of_ge _ _ h
theorem b_255 (i : Nat) : bt 255 i = decide (i < 8) := by
  rcases Nat.lt_or_ge i 32 with h | h
  · exact (by decide +kernel : ∀ i, i < 32 → bt 255 i = decide (i < 8)) i h
  · rw [b_big h, decide_eq_false (by omega)]
theorem b_65535 (i : Nat) : bt 65535 i = decide (i < 16) := by
  rcases Nat.lt_or_ge i 32 with h | h
  · exact (by decide +kernel : ∀ i, i < 32 → bt 65535 i = decide (i < 16)) i h
  · rw [b_big h, decide_eq_false (by omega)]
theorem b_m1 : ∀ i, i < 32 → bt (-1) i = true := by decide +kernel
theorem b_0 (i : Nat) : bt 0 i = false := BitVec.getLsbD_zero
theorem s_l : ∀ n, n < 32 → ((nI n &&& 31).toBitVec.smod 32).toNat = n := by decide +kernel
theorem s_u : ∀ n, n < 32 → (((nI n).toUInt32 &&& Int32.toUInt32 31).toBitVec % 32).toNat = n := by decide +kernel
theorem b_shl (n : Nat) (hn : n < 32) (x : Int32) {i : Nat} (hi : i < 32) : bt (x <<< (nI n &&& 31)) i = (decide (n ≤ i) && bt x (i - n)) := by
  unfold bt
  rw [Int32.toBitVec_shiftLeft]
  show (x.toBitVec <<< ((nI n &&& 31).toBitVec.smod 32).toNat).getLsbD i = _
  rw [s_l n hn, BitVec.getLsbD_shiftLeft]
  rcases Nat.lt_or_ge i n with h | h
  · simp [h, Nat.not_le.mpr h]
  · simp [hi, h, Nat.not_lt.mpr h]
theorem b_ushr (n : Nat) (hn : n < 32) (x : Int32) (i : Nat) : bt ((x.toUInt32 >>> ((nI n).toUInt32 &&& Int32.toUInt32 31)).toInt32) i = bt x (n + i) := by
  show (x.toUInt32 >>> ((nI n).toUInt32 &&& Int32.toUInt32 31)).toBitVec.getLsbD i = x.toUInt32.toBitVec.getLsbD (n + i)
  rw [UInt32.toBitVec_shiftRight]
  show (x.toUInt32.toBitVec >>> (((nI n).toUInt32 &&& Int32.toUInt32 31).toBitVec % 32).toNat).getLsbD i = _
  rw [s_u n hn, BitVec.getLsbD_ushiftRight]
theorem b_sshr (n : Nat) (hn : n < 32) (x : Int32) {i : Nat} (hi : i < 32) : bt (x >>> (nI n &&& 31)) i = if n + i < 32 then bt x (n + i) else bt x 31 := by
  unfold bt
  rw [Int32.toBitVec_shiftRight]
  show (x.toBitVec.sshiftRight ((nI n &&& 31).toBitVec.smod 32).toNat).getLsbD i = _
  rw [s_l n hn, BitVec.getLsbD_sshiftRight, BitVec.msb_eq_getLsbD_last]
  simp [hi]
theorem fa_lt (a b : Int32) : a < b ↔ a.toInt < b.toInt := Int32.lt_iff_toInt_lt
theorem fa_le (a b : Int32) : a ≤ b ↔ a.toInt ≤ b.toInt := Int32.le_iff_toInt_le
theorem fa_eq (a b : Int32) : a = b ↔ a.toInt = b.toInt := Int32.toInt_inj.symm
theorem fa_and (a b : Nat) : nI a &&& nI b = nI (a &&& b) := by
  apply Int32.toBitVec_inj.1
  show BitVec.ofNat 32 a &&& BitVec.ofNat 32 b = BitVec.ofNat 32 (a &&& b)
  apply BitVec.eq_of_getLsbD_eq
  intro i hi
  simp [hi]
/-! loops -/
theorem itr_seq {S X : Type} {f : S → Option (S ⊕ X)} (x : X) : ∀ (n fuel : Nat) (a : Nat → S), n < fuel → (∀ i, i < n → f (a i) = some (.inl (a (i + 1)))) → f (a n) = some (.inr x) → itr f fuel (a 0) = some x := by
  intro n
  induction n with
  | zero =>
    intro fuel a hf _ hx
    cases fuel with
    | zero => exact absurd hf (by omega)
    | succ m => simp only [itr, hx, Option.bind_some]
  | succ n ih =>
    intro fuel a hf hs hx
    cases fuel with
    | zero => exact absurd hf (by omega)
    | succ m =>
      have h0 := hs 0 (by omega)
      simp only [itr, h0, Option.bind_some]
      exact ih m (fun i => a (i + 1)) (by omega) (fun i hi => hs (i + 1) (by omega)) hx
/-- a loop by its states, one a step: a i at place i -/
theorem itr_run {S X : Type} {f : S → Option (S ⊕ X)} (a : Nat → S) (n : Nat) {x : X} {s : S} (h0 : s = a 0) (hn : n < 4000) (hs : ∀ i, i < n → f (a i) = some (.inl (a (i + 1)))) (hx : f (a n) = some (.inr x)) : itr f FU s = some x := by
  subst h0
  exact itr_seq x n FU a hn hs hx
theorem itr_bind {S X β : Type} {f : S → Option (S ⊕ X)} {s : S} {x : X} {k : X → Option β} {r : Option β} (h : itr f FU s = some x) (hk : k x = r) : (itr f FU s).bind k = r := by rw [h]; exact hk
theorem itr_bindE {S X β : Type} {f : S → Option (S ⊕ X)} {s : S} {Q : X → Prop} {k : X → Option β} {P : β → Prop} (h : ∃ x, itr f FU s = some x ∧ Q x) (hk : ∀ x, Q x → ∃ r, k x = some r ∧ P r) : ∃ r, (itr f FU s).bind k = some r ∧ P r := by
  obtain ⟨x, h1, h2⟩ := h
  obtain ⟨r, h3, h4⟩ := hk x h2
  exact ⟨r, by rw [h1]; exact h3, h4⟩
/-- a loop by an invariant, with an end at any step -/
theorem itr_ex {S X : Type} {f : S → Option (S ⊕ X)} (I : Nat → S → Prop) (Q : X → Prop) (n : Nat) (h : ∀ i s, i ≤ n → I i s → (∃ s', f s = some (.inl s') ∧ i < n ∧ I (i + 1) s') ∨ (∃ x, f s = some (.inr x) ∧ Q x)) : ∀ (k fuel i : Nat) (s : S), n - i = k → k < fuel → i ≤ n → I i s → ∃ x, itr f fuel s = some x ∧ Q x := by
  intro k
  induction k with
  | zero =>
    intro fuel i s hk hf hi hI
    cases fuel with
    | zero => exact absurd hf (by omega)
    | succ m =>
      rcases h i s hi hI with ⟨s', h1, h2, -⟩ | ⟨x, h1, h2⟩
      · omega
      · exact ⟨x, by simp only [itr, h1, Option.bind_some], h2⟩
  | succ k ih =>
    intro fuel i s hk hf hi hI
    cases fuel with
    | zero => exact absurd hf (by omega)
    | succ m =>
      rcases h i s hi hI with ⟨s', h1, h2, h3⟩ | ⟨x, h1, h2⟩
      · obtain ⟨x, h4, h5⟩ := ih m (i + 1) s' (by omega) (by omega) (by omega) h3
        exact ⟨x, by simp only [itr, h1, Option.bind_some, h4], h5⟩
      · exact ⟨x, by simp only [itr, h1, Option.bind_some], h2⟩
theorem itr_inv {S X : Type} {f : S → Option (S ⊕ X)} {s : S} (I : Nat → S → Prop) (Q : X → Prop) (n : Nat) (hn : n < 4000) (h0 : I 0 s) (hs : ∀ i s, i < n → I i s → ∃ s', f s = some (.inl s') ∧ I (i + 1) s') (hx : ∀ s, I n s → ∃ x, f s = some (.inr x) ∧ Q x) : ∃ x, itr f FU s = some x ∧ Q x := by
  refine itr_ex I Q n (fun i s hi hI => ?_) n FU 0 s (by omega) hn (by omega) h0
  by_cases hin : i < n
  · obtain ⟨s', h1, h2⟩ := hs i s hin hI
    exact Or.inl ⟨s', h1, hin, h2⟩
  · have : i = n := by omega
    subst this
    exact Or.inr (hx s hI)
theorem itr_cut {S X : Type} {f : S → Option (S ⊕ X)} {s : S} (I : Nat → S → Prop) (Q : X → Prop) (n : Nat) (hn : n < 4000) (h0 : I 0 s) (h : ∀ i s, i ≤ n → I i s → (∃ s', f s = some (.inl s') ∧ i < n ∧ I (i + 1) s') ∨ (∃ x, f s = some (.inr x) ∧ Q x)) : ∃ x, itr f FU s = some x ∧ Q x :=
  itr_ex I Q n h n FU 0 s (by omega) hn (by omega) h0
/-! numbers -/
theorem nI_lit (n : Nat) : (OfNat.ofNat n : Int32) = nI n := rfl
theorem nI_inj {a b : Nat} (ha : a < 2 ^ 31) (hb : b < 2 ^ 31) (h : nI a = nI b) : a = b := (nI_eq ha hb).mp h
theorem nI_ge0 {n : Nat} (h : n < 2 ^ 31) : (0 : Int32) ≤ nI n := by
  rw [fa_le, nI_toInt h]
  exact Int.natCast_nonneg n
theorem nI_ne_neg {n : Nat} (h : n < 2 ^ 31) {z : Int32} (hz : z.toInt < 0) : nI n ≠ z := by
  intro e
  rw [← e, nI_toInt h] at hz
  omega
theorem ix10 (p j : Nat) : nI p * (10 : Int32) + nI j = nI (10 * p + j) := by
  rw [nI_lit, pk_mul, nI_add, Nat.mul_comm]
theorem ix10' (p j : Nat) : (10 : Int32) * nI p + nI j = nI (10 * p + j) := by
  rw [nI_lit, pk_mul, nI_add]
theorem ix2 (x y : Nat) : (2 : Int32) * nI x + nI y = nI (2 * x + y) := by
  rw [nI_lit, pk_mul, nI_add]
theorem ix1024 (r x : Nat) : nI r * (1024 : Int32) + nI x = nI (1024 * r + x) := by
  rw [nI_lit, pk_mul, nI_add, Nat.mul_comm]
theorem nI_p1 (a : Nat) : nI a + (1 : Int32) = nI (a + 1) := nI_1 a
theorem gd_nI {α : Type} {n N : Nat} {k : Option α} (h : n < N) (hN : N < 2 ^ 31) : gd (nI n) N k = k := gd_in (vp_in_nI h hN)
/-- a sum over the first n -/
def isum (f : Nat → Int32) : Nat → Int32
  | 0 => 0
  | n + 1 => isum f n + f n
theorem isum_congr {f g : Nat → Int32} : ∀ {n : Nat}, (∀ j, j < n → f j = g j) → isum f n = isum g n := by
  intro n
  induction n with
  | zero => intro _; rfl
  | succ n ih => intro h; simp only [isum]; rw [ih (fun j hj => h j (by omega)), h n (by omega)]
/-! one bit of a number -/
def bI (s : Int32) (j : Nat) : Int32 := (s >>> (nI j &&& 31)) &&& 1
theorem bI_bt (s : Int32) {j : Nat} (hj : j < 32) : bI s j = if bt s j then 1 else 0 := by
  apply b_ext
  intro i hi
  unfold bI
  rw [b_and, b_sshr j hj s hi]
  rcases Nat.eq_zero_or_pos i with h | h
  · subst h
    rw [if_pos (by omega), Nat.add_zero]
    cases bt s j <;> simp <;> decide
  · have h1 : bt 1 i = false := (by decide +kernel : ∀ i, i < 32 → 0 < i → bt 1 i = false) i hi h
    rw [h1, Bool.and_false]
    cases bt s j
    · exact (b_0 i).symm
    · exact h1.symm
def bN (s : Int32) (j : Nat) : Nat := if bt s j then 1 else 0
theorem bN_le (s : Int32) (j : Nat) : bN s j ≤ 1 := by unfold bN; split <;> omega
theorem bI_nI (s : Int32) {j : Nat} (hj : j < 32) : bI s j = nI (bN s j) := by
  rw [bI_bt s hj]
  unfold bN
  split <;> rfl
theorem bN_one {s : Int32} {j : Nat} : bN s j = 1 ↔ bt s j = true := by
  unfold bN; cases bt s j <;> simp
theorem bN_zero {s : Int32} {j : Nat} : bN s j = 0 ↔ bt s j = false := by
  unfold bN; cases bt s j <;> simp
theorem b_one : ∀ p, p < 32 → ∀ i, i < 32 → bt ((1 : Int32) <<< (nI p &&& 31)) i = decide (i = p) := by decide +kernel
theorem b_nI {k i : Nat} (hi : i < 32) : bt (nI k) i = k.testBit i := by
  show (BitVec.ofNat 32 k).getLsbD i = _
  rw [BitVec.getLsbD_ofNat]
  simp [hi]
/-- a state of N players: no bit from N on -/
def isSt (N : Nat) (x : Int32) : Prop := ∀ i, i < 32 → N ≤ i → bt x i = false
theorem isSt_nI {N k : Nat} (hk : k < 2 ^ N) : isSt N (nI k) := by
  intro i hi hN
  rw [b_nI hi]
  exact Nat.testBit_lt_two_pow (Nat.lt_of_lt_of_le hk (Nat.pow_le_pow_right (by omega) hN))
theorem isSt_of {N : Nat} {x : Int32} (hN : N ≤ 30) (h : isSt N x) : ∃ k, k < 2 ^ N ∧ x = nI k := by
  refine ⟨x.toBitVec.toNat, ?_, ?_⟩
  · apply Nat.lt_pow_two_of_testBit
    intro i hi
    by_cases h32 : i < 32
    · exact h i h32 hi
    · exact Nat.testBit_lt_two_pow (Nat.lt_of_lt_of_le x.toBitVec.isLt (Nat.pow_le_pow_right (by omega) (by omega)))
  · apply Int32.toBitVec_inj.1
    show x.toBitVec = BitVec.ofNat 32 x.toBitVec.toNat
    simp
theorem pw10 {N : Nat} (hN : N ≤ 10) : 2 ^ N ≤ 1024 := Nat.pow_le_pow_right (n := 2) (by omega) hN
theorem shl_pow {N : Nat} (hN : N ≤ 10) : (1 : Int32) <<< (nI N &&& 31) = nI (2 ^ N) := by
  have : ∀ n, n ≤ 10 → (1 : Int32) <<< (nI n &&& 31) = nI (2 ^ n) := by decide +kernel
  exact this N hN
