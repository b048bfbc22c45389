def zs (σ : GS) (e t : Nat → Int32) : GS := (σ.1, σ.2.1, σ.2.2.1, σ.2.2.2.1, σ.2.2.2.2.1, σ.2.2.2.2.2.1, σ.2.2.2.2.2.2.1, σ.2.2.2.2.2.2.2.1, σ.2.2.2.2.2.2.2.2.1, σ.2.2.2.2.2.2.2.2.2.1, σ.2.2.2.2.2.2.2.2.2.2.1, σ.2.2.2.2.2.2.2.2.2.2.2.1, σ.2.2.2.2.2.2.2.2.2.2.2.2.1, σ.2.2.2.2.2.2.2.2.2.2.2.2.2.1, σ.2.2.2.2.2.2.2.2.2.2.2.2.2.2.1, e, t, σ.2.2.2.2.2.2.2.2.2.2.2.2.2.2.2.2.2)
def zb (σ : GS) (b e t : Nat → Int32) : GS := (σ.1, σ.2.1, σ.2.2.1, σ.2.2.2.1, σ.2.2.2.2.1, σ.2.2.2.2.2.1, σ.2.2.2.2.2.2.1, σ.2.2.2.2.2.2.2.1, σ.2.2.2.2.2.2.2.2.1, σ.2.2.2.2.2.2.2.2.2.1, σ.2.2.2.2.2.2.2.2.2.2.1, σ.2.2.2.2.2.2.2.2.2.2.2.1, σ.2.2.2.2.2.2.2.2.2.2.2.2.1, σ.2.2.2.2.2.2.2.2.2.2.2.2.2.1, b, e, t, σ.2.2.2.2.2.2.2.2.2.2.2.2.2.2.2.2.2)
/-! the class's survey: following one state -/
theorem nge1024 {j : Nat} (h : j < 1024) : ¬ (1024 : Int32) ≤ nI j := nI_ge (b := 1024) h (by decide)
def pw (f : Nat → Nat) (v : Nat → Int32) (e : Nat → Int32) : Nat → Nat → Int32
  | 0 => e
  | j + 1 => upd (pw f v e j) (f j) (v j)
theorem pw_out {f : Nat → Nat} {v e : Nat → Int32} {s : Nat} : ∀ {n : Nat}, (∀ j, j < n → f j ≠ s) → pw f v e n s = e s := by
  intro n
  induction n with
  | zero => intro _; rfl
  | succ n ih =>
    intro h
    unfold pw upd
    rw [if_neg (fun z => h n (by omega) z.symm)]
    exact ih (fun j hj => h j (by omega))
theorem pw_in {f : Nat → Nat} {v e : Nat → Int32} : ∀ {n : Nat}, (∀ a b, a < n → b < n → f a = f b → a = b) → ∀ j, j < n → pw f v e n (f j) = v j := by
  intro n
  induction n with
  | zero => intro _ j hj; omega
  | succ n ih =>
    intro h j hj
    unfold pw upd
    by_cases hjn : j = n
    · subst hjn; rw [if_pos rfl]
    · rw [if_neg (fun z => hjn (h j n hj (by omega) z))]
      exact ih (fun a b ha hb => h a b (by omega) (by omega)) j (by omega)
theorem x_closeTail {σ : GS} {M : Nat} {F : Nat → Nat} (hM : M ≤ 1024) (hF : ∀ s, s < M → F s < M) (hbe : ∀ s, s < M → gbe σ s = nI (F s)) {e t : Nat → Int32} {s0 q m k : Nat} (hs : s0 < M) (hq : q ≤ M) (hm : m < M) (hk : k ≤ M) (hin : ∀ j, j < q → e (fit F j s0) = -2) (hv : e (fit F q s0) = nI m) (ht : t (fit F q s0) = nI k) : f_X2_closeTail (zs σ e t) (nI s0) = some (zs σ (pw (fun j => fit F j s0) (fun _ => nI m) e q) (pw (fun j => fit F j s0) (fun j => nI (k + q - j)) t q)) := by
  have hout : ¬ e (fit F q s0) = -2 := by rw [hv]; exact nI_ne_neg (by omega) (by decide)
  unfold f_X2_closeTail
  refine itr_bind (itr_run (fun j => (nI j, nI (fit F j s0))) q (x := (nI q, nI (fit F q s0))) rfl (by omega) (fun j hj => ?_) ?_) ?_
  · have hl := fit_lt hF hs j
    unfold f_X2_closeTail_b4
    dsimp only
    rw [if_neg (nge1024 (j := j) (by omega)), gd_nI (by omega) (by decide), gd_nI (by omega) (by decide), nI_clamp (by omega)]
    have e1 : gen (zs σ e t) (fit F j s0) = -2 := hin j hj
    have e2 : gbe (zs σ e t) (fit F j s0) = nI (F (fit F j s0)) := hbe _ hl
    rw [if_pos e1, e2, nI_p1, fit_s]
  · have hl := fit_lt hF hs q
    unfold f_X2_closeTail_b4
    dsimp only
    rw [gd_nI (by omega) (by decide), nI_clamp (by omega)]
    have e1 : ¬ gen (zs σ e t) (fit F q s0) = -2 := hout
    rw [if_neg e1]
    split <;> rfl
  · have hl := fit_lt hF hs q
    dsimp only
    unfold f_X2_closeTail_j35
    rw [gd_nI (by omega) (by decide), gd_nI (by omega) (by decide)]
    refine itr_bind (itr_run (fun j => (nI (fit F j s0), nI j, zs σ (pw (fun j => fit F j s0) (fun _ => nI m) e j) (pw (fun j => fit F j s0) (fun j => nI (k + q - j)) t j))) q rfl (by omega) (fun j hj => ?_) ?_) rfl
    · have hlj := fit_lt hF hs j
      unfold f_X2_closeTail_b58
      dsimp only
      rw [if_neg (nI_ge hj (by omega)), gd_nI (by omega) (by decide), gd_nI (by omega) (by decide), gd_nI (by omega) (by decide), nI_clamp (by omega : fit F q s0 < 2 ^ 31)]
      have e1 : gen (zs σ e t) (fit F q s0) = nI m := hv
      have e2 : gta (zs σ e t) (fit F q s0) = nI k := ht
      rw [e1, e2, nI_add, pk_sub (by omega), nI_p1]
      have e3 : gbe (gtta (gten (zs σ (pw (fun j => fit F j s0) (fun _ => nI m) e j) (pw (fun j => fit F j s0) (fun j => nI (k + q - j)) t j)) (nI (fit F j s0)) (nI m)) (nI (fit F j s0)) (nI (k + q - j))) (nI (fit F j s0)).toNatClampNeg = gbe σ (nI (fit F j s0)).toNatClampNeg := rfl
      rw [e3, nI_clamp (by omega), hbe _ hlj]
      have e4 : gtta (gten (zs σ (pw (fun j => fit F j s0) (fun _ => nI m) e j) (pw (fun j => fit F j s0) (fun j => nI (k + q - j)) t j)) (nI (fit F j s0)) (nI m)) (nI (fit F j s0)) (nI (k + q - j)) = zs σ (upd (pw (fun j => fit F j s0) (fun _ => nI m) e j) (nI (fit F j s0)).toNatClampNeg (nI m)) (upd (pw (fun j => fit F j s0) (fun j => nI (k + q - j)) t j) (nI (fit F j s0)).toNatClampNeg (nI (k + q - j))) := rfl
      rw [e4, nI_clamp (by omega), fit_s]
      rfl
    · unfold f_X2_closeTail_b58
      dsimp only
      rw [if_pos (nI_le (Nat.le_refl _) (by omega))]
theorem x_closeRing {σ : GS} {M : Nat} {F : Nat → Nat} (hM : M ≤ 1024) (hF : ∀ s, s < M → F s < M) (hbe : ∀ s, s < M → gbe σ s = nI (F s)) {e t : Nat → Int32} {p L : Nat} (hp : p < M) (hL : isLen F p L) (hin : ∀ j, j < L → e (fit F j p) = -2) : f_X2_closeRing (zs σ e t) (nI p) = some (zs σ (pw (fun j => fit F j p) (fun _ => nI (lst F p (L - 1))) e L) t) := by
  have hLM := isLen_le hF hp hL
  have hL0 := hL.1
  unfold f_X2_closeRing
  rw [gd_nI (by omega) (by decide)]
  have hb0 : gbe (zs σ e t) (nI p).toNatClampNeg = nI (fit F 1 p) := by
    rw [nI_clamp (by omega)]; exact hbe p hp
  rw [hb0]
  refine itr_bind (itr_run (fun j => (nI (lst F p j), nI (fit F (j + 1) p), nI j)) (L - 1) (x := (nI (lst F p (L - 1)), nI p)) rfl (by omega) (fun j hj => ?_) ?_) ?_
  · have hl := fit_lt hF hp (j + 1)
    obtain ⟨j2, -, e2⟩ := lst_in F p j
    have hl2 : lst F p j < M := by rw [e2]; exact fit_lt hF hp j2
    unfold f_X2_closeRing_b12
    dsimp only
    rw [if_neg (nge1024 (j := j) (by omega)), if_neg (show ¬ nI (fit F (j + 1) p) = nI p from fun z => hL.2.2 (j + 1) (by omega) (by omega) (nI_inj (by omega) (by omega) z)), gd_nI (by omega) (by decide), nI_clamp (by omega), nI_p1]
    have e3 : gbe (zs σ e t) (fit F (j + 1) p) = nI (F (fit F (j + 1) p)) := hbe _ hl
    rw [e3, ← fit_s F (j + 1) p]
    have e4 : lst F p (j + 1) = if lst F p j ≤ fit F (j + 1) p then lst F p j else fit F (j + 1) p := rfl
    rw [e4]
    by_cases hc : lst F p j ≤ fit F (j + 1) p
    · rw [if_pos hc, if_neg (nI_nlt hc (by omega))]
    · rw [if_neg hc, if_pos (nI_lt (by omega) (by omega))]
  · unfold f_X2_closeRing_b12
    dsimp only
    have e1 : fit F (L - 1 + 1) p = p := by rw [show L - 1 + 1 = L by omega]; exact hL.2.1
    rw [e1, if_neg (nge1024 (j := (L - 1)) (by omega)), if_pos rfl]
  · dsimp only
    unfold f_X2_closeRing_j44
    have hm : lst F p (L - 1) < M := by
      obtain ⟨j2, -, e2⟩ := lst_in F p (L - 1)
      rw [e2]; exact fit_lt hF hp j2
    refine itr_bind (itr_run (fun j => (nI (fit F j p), nI j, zs σ (pw (fun j => fit F j p) (fun _ => nI (lst F p (L - 1))) e j) t)) L rfl (by omega) (fun j hj => ?_) ?_) rfl
    · have hl := fit_lt hF hp j
      unfold f_X2_closeRing_b47
      dsimp only
      rw [if_neg (nge1024 (j := j) (by omega)), gd_nI (by omega) (by decide), gd_nI (by omega) (by decide), gd_nI (by omega) (by decide)]
      have e1 : gen (zs σ (pw (fun j => fit F j p) (fun _ => nI (lst F p (L - 1))) e j) t) (nI (fit F j p)).toNatClampNeg = -2 := by
        rw [nI_clamp (by omega)]
        show pw (fun j => fit F j p) (fun _ => nI (lst F p (L - 1))) e j (fit F j p) = -2
        rw [pw_out (fun i hi z => by have := isLen_inj hL i j (by omega) hj z; omega)]
        exact hin j hj
      rw [if_pos e1, nI_p1]
      have e3 : gbe (gten (zs σ (pw (fun j => fit F j p) (fun _ => nI (lst F p (L - 1))) e j) t) (nI (fit F j p)) (nI (lst F p (L - 1)))) (nI (fit F j p)).toNatClampNeg = gbe σ (nI (fit F j p)).toNatClampNeg := rfl
      rw [e3]
      have e4 : gten (zs σ (pw (fun j => fit F j p) (fun _ => nI (lst F p (L - 1))) e j) t) (nI (fit F j p)) (nI (lst F p (L - 1))) = zs σ (upd (pw (fun j => fit F j p) (fun _ => nI (lst F p (L - 1))) e j) (nI (fit F j p)).toNatClampNeg (nI (lst F p (L - 1)))) t := rfl
      rw [e4, nI_clamp (by omega), hbe _ hl, ← fit_s F j p]
      rfl
    · unfold f_X2_closeRing_b47
      dsimp only
      rw [hL.2.1, gd_nI (by omega) (by decide), nI_clamp (by omega)]
      have e1 : ¬ gen (zs σ (pw (fun j => fit F j p) (fun _ => nI (lst F p (L - 1))) e L) t) p = -2 := by
        show ¬ pw (fun j => fit F j p) (fun _ => nI (lst F p (L - 1))) e L p = -2
        have := pw_in (f := fun j => fit F j p) (v := fun _ => nI (lst F p (L - 1))) (e := e) (n := L) (isLen_inj hL) 0 hL0
        have h0 : fit F 0 p = p := rfl
        rw [h0] at this
        rw [this]
        exact nI_ne_neg (by omega) (by decide)
      rw [if_neg e1]
      split <;> rfl
