/-! one state followed: what the arrays hold behind it -/
def dn (M : Nat) (F : Nat → Nat) (e t : Nat → Int32) (s : Nat) : Prop := ∃ m k, m < M ∧ k ≤ M ∧ e s = nI m ∧ t s = nI k ∧ isEnd F s m ∧ isTail F s k
def JJ (M : Nat) (F : Nat → Nat) (e t : Nat → Int32) : Prop := ∀ s, s < M → ((e s = -1 ∧ t s = 0) ∨ dn M F e t s) ∧ (e s ≠ -1 → e (F s) ≠ -1)
theorem dn_ne {M : Nat} {F : Nat → Nat} {e t : Nat → Int32} {s : Nat} (hM : M ≤ 1024) (h : dn M F e t s) : e s ≠ -1 ∧ e s ≠ -2 := by
  obtain ⟨m, k, hm, -, e1, -⟩ := h
  rw [e1]
  exact ⟨nI_ne_neg (by omega) (by decide), nI_ne_neg (by omega) (by decide)⟩
theorem x_follow {σ : GS} {M : Nat} {F : Nat → Nat} (hM : M ≤ 1024) (hF : ∀ s, s < M → F s < M) (hbe : ∀ s, s < M → gbe σ s = nI (F s)) {e t : Nat → Int32} (hJ : JJ M F e t) {s0 : Nat} (hs : s0 < M) : ∃ e' t', f_X2_follow (zs σ e t) (nI s0) = some (zs σ e' t') ∧ JJ M F e' t' ∧ e' s0 ≠ -1 ∧ (∀ s, s < M → e s ≠ -1 → e' s = e s ∧ t' s = t s) ∧ ∀ s, s < M → e' s ≠ -1 → e s = -1 → ∃ j, s = fit F j s0 := by
  have hfl := fun j => fit_lt hF hs j
  let mk : Nat → Nat → Int32 := pw (fun j => fit F j s0) (fun _ => -2) e
  have hne2 : ∀ s, s < M → e s ≠ -2 := fun s h z => by
    rcases (hJ s h).1 with ⟨h1, -⟩ | h1
    · rw [h1] at z; exact absurd z (by decide)
    · exact (dn_ne hM h1).2 z
  -- the marks
  have mk_in : ∀ n j, j < n → mk n (fit F j s0) = -2 := by
    intro n
    induction n with
    | zero => intro j hj; omega
    | succ n ih =>
      intro j hj
      show upd (mk n) (fit F n s0) (-2) (fit F j s0) = -2
      unfold upd
      split
      · rfl
      · rename_i hc
        rcases Nat.lt_or_ge j n with h | h
        · exact ih j h
        · exact absurd (by rw [show j = n by omega]) hc
  have mk_out : ∀ n s, (∀ j, j < n → fit F j s0 ≠ s) → mk n s = e s := fun n s h => pw_out h
  -- where the walk ends
  have hex : ∃ n, mk n (fit F n s0) ≠ -1 := by
    refine Classical.byContradiction fun hn => ?_
    have hall : ∀ n, mk n (fit F n s0) = -1 := fun n => Classical.byContradiction fun h => hn ⟨n, h⟩
    have hinj : ∀ i j, i < j → fit F i s0 ≠ fit F j s0 := fun i j hij z => by
      have := hall j
      rw [← z, mk_in j i hij] at this
      exact absurd this (by decide)
    have := pig (g := fun i => fit F i s0) (n := M + 1) (M := M) (fun i _ => hfl i) (fun i j hi hj z => by
      rcases Nat.lt_trichotomy i j with h | h | h
      · exact absurd z (hinj i j h)
      · exact h
      · exact absurd z.symm (hinj j i h))
    omega
  obtain ⟨n, hn1, hn2⟩ := pk_least _ hex
  have hn2 : ∀ j, j < n → mk j (fit F j s0) = -1 := fun j hj => Classical.byContradiction fun h => hn2 j hj h
  have hlt : ∀ i j, i < j → j < n → fit F i s0 ≠ fit F j s0 := fun i j hij hj z => by
    have := hn2 j hj
    rw [← z, mk_in j i hij] at this
    exact absurd this (by decide)
  have hinj : ∀ i j, i < n → j < n → fit F i s0 = fit F j s0 → i = j := fun i j hi hj z => by
    rcases Nat.lt_trichotomy i j with h | h | h
    · exact absurd z (hlt i j h hj)
    · exact h
    · exact absurd z.symm (hlt j i h hi)
  have hnM : n ≤ M := pig (g := fun i => fit F i s0) (fun i _ => hfl i) hinj
  have hem : ∀ j, j < n → e (fit F j s0) = -1 ∧ t (fit F j s0) = 0 := fun j hj => by
    have h1 := hn2 j hj
    rw [mk_out j _ (fun i hi => hlt i j hi hj)] at h1
    rcases (hJ _ (hfl j)).1 with h2 | h2
    · exact h2
    · exact absurd h1 (dn_ne hM h2).1
  -- the first loop
  have L1 : itr f_X2_follow_b4 FU (nI s0, (0 : Int32), zs σ e t) = some (nI (fit F n s0), zs σ (mk n) t) := by
    refine itr_run (fun j => (nI (fit F j s0), nI j, zs σ (mk j) t)) n rfl (by omega) (fun j hj => ?_) ?_
    · have hl := hfl j
      unfold f_X2_follow_b4
      dsimp only
      rw [if_neg (nge1024 (by omega)), gd_nI (by omega) (by decide), gd_nI (by omega) (by decide), gd_nI (by omega) (by decide)]
      have e1 : gen (zs σ (mk j) t) (nI (fit F j s0)).toNatClampNeg = -1 := by
        rw [nI_clamp (by omega)]; exact hn2 j hj
      rw [if_pos e1, nI_p1]
      have e3 : gbe (gten (zs σ (mk j) t) (nI (fit F j s0)) (-2)) (nI (fit F j s0)).toNatClampNeg = gbe σ (nI (fit F j s0)).toNatClampNeg := rfl
      have e4 : gten (zs σ (mk j) t) (nI (fit F j s0)) (-2) = zs σ (upd (mk j) (nI (fit F j s0)).toNatClampNeg (-2)) t := rfl
      rw [e3, e4, nI_clamp (by omega), hbe _ hl, ← fit_s F j s0]
      rfl
    · have hl := hfl n
      unfold f_X2_follow_b4
      dsimp only
      rw [gd_nI (by omega) (by decide), nI_clamp (by omega)]
      have e1 : ¬ gen (zs σ (mk n) t) (fit F n s0) = -1 := hn1
      rw [if_neg e1]
      split <;> rfl
  have hln := hfl n
  -- what follows from the values on the way
  have fin : ∀ e' t' : Nat → Int32, (∀ j, j < n → dn M F e' t' (fit F j s0)) → (∀ s, (∀ j, j < n → fit F j s0 ≠ s) → e' s = e s ∧ t' s = t s) → e' (fit F n s0) ≠ -1 → JJ M F e' t' ∧ e' s0 ≠ -1 ∧ (∀ s, s < M → e s ≠ -1 → e' s = e s ∧ t' s = t s) ∧ ∀ s, s < M → e' s ≠ -1 → e s = -1 → ∃ j, s = fit F j s0 := by
    intro e' t' hd ho hlast
    have kp : ∀ s, s < M → e s ≠ -1 → e' s = e s ∧ t' s = t s := fun s h h1 => ho s (fun j hj z => by
      rw [← z] at h1
      exact h1 (hem j hj).1)
    have nn : ∀ s, s < M → e s ≠ -1 → e' s ≠ -1 := fun s h h1 => by rw [(kp s h h1).1]; exact h1
    have pn : ∀ j, j ≤ n → e' (fit F j s0) ≠ -1 := fun j hj => by
      rcases Nat.lt_or_ge j n with h | h
      · exact (dn_ne hM (hd j h)).1
      · rw [show j = n by omega]; exact hlast
    refine ⟨fun s h => ?_, pn 0 (Nat.zero_le n), kp, fun s h h1 h2 => ?_⟩
    · by_cases hc : ∃ j, j < n ∧ fit F j s0 = s
      · obtain ⟨j, hj, rfl⟩ := hc
        refine ⟨Or.inr (hd j hj), fun _ => ?_⟩
        rw [← fit_s F j s0]
        exact pn (j + 1) (by omega)
      · have hc' : ∀ j, j < n → fit F j s0 ≠ s := fun j hj z => hc ⟨j, hj, z⟩
        obtain ⟨a, b⟩ := ho s hc'
        obtain ⟨h1, h2⟩ := hJ s h
        refine ⟨?_, fun h3 => ?_⟩
        · rcases h1 with h1 | ⟨m, k, g1, g2, g3, g4, g5, g6⟩
          · exact Or.inl ⟨by rw [a]; exact h1.1, by rw [b]; exact h1.2⟩
          · exact Or.inr ⟨m, k, g1, g2, by rw [a]; exact g3, by rw [b]; exact g4, g5, g6⟩
        · rw [a] at h3
          exact nn _ (hF s h) (h2 h3)
    · by_cases hc : ∃ j, j < n ∧ fit F j s0 = s
      · obtain ⟨j, -, z⟩ := hc
        exact ⟨j, z.symm⟩
      · have hc' : ∀ j, j < n → fit F j s0 ≠ s := fun j hj z => hc ⟨j, hj, z⟩
        rw [(ho s hc').1] at h1
        exact absurd h2 h1
  unfold f_X2_follow
  rw [L1, Option.bind_some]
  dsimp only
  rw [gd_nI (by omega) (by decide), nI_clamp (by omega)]
  by_cases hr : ∃ i, i < n ∧ fit F i s0 = fit F n s0
  · -- a new ring
    obtain ⟨i, hi, hii⟩ := hr
    have e1 : gen (zs σ (mk n) t) (fit F n s0) = -2 := by
      show mk n (fit F n s0) = -2
      rw [← hii]; exact mk_in n i hi
    rw [if_pos e1]
    have hL : isLen F (fit F n s0) (n - i) := by
      refine ⟨by omega, ?_, fun j h1 h2 z => ?_⟩
      · rw [← hii, ← fit_add, show i + (n - i) = n by omega]; exact hii.symm
      · rw [← hii, ← fit_add] at z
        exact hlt i (i + j) (by omega) (by omega) z.symm
    have hpj : ∀ j, fit F j (fit F n s0) = fit F (i + j) s0 := fun j => by rw [← hii, ← fit_add]
    rw [x_closeRing hM hF hbe (e := mk n) (t := t) hln hL (fun j hj => by rw [hpj]; exact mk_in n (i + j) (by omega)), Option.bind_some]
    let m := lst F (fit F n s0) (n - i - 1)
    have hmE : isEnd F (fit F n s0) m := lst_end hL
    have hmM : m < M := by
      obtain ⟨j2, -, e2⟩ := lst_in F (fit F n s0) (n - i - 1)
      show lst F (fit F n s0) (n - i - 1) < M
      rw [e2]; exact fit_lt hF hln j2
    let e1' : Nat → Int32 := pw (fun j => fit F j (fit F n s0)) (fun _ => nI m) (mk n) (n - i)
    have hring : ∀ j, i ≤ j → j < n → e1' (fit F j s0) = nI m := fun j h1 h2 => by
      have := pw_in (f := fun j => fit F j (fit F n s0)) (v := fun _ => nI m) (e := mk n) (n := n - i) (isLen_inj hL) (j - i) (by omega)
      have h3 : fit F (j - i) (fit F n s0) = fit F j s0 := by rw [hpj, show i + (j - i) = j by omega]
      rw [h3] at this
      exact this
    have hnr : ∀ s, (∀ j, i ≤ j → j < n → fit F j s0 ≠ s) → e1' s = mk n s := fun s h => pw_out (fun j hj z => h (i + j) (by omega) (by omega) (by rw [← hpj]; exact z))
    have hon : onR F (fit F n s0) := ⟨n - i, hL.1, hL.2.1⟩
    have ht0 : t (fit F i s0) = nI 0 := (hem i hi).2
    have hq := x_closeTail hM hF hbe (e := e1') (t := t) (s0 := s0) (q := i) (m := m) (k := 0) hs (by omega) hmM (by omega) (fun j hj => by
      rw [hnr _ (fun j2 h1 h2 z => by have := hinj j2 j h2 (by omega) z; omega)]
      exact mk_in n j (by omega)) (hring i (Nat.le_refl i) hi) ht0
    rw [show f_X2_closeTail (zs σ (pw (fun j => fit F j (fit F n s0)) (fun _ => nI (lst F (fit F n s0) (n - i - 1))) (mk n) (n - i)) t) (nI s0) = _ from hq, Option.bind_some]
    refine ⟨_, _, rfl, fin _ _ (fun j hj => ?_) (fun s h => ?_) ?_⟩
    · by_cases hji : j < i
      · -- on the tail
        refine ⟨m, i - j, hmM, by omega, ?_, ?_, ?_, ?_⟩
        · exact pw_in (f := fun j => fit F j s0) (v := fun _ => nI m) (e := e1') (fun a b ha hb => hinj a b (by omega) (by omega)) j hji
        · have := pw_in (f := fun j => fit F j s0) (v := fun j => nI (0 + i - j)) (e := t) (fun a b ha hb => hinj a b (by omega) (by omega)) j hji
          rw [show i - j = 0 + i - j by omega]; exact this
        · refine isEnd_of (i - j) ?_
          rw [← fit_add, show j + (i - j) = i by omega, hii]; exact hmE
        · refine ⟨?_, fun j2 hj2 hc => ?_⟩
          · rw [← fit_add, show j + (i - j) = i by omega, hii]; exact hon
          · rw [← fit_add] at hc
            -- a state of the tail that came again would be one of the ring
            obtain ⟨p, hp, hpe⟩ := hc
            have h5 : fit F (p * n) (fit F (j + j2) s0) = fit F (j + j2) s0 := by
              have := fit_mul hpe n
              rw [Nat.mul_comm] at this; exact this
            have hpn : n ≤ p * n := Nat.le_mul_of_pos_left n hp
            have h6 : fit F (p * n) (fit F (j + j2) s0) = fit F (j + j2 + p * n - n) (fit F n s0) := by
              rw [← fit_add, ← fit_add, show n + (j + j2 + p * n - n) = j + j2 + p * n by omega]
            have h7 := isLen_mod hL (j + j2 + p * n - n)
            rw [h5] at h6
            have hml := Nat.mod_lt (j + j2 + p * n - n) hL.1
            rw [h7, hpj] at h6
            have := hinj (j + j2) (i + (j + j2 + p * n - n) % (n - i)) (by omega) (by omega) h6
            omega
      · -- on the ring
        have hjj : fit F j s0 = fit F (j - i) (fit F n s0) := by rw [hpj, show i + (j - i) = j by omega]
        have hno : ∀ a, a < i → fit F a s0 ≠ fit F j s0 := fun a ha z => by have := hinj a j (by omega) hj z; omega
        refine ⟨m, 0, hmM, Nat.zero_le M, ?_, ?_, ?_, ?_⟩
        · rw [pw_out hno]; exact hring j (by omega) hj
        · rw [pw_out hno]; exact (hem j hj).2
        · rw [hjj]; exact isEnd_fit hmE _
        · refine isTail_0 ?_
          rw [hjj]; exact onR_fit hon _
    · have h1 : ∀ a, a < i → fit F a s0 ≠ s := fun a ha => h a (by omega)
      refine ⟨?_, pw_out h1⟩
      rw [pw_out h1, hnr s (fun j _ h2 => h j h2), mk_out n s h]
    · rw [← hii, pw_out (fun a ha z => by have := hinj a i (by omega) hi z; omega), hring i (Nat.le_refl i) hi]
      exact nI_ne_neg (by omega) (by decide)
  · -- it comes to what is done
    have hr' : ∀ j, j < n → fit F j s0 ≠ fit F n s0 := fun j hj z => hr ⟨j, hj, z⟩
    have e0 : mk n (fit F n s0) = e (fit F n s0) := mk_out n _ hr'
    have hne : e (fit F n s0) ≠ -1 := by rw [← e0]; exact hn1
    have e1 : ¬ gen (zs σ (mk n) t) (fit F n s0) = -2 := by
      show ¬ mk n (fit F n s0) = -2
      rw [e0]; exact hne2 _ hln
    rw [if_neg e1]
    obtain ⟨m, k, hm, hk, em, ek, hE, hT⟩ := (hJ _ hln).1.resolve_left (fun h => hne h.1)
    rw [x_closeTail hM hF hbe (e := mk n) (t := t) (s0 := s0) (q := n) (m := m) (k := k) hs hnM hm hk (fun j hj => mk_in n j hj) (by rw [e0]; exact em) ek, Option.bind_some]
    -- none of the way is on a ring
    have hcl : ∀ j s, s < M → e s ≠ -1 → e (fit F j s) ≠ -1 := by
      intro j
      induction j with
      | zero => intro s _ h; exact h
      | succ j ih => intro s h1 h2; exact ih (F s) (hF s h1) ((hJ s h1).2 h2)
    have hnon : ∀ j, j < n → ¬ onR F (fit F j s0) := fun j hj hc => by
      obtain ⟨i, hi⟩ := onR_back hc (n - j)
      rw [← fit_add F j (n - j) s0, show j + (n - j) = n by omega] at hi
      have := hcl i _ hln hne
      rw [hi] at this
      exact this (hem j hj).1
    have htl : ∀ j, j ≤ n → isTail F (fit F j s0) (k + n - j) := by
      intro j hj
      have : ∀ d, d ≤ n → isTail F (fit F (n - d) s0) (k + d) := by
        intro d
        induction d with
        | zero => intro _; exact hT
        | succ d ih =>
          intro hd
          refine isTail_s (hnon _ (by omega)) ?_
          rw [← fit_s F (n - (d + 1)) s0, show n - (d + 1) + 1 = n - d by omega]
          exact ih (by omega)
      have h2 := this (n - j) (by omega)
      rw [show n - (n - j) = j by omega, show k + (n - j) = k + n - j by omega] at h2
      exact h2
    refine ⟨_, _, rfl, fin _ _ (fun j hj => ?_) (fun s h => ?_) ?_⟩
    · have hkM : k + n - j ≤ M := by
        obtain ⟨k2, h1, h2⟩ := isTail_ex hF (hfl j)
        rw [isTail_uq (htl j (by omega)) h2]; exact h1
      refine ⟨m, k + n - j, hm, hkM, pw_in hinj j hj, pw_in hinj j hj, ?_, htl j (by omega)⟩
      refine isEnd_of (n - j) ?_
      rw [← fit_add, show j + (n - j) = n by omega]; exact hE
    · exact ⟨by rw [pw_out h]; exact mk_out n s h, pw_out h⟩
    · rw [pw_out hr', e0]; exact hne
