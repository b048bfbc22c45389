/-! what comes behind a state: both sides -/
def wish (N : Nat) (we pa : Nat → Int32) (br : Int32) (r : Nat) (s : Int32) : Int32 := wsh (way N we pa br r s) N
def wishOK (N : Nat) (σ : GS) : Prop := ∀ r, r < 3 → gus σ r = 0 ∨ ∀ k, k < 2 ^ N → gwi σ (1024 * r + k) = -1 ∨ gwi σ (1024 * r + k) = wish N (gwe σ) (gpa σ) (gbr σ) r (nI k)
theorem x_states {σ : GS} {N : Nat} (hN : gpl σ = nI N) (h10 : N ≤ 10) : f_X1_states σ = some (nI (2 ^ N)) := by
  unfold f_X1_states
  rw [hN, shl_pow h10]
theorem y_states {μ : MS} {N : Nat} (hN : mpl μ = nI N) (h10 : N ≤ 10) : f_X4_states μ = some (nI (2 ^ N)) := by
  unfold f_X4_states
  rw [hN, shl_pow h10]
theorem x_takeIntoUse {σ : GS} {N r : Nat} (hN : gpl σ = nI N) (h10 : N ≤ 10) (hr : r < 3) : ∃ i, f_X0_takeIntoUse σ (nI r) = some (zc σ i (upd (gus σ) r 1) (gwg σ)) ∧ (∀ k, k < 2 ^ N → i (1024 * r + k) = -1) ∧ ∀ m, (m < 1024 * r ∨ 1024 * r + 1024 ≤ m) → i m = gwi σ m := by
  have hp := pw10 h10
  let F : Nat → Nat → Int32 := fun j m => if 1024 * r ≤ m ∧ m < 1024 * r + j then -1 else gwi σ m
  refine ⟨F (2 ^ N), ?_, fun k hk => ?_, fun m hm => ?_⟩
  · unfold f_X0_takeIntoUse
    refine itr_bind (itr_run (fun j => (nI j, zwi σ (F j))) (2 ^ N) (x := zwi σ (F (2 ^ N))) ?_ (by omega) (fun j hj => ?_) ?_) ?_
    · have : F 0 = gwi σ := by
        funext m
        simp only [F]
        rw [if_neg (by omega)]
      show ((0 : Int32), σ) = (nI 0, zwi σ (F 0))
      rw [this]; rfl
    · unfold f_X0_takeIntoUse_b2
      dsimp only
      have hN' : gpl (zwi σ (F j)) = nI N := hN
      rw [x_states hN' h10, Option.bind_some, if_neg (nI_ge hj (by omega)), ix1024, gd_nI (by omega) (by decide), nI_p1]
      have e : gtwi (zwi σ (F j)) (nI (1024 * r + j)) (-1) = zwi σ (upd (F j) (nI (1024 * r + j)).toNatClampNeg (-1)) := rfl
      rw [e, nI_clamp (by omega)]
      have e2 : upd (F j) (1024 * r + j) (-1) = F (j + 1) := by
        funext m
        simp only [upd, F]
        by_cases hm : m = 1024 * r + j
        · rw [if_pos hm, if_pos (by omega)]
        · rw [if_neg hm]
          by_cases h1 : 1024 * r ≤ m ∧ m < 1024 * r + j
          · rw [if_pos h1, if_pos (by omega)]
          · rw [if_neg h1, if_neg (by omega)]
      rw [e2]
    · unfold f_X0_takeIntoUse_b2
      dsimp only
      have hN' : gpl (zwi σ (F (2 ^ N))) = nI N := hN
      rw [x_states hN' h10, Option.bind_some, if_pos (nI_le (Nat.le_refl _) (by omega))]
    · rw [gd_nI hr (by decide)]
      have e : gtus (zwi σ (F (2 ^ N))) (nI r) 1 = zc σ (F (2 ^ N)) (upd (gus σ) (nI r).toNatClampNeg 1) (gwg σ) := rfl
      rw [e, nI_clamp (by omega)]
  · simp only [F]
    rw [if_pos (by omega)]
  · simp only [F]
    rw [if_neg (by omega)]
theorem x_wj {σ : GS} {N r k : Nat} (h : NetOK N σ) (hw : wishOK N σ) (hr : r < 3) (hk : k < 2 ^ N) (hu : ¬ gus σ r = 0) : ∃ i w, f_X0_wishOf_j14 (nI r) (nI k) σ = some (wish N (gwe σ) (gpa σ) (gbr σ) r (nI k), zc σ i (gus σ) w) ∧ wishOK N (zc σ i (gus σ) w) := by
  have h10 := h.2.2.1
  have hp := pw10 h10
  have hc := (hw r hr).resolve_left hu k hk
  unfold f_X0_wishOf_j14
  rw [ix1024, gd_nI (by omega) (by decide), nI_clamp (by omega)]
  by_cases h1 : gwi σ (1024 * r + k) = -1
  · rw [if_pos h1]
    have key : ∀ (w : Nat → Int32) (q : Int32), q = wish N (gwe σ) (gpa σ) (gbr σ) r (nI k) → ∃ i w', (gd (nI (1024 * r + k)) 3072 <| gd (nI (1024 * r + k)) 3072 <| some (gwi (gtwi (zwg σ w) (nI (1024 * r + k)) q) (1024 * r + k), gtwi (zwg σ w) (nI (1024 * r + k)) q)) = some (wish N (gwe σ) (gpa σ) (gbr σ) r (nI k), zc σ i (gus σ) w') ∧ wishOK N (zc σ i (gus σ) w') := by
      intro w q hq
      refine ⟨upd (gwi σ) (1024 * r + k) q, w, ?_, ?_⟩
      · rw [gd_nI (by omega) (by decide), gd_nI (by omega) (by decide)]
        have e : gtwi (zwg σ w) (nI (1024 * r + k)) q = zc σ (upd (gwi σ) (nI (1024 * r + k)).toNatClampNeg q) (gus σ) w := rfl
        rw [e, nI_clamp (by omega)]
        have e2 : gwi (zc σ (upd (gwi σ) (1024 * r + k) q) (gus σ) w) (1024 * r + k) = q := by
          show upd (gwi σ) (1024 * r + k) q (1024 * r + k) = q
          simp [upd]
        rw [e2, hq]
      · intro r' hr'
        rcases hw r' hr' with h2 | h2
        · exact Or.inl h2
        · refine Or.inr (fun k' hk' => ?_)
          show upd (gwi σ) (1024 * r + k) q (1024 * r' + k') = -1 ∨ upd (gwi σ) (1024 * r + k) q (1024 * r' + k') = _
          by_cases he : 1024 * r' + k' = 1024 * r + k
          · have e1 : r' = r := by omega
            have e2 : k' = k := by omega
            subst e1; subst e2
            refine Or.inr ?_
            simp only [upd]
            rw [if_pos trivial, hq]
            rfl
          · simp only [upd]
            rw [if_neg he]
            exact h2 k' hk'
    rcases (show r = 0 ∨ r = 1 ∨ r = 2 by omega) with e | e | e
    · subst e
      rw [if_pos (by rfl), x_repliesTo h, Option.bind_some]
      exact key (gwg σ) _ rfl
    · subst e
      obtain ⟨w, hcw⟩ := x_copiesIn h (nI k)
      rw [if_neg (by decide), if_pos (by rfl), hcw, Option.bind_some]
      exact key w _ rfl
    · subst e
      rw [if_neg (by decide), if_neg (by decide), x_overBarIn h, Option.bind_some]
      exact key (gwg σ) _ rfl
  · rw [if_neg h1, gd_nI (by omega) (by decide)]
    exact ⟨gwi σ, gwg σ, by rw [hc.resolve_left h1]; rfl, hw⟩
theorem x_wishOf {σ : GS} {N r k : Nat} (h : NetOK N σ) (hw : wishOK N σ) (hr : r < 3) (hk : k < 2 ^ N) : ∃ i u w, f_X0_wishOf σ (nI r) (nI k) = some (wish N (gwe σ) (gpa σ) (gbr σ) r (nI k), zc σ i u w) ∧ wishOK N (zc σ i u w) := by
  have h10 := h.2.2.1
  unfold f_X0_wishOf
  rw [gd_nI hr (by decide), nI_clamp (by omega)]
  by_cases h0 : gus σ r = 0
  · rw [if_pos h0]
    obtain ⟨i, h1, h2, h3⟩ := x_takeIntoUse h.1 h10 hr
    rw [h1, Option.bind_some]
    have hw1 : wishOK N (zc σ i (upd (gus σ) r 1) (gwg σ)) := by
      intro r' hr'
      have hp := pw10 h10
      by_cases hrr : r' = r
      · subst hrr
        exact Or.inr (fun k' hk' => Or.inl (h2 k' hk'))
      · show upd (gus σ) r 1 r' = 0 ∨ ∀ k, k < 2 ^ N → i (1024 * r' + k) = -1 ∨ i (1024 * r' + k) = _
        simp only [upd]
        rw [if_neg hrr]
        rcases hw r' hr' with h4 | h4
        · exact Or.inl h4
        · refine Or.inr (fun k' hk' => ?_)
          rw [h3 (1024 * r' + k') (by omega)]
          exact h4 k' hk'
    obtain ⟨i2, w2, h5, h6⟩ := x_wj (σ := zc σ i (upd (gus σ) r 1) (gwg σ)) h hw1 hr hk (by
      show ¬ upd (gus σ) r 1 r = 0
      simp [upd])
    exact ⟨i2, _, w2, h5, h6⟩
  · rw [if_neg h0]
    obtain ⟨i, w, h1, h2⟩ := x_wj h hw hr hk h0
    exact ⟨i, _, w, h1, h2⟩
/-! one bit set -/
def stB (x : Int32) (p v : Nat) : Int32 := if v = 1 then x ||| ((1 : Int32) <<< (nI p &&& 31)) else x &&& (((1 : Int32) <<< (nI p &&& 31)) ^^^ (-1))
theorem bt_stB (x : Int32) {p : Nat} (hp : p < 32) (v : Nat) {i : Nat} (hi : i < 32) : bt (stB x p v) i = if i = p then decide (v = 1) else bt x i := by
  unfold stB
  by_cases hv : v = 1
  · rw [if_pos hv, b_or, b_one p hp i hi]
    by_cases h : i = p
    · simp [h, hv]
    · simp [h]
  · rw [if_neg hv, b_and, b_xor, b_one p hp i hi, b_m1 i hi]
    by_cases h : i = p
    · simp [h, hv]
    · simp [h]
theorem isSt_stB {N : Nat} {x : Int32} (h : isSt N x) {p : Nat} (hp : p < N) (v : Nat) : isSt N (stB x p v) := by
  intro i hi hN
  rw [bt_stB x (by omega) v hi, if_neg (by omega)]
  exact h i hi hN
theorem bt_wsh (g : Nat → Nat) {i : Nat} (hi : i < 32) : ∀ {n : Nat}, n ≤ 32 → bt (wsh g n) i = (decide (i < n) && decide (g i = 1)) := by
  intro n
  induction n with
  | zero => intro _; simp [wsh, b_0]
  | succ n ih =>
    intro hn
    unfold wsh
    by_cases hg : g n = 1
    · rw [if_pos hg, b_or, ih (by omega), b_one n (by omega) i hi]
      by_cases h : i = n
      · subst h; simp [hg]
      · have : (i < n + 1) ↔ (i < n) := by omega
        simp [h, this]
    · rw [if_neg hg, ih (by omega)]
      by_cases h : i = n
      · subst h; simp [hg]
      · have : (i < n + 1) ↔ (i < n) := by omega
        simp [this]
def mnx (N : Nat) (we pa : Nat → Int32) (br : Int32) (r : Nat) (h s : Int32) : Nat → Int32
  | 0 => s
  | p + 1 => if bI h p = 0 then stB (mnx N we pa br r h s p) p (way N we pa br r (if r = 3 then mnx N we pa br r h s p else s) p) else mnx N we pa br r h s p
theorem isSt_mnx {N : Nat} {we pa : Nat → Int32} {br : Int32} {r : Nat} {h s : Int32} (hs : isSt N s) : ∀ {p : Nat}, p ≤ N → isSt N (mnx N we pa br r h s p) := by
  intro p
  induction p with
  | zero => intro _; exact hs
  | succ p ih =>
    intro hp
    unfold mnx
    split
    · exact isSt_stB (ih (by omega)) (by omega) _
    · exact ih (by omega)
theorem bI_0 {h : Int32} {p : Nat} (hp : p < 32) : bI h p = 0 ↔ bt h p = false := by
  rw [bI_bt h hp]
  cases bt h p <;> simp
theorem bt_mnx {N : Nat} {we pa : Nat → Int32} {br : Int32} {r : Nat} (hr : ¬ r = 3) {h s : Int32} {i : Nat} (hi : i < 32) : ∀ {p : Nat}, p ≤ 32 → bt (mnx N we pa br r h s p) i = if i < p ∧ bt h i = false then decide (way N we pa br r s i = 1) else bt s i := by
  intro p
  induction p with
  | zero => intro _; simp [mnx]
  | succ p ih =>
    intro hp
    unfold mnx
    by_cases h0 : bI h p = 0
    · rw [if_pos h0, bt_stB _ (by omega) _ hi, if_neg hr]
      by_cases hip : i = p
      · subst hip
        rw [if_pos rfl, if_pos ⟨by omega, (bI_0 hi).mp h0⟩]
      · rw [if_neg hip, ih (by omega)]
        have : (i < p + 1) ↔ (i < p) := by omega
        simp only [this]
    · rw [if_neg h0, ih (by omega)]
      by_cases hip : i = p
      · subst hip
        have : ¬ bt h i = false := fun e => h0 ((bI_0 hi).mpr e)
        rw [if_neg (fun e => this e.2), if_neg (fun e => this e.2)]
      · have : (i < p + 1) ↔ (i < p) := by omega
        simp only [this]
theorem y_next {μ : MS} {N : Nat} (hN : mpl μ = nI N) (h10 : N ≤ 10) (hw : weOK (mwe μ)) {r : Nat} (hr : r ≤ 3) (s h : Int32) : f_X4_next μ (nI r) s h = some (mnx N (mwe μ) (mpa μ) (mbr μ) r h s N) := by
  unfold f_X4_next
  refine itr_bind (itr_run (fun i => (mnx N (mwe μ) (mpa μ) (mbr μ) r h s i, nI i)) N rfl (by omega) (fun i hi => ?_) ?_) rfl
  · unfold f_X4_next_b6
    dsimp only
    rw [hN, if_neg (nI_ge hi (by omega)), nI_p1]
    have e0 : (h >>> (nI i &&& 31)) &&& (1 : Int32) = bI h i := rfl
    rw [e0]
    have e : mnx N (mwe μ) (mpa μ) (mbr μ) r h s (i + 1) = if bI h i = 0 then stB (mnx N (mwe μ) (mpa μ) (mbr μ) r h s i) i (way N (mwe μ) (mpa μ) (mbr μ) r (if r = 3 then mnx N (mwe μ) (mpa μ) (mbr μ) r h s i else s) i) else mnx N (mwe μ) (mpa μ) (mbr μ) r h s i := rfl
    rw [e]
    by_cases h0 : bI h i = 0
    · rw [if_pos h0, if_pos h0]
      have key : ∀ (x y : Int32), ((f_X4_wayBehind μ (nI r) y (nI i)).bind fun q => if q = (1 : Int32) then some (Sum.inl (x ||| ((1 : Int32) <<< (nI i &&& 31)), nI (i + 1)) : (Int32 × Int32) ⊕ Int32) else some (.inl (x &&& (((1 : Int32) <<< (nI i &&& 31)) ^^^ (-1 : Int32)), nI (i + 1)))) = some (.inl (stB x i (way N (mwe μ) (mpa μ) (mbr μ) r y i), nI (i + 1))) := by
        intro x y
        rw [y_wayBehind hN h10 hw hr (by omega) y, Option.bind_some]
        have hl := way_le N (mwe μ) (mpa μ) (mbr μ) r y i
        unfold stB
        by_cases hv : way N (mwe μ) (mpa μ) (mbr μ) r y i = 1
        · rw [if_pos (by rw [hv]; rfl), if_pos hv]
        · rw [if_neg (show ¬ nI _ = (1 : Int32) from fun z => hv (nI_inj (by omega) (by decide) z)), if_neg hv]
      by_cases h3 : r = 3
      · subst h3
        rw [if_pos (by rfl), if_pos rfl]
        exact key _ _
      · rw [if_neg (show ¬ nI r = (3 : Int32) from fun z => h3 (nI_inj (by omega) (by decide) z)), if_neg h3]
        exact key _ _
    · rw [if_neg h0, if_neg h0]
  · unfold f_X4_next_b6
    dsimp only
    rw [hN, if_pos (nI_le (Nat.le_refl _) (by omega))]
theorem x_next {σ : GS} {N r k : Nat} (h : NetOK N σ) (hw : wishOK N σ) (hr : r ≤ 3) (hk : k < 2 ^ N) (hd : Int32) : ∃ i u w, f_X0_next σ (nI r) hd (nI k) = some (mnx N (gwe σ) (gpa σ) (gbr σ) r hd (nI k) N, zc σ i u w) ∧ wishOK N (zc σ i u w) := by
  have h10 := h.2.2.1
  have hp := pw10 h10
  unfold f_X0_next
  by_cases h3 : r = 3
  · subst h3
    rw [if_pos (by rfl)]
    have L : ∃ x, itr (f_X0_next_b26 hd) FU (nI k, (0 : Int32), σ) = some x ∧ ∃ i u w, x = (mnx N (gwe σ) (gpa σ) (gbr σ) 3 hd (nI k) N, zc σ i u w) ∧ wishOK N (zc σ i u w) := by
      refine itr_inv (fun p st => ∃ i u w, st = (mnx N (gwe σ) (gpa σ) (gbr σ) 3 hd (nI k) p, nI p, zc σ i u w) ∧ wishOK N (zc σ i u w)) _ N (by omega) ⟨gwi σ, gus σ, gwg σ, rfl, hw⟩ ?_ ?_
      · rintro p st hpN ⟨i, u, w, rfl, hw1⟩
        have hst := isSt_mnx (we := gwe σ) (pa := gpa σ) (br := gbr σ) (r := 3) (h := hd) (isSt_nI hk) (p := p) (by omega)
        obtain ⟨k1, hk1, e1⟩ := isSt_of (by omega) hst
        obtain ⟨i2, u2, w2, h5, h6⟩ := x_wishOf (σ := zc σ i u w) (r := 0) h hw1 (by omega) hk1
        refine ⟨(mnx N (gwe σ) (gpa σ) (gbr σ) 3 hd (nI k) (p + 1), nI (p + 1), zc σ i2 u2 w2), ?_, i2, u2, w2, rfl, h6⟩
        unfold f_X0_next_b26
        dsimp only
        have hN' : gpl (zc σ i u w) = nI N := h.1
        rw [hN', if_neg (nI_ge hpN (by omega)), nI_p1, e1]
        have h5' : f_X0_wishOf (zc σ i u w) (0 : Int32) (nI k1) = some (wish N (gwe σ) (gpa σ) (gbr σ) 0 (nI k1), zc σ i2 u2 w2) := h5
        rw [h5', Option.bind_some]
        dsimp only
        congr 2
        refine Prod.ext ?_ rfl
        show _ = mnx N (gwe σ) (gpa σ) (gbr σ) 3 hd (nI k) (p + 1)
        apply b_ext
        intro j hj
        have e2 : mnx N (gwe σ) (gpa σ) (gbr σ) 3 hd (nI k) (p + 1) = if bI hd p = 0 then stB (nI k1) p (way N (gwe σ) (gpa σ) (gbr σ) 0 (nI k1) p) else nI k1 := by
          show (if bI hd p = 0 then stB (mnx N (gwe σ) (gpa σ) (gbr σ) 3 hd (nI k) p) p (way N (gwe σ) (gpa σ) (gbr σ) 3 (if 3 = 3 then mnx N (gwe σ) (gpa σ) (gbr σ) 3 hd (nI k) p else nI k) p) else mnx N (gwe σ) (gpa σ) (gbr σ) 3 hd (nI k) p) = _
          rw [e1]; rfl
        rw [e2]
        simp only [b_or, b_and, b_xor, b_one p (by omega) j hj, b_m1 j hj]
        unfold wish
        rw [bt_wsh _ hj (by omega)]
        by_cases h0 : bI hd p = 0
        · rw [if_pos h0, bt_stB _ (by omega) _ hj]
          have hb0 := (bI_0 (by omega)).mp h0
          by_cases hjp : j = p
          · subst hjp
            simp [hb0, hpN]
          · simp [hjp]
        · rw [if_neg h0]
          have hb0 : bt hd p = true := by
            cases hh : bt hd p
            · exact absurd ((bI_0 (by omega)).mpr hh) h0
            · rfl
          by_cases hjp : j = p
          · subst hjp
            simp [hb0]
          · simp [hjp]
      · rintro st ⟨i, u, w, rfl, hw1⟩
        refine ⟨(mnx N (gwe σ) (gpa σ) (gbr σ) 3 hd (nI k) N, zc σ i u w), ?_, i, u, w, rfl, hw1⟩
        unfold f_X0_next_b26
        dsimp only
        have hN' : gpl (zc σ i u w) = nI N := h.1
        rw [hN', if_pos (nI_le (Nat.le_refl _) (by omega))]
    obtain ⟨x, hx, i, u, w, rfl, hw1⟩ := L
    exact ⟨i, u, w, by rw [hx]; rfl, hw1⟩
  · rw [if_neg (show ¬ nI r = (3 : Int32) from fun z => h3 (nI_inj (by omega) (by decide) z))]
    obtain ⟨i, u, w, h5, h6⟩ := x_wishOf h hw (by omega : r < 3) hk
    refine ⟨i, u, w, ?_, h6⟩
    rw [h5, Option.bind_some]
    dsimp only
    congr 2
    apply b_ext
    intro j hj
    rw [bt_mnx h3 hj (by omega)]
    simp only [b_or, b_and, b_xor, b_m1 j hj]
    unfold wish
    rw [bt_wsh _ hj (by omega)]
    by_cases hjN : j < N
    · cases hh : bt hd j
      · simp [hjN]
      · simp [hjN]
    · have := isSt_nI hk j hj (by omega)
      simp [hjN, this]
