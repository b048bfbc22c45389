theorem two_apart {w1 w2 : va_W} {A : Nat → Prop} {n1 n2 : Nat} {ad am : Nat → Nat} (h1 : w1.map Prod.fst = (List.range n1).map ad) (h2 : w2.map Prod.fst = (List.range n2).map am) (hD : va_D A (w1 ++ w2)) : ∀ k, k < n1 → ∀ j, j < n2 → ad k ≠ am j := by
  intro k hk j hj he
  have l1 : w1.length = n1 := by have := congrArg List.length h1; simpa using this
  have l2 : w2.length = n2 := by have := congrArg List.length h2; simpa using this
  have g1 : (w1 ++ w2)[k]? = some (w1[k]'(by omega)) := by rw [List.getElem?_append_left (by omega)]; exact List.getElem?_eq_getElem (by omega)
  have g2 : (w1 ++ w2)[n1 + j]? = some (w2[j]'(by omega)) := by
    rw [List.getElem?_append_right (by omega)]
    rw [show n1 + j - w1.length = j by omega]
    exact List.getElem?_eq_getElem (by omega)
  have a1 := (at_adr h1 (List.getElem?_eq_getElem (by omega : k < w1.length))).2
  have a2 := (at_adr h2 (List.getElem?_eq_getElem (by omega : j < w2.length))).2
  have := hD.1 k (n1 + j) _ _ g1 g2 (by rw [a1, a2]; exact he)
  omega
set_option maxHeartbeats 40000000 in
set_option maxRecDepth 100000 in
theorem whole_start1 {Rel : GS → MS → Prop} (hE : AllEq Rel) (hR0 : Rel gs0 ms0) {p : Program} {e : Env} {s : State} {m : MethodId} {below : List Frame} {meth : Method} {c : Code} (l : Launch) {b L : Nat} {xs : Nat → Int32} (hL : L ≤ 2048) (C0 : lw_At p s m meth c b L xs) : W p l e room_1 s m #[Value.ref b] below meth c s.heap [] 0 0 (lw_Z below #[Value.ref b] s) (entryFrame m ([Value.ref b] : List Value).toArray 4) := by
  obtain ⟨hx, hb, hr, hml, hown, hts, hX, hbl, hlocks, hgv⟩ := id C0
  have hA : ∀ q : Nat, s.heap.size ≤ q → (fun q : Nat => s.heap.size ≤ q) q := fun _ h => h
  have hts2 : ∀ w ∈ bigW, w.before #[Value.ref b] s = true := fun w hw => hts w (List.mem_filter.mp hw).1
  have hF : CallFix p m c code 4 s #[Value.ref b] bigW RL := ⟨hx, hb, hml, hown, hts2⟩
  have hN : Nst s := Nst.of hts
  obtain ⟨c0, iS0, hKn0⟩ := u_known (C := RX0) (T := TX0) (N := 4) (n := 4) hts2 iwX0 (hts2 _ mw_n_X0)
  obtain ⟨c1, iS1, hKn1⟩ := u_known (C := RX1) (T := TX1) (N := 5) (n := 5) hts2 iwX1 (hts2 _ mw_n_X1)
  obtain ⟨c2, iS2, hKn2⟩ := u_known (C := RX2) (T := TX2) (N := 9) (n := 9) hts2 iwX2 (hts2 _ mw_n_X2)
  obtain ⟨c3, iS3, hKn3⟩ := u_known (C := RX3) (T := TX3) (N := 6) (n := 6) hts2 iwX3 (hts2 _ mw_n_X3)
  obtain ⟨c4, iS4, hKn4⟩ := u_known (C := RX4) (T := TX4) (N := 9) (n := 9) hts2 iwX4 (hts2 _ mw_n_X4)
  obtain ⟨D, hKc⟩ : ∃ (D : va_G), ∀ (k : Nat) (q : vw_C), vwCl[k]? = some q → u_Kn s q.1 q.2.1 q.2.2 (D.1 k) (D.2 k) := by
    refine ⟨(fun k => match k with | 0 => c0 | 1 => c1 | 2 => c2 | 3 => c3 | _ => c4, fun k => match k with | 0 => iS0 | 1 => iS1 | 2 => iS2 | 3 => iS3 | _ => iS4), ?_⟩
    intro k q hq
    match k, hq with
    | 0, hq => cases hq; exact hKn0
    | 1, hq => cases hq; exact hKn1
    | 2, hq => cases hq; exact hKn2
    | 3, hq => cases hq; exact hKn3
    | 4, hq => cases hq; exact hKn4
    | k + 5, hq => simp [vwCl] at hq
  have hS : va_S (fun q : Nat => s.heap.size ≤ q) s.heap s.heap [] := va_S.rf
  have hK : va_K D vwCl [] s := ⟨hKc, fun k q h => by simp at h⟩
  have hP : va_P D vwCl [] s.heap := fun k q h => by simp at h
  have hD : va_D (fun q : Nat => s.heap.size ≤ q) [] := ⟨fun i j p q h => by simp at h, fun k q h => by simp at h⟩
  have hl := lv_entry ([.ref b]) (n := 4) (Nat.le_of_ble_eq_true rfl)
  rw [lg_entry_eq]
  generalize (lg_sl ([.ref b]) ++ List.replicate (4 - (lg_sl ([.ref b])).length) Slot.unset).toArray = ls at hl ⊢
  have hl : lv_has ls 4 [(0, .ref b)] := hl
  refine va_new (ci := 3) (fs := [.null, .null, .null, .null, .int 0, .int 0]) (C := RX3) (T := TX3) (N := 6) hx hb hts2 iwX3 tyX3 tyX3_ok hown (hts2 _ mw_k_L_7) (hts2 _ mw_n_X3) (hts2 _ mw_in_X3) hK hP hD hS hA rfl (fun j hj => by rcases (show j = 0 ∨ j = 1 ∨ j = 2 ∨ j = 3 ∨ j = 4 ∨ j = 5 by omega) with rfl | rfl | rfl | rfl | rfl | rfl <;> rfl) (Nat.le_of_ble_eq_true rfl) (Nat.le_of_ble_eq_true rfl) dL_law_0 (fun g0 H hP hD hS => ?_)
  have hP : va_P D vwCl [(g0, .inr (3, [.null, .null, .null, .null, .int 0, .int 0]))] H := hP
  have hD : va_D (fun q : Nat => s.heap.size ≤ q) [(g0, .inr (3, [.null, .null, .null, .null, .int 0, .int 0]))] := hD
  refine W.widen (k := 1) (n := 6) (Nat.le_of_ble_eq_true rfl) (Nat.le_of_ble_eq_true rfl) ?_
  refine lv_dup hx hb dL_law_3 rfl ?_
  have hPc := hP.sub (ws' := [(g0, .inr (3, [.null, .null, .null, .null, .int 0, .int 0]))]) [0] rfl
  have hDc := hD.sub (ws' := [(g0, .inr (3, [.null, .null, .null, .null, .int 0, .int 0]))]) [0] (by decide) rfl
  have hKc := hK.sub (tys' := []) [] rfl
  have hFc := va_free (wc := [(g0, .inr (3, [.null, .null, .null, .null, .int 0, .int 0]))]) hD hS hA [0] rfl
  refine va_callv (va_runI (As := []) (rest := [.ref g0]) hF (k_X3_init l D g0 H.size) (cwI 0 hts2 (good_M mw_c_X3_init) rfl rfl rfl (hts2 _ mw_in_X3) (hts2 _ mw_m_L_9) (hts2 _ mw_i_X3_init) rfl ⟨by decide, by decide, by decide +kernel⟩ ⟨Nat.le_of_ble_eq_true rfl, Nat.le_of_ble_eq_true rfl⟩) ⟨c_blind, fun U hU hW => ⟨rfl, by rw [hU], by rw [hU]; exact hPc, va_K.moved hW.alike hKc, hDc.weaken (fun _ _ _ _ => trivial), Nst.warm hW hN⟩⟩ rfl rfl hl.1 rfl (lv_room (Nat.le_of_ble_eq_true rfl)) dL_law_4 ⟨Nat.le_of_ble_eq_true rfl, Nat.le_of_ble_eq_true rfl⟩) hS (fun q _ h => hFc q h) hFc (fun u t H1 locs ht hvm hw hB hz1 hk1 hS => ?_)
  obtain ⟨hP1, hK1, hD1⟩ := hB
  rw [ht] at hP1
  have hK1 := va_K.moved hvm.symm hK1
  obtain ⟨hPn, hDn⟩ := va_join (wr := []) (w1 := gw u.2 u.1 gs0) hP hD [0] [] rfl rfl (by decide) (by decide) hk1 hFc hP1 hD1
  generalize H1 = H at hPn hS ⊢
  obtain ⟨ad, cy⟩ := u
  have hw : ad 0 = g0 := hw
  subst hw
  have hP : va_P D vwCl (gw cy ad gs0) H := hPn
  have hD : va_D (fun q : Nat => s.heap.size ≤ q) (gw cy ad gs0) := hDn
  have hKg : va_K D vwCl (gT cy) s := hK1
  refine W.widen (k := 14) (n := 7319) (Nat.le_of_ble_eq_true rfl) (Nat.le_of_ble_eq_true rfl) ?_
  refine lv_astore_n (lv' := [(1, .ref (ad 0)), (0, .ref b)]) hx hb dL_law_7 rfl hl (by decide) rfl (fun ls hl => ?_)
  refine va_new (ci := 4) (fs := [.int 0, .null, .null, .int 0, .int 0, .int 0, .null, .null, .null]) (C := RX4) (T := TX4) (N := 9) hx hb hts2 iwX4 tyX4 tyX4_ok hown (hts2 _ mw_k_L_10) (hts2 _ mw_n_X4) (hts2 _ mw_in_X4) hK hP hD hS hA rfl (fun j hj => by rcases (show j = 0 ∨ j = 1 ∨ j = 2 ∨ j = 3 ∨ j = 4 ∨ j = 5 ∨ j = 6 ∨ j = 7 ∨ j = 8 by omega) with rfl | rfl | rfl | rfl | rfl | rfl | rfl | rfl | rfl <;> rfl) (Nat.le_of_ble_eq_true rfl) (Nat.le_of_ble_eq_true rfl) dL_law_8 (fun m0 H hP hD hS => ?_)
  have hP : va_P D vwCl (gw cy ad gs0 ++ [(m0, .inr (4, [.int 0, .null, .null, .int 0, .int 0, .int 0, .null, .null, .null]))]) H := hP
  have hD : va_D (fun q : Nat => s.heap.size ≤ q) (gw cy ad gs0 ++ [(m0, .inr (4, [.int 0, .null, .null, .int 0, .int 0, .int 0, .null, .null, .null]))]) := hD
  refine W.widen (k := 15) (n := 7328) (Nat.le_of_ble_eq_true rfl) (Nat.le_of_ble_eq_true rfl) ?_
  refine lv_dup hx hb dL_law_11 rfl ?_
  have hPc := hP.sub (ws' := [(m0, .inr (4, [.int 0, .null, .null, .int 0, .int 0, .int 0, .null, .null, .null]))]) [14] rfl
  have hDc := hD.sub (ws' := [(m0, .inr (4, [.int 0, .null, .null, .int 0, .int 0, .int 0, .null, .null, .null]))]) [14] (by decide) rfl
  have hKc := hK.sub (tys' := []) [] rfl
  have hFc := va_free (wc := [(m0, .inr (4, [.int 0, .null, .null, .int 0, .int 0, .int 0, .null, .null, .null]))]) hD hS hA [14] rfl
  refine va_callv (va_runI (As := []) (rest := [.ref m0]) hF (k_X4_init l D m0 H.size) (cwI 0 hts2 (good_M mw_c_X4_init) rfl rfl rfl (hts2 _ mw_in_X4) (hts2 _ mw_m_L_12) (hts2 _ mw_i_X4_init) rfl ⟨by decide, by decide, by decide +kernel⟩ ⟨Nat.le_of_ble_eq_true rfl, Nat.le_of_ble_eq_true rfl⟩) ⟨c_blind, fun U hU hW => ⟨rfl, by rw [hU], by rw [hU]; exact hPc, va_K.moved hW.alike hKc, hDc.weaken (fun _ _ _ _ => trivial), Nst.warm hW hN⟩⟩ rfl rfl hl.1 rfl (lv_room (Nat.le_of_ble_eq_true rfl)) dL_law_12 ⟨Nat.le_of_ble_eq_true rfl, Nat.le_of_ble_eq_true rfl⟩) hS (fun q _ h => hFc q h) hFc (fun u t H1 locs ht hvm hw hB hz1 hk1 hS => ?_)
  obtain ⟨hP1, hK1, hD1⟩ := hB
  rw [ht] at hP1
  have hK1 := va_K.moved hvm.symm hK1
  obtain ⟨hPn, hDn⟩ := va_join (wr := gw cy ad gs0) (w1 := mw u.2 u.1 ms0) hP hD [14] [0, 1, 2, 3, 4, 5, 6, 7, 8, 9, 10, 11, 12, 13] rfl rfl (by decide) (by decide) hk1 hFc hP1 hD1
  generalize H1 = H at hPn hS ⊢
  obtain ⟨am, cm⟩ := u
  have hw : am 0 = m0 := hw
  subst hw
  have hP : va_P D vwCl (gw cy ad gs0 ++ mw cm am ms0) H := hPn
  have hD : va_D (fun q : Nat => s.heap.size ≤ q) (gw cy ad gs0 ++ mw cm am ms0) := hDn
  have hKm : va_K D vwCl (mT cm) s := hK1
  refine W.widen (k := 20) (n := 10504) (Nat.le_of_ble_eq_true rfl) (Nat.le_of_ble_eq_true rfl) ?_
  refine lv_astore_n (lv' := [(2, .ref (am 0)), (1, .ref (ad 0)), (0, .ref b)]) hx hb dL_law_15 rfl hl (by decide) rfl (fun ls hl => ?_)
  refine lv_iconst (v := 0) hx hb dL_law_16 (by decide) ?_
  refine lv_istore_n (lv' := [(3, .int 0), (2, .ref (am 0)), (1, .ref (ad 0)), (0, .ref b)]) hx hb dL_law_17 rfl hl (by decide) rfl (fun ls hl => ?_)
  have hPg := hP.sub (ws' := gw cy ad gs0) [0, 1, 2, 3, 4, 5, 6, 7, 8, 9, 10, 11, 12, 13] rfl
  have hPm := hP.sub (ws' := mw cm am ms0) [14, 15, 16, 17, 18, 19] rfl
  have hDg := hD.sub (ws' := gw cy ad gs0) [0, 1, 2, 3, 4, 5, 6, 7, 8, 9, 10, 11, 12, 13] (by decide) rfl
  have hDm := hD.sub (ws' := mw cm am ms0) [14, 15, 16, 17, 18, 19] (by decide) rfl
  have hap := two_apart (ad := ad) (am := am) (n1 := 14) (n2 := 6) rfl rfl hD
  have hDG : ∀ σ, va_D (aG ad) (gw cy ad σ) := fun σ => va_D.same (w := gw cy ad gs0) rfl (hDg.weaken (fun k q hk _ => ⟨k, at_adr (ad := ad) (n := 14) rfl hk⟩))
  have hDM : ∀ μ, va_D (aM am) (mw cm am μ) := fun μ => va_D.same (w := mw cm am ms0) rfl (hDm.weaken (fun k q hk _ => ⟨k, at_adr (ad := am) (n := 6) rfl hk⟩))
  have hAG : ∀ q, aG ad q → s.heap.size ≤ q := by
    rintro q ⟨k, hk, rfl⟩
    have hlen : k < (gw cy ad gs0).length := hk
    have h1 := List.getElem?_eq_getElem hlen
    have h2 := (at_adr (w := gw cy ad gs0) (ad := ad) (n := 14) rfl h1).2
    rw [← h2]
    exact hDg.2 k _ h1
  have hAM : ∀ q, aM am q → s.heap.size ≤ q := by
    rintro q ⟨k, hk, rfl⟩
    have hlen : k < (mw cm am ms0).length := hk
    have h1 := List.getElem?_eq_getElem hlen
    have h2 := (at_adr (w := mw cm am ms0) (ad := am) (n := 6) rfl h1).2
    rw [← h2]
    exact hDm.2 k _ h1
  exact law_loop hE hL C0 hKg hKm hDG hDM hAG hAM (by rintro q ⟨k, hk, rfl⟩ ⟨j, hj, h⟩; exact hap k hk j hj h) (by rintro q ⟨j, hj, rfl⟩ ⟨k, hk, h⟩; exact hap k hk j hj h.symm) (L + 1) 0 0 (Nat.zero_le L) (by omega) nI_0.symm gs0 ms0 hR0 _ _ hPg hPm hS ls (lv_sub hl [3, 2, 1, 0] rfl)
