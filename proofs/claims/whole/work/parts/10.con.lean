set_option maxHeartbeats 4000000 in
set_option maxRecDepth 100000 in
theorem c_X0_forget (l : Launch) {D : va_G} {cy : Nat → ClassId} {ad : Nat → Nat} {A : Nat → Prop} (hD : ∀ σ, va_D A (gw cy ad σ)) (σ : GS) (σ0 : GS) (h : f_X0_forget σ = some σ0) : gMv l yX0_forget (wsM yX0_forget cX0_forget 2 none) ({ frames := 0, cells := 0, slots := 0, locals := 0 } : Room) D (gT cy) (gw cy ad) A [.ref (ad 5)] σ σ0 := by
  refine gMv.of (own := RX0) rfl (by decide) (Nat.le_of_ble_eq_true rfl) hD ?_
  intro p e s m below meth c ls C hx hb hr hlk hH hl
  have hl : lv_has ls 2 [(0, .ref (ad 5))] := hl
  unfold f_X0_forget at h
  refine lv_iconst (v := 0) hx hb dX0_forget_0 (by decide) ?_
  refine lv_istore_n (lv' := [(1, .int (0)), (0, .ref (ad 5))]) hx hb dX0_forget_1 rfl hl (by decide) rfl (fun ls hl => ?_)
  have L2 : ∀ (n : Nat) (y2_1 : Int32) (σ2 : GS) (H : Heap) (locs : List Loc) (ls : Array Slot), gH s D (gw cy ad) A σ2 H locs → lv_has ls 2 [(0, .ref (ad 5)), (1, .int y2_1)] → ∀ X, itr f_X0_forget_b2 n (y2_1, σ2) = some X → (∀ (σz2_0 : GS) (H : Heap) (locs : List Loc) (ls : Array Slot), gH s D (gw cy ad) A σz2_0 H locs → lv_has ls 2 [] → X = σz2_0 → W p l e ({ frames := 0, cells := 0, slots := 0, locals := 0 } : Room) s m [.ref (ad 5)].toArray below meth c H locs 0 0 (MQ below (gQv D (gw cy ad) A σ0) [.ref (ad 5)].toArray s 0 0 A) (F0 m 20 ls [])) → W p l e ({ frames := 0, cells := 0, slots := 0, locals := 0 } : Room) s m [.ref (ad 5)].toArray below meth c H locs 0 0 (MQ below (gQv D (gw cy ad) A σ0) [.ref (ad 5)].toArray s 0 0 A) (F0 m 2 ls []) := by
    intro n
    induction n with
    | zero =>
      intro y2_1 σ2 H locs ls hH hl X h K
      exact itr_0 h
    | succ n ih =>
      intro y2_1 σ2 H locs ls hH hl X h0 K
      obtain ⟨o, h, h2⟩ := itr_step h0
      unfold f_X0_forget_b2 at h
      refine lv_iload_n hx hb dX0_forget_2 rfl (lv_at hl 1 rfl) ?_
      refine lv_iconst (v := 3) hx hb dX0_forget_3 (by decide) ?_
      refine gb_icmp_ge (tgt := 20) hx hb dX0_forget_4 (by decide) h (fun h => ?_) (fun h => ?_)
      · exact K _ _ _ _ hH (lv_sub hl [] rfl) (nxt_r h h2)
      · refine lv_aload_n hx hb dX0_forget_7 rfl (lv_at hl 0 rfl) ?_
        refine gf_X0_19 C hH dX0_forget_8 ?_
        refine lv_iload_n hx hb dX0_forget_11 rfl (lv_at hl 1 rfl) ?_
        refine lv_iconst (v := 0) hx hb dX0_forget_12 (by decide) ?_
        refine gas_us C hH rfl h dX0_forget_13 (fun h H locs hH => ?_)
        refine lv_iinc (v := (y2_1 + (1 : Int32))) (lv' := [(1, .int (y2_1 + (1 : Int32))), (0, .ref (ad 5))]) hx hb dX0_forget_14 hl (k := 1) rfl rfl (by decide) rfl (fun ls hl => ?_)
        refine lv_goto (tgt := 2) hx hb dX0_forget_17 (by decide) ?_
        exact ih _ _ _ _ _ hH (lv_sub hl [1, 0] rfl) X (nxt_l h h2) K
  obtain ⟨X2, hX2, h⟩ := bnd h
  refine L2 FU ((0 : Int32)) σ _ _ _ hH (lv_sub hl [1, 0] rfl) X2 hX2 ?_
  intro σz2_0 H locs ls hH hl hE
  replace hE := hE.symm
  subst hE
  exact g_vret hx hb hr hlk hH (Option.some.inj h) dX0_forget_20
theorem ok_X0_forget : okName yX0_forget 0 := ⟨by decide, by decide, by decide +kernel⟩
section KL
variable {p : Program} {l : Launch} {e : Env} {R : Room} {s : State} {m : MethodId} {args : Array Value} {below : List Frame} {meth : Method} {c : Code} {H : Heap} {locs : List Loc} {cells slots : Nat} {Q : State → Prop} {cc : ByteArray} {pc nL : Nat} {ls : Array Slot} {rest : List Value}
variable {A : Nat → Prop} {D : va_G} {cy : Nat → ClassId} {ad : Nat → Nat}
theorem kl_X3_172 (C : gC p m c cc nL s args RX3 D (gT cy) (gw cy ad) A) {σ : GS} (hH : gH s D (gw cy ad) A σ H locs) {α : Type} {k : GS → Option α} {y : α} (h : (f_X0_forget σ).bind k = some y) (hR : 1 ≤ R.frames ∧ 21 ≤ R.locals) (hcs : cells ≤ R.cells ∧ slots ≤ R.slots) (hl : ls.size = nL) (hW : (rest.map fun v => v.category).sum ≤ 8) (hdg : decode cc pc = .ok (.invokevirtual 172, 3)) (kk : ∀ (σ1 : GS) (H1 : Heap) (locs1 : List Loc), gH s D (gw cy ad) A σ1 H1 locs1 → k σ1 = some y → W p l e R s m args below meth c H1 locs1 cells slots Q (F0 m (pc + 3) ls (rest))) : W p l e R s m args below meth c H locs cells slots Q (F0 m pc ls (.ref (ad 5) :: rest)) := by
  obtain ⟨σ1, h1, h2⟩ := bnd h
  exact g_fv (g_rVN (As := []) C hH (c_X0_forget l C.2.2.2 σ σ1 h1) (q0 := 5) mw_c_X0_forget mw_m_X3_172 mw_i_X0_forget mw_v_X0_forget mw_in_X0 ok_X0_forget ⟨rfl, rfl⟩ rfl rfl rfl hR hcs hl rfl hW hdg) hH.2 (fun H1 locs1 hH1 => kk σ1 H1 locs1 hH1 h2)
end KL
set_option maxHeartbeats 4000000 in
set_option maxRecDepth 100000 in
theorem c_X1_states (l : Launch) {D : va_G} {cy : Nat → ClassId} {ad : Nat → Nat} {A : Nat → Prop} (hD : ∀ σ, va_D A (gw cy ad σ)) (σ : GS) (r0 : Int32) (h : f_X1_states σ = some r0) : gMi l yX1_states (wsM yX1_states cX1_states 1 (some .int)) ({ frames := 0, cells := 0, slots := 0, locals := 0 } : Room) D (gT cy) (gw cy ad) A [.ref (ad 1)] σ σ r0 := by
  refine gMi.of (own := RX1) rfl (by decide) (Nat.le_of_ble_eq_true rfl) hD ?_
  intro p e s m below meth c ls C hx hb hr hlk hH hl
  have hl : lv_has ls 1 [(0, .ref (ad 1))] := hl
  unfold f_X1_states at h
  refine lv_iconst (v := 1) hx hb dX1_states_0 (by decide) ?_
  refine lv_aload_n hx hb dX1_states_1 rfl (lv_at hl 0 rfl) ?_
  refine gf_X1_21 C hH dX1_states_2 ?_
  refine lv_ishl hx hb dX1_states_5 ?_
  exact g_iret hx hb hr hlk hH ⟨Option.some.inj h, rfl⟩ dX1_states_6
theorem ok_X1_states : okName yX1_states 0 := ⟨by decide, by decide, by decide +kernel⟩
section KL
variable {p : Program} {l : Launch} {e : Env} {R : Room} {s : State} {m : MethodId} {args : Array Value} {below : List Frame} {meth : Method} {c : Code} {H : Heap} {locs : List Loc} {cells slots : Nat} {Q : State → Prop} {cc : ByteArray} {pc nL : Nat} {ls : Array Slot} {rest : List Value}
variable {A : Nat → Prop} {D : va_G} {cy : Nat → ClassId} {ad : Nat → Nat}
theorem kl_X0_50 (C : gC p m c cc nL s args RX0 D (gT cy) (gw cy ad) A) {σ : GS} (hH : gH s D (gw cy ad) A σ H locs) {α : Type} {k : Int32 → Option α} {y : α} (h : (f_X1_states σ).bind k = some y) (hR : 1 ≤ R.frames ∧ 20 ≤ R.locals) (hcs : cells ≤ R.cells ∧ slots ≤ R.slots) (hl : ls.size = nL) (hW : (rest.map fun v => v.category).sum ≤ 8) (hdg : decode cc pc = .ok (.invokevirtual 50, 3)) (kk : ∀ (r : Int32) (H1 : Heap) (locs1 : List Loc), gH s D (gw cy ad) A σ H1 locs1 → k r = some y → W p l e R s m args below meth c H1 locs1 cells slots Q (F0 m (pc + 3) ls (.int r :: rest))) : W p l e R s m args below meth c H locs cells slots Q (F0 m pc ls (.ref (ad 1) :: rest)) := by
  obtain ⟨r, h1, h2⟩ := bnd h
  exact g_fi (g_rVN (As := []) C hH (c_X1_states l C.2.2.2 σ r h1) (q0 := 1) mw_c_X1_states mw_m_X0_50 mw_i_X1_states mw_v_X1_states mw_in_X1 ok_X1_states ⟨rfl, rfl⟩ rfl rfl rfl hR hcs hl rfl hW hdg) hH.2 (fun H1 locs1 hH1 => kk r H1 locs1 hH1 h2)
theorem kl_X1_32 (C : gC p m c cc nL s args RX1 D (gT cy) (gw cy ad) A) {σ : GS} (hH : gH s D (gw cy ad) A σ H locs) {α : Type} {k : Int32 → Option α} {y : α} (h : (f_X1_states σ).bind k = some y) (hR : 1 ≤ R.frames ∧ 20 ≤ R.locals) (hcs : cells ≤ R.cells ∧ slots ≤ R.slots) (hl : ls.size = nL) (hW : (rest.map fun v => v.category).sum ≤ 8) (hdg : decode cc pc = .ok (.invokevirtual 32, 3)) (kk : ∀ (r : Int32) (H1 : Heap) (locs1 : List Loc), gH s D (gw cy ad) A σ H1 locs1 → k r = some y → W p l e R s m args below meth c H1 locs1 cells slots Q (F0 m (pc + 3) ls (.int r :: rest))) : W p l e R s m args below meth c H locs cells slots Q (F0 m pc ls (.ref (ad 1) :: rest)) := by
  obtain ⟨r, h1, h2⟩ := bnd h
  exact g_fi (g_rV (As := []) C hH (c_X1_states l C.2.2.2 σ r h1) (q0 := 1) mw_c_X1_states mw_m_X1_32 mw_i_X1_states mw_v_X1_states mw_in_X1 ok_X1_states ⟨rfl, rfl⟩ rfl rfl rfl hR hcs hl rfl hW hdg) hH.2 (fun H1 locs1 hH1 => kk r H1 locs1 hH1 h2)
theorem kl_X2_43 (C : gC p m c cc nL s args RX2 D (gT cy) (gw cy ad) A) {σ : GS} (hH : gH s D (gw cy ad) A σ H locs) {α : Type} {k : Int32 → Option α} {y : α} (h : (f_X1_states σ).bind k = some y) (hR : 1 ≤ R.frames ∧ 20 ≤ R.locals) (hcs : cells ≤ R.cells ∧ slots ≤ R.slots) (hl : ls.size = nL) (hW : (rest.map fun v => v.category).sum ≤ 8) (hdg : decode cc pc = .ok (.invokevirtual 43, 3)) (kk : ∀ (r : Int32) (H1 : Heap) (locs1 : List Loc), gH s D (gw cy ad) A σ H1 locs1 → k r = some y → W p l e R s m args below meth c H1 locs1 cells slots Q (F0 m (pc + 3) ls (.int r :: rest))) : W p l e R s m args below meth c H locs cells slots Q (F0 m pc ls (.ref (ad 1) :: rest)) := by
  obtain ⟨r, h1, h2⟩ := bnd h
  exact g_fi (g_rVN (As := []) C hH (c_X1_states l C.2.2.2 σ r h1) (q0 := 1) mw_c_X1_states mw_m_X2_43 mw_i_X1_states mw_v_X1_states mw_in_X1 ok_X1_states ⟨rfl, rfl⟩ rfl rfl rfl hR hcs hl rfl hW hdg) hH.2 (fun H1 locs1 hH1 => kk r H1 locs1 hH1 h2)
theorem kl_X3_133 (C : gC p m c cc nL s args RX3 D (gT cy) (gw cy ad) A) {σ : GS} (hH : gH s D (gw cy ad) A σ H locs) {α : Type} {k : Int32 → Option α} {y : α} (h : (f_X1_states σ).bind k = some y) (hR : 1 ≤ R.frames ∧ 20 ≤ R.locals) (hcs : cells ≤ R.cells ∧ slots ≤ R.slots) (hl : ls.size = nL) (hW : (rest.map fun v => v.category).sum ≤ 8) (hdg : decode cc pc = .ok (.invokevirtual 133, 3)) (kk : ∀ (r : Int32) (H1 : Heap) (locs1 : List Loc), gH s D (gw cy ad) A σ H1 locs1 → k r = some y → W p l e R s m args below meth c H1 locs1 cells slots Q (F0 m (pc + 3) ls (.int r :: rest))) : W p l e R s m args below meth c H locs cells slots Q (F0 m pc ls (.ref (ad 1) :: rest)) := by
  obtain ⟨r, h1, h2⟩ := bnd h
  exact g_fi (g_rVN (As := []) C hH (c_X1_states l C.2.2.2 σ r h1) (q0 := 1) mw_c_X1_states mw_m_X3_133 mw_i_X1_states mw_v_X1_states mw_in_X1 ok_X1_states ⟨rfl, rfl⟩ rfl rfl rfl hR hcs hl rfl hW hdg) hH.2 (fun H1 locs1 hH1 => kk r H1 locs1 hH1 h2)
end KL
set_option maxHeartbeats 4000000 in
set_option maxRecDepth 100000 in
theorem c_X0_takeIntoUse (l : Launch) {D : va_G} {cy : Nat → ClassId} {ad : Nat → Nat} {A : Nat → Prop} (hD : ∀ σ, va_D A (gw cy ad σ)) (σ : GS) (x1 : Int32) (σ0 : GS) (h : f_X0_takeIntoUse σ x1 = some σ0) : gMv l yX0_takeIntoUse (wsM yX0_takeIntoUse cX0_takeIntoUse 3 none) ({ frames := 1, cells := 0, slots := 0, locals := 20 } : Room) D (gT cy) (gw cy ad) A [.ref (ad 5), .int x1] σ σ0 := by
  refine gMv.of (own := RX0) rfl (by decide) (Nat.le_of_ble_eq_true rfl) hD ?_
  intro p e s m below meth c ls C hx hb hr hlk hH hl
  have hl : lv_has ls 3 [(0, .ref (ad 5)), (1, .int x1)] := hl
  unfold f_X0_takeIntoUse at h
  refine lv_iconst (v := 0) hx hb dX0_takeIntoUse_0 (by decide) ?_
  refine lv_istore_n (lv' := [(2, .int (0)), (0, .ref (ad 5)), (1, .int x1)]) hx hb dX0_takeIntoUse_1 rfl hl (by decide) rfl (fun ls hl => ?_)
  have L2 : ∀ (n : Nat) (y2_2 : Int32) (σ2 : GS) (H : Heap) (locs : List Loc) (ls : Array Slot), gH s D (gw cy ad) A σ2 H locs → lv_has ls 3 [(0, .ref (ad 5)), (1, .int x1), (2, .int y2_2)] → ∀ X, itr (f_X0_takeIntoUse_b2 x1) n (y2_2, σ2) = some X → (∀ (σz2_0 : GS) (H : Heap) (locs : List Loc) (ls : Array Slot), gH s D (gw cy ad) A σz2_0 H locs → lv_has ls 3 [(0, .ref (ad 5)), (1, .int x1)] → X = σz2_0 → W p l e ({ frames := 1, cells := 0, slots := 0, locals := 20 } : Room) s m [.ref (ad 5), .int x1].toArray below meth c H locs 0 0 (MQ below (gQv D (gw cy ad) A σ0) [.ref (ad 5), .int x1].toArray s 0 0 A) (F0 m 32 ls [])) → W p l e ({ frames := 1, cells := 0, slots := 0, locals := 20 } : Room) s m [.ref (ad 5), .int x1].toArray below meth c H locs 0 0 (MQ below (gQv D (gw cy ad) A σ0) [.ref (ad 5), .int x1].toArray s 0 0 A) (F0 m 2 ls []) := by
    intro n
    induction n with
    | zero =>
      intro y2_2 σ2 H locs ls hH hl X h K
      exact itr_0 h
    | succ n ih =>
      intro y2_2 σ2 H locs ls hH hl X h0 K
      obtain ⟨o, h, h2⟩ := itr_step h0
      unfold f_X0_takeIntoUse_b2 at h
      refine lv_iload_n hx hb dX0_takeIntoUse_2 rfl (lv_at hl 2 rfl) ?_
      refine lv_aload_n hx hb dX0_takeIntoUse_3 rfl (lv_at hl 0 rfl) ?_
      refine gf_X0_9 C hH dX0_takeIntoUse_4 ?_
      refine kl_X0_50 C hH h ⟨by decide, by decide⟩ ⟨by decide, by decide⟩ hl.1 (Nat.le_of_ble_eq_true rfl) dX0_takeIntoUse_7 (fun r1 H locs hH h => ?_)
      refine gb_icmp_ge (tgt := 32) hx hb dX0_takeIntoUse_10 (by decide) h (fun h => ?_) (fun h => ?_)
      · exact K _ _ _ _ hH (lv_sub hl [0, 1] rfl) (nxt_r h h2)
      · refine lv_aload_n hx hb dX0_takeIntoUse_13 rfl (lv_at hl 0 rfl) ?_
        refine gf_X0_15 C hH dX0_takeIntoUse_14 ?_
        refine lv_iload_n hx hb dX0_takeIntoUse_17 rfl (lv_at hl 1 rfl) ?_
        refine lv_sipush (v := 1024) hx hb dX0_takeIntoUse_18 (by decide) ?_
        refine lv_imul hx hb dX0_takeIntoUse_21 ?_
        refine lv_iload_n hx hb dX0_takeIntoUse_22 rfl (lv_at hl 2 rfl) ?_
        refine lv_iadd hx hb dX0_takeIntoUse_23 ?_
        refine lv_iconst (v := -1) hx hb dX0_takeIntoUse_24 (by decide) ?_
        refine gas_wi C hH h dX0_takeIntoUse_25 (fun h H locs hH => ?_)
        refine lv_iinc (v := (y2_2 + (1 : Int32))) (lv' := [(2, .int (y2_2 + (1 : Int32))), (0, .ref (ad 5)), (1, .int x1)]) hx hb dX0_takeIntoUse_26 hl (k := 2) rfl rfl (by decide) rfl (fun ls hl => ?_)
        refine lv_goto (tgt := 2) hx hb dX0_takeIntoUse_29 (by decide) ?_
        exact ih _ _ _ _ _ hH (lv_sub hl [1, 2, 0] rfl) X (nxt_l h h2) K
  obtain ⟨X2, hX2, h⟩ := bnd h
  refine L2 FU ((0 : Int32)) σ _ _ _ hH (lv_sub hl [1, 2, 0] rfl) X2 hX2 ?_
  intro σz2_0 H locs ls hH hl hE
  replace hE := hE.symm
  subst hE
  refine lv_aload_n hx hb dX0_takeIntoUse_32 rfl (lv_at hl 0 rfl) ?_
  refine gf_X0_19 C hH dX0_takeIntoUse_33 ?_
  refine lv_iload_n hx hb dX0_takeIntoUse_36 rfl (lv_at hl 1 rfl) ?_
  refine lv_iconst (v := 1) hx hb dX0_takeIntoUse_37 (by decide) ?_
  refine gas_us C hH rfl h dX0_takeIntoUse_38 (fun h H locs hH => ?_)
  exact g_vret hx hb hr hlk hH (Option.some.inj h) dX0_takeIntoUse_39
theorem ok_X0_takeIntoUse : okName yX0_takeIntoUse 1 := ⟨by decide, by decide, by decide +kernel⟩
section KL
variable {p : Program} {l : Launch} {e : Env} {R : Room} {s : State} {m : MethodId} {args : Array Value} {below : List Frame} {meth : Method} {c : Code} {H : Heap} {locs : List Loc} {cells slots : Nat} {Q : State → Prop} {cc : ByteArray} {pc nL : Nat} {ls : Array Slot} {rest : List Value}
variable {A : Nat → Prop} {D : va_G} {cy : Nat → ClassId} {ad : Nat → Nat}
theorem kl_X0_36 (C : gC p m c cc nL s args RX0 D (gT cy) (gw cy ad) A) {σ : GS} (hH : gH s D (gw cy ad) A σ H locs) {x1 : Int32} {α : Type} {k : GS → Option α} {y : α} (h : (f_X0_takeIntoUse σ x1).bind k = some y) (hR : 2 ≤ R.frames ∧ 42 ≤ R.locals) (hcs : cells ≤ R.cells ∧ slots ≤ R.slots) (hl : ls.size = nL) (hW : (rest.map fun v => v.category).sum ≤ 8) (hdg : decode cc pc = .ok (.invokevirtual 36, 3)) (kk : ∀ (σ1 : GS) (H1 : Heap) (locs1 : List Loc), gH s D (gw cy ad) A σ1 H1 locs1 → k σ1 = some y → W p l e R s m args below meth c H1 locs1 cells slots Q (F0 m (pc + 3) ls (rest))) : W p l e R s m args below meth c H locs cells slots Q (F0 m pc ls (.int x1 :: .ref (ad 5) :: rest)) := by
  obtain ⟨σ1, h1, h2⟩ := bnd h
  exact g_fv (g_rV (As := [.int x1]) C hH (c_X0_takeIntoUse l C.2.2.2 σ x1 σ1 h1) (q0 := 5) mw_c_X0_takeIntoUse mw_m_X0_36 mw_i_X0_takeIntoUse mw_v_X0_takeIntoUse mw_in_X0 ok_X0_takeIntoUse ⟨rfl, rfl⟩ rfl rfl rfl hR hcs hl rfl hW hdg) hH.2 (fun H1 locs1 hH1 => kk σ1 H1 locs1 hH1 h2)
end KL
set_option maxHeartbeats 4000000 in
set_option maxRecDepth 100000 in
theorem c_X1_weightsInto (l : Launch) {D : va_G} {cy : Nat → ClassId} {ad : Nat → Nat} {A : Nat → Prop} (hD : ∀ σ, va_D A (gw cy ad σ)) (σ : GS) (x1 x2 : Int32) (r0 : Int32) (h : f_X1_weightsInto σ x1 x2 = some r0) : gMi l yX1_weightsInto (wsM yX1_weightsInto cX1_weightsInto 5 (some .int)) ({ frames := 0, cells := 0, slots := 0, locals := 0 } : Room) D (gT cy) (gw cy ad) A [.ref (ad 1), .int x1, .int x2] σ σ r0 := by
  refine gMi.of (own := RX1) rfl (by decide) (Nat.le_of_ble_eq_true rfl) hD ?_
  intro p e s m below meth c ls C hx hb hr hlk hH hl
  have hl : lv_has ls 5 [(0, .ref (ad 1)), (1, .int x1), (2, .int x2)] := hl
  unfold f_X1_weightsInto at h
  refine lv_iconst (v := 0) hx hb dX1_weightsInto_0 (by decide) ?_
  refine lv_istore_n (lv' := [(3, .int (0)), (0, .ref (ad 1)), (1, .int x1), (2, .int x2)]) hx hb dX1_weightsInto_1 rfl hl (by decide) rfl (fun ls hl => ?_)
  refine lv_iconst (v := 0) hx hb dX1_weightsInto_2 (by decide) ?_
  refine lv_istore (lv' := [(4, .int (0)), (3, .int (0)), (0, .ref (ad 1)), (1, .int x1), (2, .int x2)]) hx hb dX1_weightsInto_3 hl (by decide) rfl (fun ls hl => ?_)
  have L5 : ∀ (n : Nat) (y5_3 : Int32) (y5_4 : Int32) (H : Heap) (locs : List Loc) (ls : Array Slot), gH s D (gw cy ad) A σ H locs → lv_has ls 5 [(0, .ref (ad 1)), (1, .int x1), (2, .int x2), (3, .int y5_3), (4, .int y5_4)] → ∀ X, itr (f_X1_weightsInto_b5 σ x1 x2) n (y5_3, y5_4) = some X → (∀ (z5_0_3 : Int32) (H : Heap) (locs : List Loc) (ls : Array Slot), gH s D (gw cy ad) A σ H locs → lv_has ls 5 [(3, .int z5_0_3)] → X = z5_0_3 → W p l e ({ frames := 0, cells := 0, slots := 0, locals := 0 } : Room) s m [.ref (ad 1), .int x1, .int x2].toArray below meth c H locs 0 0 (MQ below (gQi D (gw cy ad) A σ r0) [.ref (ad 1), .int x1, .int x2].toArray s 0 0 A) (F0 m 42 ls [])) → W p l e ({ frames := 0, cells := 0, slots := 0, locals := 0 } : Room) s m [.ref (ad 1), .int x1, .int x2].toArray below meth c H locs 0 0 (MQ below (gQi D (gw cy ad) A σ r0) [.ref (ad 1), .int x1, .int x2].toArray s 0 0 A) (F0 m 5 ls []) := by
    intro n
    induction n with
    | zero =>
      intro y5_3 y5_4 H locs ls hH hl X h K
      exact itr_0 h
    | succ n ih =>
      intro y5_3 y5_4 H locs ls hH hl X h0 K
      obtain ⟨o, h, h2⟩ := itr_step h0
      unfold f_X1_weightsInto_b5 at h
      refine lv_iload hx hb dX1_weightsInto_5 (lv_at hl 4 rfl) ?_
      refine lv_aload_n hx hb dX1_weightsInto_7 rfl (lv_at hl 0 rfl) ?_
      refine gf_X1_21 C hH dX1_weightsInto_8 ?_
      refine gb_icmp_ge (tgt := 42) hx hb dX1_weightsInto_11 (by decide) h (fun h => ?_) (fun h => ?_)
      · exact K _ _ _ _ hH (lv_sub hl [3] rfl) (nxt_r h h2)
      · refine lv_iload_n hx hb dX1_weightsInto_14 rfl (lv_at hl 3 rfl) ?_
        refine lv_aload_n hx hb dX1_weightsInto_15 rfl (lv_at hl 0 rfl) ?_
        refine gf_X1_9 C hH dX1_weightsInto_16 ?_
        refine lv_iload_n hx hb dX1_weightsInto_19 rfl (lv_at hl 1 rfl) ?_
        refine lv_bipush (v := 10) hx hb dX1_weightsInto_20 (by decide) ?_
        refine lv_imul hx hb dX1_weightsInto_22 ?_
        refine lv_iload hx hb dX1_weightsInto_23 (lv_at hl 4 rfl) ?_
        refine lv_iadd hx hb dX1_weightsInto_25 ?_
        refine gal_we C hH h dX1_weightsInto_26 (fun h => ?_)
        refine lv_iload_n hx hb dX1_weightsInto_27 rfl (lv_at hl 2 rfl) ?_
        refine lv_iload hx hb dX1_weightsInto_28 (lv_at hl 4 rfl) ?_
        refine lv_ishr hx hb dX1_weightsInto_30 ?_
        refine lv_iconst (v := 1) hx hb dX1_weightsInto_31 (by decide) ?_
        refine lv_iand hx hb dX1_weightsInto_32 ?_
        refine lv_imul hx hb dX1_weightsInto_33 ?_
        refine lv_iadd hx hb dX1_weightsInto_34 ?_
        refine lv_istore_n (lv' := [(3, .int (y5_3 + ((gwe σ (((x1 * (10 : Int32)) + y5_4) : Int32).toNatClampNeg) * ((x2 >>> (y5_4 &&& 31)) &&& (1 : Int32))))), (0, .ref (ad 1)), (1, .int x1), (2, .int x2), (4, .int y5_4)]) hx hb dX1_weightsInto_35 rfl hl (by decide) rfl (fun ls hl => ?_)
        refine lv_iinc (v := (y5_4 + (1 : Int32))) (lv' := [(4, .int (y5_4 + (1 : Int32))), (3, .int (y5_3 + ((gwe σ (((x1 * (10 : Int32)) + y5_4) : Int32).toNatClampNeg) * ((x2 >>> (y5_4 &&& 31)) &&& (1 : Int32))))), (0, .ref (ad 1)), (1, .int x1), (2, .int x2)]) hx hb dX1_weightsInto_36 hl (k := 4) rfl rfl (by decide) rfl (fun ls hl => ?_)
        refine lv_goto (tgt := 5) hx hb dX1_weightsInto_39 (by decide) ?_
        exact ih _ _ _ _ _ hH (lv_sub hl [2, 3, 4, 1, 0] rfl) X (nxt_l h h2) K
  obtain ⟨X5, hX5, h⟩ := bnd h
  refine L5 FU ((0 : Int32)) ((0 : Int32)) _ _ _ hH (lv_sub hl [2, 3, 4, 1, 0] rfl) X5 hX5 ?_
  intro z5_0_3 H locs ls hH hl hE
  replace hE := hE.symm
  subst hE
  refine lv_iload_n hx hb dX1_weightsInto_42 rfl (lv_at hl 0 rfl) ?_
  exact g_iret hx hb hr hlk hH ⟨Option.some.inj h, rfl⟩ dX1_weightsInto_43
theorem ok_X1_weightsInto : okName yX1_weightsInto 2 := ⟨by decide, by decide, by decide +kernel⟩
section KL
variable {p : Program} {l : Launch} {e : Env} {R : Room} {s : State} {m : MethodId} {args : Array Value} {below : List Frame} {meth : Method} {c : Code} {H : Heap} {locs : List Loc} {cells slots : Nat} {Q : State → Prop} {cc : ByteArray} {pc nL : Nat} {ls : Array Slot} {rest : List Value}
variable {A : Nat → Prop} {D : va_G} {cy : Nat → ClassId} {ad : Nat → Nat}
theorem kl_X1_40 (C : gC p m c cc nL s args RX1 D (gT cy) (gw cy ad) A) {σ : GS} (hH : gH s D (gw cy ad) A σ H locs) {x1 x2 : Int32} {α : Type} {k : Int32 → Option α} {y : α} (h : (f_X1_weightsInto σ x1 x2).bind k = some y) (hR : 1 ≤ R.frames ∧ 24 ≤ R.locals) (hcs : cells ≤ R.cells ∧ slots ≤ R.slots) (hl : ls.size = nL) (hW : (rest.map fun v => v.category).sum ≤ 8) (hdg : decode cc pc = .ok (.invokevirtual 40, 3)) (kk : ∀ (r : Int32) (H1 : Heap) (locs1 : List Loc), gH s D (gw cy ad) A σ H1 locs1 → k r = some y → W p l e R s m args below meth c H1 locs1 cells slots Q (F0 m (pc + 3) ls (.int r :: rest))) : W p l e R s m args below meth c H locs cells slots Q (F0 m pc ls (.int x2 :: .int x1 :: .ref (ad 1) :: rest)) := by
  obtain ⟨r, h1, h2⟩ := bnd h
  exact g_fi (g_rV (As := [.int x1, .int x2]) C hH (c_X1_weightsInto l C.2.2.2 σ x1 x2 r h1) (q0 := 1) mw_c_X1_weightsInto mw_m_X1_40 mw_i_X1_weightsInto mw_v_X1_weightsInto mw_in_X1 ok_X1_weightsInto ⟨rfl, rfl⟩ rfl rfl rfl hR hcs hl rfl hW hdg) hH.2 (fun H1 locs1 hH1 => kk r H1 locs1 hH1 h2)
end KL
set_option maxHeartbeats 4000000 in
set_option maxRecDepth 100000 in
theorem c_X1_payOf (l : Launch) {D : va_G} {cy : Nat → ClassId} {ad : Nat → Nat} {A : Nat → Prop} (hD : ∀ σ, va_D A (gw cy ad σ)) (σ : GS) (x1 x2 : Int32) (r0 : Int32) (h : f_X1_payOf σ x1 x2 = some r0) : gMi l yX1_payOf (wsM yX1_payOf cX1_payOf 3 (some .int)) ({ frames := 0, cells := 0, slots := 0, locals := 0 } : Room) D (gT cy) (gw cy ad) A [.ref (ad 1), .int x1, .int x2] σ σ r0 := by
  refine gMi.of (own := RX1) rfl (by decide) (Nat.le_of_ble_eq_true rfl) hD ?_
  intro p e s m below meth c ls C hx hb hr hlk hH hl
  have hl : lv_has ls 3 [(0, .ref (ad 1)), (1, .int x1), (2, .int x2)] := hl
  unfold f_X1_payOf at h
  refine lv_aload_n hx hb dX1_payOf_0 rfl (lv_at hl 0 rfl) ?_
  refine gf_X1_18 C hH dX1_payOf_1 ?_
  refine lv_iconst (v := 2) hx hb dX1_payOf_4 (by decide) ?_
  refine lv_iload_n hx hb dX1_payOf_5 rfl (lv_at hl 1 rfl) ?_
  refine lv_imul hx hb dX1_payOf_6 ?_
  refine lv_iload_n hx hb dX1_payOf_7 rfl (lv_at hl 2 rfl) ?_
  refine lv_iadd hx hb dX1_payOf_8 ?_
  refine gal_pa C hH h dX1_payOf_9 (fun h => ?_)
  exact g_iret hx hb hr hlk hH ⟨Option.some.inj h, rfl⟩ dX1_payOf_10
theorem ok_X1_payOf : okName yX1_payOf 2 := ⟨by decide, by decide, by decide +kernel⟩
section KL
variable {p : Program} {l : Launch} {e : Env} {R : Room} {s : State} {m : MethodId} {args : Array Value} {below : List Frame} {meth : Method} {c : Code} {H : Heap} {locs : List Loc} {cells slots : Nat} {Q : State → Prop} {cc : ByteArray} {pc nL : Nat} {ls : Array Slot} {rest : List Value}
variable {A : Nat → Prop} {D : va_G} {cy : Nat → ClassId} {ad : Nat → Nat}
theorem kl_X1_43 (C : gC p m c cc nL s args RX1 D (gT cy) (gw cy ad) A) {σ : GS} (hH : gH s D (gw cy ad) A σ H locs) {x1 x2 : Int32} {α : Type} {k : Int32 → Option α} {y : α} (h : (f_X1_payOf σ x1 x2).bind k = some y) (hR : 1 ≤ R.frames ∧ 22 ≤ R.locals) (hcs : cells ≤ R.cells ∧ slots ≤ R.slots) (hl : ls.size = nL) (hW : (rest.map fun v => v.category).sum ≤ 8) (hdg : decode cc pc = .ok (.invokevirtual 43, 3)) (kk : ∀ (r : Int32) (H1 : Heap) (locs1 : List Loc), gH s D (gw cy ad) A σ H1 locs1 → k r = some y → W p l e R s m args below meth c H1 locs1 cells slots Q (F0 m (pc + 3) ls (.int r :: rest))) : W p l e R s m args below meth c H locs cells slots Q (F0 m pc ls (.int x2 :: .int x1 :: .ref (ad 1) :: rest)) := by
  obtain ⟨r, h1, h2⟩ := bnd h
  exact g_fi (g_rV (As := [.int x1, .int x2]) C hH (c_X1_payOf l C.2.2.2 σ x1 x2 r h1) (q0 := 1) mw_c_X1_payOf mw_m_X1_43 mw_i_X1_payOf mw_v_X1_payOf mw_in_X1 ok_X1_payOf ⟨rfl, rfl⟩ rfl rfl rfl hR hcs hl rfl hW hdg) hH.2 (fun H1 locs1 hH1 => kk r H1 locs1 hH1 h2)
theorem kl_X3_72 (C : gC p m c cc nL s args RX3 D (gT cy) (gw cy ad) A) {σ : GS} (hH : gH s D (gw cy ad) A σ H locs) {x1 x2 : Int32} {α : Type} {k : Int32 → Option α} {y : α} (h : (f_X1_payOf σ x1 x2).bind k = some y) (hR : 1 ≤ R.frames ∧ 22 ≤ R.locals) (hcs : cells ≤ R.cells ∧ slots ≤ R.slots) (hl : ls.size = nL) (hW : (rest.map fun v => v.category).sum ≤ 8) (hdg : decode cc pc = .ok (.invokevirtual 72, 3)) (kk : ∀ (r : Int32) (H1 : Heap) (locs1 : List Loc), gH s D (gw cy ad) A σ H1 locs1 → k r = some y → W p l e R s m args below meth c H1 locs1 cells slots Q (F0 m (pc + 3) ls (.int r :: rest))) : W p l e R s m args below meth c H locs cells slots Q (F0 m pc ls (.int x2 :: .int x1 :: .ref (ad 1) :: rest)) := by
  obtain ⟨r, h1, h2⟩ := bnd h
  exact g_fi (g_rVN (As := [.int x1, .int x2]) C hH (c_X1_payOf l C.2.2.2 σ x1 x2 r h1) (q0 := 1) mw_c_X1_payOf mw_m_X3_72 mw_i_X1_payOf mw_v_X1_payOf mw_in_X1 ok_X1_payOf ⟨rfl, rfl⟩ rfl rfl rfl hR hcs hl rfl hW hdg) hH.2 (fun H1 locs1 hH1 => kk r H1 locs1 hH1 h2)
end KL
set_option maxHeartbeats 4000000 in
set_option maxRecDepth 100000 in
theorem c_X1_wageOf (l : Launch) {D : va_G} {cy : Nat → ClassId} {ad : Nat → Nat} {A : Nat → Prop} (hD : ∀ σ, va_D A (gw cy ad σ)) (σ : GS) (x1 x2 x3 : Int32) (r0 : Int32) (h : f_X1_wageOf σ x1 x2 x3 = some r0) : gMi l yX1_wageOf (wsM yX1_wageOf cX1_wageOf 6 (some .int)) ({ frames := 1, cells := 0, slots := 0, locals := 24 } : Room) D (gT cy) (gw cy ad) A [.ref (ad 1), .int x1, .int x2, .int x3] σ σ r0 := by
  refine gMi.of (own := RX1) rfl (by decide) (Nat.le_of_ble_eq_true rfl) hD ?_
  intro p e s m below meth c ls C hx hb hr hlk hH hl
  have hl : lv_has ls 6 [(0, .ref (ad 1)), (1, .int x1), (2, .int x2), (3, .int x3)] := hl
  unfold f_X1_wageOf at h
  refine lv_aload_n hx hb dX1_wageOf_0 rfl (lv_at hl 0 rfl) ?_
  refine lv_iload_n hx hb dX1_wageOf_1 rfl (lv_at hl 1 rfl) ?_
  refine lv_iload_n hx hb dX1_wageOf_2 rfl (lv_at hl 3 rfl) ?_
  refine kl_X1_40 C hH h ⟨by decide, by decide⟩ ⟨by decide, by decide⟩ hl.1 (Nat.le_of_ble_eq_true rfl) dX1_wageOf_3 (fun r1 H locs hH h => ?_)
  refine lv_istore (lv' := [(4, .int r1), (0, .ref (ad 1)), (1, .int x1), (2, .int x2), (3, .int x3)]) hx hb dX1_wageOf_6 hl (by decide) rfl (fun ls hl => ?_)
  refine lv_aload_n hx hb dX1_wageOf_8 rfl (lv_at hl 1 rfl) ?_
  refine gf_X1_15 C hH dX1_wageOf_9 ?_
  refine lv_iload_n hx hb dX1_wageOf_12 rfl (lv_at hl 2 rfl) ?_
  refine gal_al C hH h dX1_wageOf_13 (fun h => ?_)
  refine lv_iload hx hb dX1_wageOf_14 (lv_at hl 0 rfl) ?_
  refine lv_isub hx hb dX1_wageOf_16 ?_
  refine lv_istore (lv' := [(5, .int ((gal σ (x1 : Int32).toNatClampNeg) - r1)), (4, .int r1), (0, .ref (ad 1)), (1, .int x1), (2, .int x2), (3, .int x3)]) hx hb dX1_wageOf_17 hl (by decide) rfl (fun ls hl => ?_)
  refine lv_iload hx hb dX1_wageOf_19 (lv_at hl 1 rfl) ?_
  refine lv_aload_n hx hb dX1_wageOf_21 rfl (lv_at hl 2 rfl) ?_
  refine lv_iload_n hx hb dX1_wageOf_22 rfl (lv_at hl 4 rfl) ?_
  refine lv_iconst (v := 1) hx hb dX1_wageOf_23 (by decide) ?_
  refine kl_X1_43 C hH h ⟨by decide, by decide⟩ ⟨by decide, by decide⟩ hl.1 (Nat.le_of_ble_eq_true rfl) dX1_wageOf_24 (fun r2 H locs hH h => ?_)
  refine lv_imul hx hb dX1_wageOf_27 ?_
  refine lv_iload hx hb dX1_wageOf_28 (lv_at hl 0 rfl) ?_
  refine lv_aload_n hx hb dX1_wageOf_30 rfl (lv_at hl 2 rfl) ?_
  refine lv_iload_n hx hb dX1_wageOf_31 rfl (lv_at hl 4 rfl) ?_
  refine lv_iconst (v := 0) hx hb dX1_wageOf_32 (by decide) ?_
  refine kl_X1_43 C hH h ⟨by decide, by decide⟩ ⟨by decide, by decide⟩ hl.1 (Nat.le_of_ble_eq_true rfl) dX1_wageOf_33 (fun r3 H locs hH h => ?_)
  refine lv_imul hx hb dX1_wageOf_36 ?_
  refine lv_iadd hx hb dX1_wageOf_37 ?_
  exact g_iret hx hb hr hlk hH ⟨Option.some.inj h, rfl⟩ dX1_wageOf_38
theorem ok_X1_wageOf : okName yX1_wageOf 3 := ⟨by decide, by decide, by decide +kernel⟩
section KL
variable {p : Program} {l : Launch} {e : Env} {R : Room} {s : State} {m : MethodId} {args : Array Value} {below : List Frame} {meth : Method} {c : Code} {H : Heap} {locs : List Loc} {cells slots : Nat} {Q : State → Prop} {cc : ByteArray} {pc nL : Nat} {ls : Array Slot} {rest : List Value}
variable {A : Nat → Prop} {D : va_G} {cy : Nat → ClassId} {ad : Nat → Nat}
theorem kl_X0_54 (C : gC p m c cc nL s args RX0 D (gT cy) (gw cy ad) A) {σ : GS} (hH : gH s D (gw cy ad) A σ H locs) {x1 x2 x3 : Int32} {α : Type} {k : Int32 → Option α} {y : α} (h : (f_X1_wageOf σ x1 x2 x3).bind k = some y) (hR : 2 ≤ R.frames ∧ 49 ≤ R.locals) (hcs : cells ≤ R.cells ∧ slots ≤ R.slots) (hl : ls.size = nL) (hW : (rest.map fun v => v.category).sum ≤ 8) (hdg : decode cc pc = .ok (.invokevirtual 54, 3)) (kk : ∀ (r : Int32) (H1 : Heap) (locs1 : List Loc), gH s D (gw cy ad) A σ H1 locs1 → k r = some y → W p l e R s m args below meth c H1 locs1 cells slots Q (F0 m (pc + 3) ls (.int r :: rest))) : W p l e R s m args below meth c H locs cells slots Q (F0 m pc ls (.int x3 :: .int x2 :: .int x1 :: .ref (ad 1) :: rest)) := by
  obtain ⟨r, h1, h2⟩ := bnd h
  exact g_fi (g_rVN (As := [.int x1, .int x2, .int x3]) C hH (c_X1_wageOf l C.2.2.2 σ x1 x2 x3 r h1) (q0 := 1) mw_c_X1_wageOf mw_m_X0_54 mw_i_X1_wageOf mw_v_X1_wageOf mw_in_X1 ok_X1_wageOf ⟨rfl, rfl⟩ rfl rfl rfl hR hcs hl rfl hW hdg) hH.2 (fun H1 locs1 hH1 => kk r H1 locs1 hH1 h2)
theorem kl_X3_91 (C : gC p m c cc nL s args RX3 D (gT cy) (gw cy ad) A) {σ : GS} (hH : gH s D (gw cy ad) A σ H locs) {x1 x2 x3 : Int32} {α : Type} {k : Int32 → Option α} {y : α} (h : (f_X1_wageOf σ x1 x2 x3).bind k = some y) (hR : 2 ≤ R.frames ∧ 49 ≤ R.locals) (hcs : cells ≤ R.cells ∧ slots ≤ R.slots) (hl : ls.size = nL) (hW : (rest.map fun v => v.category).sum ≤ 8) (hdg : decode cc pc = .ok (.invokevirtual 91, 3)) (kk : ∀ (r : Int32) (H1 : Heap) (locs1 : List Loc), gH s D (gw cy ad) A σ H1 locs1 → k r = some y → W p l e R s m args below meth c H1 locs1 cells slots Q (F0 m (pc + 3) ls (.int r :: rest))) : W p l e R s m args below meth c H locs cells slots Q (F0 m pc ls (.int x3 :: .int x2 :: .int x1 :: .ref (ad 1) :: rest)) := by
  obtain ⟨r, h1, h2⟩ := bnd h
  exact g_fi (g_rVN (As := [.int x1, .int x2, .int x3]) C hH (c_X1_wageOf l C.2.2.2 σ x1 x2 x3 r h1) (q0 := 1) mw_c_X1_wageOf mw_m_X3_91 mw_i_X1_wageOf mw_v_X1_wageOf mw_in_X1 ok_X1_wageOf ⟨rfl, rfl⟩ rfl rfl rfl hR hcs hl rfl hW hdg) hH.2 (fun H1 locs1 hH1 => kk r H1 locs1 hH1 h2)
end KL
set_option maxHeartbeats 4000000 in
set_option maxRecDepth 100000 in
theorem c_X3_bitOf (l : Launch) {D : va_G} {cy : Nat → ClassId} {ad : Nat → Nat} {A : Nat → Prop} (hD : ∀ σ, va_D A (gw cy ad σ)) (σ : GS) (x0 x1 : Int32) (r0 : Int32) (h : f_X3_bitOf x0 x1 = some r0) : gMi l yX3_bitOf (wsM yX3_bitOf cX3_bitOf 2 (some .int)) ({ frames := 0, cells := 0, slots := 0, locals := 0 } : Room) D (gT cy) (gw cy ad) A [.int x0, .int x1] σ σ r0 := by
  refine gMi.of (own := RX3) rfl (by decide) (Nat.le_of_ble_eq_true rfl) hD ?_
  intro p e s m below meth c ls C hx hb hr hlk hH hl
  have hl : lv_has ls 2 [(0, .int x0), (1, .int x1)] := hl
  unfold f_X3_bitOf at h
  refine lv_iload_n hx hb dX3_bitOf_0 rfl (lv_at hl 1 rfl) ?_
  refine lv_iload_n hx hb dX3_bitOf_1 rfl (lv_at hl 0 rfl) ?_
  refine lv_ishr hx hb dX3_bitOf_2 ?_
  refine lv_iconst (v := 1) hx hb dX3_bitOf_3 (by decide) ?_
  refine lv_iand hx hb dX3_bitOf_4 ?_
  exact g_iret hx hb hr hlk hH ⟨Option.some.inj h, rfl⟩ dX3_bitOf_5
theorem ok_X3_bitOf : okName yX3_bitOf 2 := ⟨by decide, by decide, by decide +kernel⟩
section KL
variable {p : Program} {l : Launch} {e : Env} {R : Room} {s : State} {m : MethodId} {args : Array Value} {below : List Frame} {meth : Method} {c : Code} {H : Heap} {locs : List Loc} {cells slots : Nat} {Q : State → Prop} {cc : ByteArray} {pc nL : Nat} {ls : Array Slot} {rest : List Value}
variable {A : Nat → Prop} {D : va_G} {cy : Nat → ClassId} {ad : Nat → Nat}
theorem kl_X0_58 (C : gC p m c cc nL s args RX0 D (gT cy) (gw cy ad) A) {σ : GS} (hH : gH s D (gw cy ad) A σ H locs) {x1 x2 : Int32} {α : Type} {k : Int32 → Option α} {y : α} (h : (f_X3_bitOf x1 x2).bind k = some y) (hR : 1 ≤ R.frames ∧ 21 ≤ R.locals) (hcs : cells ≤ R.cells ∧ slots ≤ R.slots) (hl : ls.size = nL) (hW : (rest.map fun v => v.category).sum ≤ 8) (hdg : decode cc pc = .ok (.invokestatic 58, 3)) (kk : ∀ (r : Int32) (H1 : Heap) (locs1 : List Loc), gH s D (gw cy ad) A σ H1 locs1 → k r = some y → W p l e R s m args below meth c H1 locs1 cells slots Q (F0 m (pc + 3) ls (.int r :: rest))) : W p l e R s m args below meth c H locs cells slots Q (F0 m pc ls (.int x2 :: .int x1 :: rest)) := by
  obtain ⟨r, h1, h2⟩ := bnd h
  exact g_fi (g_rSN (As := [.int x1, .int x2]) C hH (c_X3_bitOf l C.2.2.2 σ x1 x2 r h1) mw_c_X3_bitOf mw_m_X0_58 mw_s_X3_bitOf mw_in_X3 ok_X3_bitOf ⟨rfl, rfl⟩ rfl hR hcs hl rfl hW hdg) hH.2 (fun H1 locs1 hH1 => kk r H1 locs1 hH1 h2)
theorem kl_X1_46 (C : gC p m c cc nL s args RX1 D (gT cy) (gw cy ad) A) {σ : GS} (hH : gH s D (gw cy ad) A σ H locs) {x1 x2 : Int32} {α : Type} {k : Int32 → Option α} {y : α} (h : (f_X3_bitOf x1 x2).bind k = some y) (hR : 1 ≤ R.frames ∧ 21 ≤ R.locals) (hcs : cells ≤ R.cells ∧ slots ≤ R.slots) (hl : ls.size = nL) (hW : (rest.map fun v => v.category).sum ≤ 8) (hdg : decode cc pc = .ok (.invokestatic 46, 3)) (kk : ∀ (r : Int32) (H1 : Heap) (locs1 : List Loc), gH s D (gw cy ad) A σ H1 locs1 → k r = some y → W p l e R s m args below meth c H1 locs1 cells slots Q (F0 m (pc + 3) ls (.int r :: rest))) : W p l e R s m args below meth c H locs cells slots Q (F0 m pc ls (.int x2 :: .int x1 :: rest)) := by
  obtain ⟨r, h1, h2⟩ := bnd h
  exact g_fi (g_rSN (As := [.int x1, .int x2]) C hH (c_X3_bitOf l C.2.2.2 σ x1 x2 r h1) mw_c_X3_bitOf mw_m_X1_46 mw_s_X3_bitOf mw_in_X3 ok_X3_bitOf ⟨rfl, rfl⟩ rfl hR hcs hl rfl hW hdg) hH.2 (fun H1 locs1 hH1 => kk r H1 locs1 hH1 h2)
theorem kl_X3_84 (C : gC p m c cc nL s args RX3 D (gT cy) (gw cy ad) A) {σ : GS} (hH : gH s D (gw cy ad) A σ H locs) {x1 x2 : Int32} {α : Type} {k : Int32 → Option α} {y : α} (h : (f_X3_bitOf x1 x2).bind k = some y) (hR : 1 ≤ R.frames ∧ 21 ≤ R.locals) (hcs : cells ≤ R.cells ∧ slots ≤ R.slots) (hl : ls.size = nL) (hW : (rest.map fun v => v.category).sum ≤ 8) (hdg : decode cc pc = .ok (.invokestatic 84, 3)) (kk : ∀ (r : Int32) (H1 : Heap) (locs1 : List Loc), gH s D (gw cy ad) A σ H1 locs1 → k r = some y → W p l e R s m args below meth c H1 locs1 cells slots Q (F0 m (pc + 3) ls (.int r :: rest))) : W p l e R s m args below meth c H locs cells slots Q (F0 m pc ls (.int x2 :: .int x1 :: rest)) := by
  obtain ⟨r, h1, h2⟩ := bnd h
  exact g_fi (g_rS (As := [.int x1, .int x2]) C hH (c_X3_bitOf l C.2.2.2 σ x1 x2 r h1) mw_c_X3_bitOf mw_m_X3_84 mw_s_X3_bitOf mw_in_X3 ok_X3_bitOf ⟨rfl, rfl⟩ rfl hR hcs hl rfl hW hdg) hH.2 (fun H1 locs1 hH1 => kk r H1 locs1 hH1 h2)
end KL
set_option maxHeartbeats 4000000 in
set_option maxRecDepth 100000 in
theorem c_X0_repliesTo (l : Launch) {D : va_G} {cy : Nat → ClassId} {ad : Nat → Nat} {A : Nat → Prop} (hD : ∀ σ, va_D A (gw cy ad σ)) (σ : GS) (x1 : Int32) (r0 : Int32) (h : f_X0_repliesTo σ x1 = some r0) : gMi l yX0_repliesTo (wsM yX0_repliesTo cX0_repliesTo 6 (some .int)) ({ frames := 2, cells := 0, slots := 0, locals := 49 } : Room) D (gT cy) (gw cy ad) A [.ref (ad 5), .int x1] σ σ r0 := by
  refine gMi.of (own := RX0) rfl (by decide) (Nat.le_of_ble_eq_true rfl) hD ?_
  intro p e s m below meth c ls C hx hb hr hlk hH hl
  have hl : lv_has ls 6 [(0, .ref (ad 5)), (1, .int x1)] := hl
  unfold f_X0_repliesTo at h
  refine lv_iconst (v := 0) hx hb dX0_repliesTo_0 (by decide) ?_
  refine lv_istore_n (lv' := [(2, .int (0)), (0, .ref (ad 5)), (1, .int x1)]) hx hb dX0_repliesTo_1 rfl hl (by decide) rfl (fun ls hl => ?_)
  refine lv_iconst (v := 0) hx hb dX0_repliesTo_2 (by decide) ?_
  refine lv_istore_n (lv' := [(3, .int (0)), (2, .int (0)), (0, .ref (ad 5)), (1, .int x1)]) hx hb dX0_repliesTo_3 rfl hl (by decide) rfl (fun ls hl => ?_)
  have L4 : ∀ (n : Nat) (y4_2 : Int32) (y4_3 : Int32) (H : Heap) (locs : List Loc) (ls : Array Slot), gH s D (gw cy ad) A σ H locs → lv_has ls 6 [(0, .ref (ad 5)), (1, .int x1), (2, .int y4_2), (3, .int y4_3)] → ∀ X, itr (f_X0_repliesTo_b4 σ x1) n (y4_2, y4_3) = some X → (∀ (z4_0_2 : Int32) (H : Heap) (locs : List Loc) (ls : Array Slot), gH s D (gw cy ad) A σ H locs → lv_has ls 6 [(2, .int z4_0_2)] → X = z4_0_2 → W p l e ({ frames := 2, cells := 0, slots := 0, locals := 49 } : Room) s m [.ref (ad 5), .int x1].toArray below meth c H locs 0 0 (MQ below (gQi D (gw cy ad) A σ r0) [.ref (ad 5), .int x1].toArray s 0 0 A) (F0 m 74 ls [])) → W p l e ({ frames := 2, cells := 0, slots := 0, locals := 49 } : Room) s m [.ref (ad 5), .int x1].toArray below meth c H locs 0 0 (MQ below (gQi D (gw cy ad) A σ r0) [.ref (ad 5), .int x1].toArray s 0 0 A) (F0 m 4 ls []) := by
    intro n
    induction n with
    | zero =>
      intro y4_2 y4_3 H locs ls hH hl X h K
      exact itr_0 h
    | succ n ih =>
      intro y4_2 y4_3 H locs ls hH hl X h0 K
      obtain ⟨o, h, h2⟩ := itr_step h0
      unfold f_X0_repliesTo_b4 at h
      refine lv_iload_n hx hb dX0_repliesTo_4 rfl (lv_at hl 3 rfl) ?_
      refine lv_aload_n hx hb dX0_repliesTo_5 rfl (lv_at hl 0 rfl) ?_
      refine gf_X0_9 C hH dX0_repliesTo_6 ?_
      refine gf_X0_30 C hH dX0_repliesTo_9 ?_
      refine gb_icmp_ge (tgt := 74) hx hb dX0_repliesTo_12 (by decide) h (fun h => ?_) (fun h => ?_)
      · exact K _ _ _ _ hH (lv_sub hl [2] rfl) (nxt_r h h2)
      · refine lv_aload_n hx hb dX0_repliesTo_15 rfl (lv_at hl 0 rfl) ?_
        refine gf_X0_9 C hH dX0_repliesTo_16 ?_
        refine lv_iload_n hx hb dX0_repliesTo_19 rfl (lv_at hl 3 rfl) ?_
        refine lv_iconst (v := 0) hx hb dX0_repliesTo_20 (by decide) ?_
        refine lv_iload_n hx hb dX0_repliesTo_21 rfl (lv_at hl 1 rfl) ?_
        refine kl_X0_54 C hH h ⟨by decide, by decide⟩ ⟨by decide, by decide⟩ hl.1 (Nat.le_of_ble_eq_true rfl) dX0_repliesTo_22 (fun r1 H locs hH h => ?_)
        refine lv_istore (lv' := [(4, .int r1), (0, .ref (ad 5)), (1, .int x1), (2, .int y4_2), (3, .int y4_3)]) hx hb dX0_repliesTo_25 hl (by decide) rfl (fun ls hl => ?_)
        refine lv_aload_n hx hb dX0_repliesTo_27 rfl (lv_at hl 1 rfl) ?_
        refine gf_X0_9 C hH dX0_repliesTo_28 ?_
        refine lv_iload_n hx hb dX0_repliesTo_31 rfl (lv_at hl 4 rfl) ?_
        refine lv_iconst (v := 1) hx hb dX0_repliesTo_32 (by decide) ?_
        refine lv_iload_n hx hb dX0_repliesTo_33 rfl (lv_at hl 2 rfl) ?_
        refine kl_X0_54 C hH h ⟨by decide, by decide⟩ ⟨by decide, by decide⟩ hl.1 (Nat.le_of_ble_eq_true rfl) dX0_repliesTo_34 (fun r2 H locs hH h => ?_)
        refine lv_istore (lv' := [(5, .int r2), (4, .int r1), (0, .ref (ad 5)), (1, .int x1), (2, .int y4_2), (3, .int y4_3)]) hx hb dX0_repliesTo_37 hl (by decide) rfl (fun ls hl => ?_)
        refine lv_iload hx hb dX0_repliesTo_39 (lv_at hl 0 rfl) ?_
        refine lv_iload hx hb dX0_repliesTo_41 (lv_at hl 1 rfl) ?_
        refine gb_icmp_gt (tgt := 62) hx hb dX0_repliesTo_43 (by decide) h (fun h => ?_) (fun h => ?_)
        · refine lv_iload_n hx hb dX0_repliesTo_62 rfl (lv_at hl 4 rfl) ?_
          refine lv_iconst (v := 1) hx hb dX0_repliesTo_63 (by decide) ?_
          refine lv_iload_n hx hb dX0_repliesTo_64 rfl (lv_at hl 5 rfl) ?_
          refine lv_ishl hx hb dX0_repliesTo_65 ?_
          refine lv_ior hx hb dX0_repliesTo_66 ?_
          refine lv_istore_n (lv' := [(2, .int (y4_2 ||| ((1 : Int32) <<< (y4_3 &&& 31)))), (5, .int r2), (4, .int r1), (0, .ref (ad 5)), (1, .int x1), (3, .int y4_3)]) hx hb dX0_repliesTo_67 rfl hl (by decide) rfl (fun ls hl => ?_)
          refine lv_iinc (v := (y4_3 + (1 : Int32))) (lv' := [(3, .int (y4_3 + (1 : Int32))), (2, .int (y4_2 ||| ((1 : Int32) <<< (y4_3 &&& 31)))), (5, .int r2), (4, .int r1), (0, .ref (ad 5)), (1, .int x1)]) hx hb dX0_repliesTo_68 hl (k := 5) rfl rfl (by decide) rfl (fun ls hl => ?_)
          refine lv_goto (tgt := 4) hx hb dX0_repliesTo_71 (by decide) ?_
          exact ih _ _ _ _ _ hH (lv_sub hl [4, 5, 1, 0] rfl) X (nxt_l h h2) K
        · refine lv_iload hx hb dX0_repliesTo_46 (lv_at hl 0 rfl) ?_
          refine lv_iload hx hb dX0_repliesTo_48 (lv_at hl 1 rfl) ?_
          refine gb_icmp_ne (tgt := 68) hx hb dX0_repliesTo_50 (by decide) h (fun h => ?_) (fun h => ?_)
          · refine lv_iinc (v := (y4_3 + (1 : Int32))) (lv' := [(3, .int (y4_3 + (1 : Int32))), (5, .int r2), (4, .int r1), (0, .ref (ad 5)), (1, .int x1), (2, .int y4_2)]) hx hb dX0_repliesTo_68 hl (k := 5) rfl rfl (by decide) rfl (fun ls hl => ?_)
            refine lv_goto (tgt := 4) hx hb dX0_repliesTo_71 (by decide) ?_
            exact ih _ _ _ _ _ hH (lv_sub hl [3, 4, 5, 0] rfl) X (nxt_l h h2) K
          · refine lv_iload_n hx hb dX0_repliesTo_53 rfl (lv_at hl 5 rfl) ?_
            refine lv_iload_n hx hb dX0_repliesTo_54 rfl (lv_at hl 3 rfl) ?_
            refine kl_X0_58 C hH h ⟨by decide, by decide⟩ ⟨by decide, by decide⟩ hl.1 (Nat.le_of_ble_eq_true rfl) dX0_repliesTo_55 (fun r3 H locs hH h => ?_)
            refine lv_iconst (v := 1) hx hb dX0_repliesTo_58 (by decide) ?_
            refine gb_icmp_ne (tgt := 68) hx hb dX0_repliesTo_59 (by decide) h (fun h => ?_) (fun h => ?_)
            · refine lv_iinc (v := (y4_3 + (1 : Int32))) (lv' := [(3, .int (y4_3 + (1 : Int32))), (5, .int r2), (4, .int r1), (0, .ref (ad 5)), (1, .int x1), (2, .int y4_2)]) hx hb dX0_repliesTo_68 hl (k := 5) rfl rfl (by decide) rfl (fun ls hl => ?_)
              refine lv_goto (tgt := 4) hx hb dX0_repliesTo_71 (by decide) ?_
              exact ih _ _ _ _ _ hH (lv_sub hl [3, 4, 5, 0] rfl) X (nxt_l h h2) K
            · refine lv_iload_n hx hb dX0_repliesTo_62 rfl (lv_at hl 4 rfl) ?_
              refine lv_iconst (v := 1) hx hb dX0_repliesTo_63 (by decide) ?_
              refine lv_iload_n hx hb dX0_repliesTo_64 rfl (lv_at hl 5 rfl) ?_
              refine lv_ishl hx hb dX0_repliesTo_65 ?_
              refine lv_ior hx hb dX0_repliesTo_66 ?_
              refine lv_istore_n (lv' := [(2, .int (y4_2 ||| ((1 : Int32) <<< (y4_3 &&& 31)))), (5, .int r2), (4, .int r1), (0, .ref (ad 5)), (1, .int x1), (3, .int y4_3)]) hx hb dX0_repliesTo_67 rfl hl (by decide) rfl (fun ls hl => ?_)
              refine lv_iinc (v := (y4_3 + (1 : Int32))) (lv' := [(3, .int (y4_3 + (1 : Int32))), (2, .int (y4_2 ||| ((1 : Int32) <<< (y4_3 &&& 31)))), (5, .int r2), (4, .int r1), (0, .ref (ad 5)), (1, .int x1)]) hx hb dX0_repliesTo_68 hl (k := 5) rfl rfl (by decide) rfl (fun ls hl => ?_)
              refine lv_goto (tgt := 4) hx hb dX0_repliesTo_71 (by decide) ?_
              exact ih _ _ _ _ _ hH (lv_sub hl [4, 5, 1, 0] rfl) X (nxt_l h h2) K
  obtain ⟨X4, hX4, h⟩ := bnd h
  refine L4 FU ((0 : Int32)) ((0 : Int32)) _ _ _ hH (lv_sub hl [2, 3, 1, 0] rfl) X4 hX4 ?_
  intro z4_0_2 H locs ls hH hl hE
  replace hE := hE.symm
  subst hE
  refine lv_iload_n hx hb dX0_repliesTo_74 rfl (lv_at hl 0 rfl) ?_
  exact g_iret hx hb hr hlk hH ⟨Option.some.inj h, rfl⟩ dX0_repliesTo_75
theorem ok_X0_repliesTo : okName yX0_repliesTo 1 := ⟨by decide, by decide, by decide +kernel⟩
section KL
variable {p : Program} {l : Launch} {e : Env} {R : Room} {s : State} {m : MethodId} {args : Array Value} {below : List Frame} {meth : Method} {c : Code} {H : Heap} {locs : List Loc} {cells slots : Nat} {Q : State → Prop} {cc : ByteArray} {pc nL : Nat} {ls : Array Slot} {rest : List Value}
variable {A : Nat → Prop} {D : va_G} {cy : Nat → ClassId} {ad : Nat → Nat}
theorem kl_X0_40 (C : gC p m c cc nL s args RX0 D (gT cy) (gw cy ad) A) {σ : GS} (hH : gH s D (gw cy ad) A σ H locs) {x1 : Int32} {α : Type} {k : Int32 → Option α} {y : α} (h : (f_X0_repliesTo σ x1).bind k = some y) (hR : 3 ≤ R.frames ∧ 74 ≤ R.locals) (hcs : cells ≤ R.cells ∧ slots ≤ R.slots) (hl : ls.size = nL) (hW : (rest.map fun v => v.category).sum ≤ 8) (hdg : decode cc pc = .ok (.invokevirtual 40, 3)) (kk : ∀ (r : Int32) (H1 : Heap) (locs1 : List Loc), gH s D (gw cy ad) A σ H1 locs1 → k r = some y → W p l e R s m args below meth c H1 locs1 cells slots Q (F0 m (pc + 3) ls (.int r :: rest))) : W p l e R s m args below meth c H locs cells slots Q (F0 m pc ls (.int x1 :: .ref (ad 5) :: rest)) := by
  obtain ⟨r, h1, h2⟩ := bnd h
  exact g_fi (g_rV (As := [.int x1]) C hH (c_X0_repliesTo l C.2.2.2 σ x1 r h1) (q0 := 5) mw_c_X0_repliesTo mw_m_X0_40 mw_i_X0_repliesTo mw_v_X0_repliesTo mw_in_X0 ok_X0_repliesTo ⟨rfl, rfl⟩ rfl rfl rfl hR hcs hl rfl hW hdg) hH.2 (fun H1 locs1 hH1 => kk r H1 locs1 hH1 h2)
end KL
set_option maxHeartbeats 4000000 in
set_option maxRecDepth 100000 in
theorem c_X1_weightOf (l : Launch) {D : va_G} {cy : Nat → ClassId} {ad : Nat → Nat} {A : Nat → Prop} (hD : ∀ σ, va_D A (gw cy ad σ)) (σ : GS) (x1 x2 : Int32) (r0 : Int32) (h : f_X1_weightOf σ x1 x2 = some r0) : gMi l yX1_weightOf (wsM yX1_weightOf cX1_weightOf 3 (some .int)) ({ frames := 0, cells := 0, slots := 0, locals := 0 } : Room) D (gT cy) (gw cy ad) A [.ref (ad 1), .int x1, .int x2] σ σ r0 := by
  refine gMi.of (own := RX1) rfl (by decide) (Nat.le_of_ble_eq_true rfl) hD ?_
  intro p e s m below meth c ls C hx hb hr hlk hH hl
  have hl : lv_has ls 3 [(0, .ref (ad 1)), (1, .int x1), (2, .int x2)] := hl
  unfold f_X1_weightOf at h
  refine lv_aload_n hx hb dX1_weightOf_0 rfl (lv_at hl 0 rfl) ?_
  refine gf_X1_9 C hH dX1_weightOf_1 ?_
  refine lv_iload_n hx hb dX1_weightOf_4 rfl (lv_at hl 1 rfl) ?_
  refine lv_bipush (v := 10) hx hb dX1_weightOf_5 (by decide) ?_
  refine lv_imul hx hb dX1_weightOf_7 ?_
  refine lv_iload_n hx hb dX1_weightOf_8 rfl (lv_at hl 2 rfl) ?_
  refine lv_iadd hx hb dX1_weightOf_9 ?_
  refine gal_we C hH h dX1_weightOf_10 (fun h => ?_)
  exact g_iret hx hb hr hlk hH ⟨Option.some.inj h, rfl⟩ dX1_weightOf_11
theorem ok_X1_weightOf : okName yX1_weightOf 2 := ⟨by decide, by decide, by decide +kernel⟩
section KL
variable {p : Program} {l : Launch} {e : Env} {R : Room} {s : State} {m : MethodId} {args : Array Value} {below : List Frame} {meth : Method} {c : Code} {H : Heap} {locs : List Loc} {cells slots : Nat} {Q : State → Prop} {cc : ByteArray} {pc nL : Nat} {ls : Array Slot} {rest : List Value}
variable {A : Nat → Prop} {D : va_G} {cy : Nat → ClassId} {ad : Nat → Nat}
theorem kl_X0_64 (C : gC p m c cc nL s args RX0 D (gT cy) (gw cy ad) A) {σ : GS} (hH : gH s D (gw cy ad) A σ H locs) {x1 x2 : Int32} {α : Type} {k : Int32 → Option α} {y : α} (h : (f_X1_weightOf σ x1 x2).bind k = some y) (hR : 1 ≤ R.frames ∧ 22 ≤ R.locals) (hcs : cells ≤ R.cells ∧ slots ≤ R.slots) (hl : ls.size = nL) (hW : (rest.map fun v => v.category).sum ≤ 8) (hdg : decode cc pc = .ok (.invokevirtual 64, 3)) (kk : ∀ (r : Int32) (H1 : Heap) (locs1 : List Loc), gH s D (gw cy ad) A σ H1 locs1 → k r = some y → W p l e R s m args below meth c H1 locs1 cells slots Q (F0 m (pc + 3) ls (.int r :: rest))) : W p l e R s m args below meth c H locs cells slots Q (F0 m pc ls (.int x2 :: .int x1 :: .ref (ad 1) :: rest)) := by
  obtain ⟨r, h1, h2⟩ := bnd h
  exact g_fi (g_rVN (As := [.int x1, .int x2]) C hH (c_X1_weightOf l C.2.2.2 σ x1 x2 r h1) (q0 := 1) mw_c_X1_weightOf mw_m_X0_64 mw_i_X1_weightOf mw_v_X1_weightOf mw_in_X1 ok_X1_weightOf ⟨rfl, rfl⟩ rfl rfl rfl hR hcs hl rfl hW hdg) hH.2 (fun H1 locs1 hH1 => kk r H1 locs1 hH1 h2)
theorem kl_X1_36 (C : gC p m c cc nL s args RX1 D (gT cy) (gw cy ad) A) {σ : GS} (hH : gH s D (gw cy ad) A σ H locs) {x1 x2 : Int32} {α : Type} {k : Int32 → Option α} {y : α} (h : (f_X1_weightOf σ x1 x2).bind k = some y) (hR : 1 ≤ R.frames ∧ 22 ≤ R.locals) (hcs : cells ≤ R.cells ∧ slots ≤ R.slots) (hl : ls.size = nL) (hW : (rest.map fun v => v.category).sum ≤ 8) (hdg : decode cc pc = .ok (.invokevirtual 36, 3)) (kk : ∀ (r : Int32) (H1 : Heap) (locs1 : List Loc), gH s D (gw cy ad) A σ H1 locs1 → k r = some y → W p l e R s m args below meth c H1 locs1 cells slots Q (F0 m (pc + 3) ls (.int r :: rest))) : W p l e R s m args below meth c H locs cells slots Q (F0 m pc ls (.int x2 :: .int x1 :: .ref (ad 1) :: rest)) := by
  obtain ⟨r, h1, h2⟩ := bnd h
  exact g_fi (g_rV (As := [.int x1, .int x2]) C hH (c_X1_weightOf l C.2.2.2 σ x1 x2 r h1) (q0 := 1) mw_c_X1_weightOf mw_m_X1_36 mw_i_X1_weightOf mw_v_X1_weightOf mw_in_X1 ok_X1_weightOf ⟨rfl, rfl⟩ rfl rfl rfl hR hcs hl rfl hW hdg) hH.2 (fun H1 locs1 hH1 => kk r H1 locs1 hH1 h2)
theorem kl_X3_59 (C : gC p m c cc nL s args RX3 D (gT cy) (gw cy ad) A) {σ : GS} (hH : gH s D (gw cy ad) A σ H locs) {x1 x2 : Int32} {α : Type} {k : Int32 → Option α} {y : α} (h : (f_X1_weightOf σ x1 x2).bind k = some y) (hR : 1 ≤ R.frames ∧ 22 ≤ R.locals) (hcs : cells ≤ R.cells ∧ slots ≤ R.slots) (hl : ls.size = nL) (hW : (rest.map fun v => v.category).sum ≤ 8) (hdg : decode cc pc = .ok (.invokevirtual 59, 3)) (kk : ∀ (r : Int32) (H1 : Heap) (locs1 : List Loc), gH s D (gw cy ad) A σ H1 locs1 → k r = some y → W p l e R s m args below meth c H1 locs1 cells slots Q (F0 m (pc + 3) ls (.int r :: rest))) : W p l e R s m args below meth c H locs cells slots Q (F0 m pc ls (.int x2 :: .int x1 :: .ref (ad 1) :: rest)) := by
  obtain ⟨r, h1, h2⟩ := bnd h
  exact g_fi (g_rVN (As := [.int x1, .int x2]) C hH (c_X1_weightOf l C.2.2.2 σ x1 x2 r h1) (q0 := 1) mw_c_X1_weightOf mw_m_X3_59 mw_i_X1_weightOf mw_v_X1_weightOf mw_in_X1 ok_X1_weightOf ⟨rfl, rfl⟩ rfl rfl rfl hR hcs hl rfl hW hdg) hH.2 (fun H1 locs1 hH1 => kk r H1 locs1 hH1 h2)
end KL
set_option maxHeartbeats 4000000 in
set_option maxRecDepth 100000 in
theorem c_X0_bestBeside (l : Launch) {D : va_G} {cy : Nat → ClassId} {ad : Nat → Nat} {A : Nat → Prop} (hD : ∀ σ, va_D A (gw cy ad σ)) (σ : GS) (x1 : Int32) (r0 : Int32) (h : f_X0_bestBeside σ x1 = some r0) : gMi l yX0_bestBeside (wsM yX0_bestBeside cX0_bestBeside 4 (some .int)) ({ frames := 1, cells := 0, slots := 0, locals := 22 } : Room) D (gT cy) (gw cy ad) A [.ref (ad 5), .int x1] σ σ r0 := by
  refine gMi.of (own := RX0) rfl (by decide) (Nat.le_of_ble_eq_true rfl) hD ?_
  intro p e s m below meth c ls C hx hb hr hlk hH hl
  have hl : lv_has ls 4 [(0, .ref (ad 5)), (1, .int x1)] := hl
  unfold f_X0_bestBeside at h
  refine lv_iload_n hx hb dX0_bestBeside_0 rfl (lv_at hl 1 rfl) ?_
  refine lv_istore_n (lv' := [(2, .int x1), (0, .ref (ad 5)), (1, .int x1)]) hx hb dX0_bestBeside_1 rfl hl (by decide) rfl (fun ls hl => ?_)
  refine lv_iconst (v := 0) hx hb dX0_bestBeside_2 (by decide) ?_
  refine lv_istore_n (lv' := [(3, .int (0)), (2, .int x1), (0, .ref (ad 5)), (1, .int x1)]) hx hb dX0_bestBeside_3 rfl hl (by decide) rfl (fun ls hl => ?_)
  have L4 : ∀ (n : Nat) (y4_2 : Int32) (y4_3 : Int32) (H : Heap) (locs : List Loc) (ls : Array Slot), gH s D (gw cy ad) A σ H locs → lv_has ls 4 [(0, .ref (ad 5)), (1, .int x1), (2, .int y4_2), (3, .int y4_3)] → ∀ X, itr (f_X0_bestBeside_b4 σ x1) n (y4_2, y4_3) = some X → (∀ (z4_0_2 : Int32) (H : Heap) (locs : List Loc) (ls : Array Slot), gH s D (gw cy ad) A σ H locs → lv_has ls 4 [(2, .int z4_0_2)] → X = z4_0_2 → W p l e ({ frames := 1, cells := 0, slots := 0, locals := 22 } : Room) s m [.ref (ad 5), .int x1].toArray below meth c H locs 0 0 (MQ below (gQi D (gw cy ad) A σ r0) [.ref (ad 5), .int x1].toArray s 0 0 A) (F0 m 50 ls [])) → W p l e ({ frames := 1, cells := 0, slots := 0, locals := 22 } : Room) s m [.ref (ad 5), .int x1].toArray below meth c H locs 0 0 (MQ below (gQi D (gw cy ad) A σ r0) [.ref (ad 5), .int x1].toArray s 0 0 A) (F0 m 4 ls []) := by
    intro n
    induction n with
    | zero =>
      intro y4_2 y4_3 H locs ls hH hl X h K
      exact itr_0 h
    | succ n ih =>
      intro y4_2 y4_3 H locs ls hH hl X h0 K
      obtain ⟨o, h, h2⟩ := itr_step h0
      unfold f_X0_bestBeside_b4 at h
      refine lv_iload_n hx hb dX0_bestBeside_4 rfl (lv_at hl 3 rfl) ?_
      refine lv_aload_n hx hb dX0_bestBeside_5 rfl (lv_at hl 0 rfl) ?_
      refine gf_X0_9 C hH dX0_bestBeside_6 ?_
      refine gf_X0_30 C hH dX0_bestBeside_9 ?_
      refine gb_icmp_ge (tgt := 50) hx hb dX0_bestBeside_12 (by decide) h (fun h => ?_) (fun h => ?_)
      · exact K _ _ _ _ hH (lv_sub hl [2] rfl) (nxt_r h h2)
      · refine lv_aload_n hx hb dX0_bestBeside_15 rfl (lv_at hl 0 rfl) ?_
        refine gf_X0_9 C hH dX0_bestBeside_16 ?_
        refine lv_iload_n hx hb dX0_bestBeside_19 rfl (lv_at hl 1 rfl) ?_
        refine lv_iload_n hx hb dX0_bestBeside_20 rfl (lv_at hl 3 rfl) ?_
        refine kl_X0_64 C hH h ⟨by decide, by decide⟩ ⟨by decide, by decide⟩ hl.1 (Nat.le_of_ble_eq_true rfl) dX0_bestBeside_21 (fun r1 H locs hH h => ?_)
        refine gb_if_eq (tgt := 44) hx hb dX0_bestBeside_24 (by decide) h (fun h => ?_) (fun h => ?_)
        · refine lv_iinc (v := (y4_3 + (1 : Int32))) (lv' := [(3, .int (y4_3 + (1 : Int32))), (0, .ref (ad 5)), (1, .int x1), (2, .int y4_2)]) hx hb dX0_bestBeside_44 hl (k := 3) rfl rfl (by decide) rfl (fun ls hl => ?_)
          refine lv_goto (tgt := 4) hx hb dX0_bestBeside_47 (by decide) ?_
          exact ih _ _ _ _ _ hH (lv_sub hl [1, 2, 3, 0] rfl) X (nxt_l h h2) K
        · refine lv_aload_n hx hb dX0_bestBeside_27 rfl (lv_at hl 0 rfl) ?_
          refine gf_X0_23 C hH dX0_bestBeside_28 ?_
          refine lv_iload_n hx hb dX0_bestBeside_31 rfl (lv_at hl 3 rfl) ?_
          refine gal_wg C hH h dX0_bestBeside_32 (fun h => ?_)
          refine lv_aload_n hx hb dX0_bestBeside_33 rfl (lv_at hl 0 rfl) ?_
          refine gf_X0_23 C hH dX0_bestBeside_34 ?_
          refine lv_iload_n hx hb dX0_bestBeside_37 rfl (lv_at hl 2 rfl) ?_
          refine gal_wg C hH h dX0_bestBeside_38 (fun h => ?_)
          refine gb_icmp_le (tgt := 44) hx hb dX0_bestBeside_39 (by decide) h (fun h => ?_) (fun h => ?_)
          · refine lv_iinc (v := (y4_3 + (1 : Int32))) (lv' := [(3, .int (y4_3 + (1 : Int32))), (0, .ref (ad 5)), (1, .int x1), (2, .int y4_2)]) hx hb dX0_bestBeside_44 hl (k := 3) rfl rfl (by decide) rfl (fun ls hl => ?_)
            refine lv_goto (tgt := 4) hx hb dX0_bestBeside_47 (by decide) ?_
            exact ih _ _ _ _ _ hH (lv_sub hl [1, 2, 3, 0] rfl) X (nxt_l h h2) K
          · refine lv_iload_n hx hb dX0_bestBeside_42 rfl (lv_at hl 3 rfl) ?_
            refine lv_istore_n (lv' := [(2, .int y4_3), (0, .ref (ad 5)), (1, .int x1), (3, .int y4_3)]) hx hb dX0_bestBeside_43 rfl hl (by decide) rfl (fun ls hl => ?_)
            refine lv_iinc (v := (y4_3 + (1 : Int32))) (lv' := [(3, .int (y4_3 + (1 : Int32))), (2, .int y4_3), (0, .ref (ad 5)), (1, .int x1)]) hx hb dX0_bestBeside_44 hl (k := 3) rfl rfl (by decide) rfl (fun ls hl => ?_)
            refine lv_goto (tgt := 4) hx hb dX0_bestBeside_47 (by decide) ?_
            exact ih _ _ _ _ _ hH (lv_sub hl [2, 3, 1, 0] rfl) X (nxt_l h h2) K
  obtain ⟨X4, hX4, h⟩ := bnd h
  refine L4 FU x1 ((0 : Int32)) _ _ _ hH (lv_sub hl [2, 3, 1, 0] rfl) X4 hX4 ?_
  intro z4_0_2 H locs ls hH hl hE
  replace hE := hE.symm
  subst hE
  refine lv_iload_n hx hb dX0_bestBeside_50 rfl (lv_at hl 0 rfl) ?_
  exact g_iret hx hb hr hlk hH ⟨Option.some.inj h, rfl⟩ dX0_bestBeside_51
theorem ok_X0_bestBeside : okName yX0_bestBeside 1 := ⟨by decide, by decide, by decide +kernel⟩
section KL
variable {p : Program} {l : Launch} {e : Env} {R : Room} {s : State} {m : MethodId} {args : Array Value} {below : List Frame} {meth : Method} {c : Code} {H : Heap} {locs : List Loc} {cells slots : Nat} {Q : State → Prop} {cc : ByteArray} {pc nL : Nat} {ls : Array Slot} {rest : List Value}
variable {A : Nat → Prop} {D : va_G} {cy : Nat → ClassId} {ad : Nat → Nat}
theorem kl_X0_61 (C : gC p m c cc nL s args RX0 D (gT cy) (gw cy ad) A) {σ : GS} (hH : gH s D (gw cy ad) A σ H locs) {x1 : Int32} {α : Type} {k : Int32 → Option α} {y : α} (h : (f_X0_bestBeside σ x1).bind k = some y) (hR : 2 ≤ R.frames ∧ 45 ≤ R.locals) (hcs : cells ≤ R.cells ∧ slots ≤ R.slots) (hl : ls.size = nL) (hW : (rest.map fun v => v.category).sum ≤ 8) (hdg : decode cc pc = .ok (.invokevirtual 61, 3)) (kk : ∀ (r : Int32) (H1 : Heap) (locs1 : List Loc), gH s D (gw cy ad) A σ H1 locs1 → k r = some y → W p l e R s m args below meth c H1 locs1 cells slots Q (F0 m (pc + 3) ls (.int r :: rest))) : W p l e R s m args below meth c H locs cells slots Q (F0 m pc ls (.int x1 :: .ref (ad 5) :: rest)) := by
  obtain ⟨r, h1, h2⟩ := bnd h
  exact g_fi (g_rV (As := [.int x1]) C hH (c_X0_bestBeside l C.2.2.2 σ x1 r h1) (q0 := 5) mw_c_X0_bestBeside mw_m_X0_61 mw_i_X0_bestBeside mw_v_X0_bestBeside mw_in_X0 ok_X0_bestBeside ⟨rfl, rfl⟩ rfl rfl rfl hR hcs hl rfl hW hdg) hH.2 (fun H1 locs1 hH1 => kk r H1 locs1 hH1 h2)
end KL
set_option maxHeartbeats 4000000 in
set_option maxRecDepth 100000 in
theorem c_X0_copiesIn (l : Launch) {D : va_G} {cy : Nat → ClassId} {ad : Nat → Nat} {A : Nat → Prop} (hD : ∀ σ, va_D A (gw cy ad σ)) (σ : GS) (x1 : Int32) (r0 : Int32) (σ0 : GS) (h : f_X0_copiesIn σ x1 = some (r0, σ0)) : gMi l yX0_copiesIn (wsM yX0_copiesIn cX0_copiesIn 4 (some .int)) ({ frames := 2, cells := 0, slots := 0, locals := 49 } : Room) D (gT cy) (gw cy ad) A [.ref (ad 5), .int x1] σ σ0 r0 := by
  refine gMi.of (own := RX0) rfl (by decide) (Nat.le_of_ble_eq_true rfl) hD ?_
  intro p e s m below meth c ls C hx hb hr hlk hH hl
  have hl : lv_has ls 4 [(0, .ref (ad 5)), (1, .int x1)] := hl
  unfold f_X0_copiesIn at h
  refine lv_iconst (v := 0) hx hb dX0_copiesIn_0 (by decide) ?_
  refine lv_istore_n (lv' := [(2, .int (0)), (0, .ref (ad 5)), (1, .int x1)]) hx hb dX0_copiesIn_1 rfl hl (by decide) rfl (fun ls hl => ?_)
  have L2 : ∀ (n : Nat) (y2_2 : Int32) (σ2 : GS) (H : Heap) (locs : List Loc) (ls : Array Slot), gH s D (gw cy ad) A σ2 H locs → lv_has ls 4 [(0, .ref (ad 5)), (1, .int x1), (2, .int y2_2)] → ∀ X, itr (f_X0_copiesIn_b2 x1) n (y2_2, σ2) = some X → (∀ (σz2_0 : GS) (H : Heap) (locs : List Loc) (ls : Array Slot), gH s D (gw cy ad) A σz2_0 H locs → lv_has ls 4 [(0, .ref (ad 5)), (1, .int x1)] → X = σz2_0 → W p l e ({ frames := 2, cells := 0, slots := 0, locals := 49 } : Room) s m [.ref (ad 5), .int x1].toArray below meth c H locs 0 0 (MQ below (gQi D (gw cy ad) A σ0 r0) [.ref (ad 5), .int x1].toArray s 0 0 A) (F0 m 39 ls [])) → W p l e ({ frames := 2, cells := 0, slots := 0, locals := 49 } : Room) s m [.ref (ad 5), .int x1].toArray below meth c H locs 0 0 (MQ below (gQi D (gw cy ad) A σ0 r0) [.ref (ad 5), .int x1].toArray s 0 0 A) (F0 m 2 ls []) := by
    intro n
    induction n with
    | zero =>
      intro y2_2 σ2 H locs ls hH hl X h K
      exact itr_0 h
    | succ n ih =>
      intro y2_2 σ2 H locs ls hH hl X h0 K
      obtain ⟨o, h, h2⟩ := itr_step h0
      unfold f_X0_copiesIn_b2 at h
      refine lv_iload_n hx hb dX0_copiesIn_2 rfl (lv_at hl 2 rfl) ?_
      refine lv_aload_n hx hb dX0_copiesIn_3 rfl (lv_at hl 0 rfl) ?_
      refine gf_X0_9 C hH dX0_copiesIn_4 ?_
      refine gf_X0_30 C hH dX0_copiesIn_7 ?_
      refine gb_icmp_ge (tgt := 39) hx hb dX0_copiesIn_10 (by decide) h (fun h => ?_) (fun h => ?_)
      · exact K _ _ _ _ hH (lv_sub hl [0, 1] rfl) (nxt_r h h2)
      · refine lv_aload_n hx hb dX0_copiesIn_13 rfl (lv_at hl 0 rfl) ?_
        refine gf_X0_23 C hH dX0_copiesIn_14 ?_
        refine lv_iload_n hx hb dX0_copiesIn_17 rfl (lv_at hl 2 rfl) ?_
        refine lv_aload_n hx hb dX0_copiesIn_18 rfl (lv_at hl 0 rfl) ?_
        refine gf_X0_9 C hH dX0_copiesIn_19 ?_
        refine lv_iload_n hx hb dX0_copiesIn_22 rfl (lv_at hl 2 rfl) ?_
        refine lv_iload_n hx hb dX0_copiesIn_23 rfl (lv_at hl 2 rfl) ?_
        refine lv_iload_n hx hb dX0_copiesIn_24 rfl (lv_at hl 1 rfl) ?_
        refine kl_X0_58 C hH h ⟨by decide, by decide⟩ ⟨by decide, by decide⟩ hl.1 (Nat.le_of_ble_eq_true rfl) dX0_copiesIn_25 (fun r1 H locs hH h => ?_)
        refine lv_iload_n hx hb dX0_copiesIn_28 rfl (lv_at hl 1 rfl) ?_
        refine kl_X0_54 C hH h ⟨by decide, by decide⟩ ⟨by decide, by decide⟩ hl.1 (Nat.le_of_ble_eq_true rfl) dX0_copiesIn_29 (fun r2 H locs hH h => ?_)
        refine gas_wg C hH h dX0_copiesIn_32 (fun h H locs hH => ?_)
        refine lv_iinc (v := (y2_2 + (1 : Int32))) (lv' := [(2, .int (y2_2 + (1 : Int32))), (0, .ref (ad 5)), (1, .int x1)]) hx hb dX0_copiesIn_33 hl (k := 2) rfl rfl (by decide) rfl (fun ls hl => ?_)
        refine lv_goto (tgt := 2) hx hb dX0_copiesIn_36 (by decide) ?_
        exact ih _ _ _ _ _ hH (lv_sub hl [1, 2, 0] rfl) X (nxt_l h h2) K
  obtain ⟨X2, hX2, h⟩ := bnd h
  refine L2 FU ((0 : Int32)) σ _ _ _ hH (lv_sub hl [1, 2, 0] rfl) X2 hX2 ?_
  intro σz2_0 H locs ls hH hl hE
  replace hE := hE.symm
  subst hE
  refine lv_iconst (v := 0) hx hb dX0_copiesIn_39 (by decide) ?_
  refine lv_istore_n (lv' := [(2, .int (0)), (0, .ref (ad 5)), (1, .int x1)]) hx hb dX0_copiesIn_40 rfl hl (by decide) rfl (fun ls hl => ?_)
  refine lv_iconst (v := 0) hx hb dX0_copiesIn_41 (by decide) ?_
  refine lv_istore_n (lv' := [(3, .int (0)), (2, .int (0)), (0, .ref (ad 5)), (1, .int x1)]) hx hb dX0_copiesIn_42 rfl hl (by decide) rfl (fun ls hl => ?_)
  have L43 : ∀ (n : Nat) (y43_2 : Int32) (y43_3 : Int32) (H : Heap) (locs : List Loc) (ls : Array Slot), gH s D (gw cy ad) A σz2_0 H locs → lv_has ls 4 [(0, .ref (ad 5)), (1, .int x1), (2, .int y43_2), (3, .int y43_3)] → ∀ X, itr (f_X0_copiesIn_b43 σz2_0 x1) n (y43_2, y43_3) = some X → (∀ (z43_0_2 : Int32) (H : Heap) (locs : List Loc) (ls : Array Slot), gH s D (gw cy ad) A σz2_0 H locs → lv_has ls 4 [(2, .int z43_0_2)] → X = z43_0_2 → W p l e ({ frames := 2, cells := 0, slots := 0, locals := 49 } : Room) s m [.ref (ad 5), .int x1].toArray below meth c H locs 0 0 (MQ below (gQi D (gw cy ad) A σ0 r0) [.ref (ad 5), .int x1].toArray s 0 0 A) (F0 m 74 ls [])) → W p l e ({ frames := 2, cells := 0, slots := 0, locals := 49 } : Room) s m [.ref (ad 5), .int x1].toArray below meth c H locs 0 0 (MQ below (gQi D (gw cy ad) A σ0 r0) [.ref (ad 5), .int x1].toArray s 0 0 A) (F0 m 43 ls []) := by
    intro n
    induction n with
    | zero =>
      intro y43_2 y43_3 H locs ls hH hl X h K
      exact itr_0 h
    | succ n ih =>
      intro y43_2 y43_3 H locs ls hH hl X h0 K
      obtain ⟨o, h, h2⟩ := itr_step h0
      unfold f_X0_copiesIn_b43 at h
      refine lv_iload_n hx hb dX0_copiesIn_43 rfl (lv_at hl 3 rfl) ?_
      refine lv_aload_n hx hb dX0_copiesIn_44 rfl (lv_at hl 0 rfl) ?_
      refine gf_X0_9 C hH dX0_copiesIn_45 ?_
      refine gf_X0_30 C hH dX0_copiesIn_48 ?_
      refine gb_icmp_ge (tgt := 74) hx hb dX0_copiesIn_51 (by decide) h (fun h => ?_) (fun h => ?_)
      · exact K _ _ _ _ hH (lv_sub hl [2] rfl) (nxt_r h h2)
      · refine lv_iload_n hx hb dX0_copiesIn_54 rfl (lv_at hl 2 rfl) ?_
        refine lv_aload_n hx hb dX0_copiesIn_55 rfl (lv_at hl 0 rfl) ?_
        refine lv_iload_n hx hb dX0_copiesIn_56 rfl (lv_at hl 3 rfl) ?_
        refine kl_X0_61 C hH h ⟨by decide, by decide⟩ ⟨by decide, by decide⟩ hl.1 (Nat.le_of_ble_eq_true rfl) dX0_copiesIn_57 (fun r4 H locs hH h => ?_)
        refine lv_iload_n hx hb dX0_copiesIn_60 rfl (lv_at hl 1 rfl) ?_
        refine kl_X0_58 C hH h ⟨by decide, by decide⟩ ⟨by decide, by decide⟩ hl.1 (Nat.le_of_ble_eq_true rfl) dX0_copiesIn_61 (fun r5 H locs hH h => ?_)
        refine lv_iload_n hx hb dX0_copiesIn_64 rfl (lv_at hl 3 rfl) ?_
        refine lv_ishl hx hb dX0_copiesIn_65 ?_
        refine lv_ior hx hb dX0_copiesIn_66 ?_
        refine lv_istore_n (lv' := [(2, .int (y43_2 ||| (r5 <<< (y43_3 &&& 31)))), (0, .ref (ad 5)), (1, .int x1), (3, .int y43_3)]) hx hb dX0_copiesIn_67 rfl hl (by decide) rfl (fun ls hl => ?_)
        refine lv_iinc (v := (y43_3 + (1 : Int32))) (lv' := [(3, .int (y43_3 + (1 : Int32))), (2, .int (y43_2 ||| (r5 <<< (y43_3 &&& 31)))), (0, .ref (ad 5)), (1, .int x1)]) hx hb dX0_copiesIn_68 hl (k := 3) rfl rfl (by decide) rfl (fun ls hl => ?_)
        refine lv_goto (tgt := 43) hx hb dX0_copiesIn_71 (by decide) ?_
        exact ih _ _ _ _ _ hH (lv_sub hl [2, 3, 1, 0] rfl) X (nxt_l h h2) K
  obtain ⟨X43, hX43, h⟩ := bnd h
  refine L43 FU ((0 : Int32)) ((0 : Int32)) _ _ _ hH (lv_sub hl [2, 3, 1, 0] rfl) X43 hX43 ?_
  intro z43_0_2 H locs ls hH hl hE
  replace hE := hE.symm
  subst hE
  refine lv_iload_n hx hb dX0_copiesIn_74 rfl (lv_at hl 0 rfl) ?_
  exact g_iret hx hb hr hlk hH (Prod.mk.inj (Option.some.inj h)) dX0_copiesIn_75
theorem ok_X0_copiesIn : okName yX0_copiesIn 1 := ⟨by decide, by decide, by decide +kernel⟩
section KL
variable {p : Program} {l : Launch} {e : Env} {R : Room} {s : State} {m : MethodId} {args : Array Value} {below : List Frame} {meth : Method} {c : Code} {H : Heap} {locs : List Loc} {cells slots : Nat} {Q : State → Prop} {cc : ByteArray} {pc nL : Nat} {ls : Array Slot} {rest : List Value}
variable {A : Nat → Prop} {D : va_G} {cy : Nat → ClassId} {ad : Nat → Nat}
theorem kl_X0_44 (C : gC p m c cc nL s args RX0 D (gT cy) (gw cy ad) A) {σ : GS} (hH : gH s D (gw cy ad) A σ H locs) {x1 : Int32} {α : Type} {k : Int32 × GS → Option α} {y : α} (h : (f_X0_copiesIn σ x1).bind k = some y) (hR : 3 ≤ R.frames ∧ 72 ≤ R.locals) (hcs : cells ≤ R.cells ∧ slots ≤ R.slots) (hl : ls.size = nL) (hW : (rest.map fun v => v.category).sum ≤ 8) (hdg : decode cc pc = .ok (.invokevirtual 44, 3)) (kk : ∀ (r : Int32) (σ1 : GS) (H1 : Heap) (locs1 : List Loc), gH s D (gw cy ad) A σ1 H1 locs1 → k (r, σ1) = some y → W p l e R s m args below meth c H1 locs1 cells slots Q (F0 m (pc + 3) ls (.int r :: rest))) : W p l e R s m args below meth c H locs cells slots Q (F0 m pc ls (.int x1 :: .ref (ad 5) :: rest)) := by
  obtain ⟨⟨r, σ1⟩, h1, h2⟩ := bnd h
  exact g_fi (g_rV (As := [.int x1]) C hH (c_X0_copiesIn l C.2.2.2 σ x1 r σ1 h1) (q0 := 5) mw_c_X0_copiesIn mw_m_X0_44 mw_i_X0_copiesIn mw_v_X0_copiesIn mw_in_X0 ok_X0_copiesIn ⟨rfl, rfl⟩ rfl rfl rfl hR hcs hl rfl hW hdg) hH.2 (fun H1 locs1 hH1 => kk r σ1 H1 locs1 hH1 h2)
end KL
set_option maxHeartbeats 4000000 in
set_option maxRecDepth 100000 in
theorem c_X1_reaches (l : Launch) {D : va_G} {cy : Nat → ClassId} {ad : Nat → Nat} {A : Nat → Prop} (hD : ∀ σ, va_D A (gw cy ad σ)) (σ : GS) (x1 x2 x3 : Int32) (r0 : Int32) (h : f_X1_reaches σ x1 x2 x3 = some r0) : gMi l yX1_reaches (wsM yX1_reaches cX1_reaches 4 (some .boolean)) ({ frames := 1, cells := 0, slots := 0, locals := 24 } : Room) D (gT cy) (gw cy ad) A [.ref (ad 1), .int x1, .int x2, .int x3] σ σ r0 := by
  refine gMi.of (own := RX1) rfl (by decide) (Nat.le_of_ble_eq_true rfl) hD ?_
  intro p e s m below meth c ls C hx hb hr hlk hH hl
  have hl : lv_has ls 4 [(0, .ref (ad 1)), (1, .int x1), (2, .int x2), (3, .int x3)] := hl
  unfold f_X1_reaches at h
  refine lv_bipush (v := 100) hx hb dX1_reaches_0 (by decide) ?_
  refine lv_aload_n hx hb dX1_reaches_2 rfl (lv_at hl 0 rfl) ?_
  refine lv_iload_n hx hb dX1_reaches_3 rfl (lv_at hl 1 rfl) ?_
  refine lv_iload_n hx hb dX1_reaches_4 rfl (lv_at hl 2 rfl) ?_
  refine kl_X1_40 C hH h ⟨by decide, by decide⟩ ⟨by decide, by decide⟩ hl.1 (Nat.le_of_ble_eq_true rfl) dX1_reaches_5 (fun r1 H locs hH h => ?_)
  refine lv_imul hx hb dX1_reaches_8 ?_
  refine lv_iload_n hx hb dX1_reaches_9 rfl (lv_at hl 3 rfl) ?_
  refine lv_aload_n hx hb dX1_reaches_10 rfl (lv_at hl 0 rfl) ?_
  refine gf_X1_15 C hH dX1_reaches_11 ?_
  refine lv_iload_n hx hb dX1_reaches_14 rfl (lv_at hl 1 rfl) ?_
  refine gal_al C hH h dX1_reaches_15 (fun h => ?_)
  refine lv_imul hx hb dX1_reaches_16 ?_
  refine gb_icmp_lt (tgt := 24) hx hb dX1_reaches_17 (by decide) h (fun h => ?_) (fun h => ?_)
  · refine lv_iconst (v := 0) hx hb dX1_reaches_24 (by decide) ?_
    exact g_zret hx hb hr hlk hH ⟨Option.some.inj h, rfl⟩ rfl dX1_reaches_25
  · refine lv_iconst (v := 1) hx hb dX1_reaches_20 (by decide) ?_
    refine lv_goto (tgt := 25) hx hb dX1_reaches_21 (by decide) ?_
    exact g_zret hx hb hr hlk hH ⟨Option.some.inj h, rfl⟩ rfl dX1_reaches_25
theorem ok_X1_reaches : okName yX1_reaches 3 := ⟨by decide, by decide, by decide +kernel⟩
section KL
variable {p : Program} {l : Launch} {e : Env} {R : Room} {s : State} {m : MethodId} {args : Array Value} {below : List Frame} {meth : Method} {c : Code} {H : Heap} {locs : List Loc} {cells slots : Nat} {Q : State → Prop} {cc : ByteArray} {pc nL : Nat} {ls : Array Slot} {rest : List Value}
variable {A : Nat → Prop} {D : va_G} {cy : Nat → ClassId} {ad : Nat → Nat}
theorem kl_X0_73 (C : gC p m c cc nL s args RX0 D (gT cy) (gw cy ad) A) {σ : GS} (hH : gH s D (gw cy ad) A σ H locs) {x1 x2 x3 : Int32} {α : Type} {k : Int32 → Option α} {y : α} (h : (f_X1_reaches σ x1 x2 x3).bind k = some y) (hR : 2 ≤ R.frames ∧ 47 ≤ R.locals) (hcs : cells ≤ R.cells ∧ slots ≤ R.slots) (hl : ls.size = nL) (hW : (rest.map fun v => v.category).sum ≤ 8) (hdg : decode cc pc = .ok (.invokevirtual 73, 3)) (kk : ∀ (r : Int32) (H1 : Heap) (locs1 : List Loc), gH s D (gw cy ad) A σ H1 locs1 → k r = some y → W p l e R s m args below meth c H1 locs1 cells slots Q (F0 m (pc + 3) ls (.int r :: rest))) : W p l e R s m args below meth c H locs cells slots Q (F0 m pc ls (.int x3 :: .int x2 :: .int x1 :: .ref (ad 1) :: rest)) := by
  obtain ⟨r, h1, h2⟩ := bnd h
  exact g_fi (g_rVN (As := [.int x1, .int x2, .int x3]) C hH (c_X1_reaches l C.2.2.2 σ x1 x2 x3 r h1) (q0 := 1) mw_c_X1_reaches mw_m_X0_73 mw_i_X1_reaches mw_v_X1_reaches mw_in_X1 ok_X1_reaches ⟨rfl, rfl⟩ rfl rfl rfl hR hcs hl rfl hW hdg) hH.2 (fun H1 locs1 hH1 => kk r H1 locs1 hH1 h2)
theorem kl_X3_162 (C : gC p m c cc nL s args RX3 D (gT cy) (gw cy ad) A) {σ : GS} (hH : gH s D (gw cy ad) A σ H locs) {x1 x2 x3 : Int32} {α : Type} {k : Int32 → Option α} {y : α} (h : (f_X1_reaches σ x1 x2 x3).bind k = some y) (hR : 2 ≤ R.frames ∧ 47 ≤ R.locals) (hcs : cells ≤ R.cells ∧ slots ≤ R.slots) (hl : ls.size = nL) (hW : (rest.map fun v => v.category).sum ≤ 8) (hdg : decode cc pc = .ok (.invokevirtual 162, 3)) (kk : ∀ (r : Int32) (H1 : Heap) (locs1 : List Loc), gH s D (gw cy ad) A σ H1 locs1 → k r = some y → W p l e R s m args below meth c H1 locs1 cells slots Q (F0 m (pc + 3) ls (.int r :: rest))) : W p l e R s m args below meth c H locs cells slots Q (F0 m pc ls (.int x3 :: .int x2 :: .int x1 :: .ref (ad 1) :: rest)) := by
  obtain ⟨r, h1, h2⟩ := bnd h
  exact g_fi (g_rVN (As := [.int x1, .int x2, .int x3]) C hH (c_X1_reaches l C.2.2.2 σ x1 x2 x3 r h1) (q0 := 1) mw_c_X1_reaches mw_m_X3_162 mw_i_X1_reaches mw_v_X1_reaches mw_in_X1 ok_X1_reaches ⟨rfl, rfl⟩ rfl rfl rfl hR hcs hl rfl hW hdg) hH.2 (fun H1 locs1 hH1 => kk r H1 locs1 hH1 h2)
end KL
set_option maxHeartbeats 4000000 in
set_option maxRecDepth 100000 in
theorem c_X0_overBarIn (l : Launch) {D : va_G} {cy : Nat → ClassId} {ad : Nat → Nat} {A : Nat → Prop} (hD : ∀ σ, va_D A (gw cy ad σ)) (σ : GS) (x1 : Int32) (r0 : Int32) (h : f_X0_overBarIn σ x1 = some r0) : gMi l yX0_overBarIn (wsM yX0_overBarIn cX0_overBarIn 5 (some .int)) ({ frames := 2, cells := 0, slots := 0, locals := 47 } : Room) D (gT cy) (gw cy ad) A [.ref (ad 5), .int x1] σ σ r0 := by
  refine gMi.of (own := RX0) rfl (by decide) (Nat.le_of_ble_eq_true rfl) hD ?_
  intro p e s m below meth c ls C hx hb hr hlk hH hl
  have hl : lv_has ls 5 [(0, .ref (ad 5)), (1, .int x1)] := hl
  unfold f_X0_overBarIn at h
  refine lv_iconst (v := 0) hx hb dX0_overBarIn_0 (by decide) ?_
  refine lv_istore_n (lv' := [(2, .int (0)), (0, .ref (ad 5)), (1, .int x1)]) hx hb dX0_overBarIn_1 rfl hl (by decide) rfl (fun ls hl => ?_)
  refine lv_iconst (v := 0) hx hb dX0_overBarIn_2 (by decide) ?_
  refine lv_istore_n (lv' := [(3, .int (0)), (2, .int (0)), (0, .ref (ad 5)), (1, .int x1)]) hx hb dX0_overBarIn_3 rfl hl (by decide) rfl (fun ls hl => ?_)
  have L4 : ∀ (n : Nat) (y4_2 : Int32) (y4_3 : Int32) (H : Heap) (locs : List Loc) (ls : Array Slot), gH s D (gw cy ad) A σ H locs → lv_has ls 5 [(0, .ref (ad 5)), (1, .int x1), (2, .int y4_2), (3, .int y4_3)] → ∀ X, itr (f_X0_overBarIn_b4 σ x1) n (y4_2, y4_3) = some X → (∀ (z4_0_2 : Int32) (H : Heap) (locs : List Loc) (ls : Array Slot), gH s D (gw cy ad) A σ H locs → lv_has ls 5 [(2, .int z4_0_2)] → X = z4_0_2 → W p l e ({ frames := 2, cells := 0, slots := 0, locals := 47 } : Room) s m [.ref (ad 5), .int x1].toArray below meth c H locs 0 0 (MQ below (gQi D (gw cy ad) A σ r0) [.ref (ad 5), .int x1].toArray s 0 0 A) (F0 m 79 ls [])) → W p l e ({ frames := 2, cells := 0, slots := 0, locals := 47 } : Room) s m [.ref (ad 5), .int x1].toArray below meth c H locs 0 0 (MQ below (gQi D (gw cy ad) A σ r0) [.ref (ad 5), .int x1].toArray s 0 0 A) (F0 m 4 ls []) := by
    intro n
    induction n with
    | zero =>
      intro y4_2 y4_3 H locs ls hH hl X h K
      exact itr_0 h
    | succ n ih =>
      intro y4_2 y4_3 H locs ls hH hl X h0 K
      obtain ⟨o, h, h2⟩ := itr_step h0
      unfold f_X0_overBarIn_b4 at h
      refine lv_iload_n hx hb dX0_overBarIn_4 rfl (lv_at hl 3 rfl) ?_
      refine lv_aload_n hx hb dX0_overBarIn_5 rfl (lv_at hl 0 rfl) ?_
      refine gf_X0_9 C hH dX0_overBarIn_6 ?_
      refine gf_X0_30 C hH dX0_overBarIn_9 ?_
      refine gb_icmp_ge (tgt := 79) hx hb dX0_overBarIn_12 (by decide) h (fun h => ?_) (fun h => ?_)
      · exact K _ _ _ _ hH (lv_sub hl [2] rfl) (nxt_r h h2)
      · refine lv_aload_n hx hb dX0_overBarIn_15 rfl (lv_at hl 0 rfl) ?_
        refine gf_X0_9 C hH dX0_overBarIn_16 ?_
        refine gf_X0_67 C hH dX0_overBarIn_19 ?_
        refine lv_iload_n hx hb dX0_overBarIn_22 rfl (lv_at hl 3 rfl) ?_
        refine gal_al C hH h dX0_overBarIn_23 (fun h => ?_)
        refine gb_if_ne (tgt := 44) hx hb dX0_overBarIn_24 (by decide) h (fun h => ?_) (fun h => ?_)
        · refine lv_aload_n hx hb dX0_overBarIn_44 rfl (lv_at hl 0 rfl) ?_
          refine gf_X0_9 C hH dX0_overBarIn_45 ?_
          refine lv_iload_n hx hb dX0_overBarIn_48 rfl (lv_at hl 3 rfl) ?_
          refine lv_iload_n hx hb dX0_overBarIn_49 rfl (lv_at hl 1 rfl) ?_
          refine lv_aload_n hx hb dX0_overBarIn_50 rfl (lv_at hl 0 rfl) ?_
          refine gf_X0_9 C hH dX0_overBarIn_51 ?_
          refine gf_X0_70 C hH dX0_overBarIn_54 ?_
          refine kl_X0_73 C hH h ⟨by decide, by decide⟩ ⟨by decide, by decide⟩ hl.1 (Nat.le_of_ble_eq_true rfl) dX0_overBarIn_57 (fun r1 H locs hH h => ?_)
          refine lv_istore (lv' := [(4, .int r1), (0, .ref (ad 5)), (1, .int x1), (2, .int y4_2), (3, .int y4_3)]) hx hb dX0_overBarIn_60 hl (by decide) rfl (fun ls hl => ?_)
          refine lv_iload hx hb dX0_overBarIn_62 (lv_at hl 0 rfl) ?_
          refine gb_if_eq (tgt := 73) hx hb dX0_overBarIn_64 (by decide) h (fun h => ?_) (fun h => ?_)
          · refine lv_iinc (v := (y4_3 + (1 : Int32))) (lv' := [(3, .int (y4_3 + (1 : Int32))), (4, .int r1), (0, .ref (ad 5)), (1, .int x1), (2, .int y4_2)]) hx hb dX0_overBarIn_73 hl (k := 4) rfl rfl (by decide) rfl (fun ls hl => ?_)
            refine lv_goto (tgt := 4) hx hb dX0_overBarIn_76 (by decide) ?_
            exact ih _ _ _ _ _ hH (lv_sub hl [2, 3, 4, 0] rfl) X (nxt_l h h2) K
          · refine lv_iload_n hx hb dX0_overBarIn_67 rfl (lv_at hl 3 rfl) ?_
            refine lv_iconst (v := 1) hx hb dX0_overBarIn_68 (by decide) ?_
            refine lv_iload_n hx hb dX0_overBarIn_69 rfl (lv_at hl 4 rfl) ?_
            refine lv_ishl hx hb dX0_overBarIn_70 ?_
            refine lv_ior hx hb dX0_overBarIn_71 ?_
            refine lv_istore_n (lv' := [(2, .int (y4_2 ||| ((1 : Int32) <<< (y4_3 &&& 31)))), (4, .int r1), (0, .ref (ad 5)), (1, .int x1), (3, .int y4_3)]) hx hb dX0_overBarIn_72 rfl hl (by decide) rfl (fun ls hl => ?_)
            refine lv_iinc (v := (y4_3 + (1 : Int32))) (lv' := [(3, .int (y4_3 + (1 : Int32))), (2, .int (y4_2 ||| ((1 : Int32) <<< (y4_3 &&& 31)))), (4, .int r1), (0, .ref (ad 5)), (1, .int x1)]) hx hb dX0_overBarIn_73 hl (k := 4) rfl rfl (by decide) rfl (fun ls hl => ?_)
            refine lv_goto (tgt := 4) hx hb dX0_overBarIn_76 (by decide) ?_
            exact ih _ _ _ _ _ hH (lv_sub hl [3, 4, 1, 0] rfl) X (nxt_l h h2) K
        · refine lv_iload_n hx hb dX0_overBarIn_27 rfl (lv_at hl 3 rfl) ?_
          refine lv_iload_n hx hb dX0_overBarIn_28 rfl (lv_at hl 1 rfl) ?_
          refine kl_X0_58 C hH h ⟨by decide, by decide⟩ ⟨by decide, by decide⟩ hl.1 (Nat.le_of_ble_eq_true rfl) dX0_overBarIn_29 (fun r2 H locs hH h => ?_)
          refine lv_iconst (v := 1) hx hb dX0_overBarIn_32 (by decide) ?_
          refine gb_icmp_ne (tgt := 40) hx hb dX0_overBarIn_33 (by decide) h (fun h => ?_) (fun h => ?_)
          · refine lv_iconst (v := 0) hx hb dX0_overBarIn_40 (by decide) ?_
            refine lv_goto (tgt := 60) hx hb dX0_overBarIn_41 (by decide) ?_
            refine lv_istore (lv' := [(4, .int (0)), (0, .ref (ad 5)), (1, .int x1), (2, .int y4_2), (3, .int y4_3)]) hx hb dX0_overBarIn_60 hl (by decide) rfl (fun ls hl => ?_)
            refine lv_iload hx hb dX0_overBarIn_62 (lv_at hl 0 rfl) ?_
            refine lv_if_eq (tgt := 73) hx hb dX0_overBarIn_64 (by decide) (fun _ => ?_) (fun q => absurd q (by decide))
            refine lv_iinc (v := (y4_3 + (1 : Int32))) (lv' := [(3, .int (y4_3 + (1 : Int32))), (4, .int (0)), (0, .ref (ad 5)), (1, .int x1), (2, .int y4_2)]) hx hb dX0_overBarIn_73 hl (k := 4) rfl rfl (by decide) rfl (fun ls hl => ?_)
            refine lv_goto (tgt := 4) hx hb dX0_overBarIn_76 (by decide) ?_
            exact ih _ _ _ _ _ hH (lv_sub hl [2, 3, 4, 0] rfl) X (nxt_l h h2) K
          · refine lv_iconst (v := 1) hx hb dX0_overBarIn_36 (by decide) ?_
            refine lv_goto (tgt := 60) hx hb dX0_overBarIn_37 (by decide) ?_
            refine lv_istore (lv' := [(4, .int (1)), (0, .ref (ad 5)), (1, .int x1), (2, .int y4_2), (3, .int y4_3)]) hx hb dX0_overBarIn_60 hl (by decide) rfl (fun ls hl => ?_)
            refine lv_iload hx hb dX0_overBarIn_62 (lv_at hl 0 rfl) ?_
            refine lv_if_eq (tgt := 73) hx hb dX0_overBarIn_64 (by decide) (fun q => absurd q (by decide)) (fun _ => ?_)
            refine lv_iload_n hx hb dX0_overBarIn_67 rfl (lv_at hl 3 rfl) ?_
            refine lv_iconst (v := 1) hx hb dX0_overBarIn_68 (by decide) ?_
            refine lv_iload_n hx hb dX0_overBarIn_69 rfl (lv_at hl 4 rfl) ?_
            refine lv_ishl hx hb dX0_overBarIn_70 ?_
            refine lv_ior hx hb dX0_overBarIn_71 ?_
            refine lv_istore_n (lv' := [(2, .int (y4_2 ||| ((1 : Int32) <<< (y4_3 &&& 31)))), (4, .int (1)), (0, .ref (ad 5)), (1, .int x1), (3, .int y4_3)]) hx hb dX0_overBarIn_72 rfl hl (by decide) rfl (fun ls hl => ?_)
            refine lv_iinc (v := (y4_3 + (1 : Int32))) (lv' := [(3, .int (y4_3 + (1 : Int32))), (2, .int (y4_2 ||| ((1 : Int32) <<< (y4_3 &&& 31)))), (4, .int (1)), (0, .ref (ad 5)), (1, .int x1)]) hx hb dX0_overBarIn_73 hl (k := 4) rfl rfl (by decide) rfl (fun ls hl => ?_)
            refine lv_goto (tgt := 4) hx hb dX0_overBarIn_76 (by decide) ?_
            exact ih _ _ _ _ _ hH (lv_sub hl [3, 4, 1, 0] rfl) X (nxt_l h h2) K
  obtain ⟨X4, hX4, h⟩ := bnd h
  refine L4 FU ((0 : Int32)) ((0 : Int32)) _ _ _ hH (lv_sub hl [2, 3, 1, 0] rfl) X4 hX4 ?_
  intro z4_0_2 H locs ls hH hl hE
  replace hE := hE.symm
  subst hE
  refine lv_iload_n hx hb dX0_overBarIn_79 rfl (lv_at hl 0 rfl) ?_
  exact g_iret hx hb hr hlk hH ⟨Option.some.inj h, rfl⟩ dX0_overBarIn_80
theorem ok_X0_overBarIn : okName yX0_overBarIn 1 := ⟨by decide, by decide, by decide +kernel⟩
section KL
variable {p : Program} {l : Launch} {e : Env} {R : Room} {s : State} {m : MethodId} {args : Array Value} {below : List Frame} {meth : Method} {c : Code} {H : Heap} {locs : List Loc} {cells slots : Nat} {Q : State → Prop} {cc : ByteArray} {pc nL : Nat} {ls : Array Slot} {rest : List Value}
variable {A : Nat → Prop} {D : va_G} {cy : Nat → ClassId} {ad : Nat → Nat}
theorem kl_X0_47 (C : gC p m c cc nL s args RX0 D (gT cy) (gw cy ad) A) {σ : GS} (hH : gH s D (gw cy ad) A σ H locs) {x1 : Int32} {α : Type} {k : Int32 → Option α} {y : α} (h : (f_X0_overBarIn σ x1).bind k = some y) (hR : 3 ≤ R.frames ∧ 71 ≤ R.locals) (hcs : cells ≤ R.cells ∧ slots ≤ R.slots) (hl : ls.size = nL) (hW : (rest.map fun v => v.category).sum ≤ 8) (hdg : decode cc pc = .ok (.invokevirtual 47, 3)) (kk : ∀ (r : Int32) (H1 : Heap) (locs1 : List Loc), gH s D (gw cy ad) A σ H1 locs1 → k r = some y → W p l e R s m args below meth c H1 locs1 cells slots Q (F0 m (pc + 3) ls (.int r :: rest))) : W p l e R s m args below meth c H locs cells slots Q (F0 m pc ls (.int x1 :: .ref (ad 5) :: rest)) := by
  obtain ⟨r, h1, h2⟩ := bnd h
  exact g_fi (g_rV (As := [.int x1]) C hH (c_X0_overBarIn l C.2.2.2 σ x1 r h1) (q0 := 5) mw_c_X0_overBarIn mw_m_X0_47 mw_i_X0_overBarIn mw_v_X0_overBarIn mw_in_X0 ok_X0_overBarIn ⟨rfl, rfl⟩ rfl rfl rfl hR hcs hl rfl hW hdg) hH.2 (fun H1 locs1 hH1 => kk r H1 locs1 hH1 h2)
end KL
set_option maxHeartbeats 4000000 in
set_option maxRecDepth 100000 in
theorem c_X0_wishOf (l : Launch) {D : va_G} {cy : Nat → ClassId} {ad : Nat → Nat} {A : Nat → Prop} (hD : ∀ σ, va_D A (gw cy ad σ)) (σ : GS) (x1 x2 : Int32) (r0 : Int32) (σ0 : GS) (h : f_X0_wishOf σ x1 x2 = some (r0, σ0)) : gMi l yX0_wishOf (wsM yX0_wishOf cX0_wishOf 4 (some .int)) ({ frames := 3, cells := 0, slots := 0, locals := 74 } : Room) D (gT cy) (gw cy ad) A [.ref (ad 5), .int x1, .int x2] σ σ0 r0 := by
  refine gMi.of (own := RX0) rfl (by decide) (Nat.le_of_ble_eq_true rfl) hD ?_
  intro p e s m below meth c ls C hx hb hr hlk hH hl
  have hl : lv_has ls 4 [(0, .ref (ad 5)), (1, .int x1), (2, .int x2)] := hl
  unfold f_X0_wishOf at h
  have J14 : ∀ (σj14 : GS) (H : Heap) (locs : List Loc) (ls : Array Slot), gH s D (gw cy ad) A σj14 H locs → lv_has ls 4 [(0, .ref (ad 5)), (1, .int x1), (2, .int x2)] → f_X0_wishOf_j14 x1 x2 σj14 = some (r0, σ0) → W p l e ({ frames := 3, cells := 0, slots := 0, locals := 74 } : Room) s m [.ref (ad 5), .int x1, .int x2].toArray below meth c H locs 0 0 (MQ below (gQi D (gw cy ad) A σ0 r0) [.ref (ad 5), .int x1, .int x2].toArray s 0 0 A) (F0 m 14 ls []) := by
    intro σj14 H locs ls hH hl h
    unfold f_X0_wishOf_j14 at h
    refine lv_iload_n hx hb dX0_wishOf_14 rfl (lv_at hl 1 rfl) ?_
    refine lv_sipush (v := 1024) hx hb dX0_wishOf_15 (by decide) ?_
    refine lv_imul hx hb dX0_wishOf_18 ?_
    refine lv_iload_n hx hb dX0_wishOf_19 rfl (lv_at hl 2 rfl) ?_
    refine lv_iadd hx hb dX0_wishOf_20 ?_
    refine lv_istore_n (lv' := [(3, .int ((x1 * (1024 : Int32)) + x2)), (0, .ref (ad 5)), (1, .int x1), (2, .int x2)]) hx hb dX0_wishOf_21 rfl hl (by decide) rfl (fun ls hl => ?_)
    refine lv_aload_n hx hb dX0_wishOf_22 rfl (lv_at hl 1 rfl) ?_
    refine gf_X0_15 C hH dX0_wishOf_23 ?_
    refine lv_iload_n hx hb dX0_wishOf_26 rfl (lv_at hl 0 rfl) ?_
    refine gal_wi C hH h dX0_wishOf_27 (fun h => ?_)
    refine lv_iconst (v := -1) hx hb dX0_wishOf_28 (by decide) ?_
    refine gb_icmp_ne (tgt := 99) hx hb dX0_wishOf_29 (by decide) h (fun h => ?_) (fun h => ?_)
    · refine lv_aload_n hx hb dX0_wishOf_99 rfl (lv_at hl 1 rfl) ?_
      refine gf_X0_15 C hH dX0_wishOf_100 ?_
      refine lv_iload_n hx hb dX0_wishOf_103 rfl (lv_at hl 0 rfl) ?_
      refine gal_wi C hH h dX0_wishOf_104 (fun h => ?_)
      exact g_iret hx hb hr hlk hH (Prod.mk.inj (Option.some.inj h)) dX0_wishOf_105
    · refine lv_iload_n hx hb dX0_wishOf_32 rfl (lv_at hl 2 rfl) ?_
      refine gb_sw h (fun c0 h => ?_) (fun c0 h => ?_)
      · refine lv_lookup (tgt := 60) (off := 27) hx hb dX0_wishOf_33 (by decide) (by rw [c0]; rfl) (by decide) ?_
        refine lv_aload_n hx hb dX0_wishOf_60 rfl (lv_at hl 1 rfl) ?_
        refine gf_X0_15 C hH dX0_wishOf_61 ?_
        refine lv_iload_n hx hb dX0_wishOf_64 rfl (lv_at hl 0 rfl) ?_
        refine lv_aload_n hx hb dX0_wishOf_65 rfl (lv_at hl 1 rfl) ?_
        refine lv_iload_n hx hb dX0_wishOf_66 rfl (lv_at hl 3 rfl) ?_
        refine kl_X0_40 C hH h ⟨by decide, by decide⟩ ⟨by decide, by decide⟩ hl.1 (Nat.le_of_ble_eq_true rfl) dX0_wishOf_67 (fun r1 H locs hH h => ?_)
        refine gas_wi C hH h dX0_wishOf_70 (fun h H locs hH => ?_)
        refine lv_goto (tgt := 99) hx hb dX0_wishOf_71 (by decide) ?_
        refine lv_aload_n hx hb dX0_wishOf_99 rfl (lv_at hl 1 rfl) ?_
        refine gf_X0_15 C hH dX0_wishOf_100 ?_
        refine lv_iload_n hx hb dX0_wishOf_103 rfl (lv_at hl 0 rfl) ?_
        refine gal_wi C hH h dX0_wishOf_104 (fun h => ?_)
        exact g_iret hx hb hr hlk hH (Prod.mk.inj (Option.some.inj h)) dX0_wishOf_105
      · refine gb_sw h (fun c1 h => ?_) (fun c1 h => ?_)
        · refine lv_lookup (tgt := 74) (off := 41) hx hb dX0_wishOf_33 (by decide) (by rw [c1]; rfl) (by decide) ?_
          refine lv_aload_n hx hb dX0_wishOf_74 rfl (lv_at hl 1 rfl) ?_
          refine gf_X0_15 C hH dX0_wishOf_75 ?_
          refine lv_iload_n hx hb dX0_wishOf_78 rfl (lv_at hl 0 rfl) ?_
          refine lv_aload_n hx hb dX0_wishOf_79 rfl (lv_at hl 1 rfl) ?_
          refine lv_iload_n hx hb dX0_wishOf_80 rfl (lv_at hl 3 rfl) ?_
          refine kl_X0_44 C hH h ⟨by decide, by decide⟩ ⟨by decide, by decide⟩ hl.1 (Nat.le_of_ble_eq_true rfl) dX0_wishOf_81 (fun r2 σ2 H locs hH h => ?_)
          refine gas_wi C hH h dX0_wishOf_84 (fun h H locs hH => ?_)
          refine lv_goto (tgt := 99) hx hb dX0_wishOf_85 (by decide) ?_
          refine lv_aload_n hx hb dX0_wishOf_99 rfl (lv_at hl 1 rfl) ?_
          refine gf_X0_15 C hH dX0_wishOf_100 ?_
          refine lv_iload_n hx hb dX0_wishOf_103 rfl (lv_at hl 0 rfl) ?_
          refine gal_wi C hH h dX0_wishOf_104 (fun h => ?_)
          exact g_iret hx hb hr hlk hH (Prod.mk.inj (Option.some.inj h)) dX0_wishOf_105
        · refine lv_lookup (tgt := 88) (off := 55) hx hb dX0_wishOf_33 (by decide) (by rw [lv_osw c0 (by decide)]; rw [lv_osw c1 (by decide)]; try rfl) (by decide) ?_
          refine lv_aload_n hx hb dX0_wishOf_88 rfl (lv_at hl 1 rfl) ?_
          refine gf_X0_15 C hH dX0_wishOf_89 ?_
          refine lv_iload_n hx hb dX0_wishOf_92 rfl (lv_at hl 0 rfl) ?_
          refine lv_aload_n hx hb dX0_wishOf_93 rfl (lv_at hl 1 rfl) ?_
          refine lv_iload_n hx hb dX0_wishOf_94 rfl (lv_at hl 3 rfl) ?_
          refine kl_X0_47 C hH h ⟨by decide, by decide⟩ ⟨by decide, by decide⟩ hl.1 (Nat.le_of_ble_eq_true rfl) dX0_wishOf_95 (fun r3 H locs hH h => ?_)
          refine gas_wi C hH h dX0_wishOf_98 (fun h H locs hH => ?_)
          refine lv_aload_n hx hb dX0_wishOf_99 rfl (lv_at hl 1 rfl) ?_
          refine gf_X0_15 C hH dX0_wishOf_100 ?_
          refine lv_iload_n hx hb dX0_wishOf_103 rfl (lv_at hl 0 rfl) ?_
          refine gal_wi C hH h dX0_wishOf_104 (fun h => ?_)
          exact g_iret hx hb hr hlk hH (Prod.mk.inj (Option.some.inj h)) dX0_wishOf_105
  refine lv_aload_n hx hb dX0_wishOf_0 rfl (lv_at hl 0 rfl) ?_
  refine gf_X0_19 C hH dX0_wishOf_1 ?_
  refine lv_iload_n hx hb dX0_wishOf_4 rfl (lv_at hl 1 rfl) ?_
  refine gal_us C hH h dX0_wishOf_5 (fun h => ?_)
  refine gb_if_ne (tgt := 14) hx hb dX0_wishOf_6 (by decide) h (fun h => ?_) (fun h => ?_)
  · exact J14 σ _ _ _ hH (lv_sub hl [0, 1, 2] rfl) h
  · refine lv_aload_n hx hb dX0_wishOf_9 rfl (lv_at hl 0 rfl) ?_
    refine lv_iload_n hx hb dX0_wishOf_10 rfl (lv_at hl 1 rfl) ?_
    refine kl_X0_36 C hH h ⟨by decide, by decide⟩ ⟨by decide, by decide⟩ hl.1 (Nat.le_of_ble_eq_true rfl) dX0_wishOf_11 (fun σ4 H locs hH h => ?_)
    exact J14 σ4 _ _ _ hH (lv_sub hl [0, 1, 2] rfl) h
theorem ok_X0_wishOf : okName yX0_wishOf 2 := ⟨by decide, by decide, by decide +kernel⟩
section KL
variable {p : Program} {l : Launch} {e : Env} {R : Room} {s : State} {m : MethodId} {args : Array Value} {below : List Frame} {meth : Method} {c : Code} {H : Heap} {locs : List Loc} {cells slots : Nat} {Q : State → Prop} {cc : ByteArray} {pc nL : Nat} {ls : Array Slot} {rest : List Value}
variable {A : Nat → Prop} {D : va_G} {cy : Nat → ClassId} {ad : Nat → Nat}
theorem kl_X0_26 (C : gC p m c cc nL s args RX0 D (gT cy) (gw cy ad) A) {σ : GS} (hH : gH s D (gw cy ad) A σ H locs) {x1 x2 : Int32} {α : Type} {k : Int32 × GS → Option α} {y : α} (h : (f_X0_wishOf σ x1 x2).bind k = some y) (hR : 4 ≤ R.frames ∧ 97 ≤ R.locals) (hcs : cells ≤ R.cells ∧ slots ≤ R.slots) (hl : ls.size = nL) (hW : (rest.map fun v => v.category).sum ≤ 8) (hdg : decode cc pc = .ok (.invokevirtual 26, 3)) (kk : ∀ (r : Int32) (σ1 : GS) (H1 : Heap) (locs1 : List Loc), gH s D (gw cy ad) A σ1 H1 locs1 → k (r, σ1) = some y → W p l e R s m args below meth c H1 locs1 cells slots Q (F0 m (pc + 3) ls (.int r :: rest))) : W p l e R s m args below meth c H locs cells slots Q (F0 m pc ls (.int x2 :: .int x1 :: .ref (ad 5) :: rest)) := by
  obtain ⟨⟨r, σ1⟩, h1, h2⟩ := bnd h
  exact g_fi (g_rV (As := [.int x1, .int x2]) C hH (c_X0_wishOf l C.2.2.2 σ x1 x2 r σ1 h1) (q0 := 5) mw_c_X0_wishOf mw_m_X0_26 mw_i_X0_wishOf mw_v_X0_wishOf mw_in_X0 ok_X0_wishOf ⟨rfl, rfl⟩ rfl rfl rfl hR hcs hl rfl hW hdg) hH.2 (fun H1 locs1 hH1 => kk r σ1 H1 locs1 hH1 h2)
end KL
set_option maxHeartbeats 4000000 in
set_option maxRecDepth 100000 in
theorem c_X0_next (l : Launch) {D : va_G} {cy : Nat → ClassId} {ad : Nat → Nat} {A : Nat → Prop} (hD : ∀ σ, va_D A (gw cy ad σ)) (σ : GS) (x1 x2 x3 : Int32) (r0 : Int32) (σ0 : GS) (h : f_X0_next σ x1 x2 x3 = some (r0, σ0)) : gMi l yX0_next (wsM yX0_next cX0_next 7 (some .int)) ({ frames := 4, cells := 0, slots := 0, locals := 97 } : Room) D (gT cy) (gw cy ad) A [.ref (ad 5), .int x1, .int x2, .int x3] σ σ0 r0 := by
  refine gMi.of (own := RX0) rfl (by decide) (Nat.le_of_ble_eq_true rfl) hD ?_
  intro p e s m below meth c ls C hx hb hr hlk hH hl
  have hl : lv_has ls 7 [(0, .ref (ad 5)), (1, .int x1), (2, .int x2), (3, .int x3)] := hl
  unfold f_X0_next at h
  refine lv_iload_n hx hb dX0_next_0 rfl (lv_at hl 1 rfl) ?_
  refine lv_iconst (v := 3) hx hb dX0_next_1 (by decide) ?_
  refine gb_icmp_eq (tgt := 20) hx hb dX0_next_2 (by decide) h (fun h => ?_) (fun h => ?_)
  · refine lv_iload_n hx hb dX0_next_20 rfl (lv_at hl 3 rfl) ?_
    refine lv_istore (lv' := [(4, .int x3), (0, .ref (ad 5)), (1, .int x1), (2, .int x2), (3, .int x3)]) hx hb dX0_next_21 hl (by decide) rfl (fun ls hl => ?_)
    refine lv_iconst (v := 0) hx hb dX0_next_23 (by decide) ?_
    refine lv_istore (lv' := [(5, .int (0)), (4, .int x3), (0, .ref (ad 5)), (1, .int x1), (2, .int x2), (3, .int x3)]) hx hb dX0_next_24 hl (by decide) rfl (fun ls hl => ?_)
    have L26 : ∀ (n : Nat) (y26_4 : Int32) (y26_5 : Int32) (σ26 : GS) (H : Heap) (locs : List Loc) (ls : Array Slot), gH s D (gw cy ad) A σ26 H locs → lv_has ls 7 [(0, .ref (ad 5)), (2, .int x2), (4, .int y26_4), (5, .int y26_5)] → ∀ X, itr (f_X0_next_b26 x2) n (y26_4, y26_5, σ26) = some X → (∀ (z26_0_4 : Int32) (σz26_0 : GS) (H : Heap) (locs : List Loc) (ls : Array Slot), gH s D (gw cy ad) A σz26_0 H locs → lv_has ls 7 [(4, .int z26_0_4)] → X = (z26_0_4, σz26_0) → W p l e ({ frames := 4, cells := 0, slots := 0, locals := 97 } : Room) s m [.ref (ad 5), .int x1, .int x2, .int x3].toArray below meth c H locs 0 0 (MQ below (gQi D (gw cy ad) A σ0 r0) [.ref (ad 5), .int x1, .int x2, .int x3].toArray s 0 0 A) (F0 m 74 ls [])) → W p l e ({ frames := 4, cells := 0, slots := 0, locals := 97 } : Room) s m [.ref (ad 5), .int x1, .int x2, .int x3].toArray below meth c H locs 0 0 (MQ below (gQi D (gw cy ad) A σ0 r0) [.ref (ad 5), .int x1, .int x2, .int x3].toArray s 0 0 A) (F0 m 26 ls []) := by
      intro n
      induction n with
      | zero =>
        intro y26_4 y26_5 σ26 H locs ls hH hl X h K
        exact itr_0 h
      | succ n ih =>
        intro y26_4 y26_5 σ26 H locs ls hH hl X h0 K
        obtain ⟨o, h, h2⟩ := itr_step h0
        unfold f_X0_next_b26 at h
        refine lv_iload hx hb dX0_next_26 (lv_at hl 3 rfl) ?_
        refine lv_aload_n hx hb dX0_next_28 rfl (lv_at hl 0 rfl) ?_
        refine gf_X0_9 C hH dX0_next_29 ?_
        refine gf_X0_30 C hH dX0_next_32 ?_
        refine gb_icmp_ge (tgt := 74) hx hb dX0_next_35 (by decide) h (fun h => ?_) (fun h => ?_)
        · exact K _ _ _ _ _ hH (lv_sub hl [2] rfl) (nxt_r h h2)
        · refine lv_iconst (v := 1) hx hb dX0_next_38 (by decide) ?_
          refine lv_iload hx hb dX0_next_39 (lv_at hl 3 rfl) ?_
          refine lv_ishl hx hb dX0_next_41 ?_
          refine lv_iload_n hx hb dX0_next_42 rfl (lv_at hl 1 rfl) ?_
          refine lv_iconst (v := -1) hx hb dX0_next_43 (by decide) ?_
          refine lv_ixor hx hb dX0_next_44 ?_
          refine lv_iand hx hb dX0_next_45 ?_
          refine lv_istore (lv' := [(6, .int (((1 : Int32) <<< (y26_5 &&& 31)) &&& (x2 ^^^ (-1 : Int32)))), (0, .ref (ad 5)), (2, .int x2), (4, .int y26_4), (5, .int y26_5)]) hx hb dX0_next_46 hl (by decide) rfl (fun ls hl => ?_)
          refine lv_aload_n hx hb dX0_next_48 rfl (lv_at hl 1 rfl) ?_
          refine lv_iconst (v := 0) hx hb dX0_next_49 (by decide) ?_
          refine lv_iload hx hb dX0_next_50 (lv_at hl 3 rfl) ?_
          refine kl_X0_26 C hH h ⟨by decide, by decide⟩ ⟨by decide, by decide⟩ hl.1 (Nat.le_of_ble_eq_true rfl) dX0_next_52 (fun r1 σ1 H locs hH h => ?_)
          refine lv_iload hx hb dX0_next_55 (lv_at hl 0 rfl) ?_
          refine lv_iand hx hb dX0_next_57 ?_
          refine lv_iload hx hb dX0_next_58 (lv_at hl 3 rfl) ?_
          refine lv_iload hx hb dX0_next_60 (lv_at hl 0 rfl) ?_
          refine lv_iconst (v := -1) hx hb dX0_next_62 (by decide) ?_
          refine lv_ixor hx hb dX0_next_63 ?_
          refine lv_iand hx hb dX0_next_64 ?_
          refine lv_ior hx hb dX0_next_65 ?_
          refine lv_istore (lv' := [(4, .int ((r1 &&& (((1 : Int32) <<< (y26_5 &&& 31)) &&& (x2 ^^^ (-1 : Int32)))) ||| (y26_4 &&& ((((1 : Int32) <<< (y26_5 &&& 31)) &&& (x2 ^^^ (-1 : Int32))) ^^^ (-1 : Int32))))), (6, .int (((1 : Int32) <<< (y26_5 &&& 31)) &&& (x2 ^^^ (-1 : Int32)))), (0, .ref (ad 5)), (2, .int x2), (5, .int y26_5)]) hx hb dX0_next_66 hl (by decide) rfl (fun ls hl => ?_)
          refine lv_iinc (v := (y26_5 + (1 : Int32))) (lv' := [(5, .int (y26_5 + (1 : Int32))), (4, .int ((r1 &&& (((1 : Int32) <<< (y26_5 &&& 31)) &&& (x2 ^^^ (-1 : Int32)))) ||| (y26_4 &&& ((((1 : Int32) <<< (y26_5 &&& 31)) &&& (x2 ^^^ (-1 : Int32))) ^^^ (-1 : Int32))))), (6, .int (((1 : Int32) <<< (y26_5 &&& 31)) &&& (x2 ^^^ (-1 : Int32)))), (0, .ref (ad 5)), (2, .int x2)]) hx hb dX0_next_68 hl (k := 4) rfl rfl (by decide) rfl (fun ls hl => ?_)
          refine lv_goto (tgt := 26) hx hb dX0_next_71 (by decide) ?_
          exact ih _ _ _ _ _ _ hH (lv_sub hl [3, 4, 1, 0] rfl) X (nxt_l h h2) K
    obtain ⟨X26, hX26, h⟩ := bnd h
    refine L26 FU x3 ((0 : Int32)) σ _ _ _ hH (lv_sub hl [2, 4, 1, 0] rfl) X26 hX26 ?_
    intro z26_0_4 σz26_0 H locs ls hH hl hE
    replace hE := hE.symm
    subst hE
    refine lv_iload hx hb dX0_next_74 (lv_at hl 0 rfl) ?_
    exact g_iret hx hb hr hlk hH (Prod.mk.inj (Option.some.inj h)) dX0_next_76
  · refine lv_aload_n hx hb dX0_next_5 rfl (lv_at hl 0 rfl) ?_
    refine lv_iload_n hx hb dX0_next_6 rfl (lv_at hl 1 rfl) ?_
    refine lv_iload_n hx hb dX0_next_7 rfl (lv_at hl 3 rfl) ?_
    refine kl_X0_26 C hH h ⟨by decide, by decide⟩ ⟨by decide, by decide⟩ hl.1 (Nat.le_of_ble_eq_true rfl) dX0_next_8 (fun r3 σ3 H locs hH h => ?_)
    refine lv_iload_n hx hb dX0_next_11 rfl (lv_at hl 2 rfl) ?_
    refine lv_iconst (v := -1) hx hb dX0_next_12 (by decide) ?_
    refine lv_ixor hx hb dX0_next_13 ?_
    refine lv_iand hx hb dX0_next_14 ?_
    refine lv_iload_n hx hb dX0_next_15 rfl (lv_at hl 3 rfl) ?_
    refine lv_iload_n hx hb dX0_next_16 rfl (lv_at hl 2 rfl) ?_
    refine lv_iand hx hb dX0_next_17 ?_
    refine lv_ior hx hb dX0_next_18 ?_
    exact g_iret hx hb hr hlk hH (Prod.mk.inj (Option.some.inj h)) dX0_next_19
theorem ok_X0_next : okName yX0_next 3 := ⟨by decide, by decide, by decide +kernel⟩
section KL
variable {p : Program} {l : Launch} {e : Env} {R : Room} {s : State} {m : MethodId} {args : Array Value} {below : List Frame} {meth : Method} {c : Code} {H : Heap} {locs : List Loc} {cells slots : Nat} {Q : State → Prop} {cc : ByteArray} {pc nL : Nat} {ls : Array Slot} {rest : List Value}
variable {A : Nat → Prop} {D : va_G} {cy : Nat → ClassId} {ad : Nat → Nat}
theorem kl_X2_53 (C : gC p m c cc nL s args RX2 D (gT cy) (gw cy ad) A) {σ : GS} (hH : gH s D (gw cy ad) A σ H locs) {x1 x2 x3 : Int32} {α : Type} {k : Int32 × GS → Option α} {y : α} (h : (f_X0_next σ x1 x2 x3).bind k = some y) (hR : 5 ≤ R.frames ∧ 123 ≤ R.locals) (hcs : cells ≤ R.cells ∧ slots ≤ R.slots) (hl : ls.size = nL) (hW : (rest.map fun v => v.category).sum ≤ 8) (hdg : decode cc pc = .ok (.invokevirtual 53, 3)) (kk : ∀ (r : Int32) (σ1 : GS) (H1 : Heap) (locs1 : List Loc), gH s D (gw cy ad) A σ1 H1 locs1 → k (r, σ1) = some y → W p l e R s m args below meth c H1 locs1 cells slots Q (F0 m (pc + 3) ls (.int r :: rest))) : W p l e R s m args below meth c H locs cells slots Q (F0 m pc ls (.int x3 :: .int x2 :: .int x1 :: .ref (ad 5) :: rest)) := by
  obtain ⟨⟨r, σ1⟩, h1, h2⟩ := bnd h
  exact g_fi (g_rVN (As := [.int x1, .int x2, .int x3]) C hH (c_X0_next l C.2.2.2 σ x1 x2 x3 r σ1 h1) (q0 := 5) mw_c_X0_next mw_m_X2_53 mw_i_X0_next mw_v_X0_next mw_in_X0 ok_X0_next ⟨rfl, rfl⟩ rfl rfl rfl hR hcs hl rfl hW hdg) hH.2 (fun H1 locs1 hH1 => kk r σ1 H1 locs1 hH1 h2)
theorem kl_X3_98 (C : gC p m c cc nL s args RX3 D (gT cy) (gw cy ad) A) {σ : GS} (hH : gH s D (gw cy ad) A σ H locs) {x1 x2 x3 : Int32} {α : Type} {k : Int32 × GS → Option α} {y : α} (h : (f_X0_next σ x1 x2 x3).bind k = some y) (hR : 5 ≤ R.frames ∧ 123 ≤ R.locals) (hcs : cells ≤ R.cells ∧ slots ≤ R.slots) (hl : ls.size = nL) (hW : (rest.map fun v => v.category).sum ≤ 8) (hdg : decode cc pc = .ok (.invokevirtual 98, 3)) (kk : ∀ (r : Int32) (σ1 : GS) (H1 : Heap) (locs1 : List Loc), gH s D (gw cy ad) A σ1 H1 locs1 → k (r, σ1) = some y → W p l e R s m args below meth c H1 locs1 cells slots Q (F0 m (pc + 3) ls (.int r :: rest))) : W p l e R s m args below meth c H locs cells slots Q (F0 m pc ls (.int x3 :: .int x2 :: .int x1 :: .ref (ad 5) :: rest)) := by
  obtain ⟨⟨r, σ1⟩, h1, h2⟩ := bnd h
  exact g_fi (g_rVN (As := [.int x1, .int x2, .int x3]) C hH (c_X0_next l C.2.2.2 σ x1 x2 x3 r σ1 h1) (q0 := 5) mw_c_X0_next mw_m_X3_98 mw_i_X0_next mw_v_X0_next mw_in_X0 ok_X0_next ⟨rfl, rfl⟩ rfl rfl rfl hR hcs hl rfl hW hdg) hH.2 (fun H1 locs1 hH1 => kk r σ1 H1 locs1 hH1 h2)
end KL
set_option maxHeartbeats 4000000 in
set_option maxRecDepth 100000 in
theorem c_X1_beginAnew (l : Launch) {D : va_G} {cy : Nat → ClassId} {ad : Nat → Nat} {A : Nat → Prop} (hD : ∀ σ, va_D A (gw cy ad σ)) (σ : GS) (x1 : Int32) (σ0 : GS) (h : f_X1_beginAnew σ x1 = some σ0) : gMv l yX1_beginAnew (wsM yX1_beginAnew cX1_beginAnew 3 none) ({ frames := 0, cells := 0, slots := 0, locals := 0 } : Room) D (gT cy) (gw cy ad) A [.ref (ad 1), .int x1] σ σ0 := by
  refine gMv.of (own := RX1) rfl (by decide) (Nat.le_of_ble_eq_true rfl) hD ?_
  intro p e s m below meth c ls C hx hb hr hlk hH hl
  have hl : lv_has ls 3 [(0, .ref (ad 1)), (1, .int x1)] := hl
  unfold f_X1_beginAnew at h
  refine lv_aload_n hx hb dX1_beginAnew_0 rfl (lv_at hl 0 rfl) ?_
  refine lv_iload_n hx hb dX1_beginAnew_1 rfl (lv_at hl 1 rfl) ?_
  refine pf_X1_21 C hH dX1_beginAnew_2 (fun H locs hH => ?_)
  refine lv_iconst (v := 0) hx hb dX1_beginAnew_5 (by decide) ?_
  refine lv_istore_n (lv' := [(2, .int (0)), (0, .ref (ad 1)), (1, .int x1)]) hx hb dX1_beginAnew_6 rfl hl (by decide) rfl (fun ls hl => ?_)
  have L7 : ∀ (n : Nat) (y7_2 : Int32) (σ7 : GS) (H : Heap) (locs : List Loc) (ls : Array Slot), gH s D (gw cy ad) A σ7 H locs → lv_has ls 3 [(0, .ref (ad 1)), (2, .int y7_2)] → ∀ X, itr f_X1_beginAnew_b7 n (y7_2, σ7) = some X → (∀ (σz7_0 : GS) (H : Heap) (locs : List Loc) (ls : Array Slot), gH s D (gw cy ad) A σz7_0 H locs → lv_has ls 3 [(0, .ref (ad 1))] → X = σz7_0 → W p l e ({ frames := 0, cells := 0, slots := 0, locals := 0 } : Room) s m [.ref (ad 1), .int x1].toArray below meth c H locs 0 0 (MQ below (gQv D (gw cy ad) A σ0) [.ref (ad 1), .int x1].toArray s 0 0 A) (F0 m 29 ls [])) → W p l e ({ frames := 0, cells := 0, slots := 0, locals := 0 } : Room) s m [.ref (ad 1), .int x1].toArray below meth c H locs 0 0 (MQ below (gQv D (gw cy ad) A σ0) [.ref (ad 1), .int x1].toArray s 0 0 A) (F0 m 7 ls []) := by
    intro n
    induction n with
    | zero =>
      intro y7_2 σ7 H locs ls hH hl X h K
      exact itr_0 h
    | succ n ih =>
      intro y7_2 σ7 H locs ls hH hl X h0 K
      obtain ⟨o, h, h2⟩ := itr_step h0
      unfold f_X1_beginAnew_b7 at h
      refine lv_iload_n hx hb dX1_beginAnew_7 rfl (lv_at hl 1 rfl) ?_
      refine lv_aload_n hx hb dX1_beginAnew_8 rfl (lv_at hl 0 rfl) ?_
      refine gf_X1_9 C hH dX1_beginAnew_9 ?_
      refine gan_we C hH dX1_beginAnew_12 ?_
      refine gb_icmp_ge (tgt := 29) hx hb dX1_beginAnew_13 (by decide) h (fun h => ?_) (fun h => ?_)
      · exact K _ _ _ _ hH (lv_sub hl [0] rfl) (nxt_r h h2)
      · refine lv_aload_n hx hb dX1_beginAnew_16 rfl (lv_at hl 0 rfl) ?_
        refine gf_X1_9 C hH dX1_beginAnew_17 ?_
        refine lv_iload_n hx hb dX1_beginAnew_20 rfl (lv_at hl 1 rfl) ?_
        refine lv_iconst (v := 0) hx hb dX1_beginAnew_21 (by decide) ?_
        refine gas_we C hH h dX1_beginAnew_22 (fun h H locs hH => ?_)
        refine lv_iinc (v := (y7_2 + (1 : Int32))) (lv' := [(2, .int (y7_2 + (1 : Int32))), (0, .ref (ad 1))]) hx hb dX1_beginAnew_23 hl (k := 1) rfl rfl (by decide) rfl (fun ls hl => ?_)
        refine lv_goto (tgt := 7) hx hb dX1_beginAnew_26 (by decide) ?_
        exact ih _ _ _ _ _ hH (lv_sub hl [1, 0] rfl) X (nxt_l h h2) K
  obtain ⟨X7, hX7, h⟩ := bnd h
  refine L7 FU ((0 : Int32)) ((gspl σ x1)) _ _ _ hH (lv_sub hl [1, 0] rfl) X7 hX7 ?_
  intro σz7_0 H locs ls hH hl hE
  replace hE := hE.symm
  subst hE
  refine lv_iconst (v := 0) hx hb dX1_beginAnew_29 (by decide) ?_
  refine lv_istore_n (lv' := [(2, .int (0)), (0, .ref (ad 1))]) hx hb dX1_beginAnew_30 rfl hl (by decide) rfl (fun ls hl => ?_)
  have L31 : ∀ (n : Nat) (y31_2 : Int32) (σ31 : GS) (H : Heap) (locs : List Loc) (ls : Array Slot), gH s D (gw cy ad) A σ31 H locs → lv_has ls 3 [(0, .ref (ad 1)), (2, .int y31_2)] → ∀ X, itr f_X1_beginAnew_b31 n (y31_2, σ31) = some X → (∀ (σz31_0 : GS) (H : Heap) (locs : List Loc) (ls : Array Slot), gH s D (gw cy ad) A σz31_0 H locs → lv_has ls 3 [] → X = σz31_0 → W p l e ({ frames := 0, cells := 0, slots := 0, locals := 0 } : Room) s m [.ref (ad 1), .int x1].toArray below meth c H locs 0 0 (MQ below (gQv D (gw cy ad) A σ0) [.ref (ad 1), .int x1].toArray s 0 0 A) (F0 m 53 ls [])) → W p l e ({ frames := 0, cells := 0, slots := 0, locals := 0 } : Room) s m [.ref (ad 1), .int x1].toArray below meth c H locs 0 0 (MQ below (gQv D (gw cy ad) A σ0) [.ref (ad 1), .int x1].toArray s 0 0 A) (F0 m 31 ls []) := by
    intro n
    induction n with
    | zero =>
      intro y31_2 σ31 H locs ls hH hl X h K
      exact itr_0 h
    | succ n ih =>
      intro y31_2 σ31 H locs ls hH hl X h0 K
      obtain ⟨o, h, h2⟩ := itr_step h0
      unfold f_X1_beginAnew_b31 at h
      refine lv_iload_n hx hb dX1_beginAnew_31 rfl (lv_at hl 1 rfl) ?_
      refine lv_aload_n hx hb dX1_beginAnew_32 rfl (lv_at hl 0 rfl) ?_
      refine gf_X1_15 C hH dX1_beginAnew_33 ?_
      refine gan_al C hH dX1_beginAnew_36 ?_
      refine gb_icmp_ge (tgt := 53) hx hb dX1_beginAnew_37 (by decide) h (fun h => ?_) (fun h => ?_)
      · exact K _ _ _ _ hH (lv_sub hl [] rfl) (nxt_r h h2)
      · refine lv_aload_n hx hb dX1_beginAnew_40 rfl (lv_at hl 0 rfl) ?_
        refine gf_X1_15 C hH dX1_beginAnew_41 ?_
        refine lv_iload_n hx hb dX1_beginAnew_44 rfl (lv_at hl 1 rfl) ?_
        refine lv_iconst (v := 0) hx hb dX1_beginAnew_45 (by decide) ?_
        refine gas_al C hH h dX1_beginAnew_46 (fun h H locs hH => ?_)
        refine lv_iinc (v := (y31_2 + (1 : Int32))) (lv' := [(2, .int (y31_2 + (1 : Int32))), (0, .ref (ad 1))]) hx hb dX1_beginAnew_47 hl (k := 1) rfl rfl (by decide) rfl (fun ls hl => ?_)
        refine lv_goto (tgt := 31) hx hb dX1_beginAnew_50 (by decide) ?_
        exact ih _ _ _ _ _ hH (lv_sub hl [1, 0] rfl) X (nxt_l h h2) K
  obtain ⟨X31, hX31, h⟩ := bnd h
  refine L31 FU ((0 : Int32)) σz7_0 _ _ _ hH (lv_sub hl [1, 0] rfl) X31 hX31 ?_
  intro σz31_0 H locs ls hH hl hE
  replace hE := hE.symm
  subst hE
  exact g_vret hx hb hr hlk hH (Option.some.inj h) dX1_beginAnew_53
theorem ok_X1_beginAnew : okName yX1_beginAnew 1 := ⟨by decide, by decide, by decide +kernel⟩
section KL
variable {p : Program} {l : Launch} {e : Env} {R : Room} {s : State} {m : MethodId} {args : Array Value} {below : List Frame} {meth : Method} {c : Code} {H : Heap} {locs : List Loc} {cells slots : Nat} {Q : State → Prop} {cc : ByteArray} {pc nL : Nat} {ls : Array Slot} {rest : List Value}
variable {A : Nat → Prop} {D : va_G} {cy : Nat → ClassId} {ad : Nat → Nat}
theorem kl_X3_48 (C : gC p m c cc nL s args RX3 D (gT cy) (gw cy ad) A) {σ : GS} (hH : gH s D (gw cy ad) A σ H locs) {x1 : Int32} {α : Type} {k : GS → Option α} {y : α} (h : (f_X1_beginAnew σ x1).bind k = some y) (hR : 1 ≤ R.frames ∧ 22 ≤ R.locals) (hcs : cells ≤ R.cells ∧ slots ≤ R.slots) (hl : ls.size = nL) (hW : (rest.map fun v => v.category).sum ≤ 8) (hdg : decode cc pc = .ok (.invokevirtual 48, 3)) (kk : ∀ (σ1 : GS) (H1 : Heap) (locs1 : List Loc), gH s D (gw cy ad) A σ1 H1 locs1 → k σ1 = some y → W p l e R s m args below meth c H1 locs1 cells slots Q (F0 m (pc + 3) ls (rest))) : W p l e R s m args below meth c H locs cells slots Q (F0 m pc ls (.int x1 :: .ref (ad 1) :: rest)) := by
  obtain ⟨σ1, h1, h2⟩ := bnd h
  exact g_fv (g_rVN (As := [.int x1]) C hH (c_X1_beginAnew l C.2.2.2 σ x1 σ1 h1) (q0 := 1) mw_c_X1_beginAnew mw_m_X3_48 mw_i_X1_beginAnew mw_v_X1_beginAnew mw_in_X1 ok_X1_beginAnew ⟨rfl, rfl⟩ rfl rfl rfl hR hcs hl rfl hW hdg) hH.2 (fun H1 locs1 hH1 => kk σ1 H1 locs1 hH1 h2)
end KL
set_option maxHeartbeats 4000000 in
set_option maxRecDepth 100000 in
theorem c_X1_has (l : Launch) {D : va_G} {cy : Nat → ClassId} {ad : Nat → Nat} {A : Nat → Prop} (hD : ∀ σ, va_D A (gw cy ad σ)) (σ : GS) (x1 : Int32) (r0 : Int32) (h : f_X1_has σ x1 = some r0) : gMi l yX1_has (wsM yX1_has cX1_has 2 (some .boolean)) ({ frames := 0, cells := 0, slots := 0, locals := 0 } : Room) D (gT cy) (gw cy ad) A [.ref (ad 1), .int x1] σ σ r0 := by
  refine gMi.of (own := RX1) rfl (by decide) (Nat.le_of_ble_eq_true rfl) hD ?_
  intro p e s m below meth c ls C hx hb hr hlk hH hl
  have hl : lv_has ls 2 [(0, .ref (ad 1)), (1, .int x1)] := hl
  unfold f_X1_has at h
  refine lv_iload_n hx hb dX1_has_0 rfl (lv_at hl 1 rfl) ?_
  refine gb_if_lt (tgt := 16) hx hb dX1_has_1 (by decide) h (fun h => ?_) (fun h => ?_)
  · refine lv_iconst (v := 0) hx hb dX1_has_16 (by decide) ?_
    exact g_zret hx hb hr hlk hH ⟨Option.some.inj h, rfl⟩ rfl dX1_has_17
  · refine lv_iload_n hx hb dX1_has_4 rfl (lv_at hl 1 rfl) ?_
    refine lv_aload_n hx hb dX1_has_5 rfl (lv_at hl 0 rfl) ?_
    refine gf_X1_21 C hH dX1_has_6 ?_
    refine gb_icmp_ge (tgt := 16) hx hb dX1_has_9 (by decide) h (fun h => ?_) (fun h => ?_)
    · refine lv_iconst (v := 0) hx hb dX1_has_16 (by decide) ?_
      exact g_zret hx hb hr hlk hH ⟨Option.some.inj h, rfl⟩ rfl dX1_has_17
    · refine lv_iconst (v := 1) hx hb dX1_has_12 (by decide) ?_
      refine lv_goto (tgt := 17) hx hb dX1_has_13 (by decide) ?_
      exact g_zret hx hb hr hlk hH ⟨Option.some.inj h, rfl⟩ rfl dX1_has_17
theorem ok_X1_has : okName yX1_has 1 := ⟨by decide, by decide, by decide +kernel⟩
section KL
variable {p : Program} {l : Launch} {e : Env} {R : Room} {s : State} {m : MethodId} {args : Array Value} {below : List Frame} {meth : Method} {c : Code} {H : Heap} {locs : List Loc} {cells slots : Nat} {Q : State → Prop} {cc : ByteArray} {pc nL : Nat} {ls : Array Slot} {rest : List Value}
variable {A : Nat → Prop} {D : va_G} {cy : Nat → ClassId} {ad : Nat → Nat}
theorem kl_X1_28 (C : gC p m c cc nL s args RX1 D (gT cy) (gw cy ad) A) {σ : GS} (hH : gH s D (gw cy ad) A σ H locs) {x1 : Int32} {α : Type} {k : Int32 → Option α} {y : α} (h : (f_X1_has σ x1).bind k = some y) (hR : 1 ≤ R.frames ∧ 21 ≤ R.locals) (hcs : cells ≤ R.cells ∧ slots ≤ R.slots) (hl : ls.size = nL) (hW : (rest.map fun v => v.category).sum ≤ 8) (hdg : decode cc pc = .ok (.invokevirtual 28, 3)) (kk : ∀ (r : Int32) (H1 : Heap) (locs1 : List Loc), gH s D (gw cy ad) A σ H1 locs1 → k r = some y → W p l e R s m args below meth c H1 locs1 cells slots Q (F0 m (pc + 3) ls (.int r :: rest))) : W p l e R s m args below meth c H locs cells slots Q (F0 m pc ls (.int x1 :: .ref (ad 1) :: rest)) := by
  obtain ⟨r, h1, h2⟩ := bnd h
  exact g_fi (g_rV (As := [.int x1]) C hH (c_X1_has l C.2.2.2 σ x1 r h1) (q0 := 1) mw_c_X1_has mw_m_X1_28 mw_i_X1_has mw_v_X1_has mw_in_X1 ok_X1_has ⟨rfl, rfl⟩ rfl rfl rfl hR hcs hl rfl hW hdg) hH.2 (fun H1 locs1 hH1 => kk r H1 locs1 hH1 h2)
theorem kl_X3_81 (C : gC p m c cc nL s args RX3 D (gT cy) (gw cy ad) A) {σ : GS} (hH : gH s D (gw cy ad) A σ H locs) {x1 : Int32} {α : Type} {k : Int32 → Option α} {y : α} (h : (f_X1_has σ x1).bind k = some y) (hR : 1 ≤ R.frames ∧ 21 ≤ R.locals) (hcs : cells ≤ R.cells ∧ slots ≤ R.slots) (hl : ls.size = nL) (hW : (rest.map fun v => v.category).sum ≤ 8) (hdg : decode cc pc = .ok (.invokevirtual 81, 3)) (kk : ∀ (r : Int32) (H1 : Heap) (locs1 : List Loc), gH s D (gw cy ad) A σ H1 locs1 → k r = some y → W p l e R s m args below meth c H1 locs1 cells slots Q (F0 m (pc + 3) ls (.int r :: rest))) : W p l e R s m args below meth c H locs cells slots Q (F0 m pc ls (.int x1 :: .ref (ad 1) :: rest)) := by
  obtain ⟨r, h1, h2⟩ := bnd h
  exact g_fi (g_rVN (As := [.int x1]) C hH (c_X1_has l C.2.2.2 σ x1 r h1) (q0 := 1) mw_c_X1_has mw_m_X3_81 mw_i_X1_has mw_v_X1_has mw_in_X1 ok_X1_has ⟨rfl, rfl⟩ rfl rfl rfl hR hcs hl rfl hW hdg) hH.2 (fun H1 locs1 hH1 => kk r H1 locs1 hH1 h2)
end KL
set_option maxHeartbeats 4000000 in
set_option maxRecDepth 100000 in
theorem c_X1_mayJoin (l : Launch) {D : va_G} {cy : Nat → ClassId} {ad : Nat → Nat} {A : Nat → Prop} (hD : ∀ σ, va_D A (gw cy ad σ)) (σ : GS) (x1 x2 : Int32) (r0 : Int32) (h : f_X1_mayJoin σ x1 x2 = some r0) : gMi l yX1_mayJoin (wsM yX1_mayJoin cX1_mayJoin 3 (some .boolean)) ({ frames := 1, cells := 0, slots := 0, locals := 21 } : Room) D (gT cy) (gw cy ad) A [.ref (ad 1), .int x1, .int x2] σ σ r0 := by
  refine gMi.of (own := RX1) rfl (by decide) (Nat.le_of_ble_eq_true rfl) hD ?_
  intro p e s m below meth c ls C hx hb hr hlk hH hl
  have hl : lv_has ls 3 [(0, .ref (ad 1)), (1, .int x1), (2, .int x2)] := hl
  unfold f_X1_mayJoin at h
  refine lv_aload_n hx hb dX1_mayJoin_0 rfl (lv_at hl 0 rfl) ?_
  refine lv_iload_n hx hb dX1_mayJoin_1 rfl (lv_at hl 1 rfl) ?_
  refine kl_X1_28 C hH h ⟨by decide, by decide⟩ ⟨by decide, by decide⟩ hl.1 (Nat.le_of_ble_eq_true rfl) dX1_mayJoin_2 (fun r1 H locs hH h => ?_)
  refine gb_if_eq (tgt := 25) hx hb dX1_mayJoin_5 (by decide) h (fun h => ?_) (fun h => ?_)
  · refine lv_iconst (v := 0) hx hb dX1_mayJoin_25 (by decide) ?_
    exact g_zret hx hb hr hlk hH ⟨Option.some.inj h, rfl⟩ rfl dX1_mayJoin_26
  · refine lv_aload_n hx hb dX1_mayJoin_8 rfl (lv_at hl 0 rfl) ?_
    refine lv_iload_n hx hb dX1_mayJoin_9 rfl (lv_at hl 2 rfl) ?_
    refine kl_X1_28 C hH h ⟨by decide, by decide⟩ ⟨by decide, by decide⟩ hl.1 (Nat.le_of_ble_eq_true rfl) dX1_mayJoin_10 (fun r2 H locs hH h => ?_)
    refine gb_if_eq (tgt := 25) hx hb dX1_mayJoin_13 (by decide) h (fun h => ?_) (fun h => ?_)
    · refine lv_iconst (v := 0) hx hb dX1_mayJoin_25 (by decide) ?_
      exact g_zret hx hb hr hlk hH ⟨Option.some.inj h, rfl⟩ rfl dX1_mayJoin_26
    · refine lv_iload_n hx hb dX1_mayJoin_16 rfl (lv_at hl 1 rfl) ?_
      refine lv_iload_n hx hb dX1_mayJoin_17 rfl (lv_at hl 2 rfl) ?_
      refine gb_icmp_eq (tgt := 25) hx hb dX1_mayJoin_18 (by decide) h (fun h => ?_) (fun h => ?_)
      · refine lv_iconst (v := 0) hx hb dX1_mayJoin_25 (by decide) ?_
        exact g_zret hx hb hr hlk hH ⟨Option.some.inj h, rfl⟩ rfl dX1_mayJoin_26
      · refine lv_iconst (v := 1) hx hb dX1_mayJoin_21 (by decide) ?_
        refine lv_goto (tgt := 26) hx hb dX1_mayJoin_22 (by decide) ?_
        exact g_zret hx hb hr hlk hH ⟨Option.some.inj h, rfl⟩ rfl dX1_mayJoin_26
theorem ok_X1_mayJoin : okName yX1_mayJoin 2 := ⟨by decide, by decide, by decide +kernel⟩
section KL
variable {p : Program} {l : Launch} {e : Env} {R : Room} {s : State} {m : MethodId} {args : Array Value} {below : List Frame} {meth : Method} {c : Code} {H : Heap} {locs : List Loc} {cells slots : Nat} {Q : State → Prop} {cc : ByteArray} {pc nL : Nat} {ls : Array Slot} {rest : List Value}
variable {A : Nat → Prop} {D : va_G} {cy : Nat → ClassId} {ad : Nat → Nat}
theorem kl_X3_55 (C : gC p m c cc nL s args RX3 D (gT cy) (gw cy ad) A) {σ : GS} (hH : gH s D (gw cy ad) A σ H locs) {x1 x2 : Int32} {α : Type} {k : Int32 → Option α} {y : α} (h : (f_X1_mayJoin σ x1 x2).bind k = some y) (hR : 2 ≤ R.frames ∧ 43 ≤ R.locals) (hcs : cells ≤ R.cells ∧ slots ≤ R.slots) (hl : ls.size = nL) (hW : (rest.map fun v => v.category).sum ≤ 8) (hdg : decode cc pc = .ok (.invokevirtual 55, 3)) (kk : ∀ (r : Int32) (H1 : Heap) (locs1 : List Loc), gH s D (gw cy ad) A σ H1 locs1 → k r = some y → W p l e R s m args below meth c H1 locs1 cells slots Q (F0 m (pc + 3) ls (.int r :: rest))) : W p l e R s m args below meth c H locs cells slots Q (F0 m pc ls (.int x2 :: .int x1 :: .ref (ad 1) :: rest)) := by
  obtain ⟨r, h1, h2⟩ := bnd h
  exact g_fi (g_rVN (As := [.int x1, .int x2]) C hH (c_X1_mayJoin l C.2.2.2 σ x1 x2 r h1) (q0 := 1) mw_c_X1_mayJoin mw_m_X3_55 mw_i_X1_mayJoin mw_v_X1_mayJoin mw_in_X1 ok_X1_mayJoin ⟨rfl, rfl⟩ rfl rfl rfl hR hcs hl rfl hW hdg) hH.2 (fun H1 locs1 hH1 => kk r H1 locs1 hH1 h2)
end KL
set_option maxHeartbeats 4000000 in
set_option maxRecDepth 100000 in
theorem c_X1_isState (l : Launch) {D : va_G} {cy : Nat → ClassId} {ad : Nat → Nat} {A : Nat → Prop} (hD : ∀ σ, va_D A (gw cy ad σ)) (σ : GS) (x1 : Int32) (r0 : Int32) (h : f_X1_isState σ x1 = some r0) : gMi l yX1_isState (wsM yX1_isState cX1_isState 2 (some .boolean)) ({ frames := 1, cells := 0, slots := 0, locals := 20 } : Room) D (gT cy) (gw cy ad) A [.ref (ad 1), .int x1] σ σ r0 := by
  refine gMi.of (own := RX1) rfl (by decide) (Nat.le_of_ble_eq_true rfl) hD ?_
  intro p e s m below meth c ls C hx hb hr hlk hH hl
  have hl : lv_has ls 2 [(0, .ref (ad 1)), (1, .int x1)] := hl
  unfold f_X1_isState at h
  refine lv_iload_n hx hb dX1_isState_0 rfl (lv_at hl 1 rfl) ?_
  refine gb_if_lt (tgt := 16) hx hb dX1_isState_1 (by decide) h (fun h => ?_) (fun h => ?_)
  · refine lv_iconst (v := 0) hx hb dX1_isState_16 (by decide) ?_
    exact g_zret hx hb hr hlk hH ⟨Option.some.inj h, rfl⟩ rfl dX1_isState_17
  · refine lv_iload_n hx hb dX1_isState_4 rfl (lv_at hl 1 rfl) ?_
    refine lv_aload_n hx hb dX1_isState_5 rfl (lv_at hl 0 rfl) ?_
    refine kl_X1_32 C hH h ⟨by decide, by decide⟩ ⟨by decide, by decide⟩ hl.1 (Nat.le_of_ble_eq_true rfl) dX1_isState_6 (fun r1 H locs hH h => ?_)
    refine gb_icmp_ge (tgt := 16) hx hb dX1_isState_9 (by decide) h (fun h => ?_) (fun h => ?_)
    · refine lv_iconst (v := 0) hx hb dX1_isState_16 (by decide) ?_
      exact g_zret hx hb hr hlk hH ⟨Option.some.inj h, rfl⟩ rfl dX1_isState_17
    · refine lv_iconst (v := 1) hx hb dX1_isState_12 (by decide) ?_
      refine lv_goto (tgt := 17) hx hb dX1_isState_13 (by decide) ?_
      exact g_zret hx hb hr hlk hH ⟨Option.some.inj h, rfl⟩ rfl dX1_isState_17
theorem ok_X1_isState : okName yX1_isState 1 := ⟨by decide, by decide, by decide +kernel⟩
section KL
variable {p : Program} {l : Launch} {e : Env} {R : Room} {s : State} {m : MethodId} {args : Array Value} {below : List Frame} {meth : Method} {c : Code} {H : Heap} {locs : List Loc} {cells slots : Nat} {Q : State → Prop} {cc : ByteArray} {pc nL : Nat} {ls : Array Slot} {rest : List Value}
variable {A : Nat → Prop} {D : va_G} {cy : Nat → ClassId} {ad : Nat → Nat}
theorem kl_X3_87 (C : gC p m c cc nL s args RX3 D (gT cy) (gw cy ad) A) {σ : GS} (hH : gH s D (gw cy ad) A σ H locs) {x1 : Int32} {α : Type} {k : Int32 → Option α} {y : α} (h : (f_X1_isState σ x1).bind k = some y) (hR : 2 ≤ R.frames ∧ 41 ≤ R.locals) (hcs : cells ≤ R.cells ∧ slots ≤ R.slots) (hl : ls.size = nL) (hW : (rest.map fun v => v.category).sum ≤ 8) (hdg : decode cc pc = .ok (.invokevirtual 87, 3)) (kk : ∀ (r : Int32) (H1 : Heap) (locs1 : List Loc), gH s D (gw cy ad) A σ H1 locs1 → k r = some y → W p l e R s m args below meth c H1 locs1 cells slots Q (F0 m (pc + 3) ls (.int r :: rest))) : W p l e R s m args below meth c H locs cells slots Q (F0 m pc ls (.int x1 :: .ref (ad 1) :: rest)) := by
  obtain ⟨r, h1, h2⟩ := bnd h
  exact g_fi (g_rVN (As := [.int x1]) C hH (c_X1_isState l C.2.2.2 σ x1 r h1) (q0 := 1) mw_c_X1_isState mw_m_X3_87 mw_i_X1_isState mw_v_X1_isState mw_in_X1 ok_X1_isState ⟨rfl, rfl⟩ rfl rfl rfl hR hcs hl rfl hW hdg) hH.2 (fun H1 locs1 hH1 => kk r H1 locs1 hH1 h2)
end KL
set_option maxHeartbeats 4000000 in
set_option maxRecDepth 100000 in
theorem c_X1_setWeight (l : Launch) {D : va_G} {cy : Nat → ClassId} {ad : Nat → Nat} {A : Nat → Prop} (hD : ∀ σ, va_D A (gw cy ad σ)) (σ : GS) (x1 x2 x3 : Int32) (σ0 : GS) (h : f_X1_setWeight σ x1 x2 x3 = some σ0) : gMv l yX1_setWeight (wsM yX1_setWeight cX1_setWeight 5 none) ({ frames := 1, cells := 0, slots := 0, locals := 22 } : Room) D (gT cy) (gw cy ad) A [.ref (ad 1), .int x1, .int x2, .int x3] σ σ0 := by
  refine gMv.of (own := RX1) rfl (by decide) (Nat.le_of_ble_eq_true rfl) hD ?_
  intro p e s m below meth c ls C hx hb hr hlk hH hl
  have hl : lv_has ls 5 [(0, .ref (ad 1)), (1, .int x1), (2, .int x2), (3, .int x3)] := hl
  unfold f_X1_setWeight at h
  refine lv_iload_n hx hb dX1_setWeight_0 rfl (lv_at hl 3 rfl) ?_
  refine lv_aload_n hx hb dX1_setWeight_1 rfl (lv_at hl 0 rfl) ?_
  refine lv_iload_n hx hb dX1_setWeight_2 rfl (lv_at hl 1 rfl) ?_
  refine lv_iload_n hx hb dX1_setWeight_3 rfl (lv_at hl 2 rfl) ?_
  refine kl_X1_36 C hH h ⟨by decide, by decide⟩ ⟨by decide, by decide⟩ hl.1 (Nat.le_of_ble_eq_true rfl) dX1_setWeight_4 (fun r1 H locs hH h => ?_)
  refine lv_isub hx hb dX1_setWeight_7 ?_
  refine lv_istore (lv' := [(4, .int (x3 - r1)), (0, .ref (ad 1)), (1, .int x1), (2, .int x2), (3, .int x3)]) hx hb dX1_setWeight_8 hl (by decide) rfl (fun ls hl => ?_)
  refine lv_aload_n hx hb dX1_setWeight_10 rfl (lv_at hl 1 rfl) ?_
  refine gf_X1_15 C hH dX1_setWeight_11 ?_
  refine lv_iload_n hx hb dX1_setWeight_14 rfl (lv_at hl 2 rfl) ?_
  refine lv_dup2_11 hx hb dX1_setWeight_15 rfl rfl ?_
  refine gal_al C hH h dX1_setWeight_16 (fun h => ?_)
  refine lv_iload hx hb dX1_setWeight_17 (lv_at hl 0 rfl) ?_
  refine lv_iadd hx hb dX1_setWeight_19 ?_
  refine gas_al C hH h dX1_setWeight_20 (fun h H locs hH => ?_)
  refine lv_aload_n hx hb dX1_setWeight_21 rfl (lv_at hl 1 rfl) ?_
  refine gf_X1_15 C hH dX1_setWeight_22 ?_
  refine lv_iload_n hx hb dX1_setWeight_25 rfl (lv_at hl 3 rfl) ?_
  refine lv_dup2_11 hx hb dX1_setWeight_26 rfl rfl ?_
  refine gal_al C hH h dX1_setWeight_27 (fun h => ?_)
  refine lv_iload hx hb dX1_setWeight_28 (lv_at hl 0 rfl) ?_
  refine lv_iadd hx hb dX1_setWeight_30 ?_
  refine gas_al C hH h dX1_setWeight_31 (fun h H locs hH => ?_)
  refine lv_aload_n hx hb dX1_setWeight_32 rfl (lv_at hl 1 rfl) ?_
  refine gf_X1_9 C hH dX1_setWeight_33 ?_
  refine lv_iload_n hx hb dX1_setWeight_36 rfl (lv_at hl 2 rfl) ?_
  refine lv_bipush (v := 10) hx hb dX1_setWeight_37 (by decide) ?_
  refine lv_imul hx hb dX1_setWeight_39 ?_
  refine lv_iload_n hx hb dX1_setWeight_40 rfl (lv_at hl 3 rfl) ?_
  refine lv_iadd hx hb dX1_setWeight_41 ?_
  refine lv_iload_n hx hb dX1_setWeight_42 rfl (lv_at hl 4 rfl) ?_
  refine gas_we C hH h dX1_setWeight_43 (fun h H locs hH => ?_)
  refine lv_aload_n hx hb dX1_setWeight_44 rfl (lv_at hl 1 rfl) ?_
  refine gf_X1_9 C hH dX1_setWeight_45 ?_
  refine lv_iload_n hx hb dX1_setWeight_48 rfl (lv_at hl 3 rfl) ?_
  refine lv_bipush (v := 10) hx hb dX1_setWeight_49 (by decide) ?_
  refine lv_imul hx hb dX1_setWeight_51 ?_
  refine lv_iload_n hx hb dX1_setWeight_52 rfl (lv_at hl 2 rfl) ?_
  refine lv_iadd hx hb dX1_setWeight_53 ?_
  refine lv_iload_n hx hb dX1_setWeight_54 rfl (lv_at hl 4 rfl) ?_
  refine gas_we C hH h dX1_setWeight_55 (fun h H locs hH => ?_)
  exact g_vret hx hb hr hlk hH (Option.some.inj h) dX1_setWeight_56
theorem ok_X1_setWeight : okName yX1_setWeight 3 := ⟨by decide, by decide, by decide +kernel⟩
section KL
variable {p : Program} {l : Launch} {e : Env} {R : Room} {s : State} {m : MethodId} {args : Array Value} {below : List Frame} {meth : Method} {c : Code} {H : Heap} {locs : List Loc} {cells slots : Nat} {Q : State → Prop} {cc : ByteArray} {pc nL : Nat} {ls : Array Slot} {rest : List Value}
variable {A : Nat → Prop} {D : va_G} {cy : Nat → ClassId} {ad : Nat → Nat}
theorem kl_X3_63 (C : gC p m c cc nL s args RX3 D (gT cy) (gw cy ad) A) {σ : GS} (hH : gH s D (gw cy ad) A σ H locs) {x1 x2 x3 : Int32} {α : Type} {k : GS → Option α} {y : α} (h : (f_X1_setWeight σ x1 x2 x3).bind k = some y) (hR : 2 ≤ R.frames ∧ 46 ≤ R.locals) (hcs : cells ≤ R.cells ∧ slots ≤ R.slots) (hl : ls.size = nL) (hW : (rest.map fun v => v.category).sum ≤ 8) (hdg : decode cc pc = .ok (.invokevirtual 63, 3)) (kk : ∀ (σ1 : GS) (H1 : Heap) (locs1 : List Loc), gH s D (gw cy ad) A σ1 H1 locs1 → k σ1 = some y → W p l e R s m args below meth c H1 locs1 cells slots Q (F0 m (pc + 3) ls (rest))) : W p l e R s m args below meth c H locs cells slots Q (F0 m pc ls (.int x3 :: .int x2 :: .int x1 :: .ref (ad 1) :: rest)) := by
  obtain ⟨σ1, h1, h2⟩ := bnd h
  exact g_fv (g_rVN (As := [.int x1, .int x2, .int x3]) C hH (c_X1_setWeight l C.2.2.2 σ x1 x2 x3 σ1 h1) (q0 := 1) mw_c_X1_setWeight mw_m_X3_63 mw_i_X1_setWeight mw_v_X1_setWeight mw_in_X1 ok_X1_setWeight ⟨rfl, rfl⟩ rfl rfl rfl hR hcs hl rfl hW hdg) hH.2 (fun H1 locs1 hH1 => kk σ1 H1 locs1 hH1 h2)
end KL
set_option maxHeartbeats 4000000 in
set_option maxRecDepth 100000 in
theorem c_X1_setPay (l : Launch) {D : va_G} {cy : Nat → ClassId} {ad : Nat → Nat} {A : Nat → Prop} (hD : ∀ σ, va_D A (gw cy ad σ)) (σ : GS) (x1 x2 x3 : Int32) (σ0 : GS) (h : f_X1_setPay σ x1 x2 x3 = some σ0) : gMv l yX1_setPay (wsM yX1_setPay cX1_setPay 4 none) ({ frames := 0, cells := 0, slots := 0, locals := 0 } : Room) D (gT cy) (gw cy ad) A [.ref (ad 1), .int x1, .int x2, .int x3] σ σ0 := by
  refine gMv.of (own := RX1) rfl (by decide) (Nat.le_of_ble_eq_true rfl) hD ?_
  intro p e s m below meth c ls C hx hb hr hlk hH hl
  have hl : lv_has ls 4 [(0, .ref (ad 1)), (1, .int x1), (2, .int x2), (3, .int x3)] := hl
  unfold f_X1_setPay at h
  refine lv_aload_n hx hb dX1_setPay_0 rfl (lv_at hl 0 rfl) ?_
  refine gf_X1_18 C hH dX1_setPay_1 ?_
  refine lv_iconst (v := 2) hx hb dX1_setPay_4 (by decide) ?_
  refine lv_iload_n hx hb dX1_setPay_5 rfl (lv_at hl 1 rfl) ?_
  refine lv_imul hx hb dX1_setPay_6 ?_
  refine lv_iload_n hx hb dX1_setPay_7 rfl (lv_at hl 2 rfl) ?_
  refine lv_iadd hx hb dX1_setPay_8 ?_
  refine lv_iload_n hx hb dX1_setPay_9 rfl (lv_at hl 3 rfl) ?_
  refine gas_pa C hH h dX1_setPay_10 (fun h H locs hH => ?_)
  exact g_vret hx hb hr hlk hH (Option.some.inj h) dX1_setPay_11
theorem ok_X1_setPay : okName yX1_setPay 3 := ⟨by decide, by decide, by decide +kernel⟩
section KL
variable {p : Program} {l : Launch} {e : Env} {R : Room} {s : State} {m : MethodId} {args : Array Value} {below : List Frame} {meth : Method} {c : Code} {H : Heap} {locs : List Loc} {cells slots : Nat} {Q : State → Prop} {cc : ByteArray} {pc nL : Nat} {ls : Array Slot} {rest : List Value}
variable {A : Nat → Prop} {D : va_G} {cy : Nat → ClassId} {ad : Nat → Nat}
theorem kl_X3_75 (C : gC p m c cc nL s args RX3 D (gT cy) (gw cy ad) A) {σ : GS} (hH : gH s D (gw cy ad) A σ H locs) {x1 x2 x3 : Int32} {α : Type} {k : GS → Option α} {y : α} (h : (f_X1_setPay σ x1 x2 x3).bind k = some y) (hR : 1 ≤ R.frames ∧ 23 ≤ R.locals) (hcs : cells ≤ R.cells ∧ slots ≤ R.slots) (hl : ls.size = nL) (hW : (rest.map fun v => v.category).sum ≤ 8) (hdg : decode cc pc = .ok (.invokevirtual 75, 3)) (kk : ∀ (σ1 : GS) (H1 : Heap) (locs1 : List Loc), gH s D (gw cy ad) A σ1 H1 locs1 → k σ1 = some y → W p l e R s m args below meth c H1 locs1 cells slots Q (F0 m (pc + 3) ls (rest))) : W p l e R s m args below meth c H locs cells slots Q (F0 m pc ls (.int x3 :: .int x2 :: .int x1 :: .ref (ad 1) :: rest)) := by
  obtain ⟨σ1, h1, h2⟩ := bnd h
  exact g_fv (g_rVN (As := [.int x1, .int x2, .int x3]) C hH (c_X1_setPay l C.2.2.2 σ x1 x2 x3 σ1 h1) (q0 := 1) mw_c_X1_setPay mw_m_X3_75 mw_i_X1_setPay mw_v_X1_setPay mw_in_X1 ok_X1_setPay ⟨rfl, rfl⟩ rfl rfl rfl hR hcs hl rfl hW hdg) hH.2 (fun H1 locs1 hH1 => kk σ1 H1 locs1 hH1 h2)
end KL
set_option maxHeartbeats 4000000 in
set_option maxRecDepth 100000 in
theorem c_X1_howManyLines (l : Launch) {D : va_G} {cy : Nat → ClassId} {ad : Nat → Nat} {A : Nat → Prop} (hD : ∀ σ, va_D A (gw cy ad σ)) (σ : GS) (r0 : Int32) (h : f_X1_howManyLines σ = some r0) : gMi l yX1_howManyLines (wsM yX1_howManyLines cX1_howManyLines 4 (some .int)) ({ frames := 1, cells := 0, slots := 0, locals := 22 } : Room) D (gT cy) (gw cy ad) A [.ref (ad 1)] σ σ r0 := by
  refine gMi.of (own := RX1) rfl (by decide) (Nat.le_of_ble_eq_true rfl) hD ?_
  intro p e s m below meth c ls C hx hb hr hlk hH hl
  have hl : lv_has ls 4 [(0, .ref (ad 1))] := hl
  unfold f_X1_howManyLines at h
  refine lv_iconst (v := 0) hx hb dX1_howManyLines_0 (by decide) ?_
  refine lv_istore_n (lv' := [(1, .int (0)), (0, .ref (ad 1))]) hx hb dX1_howManyLines_1 rfl hl (by decide) rfl (fun ls hl => ?_)
  refine lv_iconst (v := 0) hx hb dX1_howManyLines_2 (by decide) ?_
  refine lv_istore_n (lv' := [(2, .int (0)), (1, .int (0)), (0, .ref (ad 1))]) hx hb dX1_howManyLines_3 rfl hl (by decide) rfl (fun ls hl => ?_)
  have L4 : ∀ (n : Nat) (y4_1 : Int32) (y4_2 : Int32) (H : Heap) (locs : List Loc) (ls : Array Slot), gH s D (gw cy ad) A σ H locs → lv_has ls 4 [(0, .ref (ad 1)), (1, .int y4_1), (2, .int y4_2)] → ∀ X, itr (f_X1_howManyLines_b4 σ) n (y4_1, y4_2) = some X → (∀ (z4_0_1 : Int32) (H : Heap) (locs : List Loc) (ls : Array Slot), gH s D (gw cy ad) A σ H locs → lv_has ls 4 [(1, .int z4_0_1)] → X = z4_0_1 → W p l e ({ frames := 1, cells := 0, slots := 0, locals := 22 } : Room) s m [.ref (ad 1)].toArray below meth c H locs 0 0 (MQ below (gQi D (gw cy ad) A σ r0) [.ref (ad 1)].toArray s 0 0 A) (F0 m 48 ls [])) → W p l e ({ frames := 1, cells := 0, slots := 0, locals := 22 } : Room) s m [.ref (ad 1)].toArray below meth c H locs 0 0 (MQ below (gQi D (gw cy ad) A σ r0) [.ref (ad 1)].toArray s 0 0 A) (F0 m 4 ls []) := by
    intro n
    induction n with
    | zero =>
      intro y4_1 y4_2 H locs ls hH hl X h K
      exact itr_0 h
    | succ n ih =>
      intro y4_1 y4_2 H locs ls hH hl X h0 K
      obtain ⟨o, h, h2⟩ := itr_step h0
      unfold f_X1_howManyLines_b4 at h
      refine lv_iload_n hx hb dX1_howManyLines_4 rfl (lv_at hl 2 rfl) ?_
      refine lv_aload_n hx hb dX1_howManyLines_5 rfl (lv_at hl 0 rfl) ?_
      refine gf_X1_21 C hH dX1_howManyLines_6 ?_
      refine gb_icmp_ge (tgt := 48) hx hb dX1_howManyLines_9 (by decide) h (fun h => ?_) (fun h => ?_)
      · exact K _ _ _ _ hH (lv_sub hl [1] rfl) (nxt_r h h2)
      · refine lv_iload_n hx hb dX1_howManyLines_12 rfl (lv_at hl 2 rfl) ?_
        refine lv_iconst (v := 1) hx hb dX1_howManyLines_13 (by decide) ?_
        refine lv_iadd hx hb dX1_howManyLines_14 ?_
        refine lv_istore_n (lv' := [(3, .int (y4_2 + (1 : Int32))), (0, .ref (ad 1)), (1, .int y4_1), (2, .int y4_2)]) hx hb dX1_howManyLines_15 rfl hl (by decide) rfl (fun ls hl => ?_)
        have L16 : ∀ (n : Nat) (y16_1 : Int32) (y16_3 : Int32) (H : Heap) (locs : List Loc) (ls : Array Slot), gH s D (gw cy ad) A σ H locs → lv_has ls 4 [(0, .ref (ad 1)), (1, .int y16_1), (2, .int y4_2), (3, .int y16_3)] → ∀ X, itr (f_X1_howManyLines_b16 σ y4_2) n (y16_1, y16_3) = some X → (∀ (z16_0_1 : Int32) (H : Heap) (locs : List Loc) (ls : Array Slot), gH s D (gw cy ad) A σ H locs → lv_has ls 4 [(0, .ref (ad 1)), (1, .int z16_0_1), (2, .int y4_2)] → X = z16_0_1 → W p l e ({ frames := 1, cells := 0, slots := 0, locals := 22 } : Room) s m [.ref (ad 1)].toArray below meth c H locs 0 0 (MQ below (gQi D (gw cy ad) A σ r0) [.ref (ad 1)].toArray s 0 0 A) (F0 m 42 ls [])) → W p l e ({ frames := 1, cells := 0, slots := 0, locals := 22 } : Room) s m [.ref (ad 1)].toArray below meth c H locs 0 0 (MQ below (gQi D (gw cy ad) A σ r0) [.ref (ad 1)].toArray s 0 0 A) (F0 m 16 ls []) := by
          intro n
          induction n with
          | zero =>
            intro y16_1 y16_3 H locs ls hH hl X h K
            exact itr_0 h
          | succ n ih =>
            intro y16_1 y16_3 H locs ls hH hl X h0 K
            obtain ⟨o, h, h2⟩ := itr_step h0
            unfold f_X1_howManyLines_b16 at h
            refine lv_iload_n hx hb dX1_howManyLines_16 rfl (lv_at hl 3 rfl) ?_
            refine lv_aload_n hx hb dX1_howManyLines_17 rfl (lv_at hl 0 rfl) ?_
            refine gf_X1_21 C hH dX1_howManyLines_18 ?_
            refine gb_icmp_ge (tgt := 42) hx hb dX1_howManyLines_21 (by decide) h (fun h => ?_) (fun h => ?_)
            · exact K _ _ _ _ hH (lv_sub hl [0, 1, 2] rfl) (nxt_r h h2)
            · refine lv_aload_n hx hb dX1_howManyLines_24 rfl (lv_at hl 0 rfl) ?_
              refine lv_iload_n hx hb dX1_howManyLines_25 rfl (lv_at hl 2 rfl) ?_
              refine lv_iload_n hx hb dX1_howManyLines_26 rfl (lv_at hl 3 rfl) ?_
              refine kl_X1_36 C hH h ⟨by decide, by decide⟩ ⟨by decide, by decide⟩ hl.1 (Nat.le_of_ble_eq_true rfl) dX1_howManyLines_27 (fun r1 H locs hH h => ?_)
              refine gb_if_eq (tgt := 36) hx hb dX1_howManyLines_30 (by decide) h (fun h => ?_) (fun h => ?_)
              · refine lv_iinc (v := (y16_3 + (1 : Int32))) (lv' := [(3, .int (y16_3 + (1 : Int32))), (0, .ref (ad 1)), (1, .int y16_1), (2, .int y4_2)]) hx hb dX1_howManyLines_36 hl (k := 3) rfl rfl (by decide) rfl (fun ls hl => ?_)
                refine lv_goto (tgt := 16) hx hb dX1_howManyLines_39 (by decide) ?_
                exact ih _ _ _ _ _ hH (lv_sub hl [1, 2, 3, 0] rfl) X (nxt_l h h2) K
              · refine lv_iinc (v := (y16_1 + (1 : Int32))) (lv' := [(1, .int (y16_1 + (1 : Int32))), (0, .ref (ad 1)), (2, .int y4_2), (3, .int y16_3)]) hx hb dX1_howManyLines_33 hl (k := 1) rfl rfl (by decide) rfl (fun ls hl => ?_)
                refine lv_iinc (v := (y16_3 + (1 : Int32))) (lv' := [(3, .int (y16_3 + (1 : Int32))), (1, .int (y16_1 + (1 : Int32))), (0, .ref (ad 1)), (2, .int y4_2)]) hx hb dX1_howManyLines_36 hl (k := 3) rfl rfl (by decide) rfl (fun ls hl => ?_)
                refine lv_goto (tgt := 16) hx hb dX1_howManyLines_39 (by decide) ?_
                exact ih _ _ _ _ _ hH (lv_sub hl [2, 1, 3, 0] rfl) X (nxt_l h h2) K
        obtain ⟨X16, hX16, h⟩ := bnd h
        refine L16 FU y4_1 ((y4_2 + (1 : Int32))) _ _ _ hH (lv_sub hl [1, 2, 3, 0] rfl) X16 hX16 ?_
        intro z16_0_1 H locs ls hH hl hE
        replace hE := hE.symm
        subst hE
        refine lv_iinc (v := (y4_2 + (1 : Int32))) (lv' := [(2, .int (y4_2 + (1 : Int32))), (0, .ref (ad 1)), (1, .int z16_0_1)]) hx hb dX1_howManyLines_42 hl (k := 2) rfl rfl (by decide) rfl (fun ls hl => ?_)
        refine lv_goto (tgt := 4) hx hb dX1_howManyLines_45 (by decide) ?_
        exact ih _ _ _ _ _ hH (lv_sub hl [1, 2, 0] rfl) X (nxt_l h h2) K
  obtain ⟨X4, hX4, h⟩ := bnd h
  refine L4 FU ((0 : Int32)) ((0 : Int32)) _ _ _ hH (lv_sub hl [2, 1, 0] rfl) X4 hX4 ?_
  intro z4_0_1 H locs ls hH hl hE
  replace hE := hE.symm
  subst hE
  refine lv_iload_n hx hb dX1_howManyLines_48 rfl (lv_at hl 0 rfl) ?_
  exact g_iret hx hb hr hlk hH ⟨Option.some.inj h, rfl⟩ dX1_howManyLines_49
theorem ok_X1_howManyLines : okName yX1_howManyLines 0 := ⟨by decide, by decide, by decide +kernel⟩
section KL
variable {p : Program} {l : Launch} {e : Env} {R : Room} {s : State} {m : MethodId} {args : Array Value} {below : List Frame} {meth : Method} {c : Code} {H : Heap} {locs : List Loc} {cells slots : Nat} {Q : State → Prop} {cc : ByteArray} {pc nL : Nat} {ls : Array Slot} {rest : List Value}
variable {A : Nat → Prop} {D : va_G} {cy : Nat → ClassId} {ad : Nat → Nat}
theorem kl_X3_166 (C : gC p m c cc nL s args RX3 D (gT cy) (gw cy ad) A) {σ : GS} (hH : gH s D (gw cy ad) A σ H locs) {α : Type} {k : Int32 → Option α} {y : α} (h : (f_X1_howManyLines σ).bind k = some y) (hR : 2 ≤ R.frames ∧ 45 ≤ R.locals) (hcs : cells ≤ R.cells ∧ slots ≤ R.slots) (hl : ls.size = nL) (hW : (rest.map fun v => v.category).sum ≤ 8) (hdg : decode cc pc = .ok (.invokevirtual 166, 3)) (kk : ∀ (r : Int32) (H1 : Heap) (locs1 : List Loc), gH s D (gw cy ad) A σ H1 locs1 → k r = some y → W p l e R s m args below meth c H1 locs1 cells slots Q (F0 m (pc + 3) ls (.int r :: rest))) : W p l e R s m args below meth c H locs cells slots Q (F0 m pc ls (.ref (ad 1) :: rest)) := by
  obtain ⟨r, h1, h2⟩ := bnd h
  exact g_fi (g_rVN (As := []) C hH (c_X1_howManyLines l C.2.2.2 σ r h1) (q0 := 1) mw_c_X1_howManyLines mw_m_X3_166 mw_i_X1_howManyLines mw_v_X1_howManyLines mw_in_X1 ok_X1_howManyLines ⟨rfl, rfl⟩ rfl rfl rfl hR hcs hl rfl hW hdg) hH.2 (fun H1 locs1 hH1 => kk r H1 locs1 hH1 h2)
end KL
set_option maxHeartbeats 4000000 in
set_option maxRecDepth 100000 in
theorem c_X1_gainOfZero (l : Launch) {D : va_G} {cy : Nat → ClassId} {ad : Nat → Nat} {A : Nat → Prop} (hD : ∀ σ, va_D A (gw cy ad σ)) (σ : GS) (r0 : Int32) (h : f_X1_gainOfZero σ = some r0) : gMi l yX1_gainOfZero (wsM yX1_gainOfZero cX1_gainOfZero 1 (some .int)) ({ frames := 1, cells := 0, slots := 0, locals := 22 } : Room) D (gT cy) (gw cy ad) A [.ref (ad 1)] σ σ r0 := by
  refine gMi.of (own := RX1) rfl (by decide) (Nat.le_of_ble_eq_true rfl) hD ?_
  intro p e s m below meth c ls C hx hb hr hlk hH hl
  have hl : lv_has ls 1 [(0, .ref (ad 1))] := hl
  unfold f_X1_gainOfZero at h
  refine lv_aload_n hx hb dX1_gainOfZero_0 rfl (lv_at hl 0 rfl) ?_
  refine lv_iconst (v := 0) hx hb dX1_gainOfZero_1 (by decide) ?_
  refine lv_iconst (v := 0) hx hb dX1_gainOfZero_2 (by decide) ?_
  refine kl_X1_43 C hH h ⟨by decide, by decide⟩ ⟨by decide, by decide⟩ hl.1 (Nat.le_of_ble_eq_true rfl) dX1_gainOfZero_3 (fun r1 H locs hH h => ?_)
  refine lv_aload_n hx hb dX1_gainOfZero_6 rfl (lv_at hl 0 rfl) ?_
  refine lv_iconst (v := 1) hx hb dX1_gainOfZero_7 (by decide) ?_
  refine lv_iconst (v := 0) hx hb dX1_gainOfZero_8 (by decide) ?_
  refine kl_X1_43 C hH h ⟨by decide, by decide⟩ ⟨by decide, by decide⟩ hl.1 (Nat.le_of_ble_eq_true rfl) dX1_gainOfZero_9 (fun r2 H locs hH h => ?_)
  refine lv_isub hx hb dX1_gainOfZero_12 ?_
  exact g_iret hx hb hr hlk hH ⟨Option.some.inj h, rfl⟩ dX1_gainOfZero_13
theorem ok_X1_gainOfZero : okName yX1_gainOfZero 0 := ⟨by decide, by decide, by decide +kernel⟩
section KL
variable {p : Program} {l : Launch} {e : Env} {R : Room} {s : State} {m : MethodId} {args : Array Value} {below : List Frame} {meth : Method} {c : Code} {H : Heap} {locs : List Loc} {cells slots : Nat} {Q : State → Prop} {cc : ByteArray} {pc nL : Nat} {ls : Array Slot} {rest : List Value}
variable {A : Nat → Prop} {D : va_G} {cy : Nat → ClassId} {ad : Nat → Nat}
theorem kl_X1_52 (C : gC p m c cc nL s args RX1 D (gT cy) (gw cy ad) A) {σ : GS} (hH : gH s D (gw cy ad) A σ H locs) {α : Type} {k : Int32 → Option α} {y : α} (h : (f_X1_gainOfZero σ).bind k = some y) (hR : 2 ≤ R.frames ∧ 42 ≤ R.locals) (hcs : cells ≤ R.cells ∧ slots ≤ R.slots) (hl : ls.size = nL) (hW : (rest.map fun v => v.category).sum ≤ 8) (hdg : decode cc pc = .ok (.invokevirtual 52, 3)) (kk : ∀ (r : Int32) (H1 : Heap) (locs1 : List Loc), gH s D (gw cy ad) A σ H1 locs1 → k r = some y → W p l e R s m args below meth c H1 locs1 cells slots Q (F0 m (pc + 3) ls (.int r :: rest))) : W p l e R s m args below meth c H locs cells slots Q (F0 m pc ls (.ref (ad 1) :: rest)) := by
  obtain ⟨r, h1, h2⟩ := bnd h
  exact g_fi (g_rV (As := []) C hH (c_X1_gainOfZero l C.2.2.2 σ r h1) (q0 := 1) mw_c_X1_gainOfZero mw_m_X1_52 mw_i_X1_gainOfZero mw_v_X1_gainOfZero mw_in_X1 ok_X1_gainOfZero ⟨rfl, rfl⟩ rfl rfl rfl hR hcs hl rfl hW hdg) hH.2 (fun H1 locs1 hH1 => kk r H1 locs1 hH1 h2)
theorem kl_X3_153 (C : gC p m c cc nL s args RX3 D (gT cy) (gw cy ad) A) {σ : GS} (hH : gH s D (gw cy ad) A σ H locs) {α : Type} {k : Int32 → Option α} {y : α} (h : (f_X1_gainOfZero σ).bind k = some y) (hR : 2 ≤ R.frames ∧ 42 ≤ R.locals) (hcs : cells ≤ R.cells ∧ slots ≤ R.slots) (hl : ls.size = nL) (hW : (rest.map fun v => v.category).sum ≤ 8) (hdg : decode cc pc = .ok (.invokevirtual 153, 3)) (kk : ∀ (r : Int32) (H1 : Heap) (locs1 : List Loc), gH s D (gw cy ad) A σ H1 locs1 → k r = some y → W p l e R s m args below meth c H1 locs1 cells slots Q (F0 m (pc + 3) ls (.int r :: rest))) : W p l e R s m args below meth c H locs cells slots Q (F0 m pc ls (.ref (ad 1) :: rest)) := by
  obtain ⟨r, h1, h2⟩ := bnd h
  exact g_fi (g_rVN (As := []) C hH (c_X1_gainOfZero l C.2.2.2 σ r h1) (q0 := 1) mw_c_X1_gainOfZero mw_m_X3_153 mw_i_X1_gainOfZero mw_v_X1_gainOfZero mw_in_X1 ok_X1_gainOfZero ⟨rfl, rfl⟩ rfl rfl rfl hR hcs hl rfl hW hdg) hH.2 (fun H1 locs1 hH1 => kk r H1 locs1 hH1 h2)
end KL
set_option maxHeartbeats 4000000 in
set_option maxRecDepth 100000 in
theorem c_X1_gainOfOne (l : Launch) {D : va_G} {cy : Nat → ClassId} {ad : Nat → Nat} {A : Nat → Prop} (hD : ∀ σ, va_D A (gw cy ad σ)) (σ : GS) (r0 : Int32) (h : f_X1_gainOfOne σ = some r0) : gMi l yX1_gainOfOne (wsM yX1_gainOfOne cX1_gainOfOne 1 (some .int)) ({ frames := 1, cells := 0, slots := 0, locals := 22 } : Room) D (gT cy) (gw cy ad) A [.ref (ad 1)] σ σ r0 := by
  refine gMi.of (own := RX1) rfl (by decide) (Nat.le_of_ble_eq_true rfl) hD ?_
  intro p e s m below meth c ls C hx hb hr hlk hH hl
  have hl : lv_has ls 1 [(0, .ref (ad 1))] := hl
  unfold f_X1_gainOfOne at h
  refine lv_aload_n hx hb dX1_gainOfOne_0 rfl (lv_at hl 0 rfl) ?_
  refine lv_iconst (v := 1) hx hb dX1_gainOfOne_1 (by decide) ?_
  refine lv_iconst (v := 1) hx hb dX1_gainOfOne_2 (by decide) ?_
  refine kl_X1_43 C hH h ⟨by decide, by decide⟩ ⟨by decide, by decide⟩ hl.1 (Nat.le_of_ble_eq_true rfl) dX1_gainOfOne_3 (fun r1 H locs hH h => ?_)
  refine lv_aload_n hx hb dX1_gainOfOne_6 rfl (lv_at hl 0 rfl) ?_
  refine lv_iconst (v := 0) hx hb dX1_gainOfOne_7 (by decide) ?_
  refine lv_iconst (v := 1) hx hb dX1_gainOfOne_8 (by decide) ?_
  refine kl_X1_43 C hH h ⟨by decide, by decide⟩ ⟨by decide, by decide⟩ hl.1 (Nat.le_of_ble_eq_true rfl) dX1_gainOfOne_9 (fun r2 H locs hH h => ?_)
  refine lv_isub hx hb dX1_gainOfOne_12 ?_
  exact g_iret hx hb hr hlk hH ⟨Option.some.inj h, rfl⟩ dX1_gainOfOne_13
theorem ok_X1_gainOfOne : okName yX1_gainOfOne 0 := ⟨by decide, by decide, by decide +kernel⟩
section KL
variable {p : Program} {l : Launch} {e : Env} {R : Room} {s : State} {m : MethodId} {args : Array Value} {below : List Frame} {meth : Method} {c : Code} {H : Heap} {locs : List Loc} {cells slots : Nat} {Q : State → Prop} {cc : ByteArray} {pc nL : Nat} {ls : Array Slot} {rest : List Value}
variable {A : Nat → Prop} {D : va_G} {cy : Nat → ClassId} {ad : Nat → Nat}
theorem kl_X1_49 (C : gC p m c cc nL s args RX1 D (gT cy) (gw cy ad) A) {σ : GS} (hH : gH s D (gw cy ad) A σ H locs) {α : Type} {k : Int32 → Option α} {y : α} (h : (f_X1_gainOfOne σ).bind k = some y) (hR : 2 ≤ R.frames ∧ 42 ≤ R.locals) (hcs : cells ≤ R.cells ∧ slots ≤ R.slots) (hl : ls.size = nL) (hW : (rest.map fun v => v.category).sum ≤ 8) (hdg : decode cc pc = .ok (.invokevirtual 49, 3)) (kk : ∀ (r : Int32) (H1 : Heap) (locs1 : List Loc), gH s D (gw cy ad) A σ H1 locs1 → k r = some y → W p l e R s m args below meth c H1 locs1 cells slots Q (F0 m (pc + 3) ls (.int r :: rest))) : W p l e R s m args below meth c H locs cells slots Q (F0 m pc ls (.ref (ad 1) :: rest)) := by
  obtain ⟨r, h1, h2⟩ := bnd h
  exact g_fi (g_rV (As := []) C hH (c_X1_gainOfOne l C.2.2.2 σ r h1) (q0 := 1) mw_c_X1_gainOfOne mw_m_X1_49 mw_i_X1_gainOfOne mw_v_X1_gainOfOne mw_in_X1 ok_X1_gainOfOne ⟨rfl, rfl⟩ rfl rfl rfl hR hcs hl rfl hW hdg) hH.2 (fun H1 locs1 hH1 => kk r H1 locs1 hH1 h2)
theorem kl_X3_156 (C : gC p m c cc nL s args RX3 D (gT cy) (gw cy ad) A) {σ : GS} (hH : gH s D (gw cy ad) A σ H locs) {α : Type} {k : Int32 → Option α} {y : α} (h : (f_X1_gainOfOne σ).bind k = some y) (hR : 2 ≤ R.frames ∧ 42 ≤ R.locals) (hcs : cells ≤ R.cells ∧ slots ≤ R.slots) (hl : ls.size = nL) (hW : (rest.map fun v => v.category).sum ≤ 8) (hdg : decode cc pc = .ok (.invokevirtual 156, 3)) (kk : ∀ (r : Int32) (H1 : Heap) (locs1 : List Loc), gH s D (gw cy ad) A σ H1 locs1 → k r = some y → W p l e R s m args below meth c H1 locs1 cells slots Q (F0 m (pc + 3) ls (.int r :: rest))) : W p l e R s m args below meth c H locs cells slots Q (F0 m pc ls (.ref (ad 1) :: rest)) := by
  obtain ⟨r, h1, h2⟩ := bnd h
  exact g_fi (g_rVN (As := []) C hH (c_X1_gainOfOne l C.2.2.2 σ r h1) (q0 := 1) mw_c_X1_gainOfOne mw_m_X3_156 mw_i_X1_gainOfOne mw_v_X1_gainOfOne mw_in_X1 ok_X1_gainOfOne ⟨rfl, rfl⟩ rfl rfl rfl hR hcs hl rfl hW hdg) hH.2 (fun H1 locs1 hH1 => kk r H1 locs1 hH1 h2)
end KL
set_option maxHeartbeats 4000000 in
set_option maxRecDepth 100000 in
theorem c_X1_riseOf (l : Launch) {D : va_G} {cy : Nat → ClassId} {ad : Nat → Nat} {A : Nat → Prop} (hD : ∀ σ, va_D A (gw cy ad σ)) (σ : GS) (x1 : Int32) (r0 : Int32) (h : f_X1_riseOf σ x1 = some r0) : gMi l yX1_riseOf (wsM yX1_riseOf cX1_riseOf 7 (some .int)) ({ frames := 2, cells := 0, slots := 0, locals := 42 } : Room) D (gT cy) (gw cy ad) A [.ref (ad 1), .int x1] σ σ r0 := by
  refine gMi.of (own := RX1) rfl (by decide) (Nat.le_of_ble_eq_true rfl) hD ?_
  intro p e s m below meth c ls C hx hb hr hlk hH hl
  have hl : lv_has ls 7 [(0, .ref (ad 1)), (1, .int x1)] := hl
  unfold f_X1_riseOf at h
  refine lv_iconst (v := 0) hx hb dX1_riseOf_0 (by decide) ?_
  refine lv_istore_n (lv' := [(2, .int (0)), (0, .ref (ad 1)), (1, .int x1)]) hx hb dX1_riseOf_1 rfl hl (by decide) rfl (fun ls hl => ?_)
  refine lv_iconst (v := 0) hx hb dX1_riseOf_2 (by decide) ?_
  refine lv_istore_n (lv' := [(3, .int (0)), (2, .int (0)), (0, .ref (ad 1)), (1, .int x1)]) hx hb dX1_riseOf_3 rfl hl (by decide) rfl (fun ls hl => ?_)
  have L4 : ∀ (n : Nat) (y4_2 : Int32) (y4_3 : Int32) (H : Heap) (locs : List Loc) (ls : Array Slot), gH s D (gw cy ad) A σ H locs → lv_has ls 7 [(0, .ref (ad 1)), (1, .int x1), (2, .int y4_2), (3, .int y4_3)] → ∀ X, itr (f_X1_riseOf_b4 σ x1) n (y4_2, y4_3) = some X → (∀ (z4_0_2 : Int32) (H : Heap) (locs : List Loc) (ls : Array Slot), gH s D (gw cy ad) A σ H locs → lv_has ls 7 [(2, .int z4_0_2)] → X = z4_0_2 → W p l e ({ frames := 2, cells := 0, slots := 0, locals := 42 } : Room) s m [.ref (ad 1), .int x1].toArray below meth c H locs 0 0 (MQ below (gQi D (gw cy ad) A σ r0) [.ref (ad 1), .int x1].toArray s 0 0 A) (F0 m 88 ls [])) → W p l e ({ frames := 2, cells := 0, slots := 0, locals := 42 } : Room) s m [.ref (ad 1), .int x1].toArray below meth c H locs 0 0 (MQ below (gQi D (gw cy ad) A σ r0) [.ref (ad 1), .int x1].toArray s 0 0 A) (F0 m 4 ls []) := by
    intro n
    induction n with
    | zero =>
      intro y4_2 y4_3 H locs ls hH hl X h K
      exact itr_0 h
    | succ n ih =>
      intro y4_2 y4_3 H locs ls hH hl X h0 K
      obtain ⟨o, h, h2⟩ := itr_step h0
      unfold f_X1_riseOf_b4 at h
      have J36 : ∀ (j36_2 : Int32) (j36_3 : Int32) (j36_4 : Int32) (j36_s0 : Int32) (H : Heap) (locs : List Loc) (ls : Array Slot), gH s D (gw cy ad) A σ H locs → lv_has ls 7 [(0, .ref (ad 1)), (1, .int x1), (2, .int j36_2), (3, .int j36_3), (4, .int j36_4)] → f_X1_riseOf_j36 σ x1 j36_2 j36_3 j36_4 j36_s0 = some o → W p l e ({ frames := 2, cells := 0, slots := 0, locals := 42 } : Room) s m [.ref (ad 1), .int x1].toArray below meth c H locs 0 0 (MQ below (gQi D (gw cy ad) A σ r0) [.ref (ad 1), .int x1].toArray s 0 0 A) (F0 m 36 ls [.int j36_s0]) := by
        intro j36_2 j36_3 j36_4 j36_s0 H locs ls hH hl h
        unfold f_X1_riseOf_j36 at h
        refine lv_istore (lv' := [(5, .int j36_s0), (0, .ref (ad 1)), (1, .int x1), (2, .int j36_2), (3, .int j36_3), (4, .int j36_4)]) hx hb dX1_riseOf_36 hl (by decide) rfl (fun ls hl => ?_)
        refine lv_iload_n hx hb dX1_riseOf_38 rfl (lv_at hl 4 rfl) ?_
        refine lv_iconst (v := 1) hx hb dX1_riseOf_39 (by decide) ?_
        refine lv_iadd hx hb dX1_riseOf_40 ?_
        refine lv_istore (lv' := [(6, .int (j36_3 + (1 : Int32))), (5, .int j36_s0), (0, .ref (ad 1)), (1, .int x1), (2, .int j36_2), (3, .int j36_3), (4, .int j36_4)]) hx hb dX1_riseOf_41 hl (by decide) rfl (fun ls hl => ?_)
        have L43 : ∀ (n : Nat) (y43_2 : Int32) (y43_6 : Int32) (H : Heap) (locs : List Loc) (ls : Array Slot), gH s D (gw cy ad) A σ H locs → lv_has ls 7 [(0, .ref (ad 1)), (1, .int x1), (2, .int y43_2), (3, .int j36_3), (4, .int j36_4), (5, .int j36_s0), (6, .int y43_6)] → ∀ X, itr (f_X1_riseOf_b43 σ x1 j36_4 j36_3 j36_s0) n (y43_2, y43_6) = some X → (∀ (z43_0_2 : Int32) (H : Heap) (locs : List Loc) (ls : Array Slot), gH s D (gw cy ad) A σ H locs → lv_has ls 7 [(0, .ref (ad 1)), (1, .int x1), (2, .int z43_0_2), (3, .int j36_3)] → X = z43_0_2 → W p l e ({ frames := 2, cells := 0, slots := 0, locals := 42 } : Room) s m [.ref (ad 1), .int x1].toArray below meth c H locs 0 0 (MQ below (gQi D (gw cy ad) A σ r0) [.ref (ad 1), .int x1].toArray s 0 0 A) (F0 m 82 ls [])) → W p l e ({ frames := 2, cells := 0, slots := 0, locals := 42 } : Room) s m [.ref (ad 1), .int x1].toArray below meth c H locs 0 0 (MQ below (gQi D (gw cy ad) A σ r0) [.ref (ad 1), .int x1].toArray s 0 0 A) (F0 m 43 ls []) := by
          intro n
          induction n with
          | zero =>
            intro y43_2 y43_6 H locs ls hH hl X h K
            exact itr_0 h
          | succ n ih =>
            intro y43_2 y43_6 H locs ls hH hl X h0 K
            obtain ⟨o, h, h2⟩ := itr_step h0
            unfold f_X1_riseOf_b43 at h
            refine lv_iload hx hb dX1_riseOf_43 (lv_at hl 6 rfl) ?_
            refine lv_aload_n hx hb dX1_riseOf_45 rfl (lv_at hl 0 rfl) ?_
            refine gf_X1_21 C hH dX1_riseOf_46 ?_
            refine gb_icmp_ge (tgt := 82) hx hb dX1_riseOf_49 (by decide) h (fun h => ?_) (fun h => ?_)
            · exact K _ _ _ _ hH (lv_sub hl [0, 1, 2, 3] rfl) (nxt_r h h2)
            · refine lv_iload hx hb dX1_riseOf_52 (lv_at hl 6 rfl) ?_
              refine lv_iload_n hx hb dX1_riseOf_54 rfl (lv_at hl 1 rfl) ?_
              refine kl_X1_46 C hH h ⟨by decide, by decide⟩ ⟨by decide, by decide⟩ hl.1 (Nat.le_of_ble_eq_true rfl) dX1_riseOf_55 (fun r3 H locs hH h => ?_)
              refine lv_iload hx hb dX1_riseOf_58 (lv_at hl 4 rfl) ?_
              refine gb_icmp_ne (tgt := 76) hx hb dX1_riseOf_60 (by decide) h (fun h => ?_) (fun h => ?_)
              · refine lv_iinc (v := (y43_6 + (1 : Int32))) (lv' := [(6, .int (y43_6 + (1 : Int32))), (0, .ref (ad 1)), (1, .int x1), (2, .int y43_2), (3, .int j36_3), (4, .int j36_4), (5, .int j36_s0)]) hx hb dX1_riseOf_76 hl (k := 6) rfl rfl (by decide) rfl (fun ls hl => ?_)
                refine lv_goto (tgt := 43) hx hb dX1_riseOf_79 (by decide) ?_
                exact ih _ _ _ _ _ hH (lv_sub hl [1, 2, 3, 4, 5, 6, 0] rfl) X (nxt_l h h2) K
              · refine lv_iload_n hx hb dX1_riseOf_63 rfl (lv_at hl 2 rfl) ?_
                refine lv_aload_n hx hb dX1_riseOf_64 rfl (lv_at hl 0 rfl) ?_
                refine lv_iload_n hx hb dX1_riseOf_65 rfl (lv_at hl 3 rfl) ?_
                refine lv_iload hx hb dX1_riseOf_66 (lv_at hl 6 rfl) ?_
                refine kl_X1_36 C hH h ⟨by decide, by decide⟩ ⟨by decide, by decide⟩ hl.1 (Nat.le_of_ble_eq_true rfl) dX1_riseOf_68 (fun r4 H locs hH h => ?_)
                refine lv_iload hx hb dX1_riseOf_71 (lv_at hl 5 rfl) ?_
                refine lv_imul hx hb dX1_riseOf_73 ?_
                refine lv_iadd hx hb dX1_riseOf_74 ?_
                refine lv_istore_n (lv' := [(2, .int (y43_2 + (r4 * j36_s0))), (0, .ref (ad 1)), (1, .int x1), (3, .int j36_3), (4, .int j36_4), (5, .int j36_s0), (6, .int y43_6)]) hx hb dX1_riseOf_75 rfl hl (by decide) rfl (fun ls hl => ?_)
                refine lv_iinc (v := (y43_6 + (1 : Int32))) (lv' := [(6, .int (y43_6 + (1 : Int32))), (2, .int (y43_2 + (r4 * j36_s0))), (0, .ref (ad 1)), (1, .int x1), (3, .int j36_3), (4, .int j36_4), (5, .int j36_s0)]) hx hb dX1_riseOf_76 hl (k := 6) rfl rfl (by decide) rfl (fun ls hl => ?_)
                refine lv_goto (tgt := 43) hx hb dX1_riseOf_79 (by decide) ?_
                exact ih _ _ _ _ _ hH (lv_sub hl [2, 3, 1, 4, 5, 6, 0] rfl) X (nxt_l h h2) K
        obtain ⟨X43, hX43, h⟩ := bnd h
        refine L43 FU j36_2 ((j36_3 + (1 : Int32))) _ _ _ hH (lv_sub hl [2, 3, 4, 5, 6, 1, 0] rfl) X43 hX43 ?_
        intro z43_0_2 H locs ls hH hl hE
        replace hE := hE.symm
        subst hE
        refine lv_iinc (v := (j36_3 + (1 : Int32))) (lv' := [(3, .int (j36_3 + (1 : Int32))), (0, .ref (ad 1)), (1, .int x1), (2, .int z43_0_2)]) hx hb dX1_riseOf_82 hl (k := 3) rfl rfl (by decide) rfl (fun ls hl => ?_)
        refine lv_goto (tgt := 4) hx hb dX1_riseOf_85 (by decide) ?_
        exact ih _ _ _ _ _ hH (lv_sub hl [1, 2, 3, 0] rfl) X (nxt_l h h2) K
      refine lv_iload_n hx hb dX1_riseOf_4 rfl (lv_at hl 3 rfl) ?_
      refine lv_aload_n hx hb dX1_riseOf_5 rfl (lv_at hl 0 rfl) ?_
      refine gf_X1_21 C hH dX1_riseOf_6 ?_
      refine gb_icmp_ge (tgt := 88) hx hb dX1_riseOf_9 (by decide) h (fun h => ?_) (fun h => ?_)
      · exact K _ _ _ _ hH (lv_sub hl [2] rfl) (nxt_r h h2)
      · refine lv_iload_n hx hb dX1_riseOf_12 rfl (lv_at hl 3 rfl) ?_
        refine lv_iload_n hx hb dX1_riseOf_13 rfl (lv_at hl 1 rfl) ?_
        refine kl_X1_46 C hH h ⟨by decide, by decide⟩ ⟨by decide, by decide⟩ hl.1 (Nat.le_of_ble_eq_true rfl) dX1_riseOf_14 (fun r1 H locs hH h => ?_)
        refine lv_istore (lv' := [(4, .int r1), (0, .ref (ad 1)), (1, .int x1), (2, .int y4_2), (3, .int y4_3)]) hx hb dX1_riseOf_17 hl (by decide) rfl (fun ls hl => ?_)
        refine lv_iload hx hb dX1_riseOf_19 (lv_at hl 0 rfl) ?_
        refine lv_iconst (v := 1) hx hb dX1_riseOf_21 (by decide) ?_
        refine gb_icmp_ne (tgt := 32) hx hb dX1_riseOf_22 (by decide) h (fun h => ?_) (fun h => ?_)
        · refine lv_aload_n hx hb dX1_riseOf_32 rfl (lv_at hl 1 rfl) ?_
          refine kl_X1_52 C hH h ⟨by decide, by decide⟩ ⟨by decide, by decide⟩ hl.1 (Nat.le_of_ble_eq_true rfl) dX1_riseOf_33 (fun r2 H locs hH h => ?_)
          exact J36 y4_2 y4_3 r1 r2 _ _ _ hH (lv_sub hl [1, 2, 3, 4, 0] rfl) h
        · refine lv_aload_n hx hb dX1_riseOf_25 rfl (lv_at hl 1 rfl) ?_
          refine kl_X1_49 C hH h ⟨by decide, by decide⟩ ⟨by decide, by decide⟩ hl.1 (Nat.le_of_ble_eq_true rfl) dX1_riseOf_26 (fun r6 H locs hH h => ?_)
          refine lv_goto (tgt := 36) hx hb dX1_riseOf_29 (by decide) ?_
          exact J36 y4_2 y4_3 r1 r6 _ _ _ hH (lv_sub hl [1, 2, 3, 4, 0] rfl) h
  obtain ⟨X4, hX4, h⟩ := bnd h
  refine L4 FU ((0 : Int32)) ((0 : Int32)) _ _ _ hH (lv_sub hl [2, 3, 1, 0] rfl) X4 hX4 ?_
  intro z4_0_2 H locs ls hH hl hE
  replace hE := hE.symm
  subst hE
  refine lv_iload_n hx hb dX1_riseOf_88 rfl (lv_at hl 0 rfl) ?_
  exact g_iret hx hb hr hlk hH ⟨Option.some.inj h, rfl⟩ dX1_riseOf_89
theorem ok_X1_riseOf : okName yX1_riseOf 1 := ⟨by decide, by decide, by decide +kernel⟩
section KL
variable {p : Program} {l : Launch} {e : Env} {R : Room} {s : State} {m : MethodId} {args : Array Value} {below : List Frame} {meth : Method} {c : Code} {H : Heap} {locs : List Loc} {cells slots : Nat} {Q : State → Prop} {cc : ByteArray} {pc nL : Nat} {ls : Array Slot} {rest : List Value}
variable {A : Nat → Prop} {D : va_G} {cy : Nat → ClassId} {ad : Nat → Nat}
theorem kl_X3_139 (C : gC p m c cc nL s args RX3 D (gT cy) (gw cy ad) A) {σ : GS} (hH : gH s D (gw cy ad) A σ H locs) {x1 : Int32} {α : Type} {k : Int32 → Option α} {y : α} (h : (f_X1_riseOf σ x1).bind k = some y) (hR : 3 ≤ R.frames ∧ 68 ≤ R.locals) (hcs : cells ≤ R.cells ∧ slots ≤ R.slots) (hl : ls.size = nL) (hW : (rest.map fun v => v.category).sum ≤ 8) (hdg : decode cc pc = .ok (.invokevirtual 139, 3)) (kk : ∀ (r : Int32) (H1 : Heap) (locs1 : List Loc), gH s D (gw cy ad) A σ H1 locs1 → k r = some y → W p l e R s m args below meth c H1 locs1 cells slots Q (F0 m (pc + 3) ls (.int r :: rest))) : W p l e R s m args below meth c H locs cells slots Q (F0 m pc ls (.int x1 :: .ref (ad 1) :: rest)) := by
  obtain ⟨r, h1, h2⟩ := bnd h
  exact g_fi (g_rVN (As := [.int x1]) C hH (c_X1_riseOf l C.2.2.2 σ x1 r h1) (q0 := 1) mw_c_X1_riseOf mw_m_X3_139 mw_i_X1_riseOf mw_v_X1_riseOf mw_in_X1 ok_X1_riseOf ⟨rfl, rfl⟩ rfl rfl rfl hR hcs hl rfl hW hdg) hH.2 (fun H1 locs1 hH1 => kk r H1 locs1 hH1 h2)
end KL
set_option maxHeartbeats 4000000 in
set_option maxRecDepth 100000 in
theorem c_X2_forget (l : Launch) {D : va_G} {cy : Nat → ClassId} {ad : Nat → Nat} {A : Nat → Prop} (hD : ∀ σ, va_D A (gw cy ad σ)) (σ : GS) (σ0 : GS) (h : f_X2_forget σ = some σ0) : gMv l yX2_forget (wsM yX2_forget cX2_forget 1 none) ({ frames := 0, cells := 0, slots := 0, locals := 0 } : Room) D (gT cy) (gw cy ad) A [.ref (ad 9)] σ σ0 := by
  refine gMv.of (own := RX2) rfl (by decide) (Nat.le_of_ble_eq_true rfl) hD ?_
  intro p e s m below meth c ls C hx hb hr hlk hH hl
  have hl : lv_has ls 1 [(0, .ref (ad 9))] := hl
  unfold f_X2_forget at h
  refine lv_aload_n hx hb dX2_forget_0 rfl (lv_at hl 0 rfl) ?_
  refine lv_iconst (v := 0) hx hb dX2_forget_1 (by decide) ?_
  refine pf_X2_29 C hH rfl rfl dX2_forget_2 (fun H locs hH => ?_)
  exact g_vret hx hb hr hlk hH (Option.some.inj h) dX2_forget_5
theorem ok_X2_forget : okName yX2_forget 0 := ⟨by decide, by decide, by decide +kernel⟩
section KL
variable {p : Program} {l : Launch} {e : Env} {R : Room} {s : State} {m : MethodId} {args : Array Value} {below : List Frame} {meth : Method} {c : Code} {H : Heap} {locs : List Loc} {cells slots : Nat} {Q : State → Prop} {cc : ByteArray} {pc nL : Nat} {ls : Array Slot} {rest : List Value}
variable {A : Nat → Prop} {D : va_G} {cy : Nat → ClassId} {ad : Nat → Nat}
theorem kl_X3_175 (C : gC p m c cc nL s args RX3 D (gT cy) (gw cy ad) A) {σ : GS} (hH : gH s D (gw cy ad) A σ H locs) {α : Type} {k : GS → Option α} {y : α} (h : (f_X2_forget σ).bind k = some y) (hR : 1 ≤ R.frames ∧ 20 ≤ R.locals) (hcs : cells ≤ R.cells ∧ slots ≤ R.slots) (hl : ls.size = nL) (hW : (rest.map fun v => v.category).sum ≤ 8) (hdg : decode cc pc = .ok (.invokevirtual 175, 3)) (kk : ∀ (σ1 : GS) (H1 : Heap) (locs1 : List Loc), gH s D (gw cy ad) A σ1 H1 locs1 → k σ1 = some y → W p l e R s m args below meth c H1 locs1 cells slots Q (F0 m (pc + 3) ls (rest))) : W p l e R s m args below meth c H locs cells slots Q (F0 m pc ls (.ref (ad 9) :: rest)) := by
  obtain ⟨σ1, h1, h2⟩ := bnd h
  exact g_fv (g_rVN (As := []) C hH (c_X2_forget l C.2.2.2 σ σ1 h1) (q0 := 9) mw_c_X2_forget mw_m_X3_175 mw_i_X2_forget mw_v_X2_forget mw_in_X2 ok_X2_forget ⟨rfl, rfl⟩ rfl rfl rfl hR hcs hl rfl hW hdg) hH.2 (fun H1 locs1 hH1 => kk σ1 H1 locs1 hH1 h2)
end KL
