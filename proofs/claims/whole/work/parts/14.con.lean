set_option maxHeartbeats 4000000 in
set_option maxRecDepth 100000 in
theorem c_X4_restsIn (l : Launch) {D : va_G} {cy : Nat → ClassId} {ad : Nat → Nat} {A : Nat → Prop} (hD : ∀ σ, va_D A (mw cy ad σ)) (σ : MS) (x1 : Int32) (r0 : Int32) (h : f_X4_restsIn σ x1 = some r0) : gMi l yX4_restsIn (wsM yX4_restsIn cX4_restsIn 4 (some .boolean)) ({ frames := 2, cells := 0, slots := 0, locals := 48 } : Room) D (mT cy) (mw cy ad) A [.ref (ad 0), .int x1] σ σ r0 := by
  refine gMi.of (own := RX4) rfl (by decide) (Nat.le_of_ble_eq_true rfl) hD ?_
  intro p e s m below meth c ls C hx hb hr hlk hH hl
  have hl : lv_has ls 4 [(0, .ref (ad 0)), (1, .int x1)] := hl
  unfold f_X4_restsIn at h
  refine lv_iconst (v := 1) hx hb dX4_restsIn_0 (by decide) ?_
  refine lv_istore_n (lv' := [(2, .int (1)), (0, .ref (ad 0)), (1, .int x1)]) hx hb dX4_restsIn_1 rfl hl (by decide) rfl (fun ls hl => ?_)
  refine lv_iconst (v := 0) hx hb dX4_restsIn_2 (by decide) ?_
  refine lv_istore_n (lv' := [(3, .int (0)), (2, .int (1)), (0, .ref (ad 0)), (1, .int x1)]) hx hb dX4_restsIn_3 rfl hl (by decide) rfl (fun ls hl => ?_)
  have L4 : ∀ (n : Nat) (y4_2 : Int32) (y4_3 : Int32) (H : Heap) (locs : List Loc) (ls : Array Slot), gH s D (mw cy ad) A σ H locs → lv_has ls 4 [(0, .ref (ad 0)), (1, .int x1), (2, .int y4_2), (3, .int y4_3)] → ∀ X, itr (f_X4_restsIn_b4 σ x1) n (y4_2, y4_3) = some X → (∀ (z4_0_2 : Int32) (H : Heap) (locs : List Loc) (ls : Array Slot), gH s D (mw cy ad) A σ H locs → lv_has ls 4 [(2, .int z4_0_2)] → X = z4_0_2 → W p l e ({ frames := 2, cells := 0, slots := 0, locals := 48 } : Room) s m [.ref (ad 0), .int x1].toArray below meth c H locs 0 0 (MQ below (gQi D (mw cy ad) A σ r0) [.ref (ad 0), .int x1].toArray s 0 0 A) (F0 m 49 ls [])) → W p l e ({ frames := 2, cells := 0, slots := 0, locals := 48 } : Room) s m [.ref (ad 0), .int x1].toArray below meth c H locs 0 0 (MQ below (gQi D (mw cy ad) A σ r0) [.ref (ad 0), .int x1].toArray s 0 0 A) (F0 m 4 ls []) := by
    intro n
    induction n with
    | zero =>
      intro y4_2 y4_3 H locs ls hH hl X h K
      exact itr_0 h
    | succ n ih =>
      intro y4_2 y4_3 H locs ls hH hl X h0 K
      obtain ⟨o, h, h2⟩ := itr_step h0
      unfold f_X4_restsIn_b4 at h
      refine lv_iload_n hx hb dX4_restsIn_4 rfl (lv_at hl 3 rfl) ?_
      refine lv_aload_n hx hb dX4_restsIn_5 rfl (lv_at hl 0 rfl) ?_
      refine gf_X4_7 C hH dX4_restsIn_6 ?_
      refine gb_icmp_ge (tgt := 49) hx hb dX4_restsIn_9 (by decide) h (fun h => ?_) (fun h => ?_)
      · exact K _ _ _ _ hH (lv_sub hl [2] rfl) (nxt_r h h2)
      · refine lv_iload_n hx hb dX4_restsIn_12 rfl (lv_at hl 2 rfl) ?_
        refine gb_if_eq (tgt := 41) hx hb dX4_restsIn_13 (by decide) h (fun h => ?_) (fun h => ?_)
        · refine lv_iconst (v := 0) hx hb dX4_restsIn_41 (by decide) ?_
          refine lv_istore_n (lv' := [(2, .int (0)), (0, .ref (ad 0)), (1, .int x1), (3, .int y4_3)]) hx hb dX4_restsIn_42 rfl hl (by decide) rfl (fun ls hl => ?_)
          refine lv_iinc (v := (y4_3 + (1 : Int32))) (lv' := [(3, .int (y4_3 + (1 : Int32))), (2, .int (0)), (0, .ref (ad 0)), (1, .int x1)]) hx hb dX4_restsIn_43 hl (k := 3) rfl rfl (by decide) rfl (fun ls hl => ?_)
          refine lv_goto (tgt := 4) hx hb dX4_restsIn_46 (by decide) ?_
          exact ih _ _ _ _ _ hH (lv_sub hl [2, 3, 1, 0] rfl) X (nxt_l h h2) K
        · refine lv_aload_n hx hb dX4_restsIn_16 rfl (lv_at hl 0 rfl) ?_
          refine gf_X4_40 C hH dX4_restsIn_17 ?_
          refine lv_iload_n hx hb dX4_restsIn_20 rfl (lv_at hl 3 rfl) ?_
          refine lv_ishr hx hb dX4_restsIn_21 ?_
          refine lv_iconst (v := 1) hx hb dX4_restsIn_22 (by decide) ?_
          refine lv_iand hx hb dX4_restsIn_23 ?_
          refine lv_iconst (v := 1) hx hb dX4_restsIn_24 (by decide) ?_
          refine gb_icmp_eq (tgt := 37) hx hb dX4_restsIn_25 (by decide) h (fun h => ?_) (fun h => ?_)
          · refine lv_iconst (v := 1) hx hb dX4_restsIn_37 (by decide) ?_
            refine lv_goto (tgt := 42) hx hb dX4_restsIn_38 (by decide) ?_
            refine lv_istore_n (lv' := [(2, .int (1)), (0, .ref (ad 0)), (1, .int x1), (3, .int y4_3)]) hx hb dX4_restsIn_42 rfl hl (by decide) rfl (fun ls hl => ?_)
            refine lv_iinc (v := (y4_3 + (1 : Int32))) (lv' := [(3, .int (y4_3 + (1 : Int32))), (2, .int (1)), (0, .ref (ad 0)), (1, .int x1)]) hx hb dX4_restsIn_43 hl (k := 3) rfl rfl (by decide) rfl (fun ls hl => ?_)
            refine lv_goto (tgt := 4) hx hb dX4_restsIn_46 (by decide) ?_
            exact ih _ _ _ _ _ hH (lv_sub hl [2, 3, 1, 0] rfl) X (nxt_l h h2) K
          · refine lv_aload_n hx hb dX4_restsIn_28 rfl (lv_at hl 0 rfl) ?_
            refine lv_iload_n hx hb dX4_restsIn_29 rfl (lv_at hl 1 rfl) ?_
            refine lv_iload_n hx hb dX4_restsIn_30 rfl (lv_at hl 3 rfl) ?_
            refine kl_X4_70 C hH h ⟨by decide, by decide⟩ ⟨by decide, by decide⟩ hl.1 (Nat.le_of_ble_eq_true rfl) dX4_restsIn_31 (fun r1 H locs hH h => ?_)
            refine gb_if_ne (tgt := 41) hx hb dX4_restsIn_34 (by decide) h (fun h => ?_) (fun h => ?_)
            · refine lv_iconst (v := 0) hx hb dX4_restsIn_41 (by decide) ?_
              refine lv_istore_n (lv' := [(2, .int (0)), (0, .ref (ad 0)), (1, .int x1), (3, .int y4_3)]) hx hb dX4_restsIn_42 rfl hl (by decide) rfl (fun ls hl => ?_)
              refine lv_iinc (v := (y4_3 + (1 : Int32))) (lv' := [(3, .int (y4_3 + (1 : Int32))), (2, .int (0)), (0, .ref (ad 0)), (1, .int x1)]) hx hb dX4_restsIn_43 hl (k := 3) rfl rfl (by decide) rfl (fun ls hl => ?_)
              refine lv_goto (tgt := 4) hx hb dX4_restsIn_46 (by decide) ?_
              exact ih _ _ _ _ _ hH (lv_sub hl [2, 3, 1, 0] rfl) X (nxt_l h h2) K
            · refine lv_iconst (v := 1) hx hb dX4_restsIn_37 (by decide) ?_
              refine lv_goto (tgt := 42) hx hb dX4_restsIn_38 (by decide) ?_
              refine lv_istore_n (lv' := [(2, .int (1)), (0, .ref (ad 0)), (1, .int x1), (3, .int y4_3)]) hx hb dX4_restsIn_42 rfl hl (by decide) rfl (fun ls hl => ?_)
              refine lv_iinc (v := (y4_3 + (1 : Int32))) (lv' := [(3, .int (y4_3 + (1 : Int32))), (2, .int (1)), (0, .ref (ad 0)), (1, .int x1)]) hx hb dX4_restsIn_43 hl (k := 3) rfl rfl (by decide) rfl (fun ls hl => ?_)
              refine lv_goto (tgt := 4) hx hb dX4_restsIn_46 (by decide) ?_
              exact ih _ _ _ _ _ hH (lv_sub hl [2, 3, 1, 0] rfl) X (nxt_l h h2) K
  obtain ⟨X4, hX4, h⟩ := bnd h
  refine L4 FU ((1 : Int32)) ((0 : Int32)) _ _ _ hH (lv_sub hl [2, 3, 1, 0] rfl) X4 hX4 ?_
  intro z4_0_2 H locs ls hH hl hE
  replace hE := hE.symm
  subst hE
  refine lv_iload_n hx hb dX4_restsIn_49 rfl (lv_at hl 0 rfl) ?_
  exact g_bret hx hb hr hlk hH h (fun h => ⟨Option.some.inj h, rfl⟩) dX4_restsIn_50
theorem ok_X4_restsIn : okName yX4_restsIn 1 := ⟨by decide, by decide, by decide +kernel⟩
section KL
variable {p : Program} {l : Launch} {e : Env} {R : Room} {s : State} {m : MethodId} {args : Array Value} {below : List Frame} {meth : Method} {c : Code} {H : Heap} {locs : List Loc} {cells slots : Nat} {Q : State → Prop} {cc : ByteArray} {pc nL : Nat} {ls : Array Slot} {rest : List Value}
variable {A : Nat → Prop} {D : va_G} {cy : Nat → ClassId} {ad : Nat → Nat}
theorem kl_X4_111 (C : gC p m c cc nL s args RX4 D (mT cy) (mw cy ad) A) {σ : MS} (hH : gH s D (mw cy ad) A σ H locs) {x1 : Int32} {α : Type} {k : Int32 → Option α} {y : α} (h : (f_X4_restsIn σ x1).bind k = some y) (hR : 3 ≤ R.frames ∧ 71 ≤ R.locals) (hcs : cells ≤ R.cells ∧ slots ≤ R.slots) (hl : ls.size = nL) (hW : (rest.map fun v => v.category).sum ≤ 8) (hdg : decode cc pc = .ok (.invokevirtual 111, 3)) (kk : ∀ (r : Int32) (H1 : Heap) (locs1 : List Loc), gH s D (mw cy ad) A σ H1 locs1 → k r = some y → W p l e R s m args below meth c H1 locs1 cells slots Q (F0 m (pc + 3) ls (.int r :: rest))) : W p l e R s m args below meth c H locs cells slots Q (F0 m pc ls (.int x1 :: .ref (ad 0) :: rest)) := by
  obtain ⟨r, h1, h2⟩ := bnd h
  exact g_fi (g_rV (As := [.int x1]) C hH (c_X4_restsIn l C.2.2.2 σ x1 r h1) (q0 := 0) mw_c_X4_restsIn mw_m_X4_111 mw_i_X4_restsIn mw_v_X4_restsIn mw_in_X4 ok_X4_restsIn ⟨rfl, rfl⟩ rfl rfl rfl hR hcs hl rfl hW hdg) hH.2 (fun H1 locs1 hH1 => kk r H1 locs1 hH1 h2)
end KL
set_option maxHeartbeats 4000000 in
set_option maxRecDepth 100000 in
theorem c_X4_rests (l : Launch) {D : va_G} {cy : Nat → ClassId} {ad : Nat → Nat} {A : Nat → Prop} (hD : ∀ σ, va_D A (mw cy ad σ)) (σ : MS) (r0 : Int32) (h : f_X4_rests σ = some r0) : gMi l yX4_rests (wsM yX4_rests cX4_rests 1 (some .int)) ({ frames := 3, cells := 0, slots := 0, locals := 71 } : Room) D (mT cy) (mw cy ad) A [.ref (ad 0)] σ σ r0 := by
  refine gMi.of (own := RX4) rfl (by decide) (Nat.le_of_ble_eq_true rfl) hD ?_
  intro p e s m below meth c ls C hx hb hr hlk hH hl
  have hl : lv_has ls 1 [(0, .ref (ad 0))] := hl
  unfold f_X4_rests at h
  refine lv_aload_n hx hb dX4_rests_0 rfl (lv_at hl 0 rfl) ?_
  refine lv_aload_n hx hb dX4_rests_1 rfl (lv_at hl 0 rfl) ?_
  refine gf_X4_43 C hH dX4_rests_2 ?_
  refine kl_X4_111 C hH h ⟨by decide, by decide⟩ ⟨by decide, by decide⟩ hl.1 (Nat.le_of_ble_eq_true rfl) dX4_rests_5 (fun r1 H locs hH h => ?_)
  refine gb_if_eq (tgt := 15) hx hb dX4_rests_8 (by decide) h (fun h => ?_) (fun h => ?_)
  · refine lv_iconst (v := 0) hx hb dX4_rests_15 (by decide) ?_
    exact g_iret hx hb hr hlk hH ⟨Option.some.inj h, rfl⟩ dX4_rests_16
  · refine lv_iconst (v := 1) hx hb dX4_rests_11 (by decide) ?_
    refine lv_goto (tgt := 16) hx hb dX4_rests_12 (by decide) ?_
    exact g_iret hx hb hr hlk hH ⟨Option.some.inj h, rfl⟩ dX4_rests_16
theorem ok_X4_rests : okName yX4_rests 0 := ⟨by decide, by decide, by decide +kernel⟩
set_option maxHeartbeats 4000000 in
set_option maxRecDepth 100000 in
theorem c_X4_restMany (l : Launch) {D : va_G} {cy : Nat → ClassId} {ad : Nat → Nat} {A : Nat → Prop} (hD : ∀ σ, va_D A (mw cy ad σ)) (σ : MS) (r0 : Int32) (h : f_X4_restMany σ = some r0) : gMi l yX4_restMany (wsM yX4_restMany cX4_restMany 3 (some .int)) ({ frames := 3, cells := 0, slots := 0, locals := 71 } : Room) D (mT cy) (mw cy ad) A [.ref (ad 0)] σ σ r0 := by
  refine gMi.of (own := RX4) rfl (by decide) (Nat.le_of_ble_eq_true rfl) hD ?_
  intro p e s m below meth c ls C hx hb hr hlk hH hl
  have hl : lv_has ls 3 [(0, .ref (ad 0))] := hl
  unfold f_X4_restMany at h
  refine lv_iconst (v := 0) hx hb dX4_restMany_0 (by decide) ?_
  refine lv_istore_n (lv' := [(1, .int (0)), (0, .ref (ad 0))]) hx hb dX4_restMany_1 rfl hl (by decide) rfl (fun ls hl => ?_)
  refine lv_iconst (v := 0) hx hb dX4_restMany_2 (by decide) ?_
  refine lv_istore_n (lv' := [(2, .int (0)), (1, .int (0)), (0, .ref (ad 0))]) hx hb dX4_restMany_3 rfl hl (by decide) rfl (fun ls hl => ?_)
  have L4 : ∀ (n : Nat) (y4_1 : Int32) (y4_2 : Int32) (H : Heap) (locs : List Loc) (ls : Array Slot), gH s D (mw cy ad) A σ H locs → lv_has ls 3 [(0, .ref (ad 0)), (1, .int y4_1), (2, .int y4_2)] → ∀ X, itr (f_X4_restMany_b4 σ) n (y4_1, y4_2) = some X → (∀ (z4_0_1 : Int32) (H : Heap) (locs : List Loc) (ls : Array Slot), gH s D (mw cy ad) A σ H locs → lv_has ls 3 [(1, .int z4_0_1)] → X = z4_0_1 → W p l e ({ frames := 3, cells := 0, slots := 0, locals := 71 } : Room) s m [.ref (ad 0)].toArray below meth c H locs 0 0 (MQ below (gQi D (mw cy ad) A σ r0) [.ref (ad 0)].toArray s 0 0 A) (F0 m 42 ls [])) → W p l e ({ frames := 3, cells := 0, slots := 0, locals := 71 } : Room) s m [.ref (ad 0)].toArray below meth c H locs 0 0 (MQ below (gQi D (mw cy ad) A σ r0) [.ref (ad 0)].toArray s 0 0 A) (F0 m 4 ls []) := by
    intro n
    induction n with
    | zero =>
      intro y4_1 y4_2 H locs ls hH hl X h K
      exact itr_0 h
    | succ n ih =>
      intro y4_1 y4_2 H locs ls hH hl X h0 K
      obtain ⟨o, h, h2⟩ := itr_step h0
      unfold f_X4_restMany_b4 at h
      refine lv_iload_n hx hb dX4_restMany_4 rfl (lv_at hl 2 rfl) ?_
      refine lv_aload_n hx hb dX4_restMany_5 rfl (lv_at hl 0 rfl) ?_
      refine kl_X4_36 C hH h ⟨by decide, by decide⟩ ⟨by decide, by decide⟩ hl.1 (Nat.le_of_ble_eq_true rfl) dX4_restMany_6 (fun r1 H locs hH h => ?_)
      refine gb_icmp_ge (tgt := 42) hx hb dX4_restMany_9 (by decide) h (fun h => ?_) (fun h => ?_)
      · exact K _ _ _ _ hH (lv_sub hl [1] rfl) (nxt_r h h2)
      · refine lv_iload_n hx hb dX4_restMany_12 rfl (lv_at hl 1 rfl) ?_
        refine lv_aload_n hx hb dX4_restMany_13 rfl (lv_at hl 0 rfl) ?_
        refine lv_iload_n hx hb dX4_restMany_14 rfl (lv_at hl 2 rfl) ?_
        refine kl_X4_82 C hH h ⟨by decide, by decide⟩ ⟨by decide, by decide⟩ hl.1 (Nat.le_of_ble_eq_true rfl) dX4_restMany_15 (fun r2 H locs hH h => ?_)
        refine gb_if_eq (tgt := 33) hx hb dX4_restMany_18 (by decide) h (fun h => ?_) (fun h => ?_)
        · refine lv_iconst (v := 0) hx hb dX4_restMany_33 (by decide) ?_
          refine lv_iadd hx hb dX4_restMany_34 ?_
          refine lv_istore_n (lv' := [(1, .int (y4_1 + (0 : Int32))), (0, .ref (ad 0)), (2, .int y4_2)]) hx hb dX4_restMany_35 rfl hl (by decide) rfl (fun ls hl => ?_)
          refine lv_iinc (v := (y4_2 + (1 : Int32))) (lv' := [(2, .int (y4_2 + (1 : Int32))), (1, .int (y4_1 + (0 : Int32))), (0, .ref (ad 0))]) hx hb dX4_restMany_36 hl (k := 2) rfl rfl (by decide) rfl (fun ls hl => ?_)
          refine lv_goto (tgt := 4) hx hb dX4_restMany_39 (by decide) ?_
          exact ih _ _ _ _ _ hH (lv_sub hl [2, 1, 0] rfl) X (nxt_l h h2) K
        · refine lv_aload_n hx hb dX4_restMany_21 rfl (lv_at hl 0 rfl) ?_
          refine lv_iload_n hx hb dX4_restMany_22 rfl (lv_at hl 2 rfl) ?_
          refine kl_X4_111 C hH h ⟨by decide, by decide⟩ ⟨by decide, by decide⟩ hl.1 (Nat.le_of_ble_eq_true rfl) dX4_restMany_23 (fun r3 H locs hH h => ?_)
          refine gb_if_eq (tgt := 33) hx hb dX4_restMany_26 (by decide) h (fun h => ?_) (fun h => ?_)
          · refine lv_iconst (v := 0) hx hb dX4_restMany_33 (by decide) ?_
            refine lv_iadd hx hb dX4_restMany_34 ?_
            refine lv_istore_n (lv' := [(1, .int (y4_1 + (0 : Int32))), (0, .ref (ad 0)), (2, .int y4_2)]) hx hb dX4_restMany_35 rfl hl (by decide) rfl (fun ls hl => ?_)
            refine lv_iinc (v := (y4_2 + (1 : Int32))) (lv' := [(2, .int (y4_2 + (1 : Int32))), (1, .int (y4_1 + (0 : Int32))), (0, .ref (ad 0))]) hx hb dX4_restMany_36 hl (k := 2) rfl rfl (by decide) rfl (fun ls hl => ?_)
            refine lv_goto (tgt := 4) hx hb dX4_restMany_39 (by decide) ?_
            exact ih _ _ _ _ _ hH (lv_sub hl [2, 1, 0] rfl) X (nxt_l h h2) K
          · refine lv_iconst (v := 1) hx hb dX4_restMany_29 (by decide) ?_
            refine lv_goto (tgt := 34) hx hb dX4_restMany_30 (by decide) ?_
            refine lv_iadd hx hb dX4_restMany_34 ?_
            refine lv_istore_n (lv' := [(1, .int (y4_1 + (1 : Int32))), (0, .ref (ad 0)), (2, .int y4_2)]) hx hb dX4_restMany_35 rfl hl (by decide) rfl (fun ls hl => ?_)
            refine lv_iinc (v := (y4_2 + (1 : Int32))) (lv' := [(2, .int (y4_2 + (1 : Int32))), (1, .int (y4_1 + (1 : Int32))), (0, .ref (ad 0))]) hx hb dX4_restMany_36 hl (k := 2) rfl rfl (by decide) rfl (fun ls hl => ?_)
            refine lv_goto (tgt := 4) hx hb dX4_restMany_39 (by decide) ?_
            exact ih _ _ _ _ _ hH (lv_sub hl [2, 1, 0] rfl) X (nxt_l h h2) K
  obtain ⟨X4, hX4, h⟩ := bnd h
  refine L4 FU ((0 : Int32)) ((0 : Int32)) _ _ _ hH (lv_sub hl [2, 1, 0] rfl) X4 hX4 ?_
  intro z4_0_1 H locs ls hH hl hE
  replace hE := hE.symm
  subst hE
  refine lv_iload_n hx hb dX4_restMany_42 rfl (lv_at hl 0 rfl) ?_
  exact g_iret hx hb hr hlk hH ⟨Option.some.inj h, rfl⟩ dX4_restMany_43
theorem ok_X4_restMany : okName yX4_restMany 0 := ⟨by decide, by decide, by decide +kernel⟩
set_option maxHeartbeats 4000000 in
set_option maxRecDepth 100000 in
theorem c_X4_bits (l : Launch) {D : va_G} {cy : Nat → ClassId} {ad : Nat → Nat} {A : Nat → Prop} (hD : ∀ σ, va_D A (mw cy ad σ)) (σ : MS) (x1 : Int32) (r0 : Int32) (h : f_X4_bits σ x1 = some r0) : gMi l yX4_bits (wsM yX4_bits cX4_bits 4 (some .int)) ({ frames := 0, cells := 0, slots := 0, locals := 0 } : Room) D (mT cy) (mw cy ad) A [.ref (ad 0), .int x1] σ σ r0 := by
  refine gMi.of (own := RX4) rfl (by decide) (Nat.le_of_ble_eq_true rfl) hD ?_
  intro p e s m below meth c ls C hx hb hr hlk hH hl
  have hl : lv_has ls 4 [(0, .ref (ad 0)), (1, .int x1)] := hl
  unfold f_X4_bits at h
  refine lv_iconst (v := 0) hx hb dX4_bits_0 (by decide) ?_
  refine lv_istore_n (lv' := [(2, .int (0)), (0, .ref (ad 0)), (1, .int x1)]) hx hb dX4_bits_1 rfl hl (by decide) rfl (fun ls hl => ?_)
  refine lv_iconst (v := 0) hx hb dX4_bits_2 (by decide) ?_
  refine lv_istore_n (lv' := [(3, .int (0)), (2, .int (0)), (0, .ref (ad 0)), (1, .int x1)]) hx hb dX4_bits_3 rfl hl (by decide) rfl (fun ls hl => ?_)
  have L4 : ∀ (n : Nat) (y4_2 : Int32) (y4_3 : Int32) (H : Heap) (locs : List Loc) (ls : Array Slot), gH s D (mw cy ad) A σ H locs → lv_has ls 4 [(0, .ref (ad 0)), (1, .int x1), (2, .int y4_2), (3, .int y4_3)] → ∀ X, itr (f_X4_bits_b4 σ x1) n (y4_2, y4_3) = some X → (∀ (z4_0_2 : Int32) (H : Heap) (locs : List Loc) (ls : Array Slot), gH s D (mw cy ad) A σ H locs → lv_has ls 4 [(2, .int z4_0_2)] → X = z4_0_2 → W p l e ({ frames := 0, cells := 0, slots := 0, locals := 0 } : Room) s m [.ref (ad 0), .int x1].toArray below meth c H locs 0 0 (MQ below (gQi D (mw cy ad) A σ r0) [.ref (ad 0), .int x1].toArray s 0 0 A) (F0 m 26 ls [])) → W p l e ({ frames := 0, cells := 0, slots := 0, locals := 0 } : Room) s m [.ref (ad 0), .int x1].toArray below meth c H locs 0 0 (MQ below (gQi D (mw cy ad) A σ r0) [.ref (ad 0), .int x1].toArray s 0 0 A) (F0 m 4 ls []) := by
    intro n
    induction n with
    | zero =>
      intro y4_2 y4_3 H locs ls hH hl X h K
      exact itr_0 h
    | succ n ih =>
      intro y4_2 y4_3 H locs ls hH hl X h0 K
      obtain ⟨o, h, h2⟩ := itr_step h0
      unfold f_X4_bits_b4 at h
      refine lv_iload_n hx hb dX4_bits_4 rfl (lv_at hl 3 rfl) ?_
      refine lv_aload_n hx hb dX4_bits_5 rfl (lv_at hl 0 rfl) ?_
      refine gf_X4_7 C hH dX4_bits_6 ?_
      refine gb_icmp_ge (tgt := 26) hx hb dX4_bits_9 (by decide) h (fun h => ?_) (fun h => ?_)
      · exact K _ _ _ _ hH (lv_sub hl [2] rfl) (nxt_r h h2)
      · refine lv_iload_n hx hb dX4_bits_12 rfl (lv_at hl 2 rfl) ?_
        refine lv_iload_n hx hb dX4_bits_13 rfl (lv_at hl 1 rfl) ?_
        refine lv_iload_n hx hb dX4_bits_14 rfl (lv_at hl 3 rfl) ?_
        refine lv_ishr hx hb dX4_bits_15 ?_
        refine lv_iconst (v := 1) hx hb dX4_bits_16 (by decide) ?_
        refine lv_iand hx hb dX4_bits_17 ?_
        refine lv_iadd hx hb dX4_bits_18 ?_
        refine lv_istore_n (lv' := [(2, .int (y4_2 + ((x1 >>> (y4_3 &&& 31)) &&& (1 : Int32)))), (0, .ref (ad 0)), (1, .int x1), (3, .int y4_3)]) hx hb dX4_bits_19 rfl hl (by decide) rfl (fun ls hl => ?_)
        refine lv_iinc (v := (y4_3 + (1 : Int32))) (lv' := [(3, .int (y4_3 + (1 : Int32))), (2, .int (y4_2 + ((x1 >>> (y4_3 &&& 31)) &&& (1 : Int32)))), (0, .ref (ad 0)), (1, .int x1)]) hx hb dX4_bits_20 hl (k := 3) rfl rfl (by decide) rfl (fun ls hl => ?_)
        refine lv_goto (tgt := 4) hx hb dX4_bits_23 (by decide) ?_
        exact ih _ _ _ _ _ hH (lv_sub hl [2, 3, 1, 0] rfl) X (nxt_l h h2) K
  obtain ⟨X4, hX4, h⟩ := bnd h
  refine L4 FU ((0 : Int32)) ((0 : Int32)) _ _ _ hH (lv_sub hl [2, 3, 1, 0] rfl) X4 hX4 ?_
  intro z4_0_2 H locs ls hH hl hE
  replace hE := hE.symm
  subst hE
  refine lv_iload_n hx hb dX4_bits_26 rfl (lv_at hl 0 rfl) ?_
  exact g_iret hx hb hr hlk hH ⟨Option.some.inj h, rfl⟩ dX4_bits_27
theorem ok_X4_bits : okName yX4_bits 1 := ⟨by decide, by decide, by decide +kernel⟩
section KL
variable {p : Program} {l : Launch} {e : Env} {R : Room} {s : State} {m : MethodId} {args : Array Value} {below : List Frame} {meth : Method} {c : Code} {H : Heap} {locs : List Loc} {cells slots : Nat} {Q : State → Prop} {cc : ByteArray} {pc nL : Nat} {ls : Array Slot} {rest : List Value}
variable {A : Nat → Prop} {D : va_G} {cy : Nat → ClassId} {ad : Nat → Nat}
theorem kl_X4_114 (C : gC p m c cc nL s args RX4 D (mT cy) (mw cy ad) A) {σ : MS} (hH : gH s D (mw cy ad) A σ H locs) {x1 : Int32} {α : Type} {k : Int32 → Option α} {y : α} (h : (f_X4_bits σ x1).bind k = some y) (hR : 1 ≤ R.frames ∧ 23 ≤ R.locals) (hcs : cells ≤ R.cells ∧ slots ≤ R.slots) (hl : ls.size = nL) (hW : (rest.map fun v => v.category).sum ≤ 8) (hdg : decode cc pc = .ok (.invokevirtual 114, 3)) (kk : ∀ (r : Int32) (H1 : Heap) (locs1 : List Loc), gH s D (mw cy ad) A σ H1 locs1 → k r = some y → W p l e R s m args below meth c H1 locs1 cells slots Q (F0 m (pc + 3) ls (.int r :: rest))) : W p l e R s m args below meth c H locs cells slots Q (F0 m pc ls (.int x1 :: .ref (ad 0) :: rest)) := by
  obtain ⟨r, h1, h2⟩ := bnd h
  exact g_fi (g_rV (As := [.int x1]) C hH (c_X4_bits l C.2.2.2 σ x1 r h1) (q0 := 0) mw_c_X4_bits mw_m_X4_114 mw_i_X4_bits mw_v_X4_bits mw_in_X4 ok_X4_bits ⟨rfl, rfl⟩ rfl rfl rfl hR hcs hl rfl hW hdg) hH.2 (fun H1 locs1 hH1 => kk r H1 locs1 hH1 h2)
end KL
set_option maxHeartbeats 4000000 in
set_option maxRecDepth 100000 in
theorem c_X4_tips (l : Launch) {D : va_G} {cy : Nat → ClassId} {ad : Nat → Nat} {A : Nat → Prop} (hD : ∀ σ, va_D A (mw cy ad σ)) (σ : MS) (x1 x2 : Int32) (r0 : Int32) (h : f_X4_tips σ x1 x2 = some r0) : gMi l yX4_tips (wsM yX4_tips cX4_tips 7 (some .boolean)) ({ frames := 4, cells := 0, slots := 0, locals := 100 } : Room) D (mT cy) (mw cy ad) A [.ref (ad 0), .int x1, .int x2] σ σ r0 := by
  refine gMi.of (own := RX4) rfl (by decide) (Nat.le_of_ble_eq_true rfl) hD ?_
  intro p e s m below meth c ls C hx hb hr hlk hH hl
  have hl : lv_has ls 7 [(0, .ref (ad 0)), (1, .int x1), (2, .int x2)] := hl
  unfold f_X4_tips at h
  refine lv_aload_n hx hb dX4_tips_0 rfl (lv_at hl 0 rfl) ?_
  refine kl_X4_36 C hH h ⟨by decide, by decide⟩ ⟨by decide, by decide⟩ hl.1 (Nat.le_of_ble_eq_true rfl) dX4_tips_1 (fun r1 H locs hH h => ?_)
  refine lv_iconst (v := 1) hx hb dX4_tips_4 (by decide) ?_
  refine lv_isub hx hb dX4_tips_5 ?_
  refine lv_istore_n (lv' := [(3, .int (r1 - (1 : Int32))), (0, .ref (ad 0)), (1, .int x1), (2, .int x2)]) hx hb dX4_tips_6 rfl hl (by decide) rfl (fun ls hl => ?_)
  refine lv_iload_n hx hb dX4_tips_7 rfl (lv_at hl 3 rfl) ?_
  refine lv_istore (lv' := [(4, .int x2), (3, .int (r1 - (1 : Int32))), (0, .ref (ad 0)), (1, .int x1), (2, .int x2)]) hx hb dX4_tips_8 hl (by decide) rfl (fun ls hl => ?_)
  refine lv_iconst (v := -1) hx hb dX4_tips_10 (by decide) ?_
  refine lv_istore (lv' := [(5, .int (-1)), (4, .int x2), (3, .int (r1 - (1 : Int32))), (0, .ref (ad 0)), (1, .int x1), (2, .int x2)]) hx hb dX4_tips_11 hl (by decide) rfl (fun ls hl => ?_)
  refine lv_iconst (v := 0) hx hb dX4_tips_13 (by decide) ?_
  refine lv_istore (lv' := [(6, .int (0)), (5, .int (-1)), (4, .int x2), (3, .int (r1 - (1 : Int32))), (0, .ref (ad 0)), (1, .int x1), (2, .int x2)]) hx hb dX4_tips_14 hl (by decide) rfl (fun ls hl => ?_)
  have L16 : ∀ (n : Nat) (y16_4 : Int32) (y16_5 : Int32) (y16_6 : Int32) (H : Heap) (locs : List Loc) (ls : Array Slot), gH s D (mw cy ad) A σ H locs → lv_has ls 7 [(0, .ref (ad 0)), (1, .int x1), (2, .int x2), (3, .int (r1 - (1 : Int32))), (4, .int y16_4), (5, .int y16_5), (6, .int y16_6)] → ∀ X, itr (f_X4_tips_b16 σ r1 x1 x2) n (y16_4, y16_5, y16_6) = some X → (∀ (z16_0_4 : Int32) (H : Heap) (locs : List Loc) (ls : Array Slot), gH s D (mw cy ad) A σ H locs → lv_has ls 7 [(3, .int (r1 - (1 : Int32))), (4, .int z16_0_4)] → X = z16_0_4 → W p l e ({ frames := 4, cells := 0, slots := 0, locals := 100 } : Room) s m [.ref (ad 0), .int x1, .int x2].toArray below meth c H locs 0 0 (MQ below (gQi D (mw cy ad) A σ r0) [.ref (ad 0), .int x1, .int x2].toArray s 0 0 A) (F0 m 72 ls [])) → W p l e ({ frames := 4, cells := 0, slots := 0, locals := 100 } : Room) s m [.ref (ad 0), .int x1, .int x2].toArray below meth c H locs 0 0 (MQ below (gQi D (mw cy ad) A σ r0) [.ref (ad 0), .int x1, .int x2].toArray s 0 0 A) (F0 m 16 ls []) := by
    intro n
    induction n with
    | zero =>
      intro y16_4 y16_5 y16_6 H locs ls hH hl X h K
      exact itr_0 h
    | succ n ih =>
      intro y16_4 y16_5 y16_6 H locs ls hH hl X h0 K
      obtain ⟨o, h, h2⟩ := itr_step h0
      unfold f_X4_tips_b16 at h
      refine lv_iload hx hb dX4_tips_16 (lv_at hl 6 rfl) ?_
      refine lv_sipush (v := 1024) hx hb dX4_tips_18 (by decide) ?_
      refine gb_icmp_ge (tgt := 72) hx hb dX4_tips_21 (by decide) h (fun h => ?_) (fun h => ?_)
      · exact K _ _ _ _ hH (lv_sub hl [3, 4] rfl) (nxt_r h h2)
      · refine lv_iload hx hb dX4_tips_24 (lv_at hl 4 rfl) ?_
        refine lv_iload_n hx hb dX4_tips_26 rfl (lv_at hl 3 rfl) ?_
        refine gb_icmp_eq (tgt := 72) hx hb dX4_tips_27 (by decide) h (fun h => ?_) (fun h => ?_)
        · exact K _ _ _ _ hH (lv_sub hl [3, 4] rfl) (nxt_r h h2)
        · refine lv_iload hx hb dX4_tips_30 (lv_at hl 4 rfl) ?_
          refine lv_iload hx hb dX4_tips_32 (lv_at hl 5 rfl) ?_
          refine gb_icmp_eq (tgt := 72) hx hb dX4_tips_34 (by decide) h (fun h => ?_) (fun h => ?_)
          · exact K _ _ _ _ hH (lv_sub hl [3, 4] rfl) (nxt_r h h2)
          · refine lv_iload hx hb dX4_tips_37 (lv_at hl 6 rfl) ?_
            refine lv_iload hx hb dX4_tips_39 (lv_at hl 6 rfl) ?_
            refine lv_iconst (v := 1) hx hb dX4_tips_41 (by decide) ?_
            refine lv_isub hx hb dX4_tips_42 ?_
            refine lv_iand hx hb dX4_tips_43 ?_
            refine gb_if_ne (tgt := 52) hx hb dX4_tips_44 (by decide) h (fun h => ?_) (fun h => ?_)
            · refine lv_iload hx hb dX4_tips_52 (lv_at hl 5 rfl) ?_
              refine lv_istore (lv' := [(5, .int y16_5), (0, .ref (ad 0)), (1, .int x1), (2, .int x2), (3, .int (r1 - (1 : Int32))), (4, .int y16_4), (6, .int y16_6)]) hx hb dX4_tips_54 hl (by decide) rfl (fun ls hl => ?_)
              refine lv_aload_n hx hb dX4_tips_56 rfl (lv_at hl 1 rfl) ?_
              refine lv_iload_n hx hb dX4_tips_57 rfl (lv_at hl 2 rfl) ?_
              refine lv_iload hx hb dX4_tips_58 (lv_at hl 5 rfl) ?_
              refine lv_iload_n hx hb dX4_tips_60 rfl (lv_at hl 3 rfl) ?_
              refine kl_X4_79 C hH h ⟨by decide, by decide⟩ ⟨by decide, by decide⟩ hl.1 (Nat.le_of_ble_eq_true rfl) dX4_tips_61 (fun r2 H locs hH h => ?_)
              refine lv_istore (lv' := [(4, .int r2), (5, .int y16_5), (0, .ref (ad 0)), (1, .int x1), (2, .int x2), (3, .int (r1 - (1 : Int32))), (6, .int y16_6)]) hx hb dX4_tips_64 hl (by decide) rfl (fun ls hl => ?_)
              refine lv_iinc (v := (y16_6 + (1 : Int32))) (lv' := [(6, .int (y16_6 + (1 : Int32))), (4, .int r2), (5, .int y16_5), (0, .ref (ad 0)), (1, .int x1), (2, .int x2), (3, .int (r1 - (1 : Int32)))]) hx hb dX4_tips_66 hl (k := 6) rfl rfl (by decide) rfl (fun ls hl => ?_)
              refine lv_goto (tgt := 16) hx hb dX4_tips_69 (by decide) ?_
              exact ih _ _ _ _ _ _ hH (lv_sub hl [3, 4, 5, 6, 1, 2, 0] rfl) X (nxt_l h h2) K
            · refine lv_iload hx hb dX4_tips_47 (lv_at hl 4 rfl) ?_
              refine lv_goto (tgt := 54) hx hb dX4_tips_49 (by decide) ?_
              refine lv_istore (lv' := [(5, .int y16_4), (0, .ref (ad 0)), (1, .int x1), (2, .int x2), (3, .int (r1 - (1 : Int32))), (4, .int y16_4), (6, .int y16_6)]) hx hb dX4_tips_54 hl (by decide) rfl (fun ls hl => ?_)
              refine lv_aload_n hx hb dX4_tips_56 rfl (lv_at hl 1 rfl) ?_
              refine lv_iload_n hx hb dX4_tips_57 rfl (lv_at hl 2 rfl) ?_
              refine lv_iload hx hb dX4_tips_58 (lv_at hl 5 rfl) ?_
              refine lv_iload_n hx hb dX4_tips_60 rfl (lv_at hl 3 rfl) ?_
              refine kl_X4_79 C hH h ⟨by decide, by decide⟩ ⟨by decide, by decide⟩ hl.1 (Nat.le_of_ble_eq_true rfl) dX4_tips_61 (fun r3 H locs hH h => ?_)
              refine lv_istore (lv' := [(4, .int r3), (5, .int y16_4), (0, .ref (ad 0)), (1, .int x1), (2, .int x2), (3, .int (r1 - (1 : Int32))), (6, .int y16_6)]) hx hb dX4_tips_64 hl (by decide) rfl (fun ls hl => ?_)
              refine lv_iinc (v := (y16_6 + (1 : Int32))) (lv' := [(6, .int (y16_6 + (1 : Int32))), (4, .int r3), (5, .int y16_4), (0, .ref (ad 0)), (1, .int x1), (2, .int x2), (3, .int (r1 - (1 : Int32)))]) hx hb dX4_tips_66 hl (k := 6) rfl rfl (by decide) rfl (fun ls hl => ?_)
              refine lv_goto (tgt := 16) hx hb dX4_tips_69 (by decide) ?_
              exact ih _ _ _ _ _ _ hH (lv_sub hl [3, 4, 5, 6, 1, 2, 0] rfl) X (nxt_l h h2) K
  obtain ⟨X16, hX16, h⟩ := bnd h
  refine L16 FU x2 ((-1 : Int32)) ((0 : Int32)) _ _ _ hH (lv_sub hl [4, 5, 6, 3, 2, 1, 0] rfl) X16 hX16 ?_
  intro z16_0_4 H locs ls hH hl hE
  replace hE := hE.symm
  subst hE
  refine lv_iload hx hb dX4_tips_72 (lv_at hl 1 rfl) ?_
  refine lv_iload_n hx hb dX4_tips_74 rfl (lv_at hl 0 rfl) ?_
  refine gb_icmp_ne (tgt := 82) hx hb dX4_tips_75 (by decide) h (fun h => ?_) (fun h => ?_)
  · refine lv_iconst (v := 0) hx hb dX4_tips_82 (by decide) ?_
    exact g_zret hx hb hr hlk hH ⟨Option.some.inj h, rfl⟩ rfl dX4_tips_83
  · refine lv_iconst (v := 1) hx hb dX4_tips_78 (by decide) ?_
    refine lv_goto (tgt := 83) hx hb dX4_tips_79 (by decide) ?_
    exact g_zret hx hb hr hlk hH ⟨Option.some.inj h, rfl⟩ rfl dX4_tips_83
theorem ok_X4_tips : okName yX4_tips 2 := ⟨by decide, by decide, by decide +kernel⟩
section KL
variable {p : Program} {l : Launch} {e : Env} {R : Room} {s : State} {m : MethodId} {args : Array Value} {below : List Frame} {meth : Method} {c : Code} {H : Heap} {locs : List Loc} {cells slots : Nat} {Q : State → Prop} {cc : ByteArray} {pc nL : Nat} {ls : Array Slot} {rest : List Value}
variable {A : Nat → Prop} {D : va_G} {cy : Nat → ClassId} {ad : Nat → Nat}
theorem kl_X4_117 (C : gC p m c cc nL s args RX4 D (mT cy) (mw cy ad) A) {σ : MS} (hH : gH s D (mw cy ad) A σ H locs) {x1 x2 : Int32} {α : Type} {k : Int32 → Option α} {y : α} (h : (f_X4_tips σ x1 x2).bind k = some y) (hR : 5 ≤ R.frames ∧ 126 ≤ R.locals) (hcs : cells ≤ R.cells ∧ slots ≤ R.slots) (hl : ls.size = nL) (hW : (rest.map fun v => v.category).sum ≤ 8) (hdg : decode cc pc = .ok (.invokevirtual 117, 3)) (kk : ∀ (r : Int32) (H1 : Heap) (locs1 : List Loc), gH s D (mw cy ad) A σ H1 locs1 → k r = some y → W p l e R s m args below meth c H1 locs1 cells slots Q (F0 m (pc + 3) ls (.int r :: rest))) : W p l e R s m args below meth c H locs cells slots Q (F0 m pc ls (.int x2 :: .int x1 :: .ref (ad 0) :: rest)) := by
  obtain ⟨r, h1, h2⟩ := bnd h
  exact g_fi (g_rV (As := [.int x1, .int x2]) C hH (c_X4_tips l C.2.2.2 σ x1 x2 r h1) (q0 := 0) mw_c_X4_tips mw_m_X4_117 mw_i_X4_tips mw_v_X4_tips mw_in_X4 ok_X4_tips ⟨rfl, rfl⟩ rfl rfl rfl hR hcs hl rfl hW hdg) hH.2 (fun H1 locs1 hH1 => kk r H1 locs1 hH1 h2)
end KL
set_option maxHeartbeats 4000000 in
set_option maxRecDepth 100000 in
theorem c_X4_tip (l : Launch) {D : va_G} {cy : Nat → ClassId} {ad : Nat → Nat} {A : Nat → Prop} (hD : ∀ σ, va_D A (mw cy ad σ)) (σ : MS) (x1 : Int32) (r0 : Int32) (h : f_X4_tip σ x1 = some r0) : gMi l yX4_tip (wsM yX4_tip cX4_tip 4 (some .int)) ({ frames := 5, cells := 0, slots := 0, locals := 126 } : Room) D (mT cy) (mw cy ad) A [.ref (ad 0), .int x1] σ σ r0 := by
  refine gMi.of (own := RX4) rfl (by decide) (Nat.le_of_ble_eq_true rfl) hD ?_
  intro p e s m below meth c ls C hx hb hr hlk hH hl
  have hl : lv_has ls 4 [(0, .ref (ad 0)), (1, .int x1)] := hl
  unfold f_X4_tip at h
  refine lv_iload_n hx hb dX4_tip_0 rfl (lv_at hl 1 rfl) ?_
  refine kl_X4_76 C hH h ⟨by decide, by decide⟩ ⟨by decide, by decide⟩ hl.1 (Nat.le_of_ble_eq_true rfl) dX4_tip_1 (fun r1 H locs hH h => ?_)
  refine gb_if_ne (tgt := 10) hx hb dX4_tip_4 (by decide) h (fun h => ?_) (fun h => ?_)
  · refine lv_iconst (v := 0) hx hb dX4_tip_10 (by decide) ?_
    refine lv_istore_n (lv' := [(2, .int (0)), (0, .ref (ad 0)), (1, .int x1)]) hx hb dX4_tip_11 rfl hl (by decide) rfl (fun ls hl => ?_)
    have L12 : ∀ (n : Nat) (y12_2 : Int32) (H : Heap) (locs : List Loc) (ls : Array Slot), gH s D (mw cy ad) A σ H locs → lv_has ls 4 [(0, .ref (ad 0)), (1, .int x1), (2, .int y12_2)] → ∀ X, itr (f_X4_tip_b12 σ x1) n y12_2 = some X → (∀ (z12_0_3 : Int32) (H : Heap) (locs : List Loc) (ls : Array Slot), gH s D (mw cy ad) A σ H locs → lv_has ls 4 [(3, .int z12_0_3)] → X = (Sum.inl z12_0_3) → W p l e ({ frames := 5, cells := 0, slots := 0, locals := 126 } : Room) s m [.ref (ad 0), .int x1].toArray below meth c H locs 0 0 (MQ below (gQi D (mw cy ad) A σ r0) [.ref (ad 0), .int x1].toArray s 0 0 A) (F0 m 48 ls [])) → (∀ (H : Heap) (locs : List Loc) (ls : Array Slot), gH s D (mw cy ad) A σ H locs → lv_has ls 4 [] → X = (Sum.inr ()) → W p l e ({ frames := 5, cells := 0, slots := 0, locals := 126 } : Room) s m [.ref (ad 0), .int x1].toArray below meth c H locs 0 0 (MQ below (gQi D (mw cy ad) A σ r0) [.ref (ad 0), .int x1].toArray s 0 0 A) (F0 m 62 ls [])) → W p l e ({ frames := 5, cells := 0, slots := 0, locals := 126 } : Room) s m [.ref (ad 0), .int x1].toArray below meth c H locs 0 0 (MQ below (gQi D (mw cy ad) A σ r0) [.ref (ad 0), .int x1].toArray s 0 0 A) (F0 m 12 ls []) := by
      intro n
      induction n with
      | zero =>
        intro y12_2 H locs ls hH hl X h K0 K1
        exact itr_0 h
      | succ n ih =>
        intro y12_2 H locs ls hH hl X h0 K0 K1
        obtain ⟨o, h, h2⟩ := itr_step h0
        unfold f_X4_tip_b12 at h
        refine lv_iload_n hx hb dX4_tip_12 rfl (lv_at hl 2 rfl) ?_
        refine lv_aload_n hx hb dX4_tip_13 rfl (lv_at hl 0 rfl) ?_
        refine gf_X4_7 C hH dX4_tip_14 ?_
        refine gb_icmp_gt (tgt := 62) hx hb dX4_tip_17 (by decide) h (fun h => ?_) (fun h => ?_)
        · exact K1 _ _ _ hH (lv_sub hl [] rfl) (nxt_r h h2)
        · refine lv_iconst (v := 0) hx hb dX4_tip_20 (by decide) ?_
          refine lv_istore_n (lv' := [(3, .int (0)), (0, .ref (ad 0)), (1, .int x1), (2, .int y12_2)]) hx hb dX4_tip_21 rfl hl (by decide) rfl (fun ls hl => ?_)
          have L22 : ∀ (n : Nat) (y22_3 : Int32) (H : Heap) (locs : List Loc) (ls : Array Slot), gH s D (mw cy ad) A σ H locs → lv_has ls 4 [(0, .ref (ad 0)), (1, .int x1), (2, .int y12_2), (3, .int y22_3)] → ∀ X, itr (f_X4_tip_b22 σ y12_2 x1) n y22_3 = some X → (∀ (z22_0_3 : Int32) (H : Heap) (locs : List Loc) (ls : Array Slot), gH s D (mw cy ad) A σ H locs → lv_has ls 4 [(3, .int z22_0_3)] → X = (Sum.inl z22_0_3) → W p l e ({ frames := 5, cells := 0, slots := 0, locals := 126 } : Room) s m [.ref (ad 0), .int x1].toArray below meth c H locs 0 0 (MQ below (gQi D (mw cy ad) A σ r0) [.ref (ad 0), .int x1].toArray s 0 0 A) (F0 m 48 ls [])) → (∀ (H : Heap) (locs : List Loc) (ls : Array Slot), gH s D (mw cy ad) A σ H locs → lv_has ls 4 [(0, .ref (ad 0)), (1, .int x1), (2, .int y12_2)] → X = (Sum.inr ()) → W p l e ({ frames := 5, cells := 0, slots := 0, locals := 126 } : Room) s m [.ref (ad 0), .int x1].toArray below meth c H locs 0 0 (MQ below (gQi D (mw cy ad) A σ r0) [.ref (ad 0), .int x1].toArray s 0 0 A) (F0 m 56 ls [])) → W p l e ({ frames := 5, cells := 0, slots := 0, locals := 126 } : Room) s m [.ref (ad 0), .int x1].toArray below meth c H locs 0 0 (MQ below (gQi D (mw cy ad) A σ r0) [.ref (ad 0), .int x1].toArray s 0 0 A) (F0 m 22 ls []) := by
            intro n
            induction n with
            | zero =>
              intro y22_3 H locs ls hH hl X h K0 K1
              exact itr_0 h
            | succ n ih =>
              intro y22_3 H locs ls hH hl X h0 K0 K1
              obtain ⟨o, h, h2⟩ := itr_step h0
              unfold f_X4_tip_b22 at h
              refine lv_iload_n hx hb dX4_tip_22 rfl (lv_at hl 3 rfl) ?_
              refine lv_aload_n hx hb dX4_tip_23 rfl (lv_at hl 0 rfl) ?_
              refine kl_X4_36 C hH h ⟨by decide, by decide⟩ ⟨by decide, by decide⟩ hl.1 (Nat.le_of_ble_eq_true rfl) dX4_tip_24 (fun r2 H locs hH h => ?_)
              refine gb_icmp_ge (tgt := 56) hx hb dX4_tip_27 (by decide) h (fun h => ?_) (fun h => ?_)
              · exact K1 _ _ _ hH (lv_sub hl [0, 1, 2] rfl) (nxt_r h h2)
              · refine lv_aload_n hx hb dX4_tip_30 rfl (lv_at hl 0 rfl) ?_
                refine lv_iload_n hx hb dX4_tip_31 rfl (lv_at hl 3 rfl) ?_
                refine kl_X4_114 C hH h ⟨by decide, by decide⟩ ⟨by decide, by decide⟩ hl.1 (Nat.le_of_ble_eq_true rfl) dX4_tip_32 (fun r3 H locs hH h => ?_)
                refine lv_iload_n hx hb dX4_tip_35 rfl (lv_at hl 2 rfl) ?_
                refine gb_icmp_ne (tgt := 50) hx hb dX4_tip_36 (by decide) h (fun h => ?_) (fun h => ?_)
                · refine lv_iinc (v := (y22_3 + (1 : Int32))) (lv' := [(3, .int (y22_3 + (1 : Int32))), (0, .ref (ad 0)), (1, .int x1), (2, .int y12_2)]) hx hb dX4_tip_50 hl (k := 3) rfl rfl (by decide) rfl (fun ls hl => ?_)
                  refine lv_goto (tgt := 22) hx hb dX4_tip_53 (by decide) ?_
                  exact ih _ _ _ _ hH (lv_sub hl [1, 2, 3, 0] rfl) X (nxt_l h h2) K0 K1
                · refine lv_aload_n hx hb dX4_tip_39 rfl (lv_at hl 0 rfl) ?_
                  refine lv_iload_n hx hb dX4_tip_40 rfl (lv_at hl 1 rfl) ?_
                  refine lv_iload_n hx hb dX4_tip_41 rfl (lv_at hl 3 rfl) ?_
                  refine kl_X4_117 C hH h ⟨by decide, by decide⟩ ⟨by decide, by decide⟩ hl.1 (Nat.le_of_ble_eq_true rfl) dX4_tip_42 (fun r4 H locs hH h => ?_)
                  refine gb_if_eq (tgt := 50) hx hb dX4_tip_45 (by decide) h (fun h => ?_) (fun h => ?_)
                  · refine lv_iinc (v := (y22_3 + (1 : Int32))) (lv' := [(3, .int (y22_3 + (1 : Int32))), (0, .ref (ad 0)), (1, .int x1), (2, .int y12_2)]) hx hb dX4_tip_50 hl (k := 3) rfl rfl (by decide) rfl (fun ls hl => ?_)
                    refine lv_goto (tgt := 22) hx hb dX4_tip_53 (by decide) ?_
                    exact ih _ _ _ _ hH (lv_sub hl [1, 2, 3, 0] rfl) X (nxt_l h h2) K0 K1
                  · exact K0 _ _ _ _ hH (lv_sub hl [3] rfl) (nxt_r h h2)
          obtain ⟨X22, hX22, h⟩ := bnd h
          refine L22 FU ((0 : Int32)) _ _ _ hH (lv_sub hl [1, 2, 3, 0] rfl) X22 hX22 ?_ ?_
          · intro z22_0_3 H locs ls hH hl hE
            replace hE := hE.symm
            subst hE
            exact K0 _ _ _ _ hH (lv_sub hl [0] rfl) (nxt_r h h2)
          · intro H locs ls hH hl hE
            replace hE := hE.symm
            subst hE
            refine lv_iinc (v := (y12_2 + (1 : Int32))) (lv' := [(2, .int (y12_2 + (1 : Int32))), (0, .ref (ad 0)), (1, .int x1)]) hx hb dX4_tip_56 hl (k := 2) rfl rfl (by decide) rfl (fun ls hl => ?_)
            refine lv_goto (tgt := 12) hx hb dX4_tip_59 (by decide) ?_
            exact ih _ _ _ _ hH (lv_sub hl [1, 2, 0] rfl) X (nxt_l h h2) K0 K1
    obtain ⟨X12, hX12, h⟩ := bnd h
    refine L12 FU ((0 : Int32)) _ _ _ hH (lv_sub hl [1, 2, 0] rfl) X12 hX12 ?_ ?_
    · intro z12_0_3 H locs ls hH hl hE
      replace hE := hE.symm
      subst hE
      refine lv_iload_n hx hb dX4_tip_48 rfl (lv_at hl 0 rfl) ?_
      exact g_iret hx hb hr hlk hH ⟨Option.some.inj h, rfl⟩ dX4_tip_49
    · intro H locs ls hH hl hE
      replace hE := hE.symm
      subst hE
      refine lv_bipush (v := -6) hx hb dX4_tip_62 (by decide) ?_
      exact g_iret hx hb hr hlk hH ⟨Option.some.inj h, rfl⟩ dX4_tip_64
  · refine lv_bipush (v := -2) hx hb dX4_tip_7 (by decide) ?_
    exact g_iret hx hb hr hlk hH ⟨Option.some.inj h, rfl⟩ dX4_tip_9
theorem ok_X4_tip : okName yX4_tip 1 := ⟨by decide, by decide, by decide +kernel⟩
set_option maxHeartbeats 4000000 in
set_option maxRecDepth 100000 in
theorem c_X4_common (l : Launch) {D : va_G} {cy : Nat → ClassId} {ad : Nat → Nat} {A : Nat → Prop} (hD : ∀ σ, va_D A (mw cy ad σ)) (σ : MS) (x0 x1 : Int32) (r0 : Int32) (h : f_X4_common x0 x1 = some r0) : gMi l yX4_common (wsM yX4_common cX4_common 5 (some .int)) ({ frames := 0, cells := 0, slots := 0, locals := 0 } : Room) D (mT cy) (mw cy ad) A [.int x0, .int x1] σ σ r0 := by
  refine gMi.of (own := RX4) rfl (by decide) (Nat.le_of_ble_eq_true rfl) hD ?_
  intro p e s m below meth c ls C hx hb hr hlk hH hl
  have hl : lv_has ls 5 [(0, .int x0), (1, .int x1)] := hl
  unfold f_X4_common at h
  refine lv_iload_n hx hb dX4_common_0 rfl (lv_at hl 0 rfl) ?_
  refine lv_istore_n (lv' := [(2, .int x0), (0, .int x0), (1, .int x1)]) hx hb dX4_common_1 rfl hl (by decide) rfl (fun ls hl => ?_)
  refine lv_iload_n hx hb dX4_common_2 rfl (lv_at hl 2 rfl) ?_
  refine lv_istore_n (lv' := [(3, .int x1), (2, .int x0), (0, .int x0), (1, .int x1)]) hx hb dX4_common_3 rfl hl (by decide) rfl (fun ls hl => ?_)
  have L4 : ∀ (n : Nat) (y4_2 : Int32) (y4_3 : Int32) (H : Heap) (locs : List Loc) (ls : Array Slot), gH s D (mw cy ad) A σ H locs → lv_has ls 5 [(2, .int y4_2), (3, .int y4_3)] → ∀ X, itr f_X4_common_b4 n (y4_2, y4_3) = some X → (∀ (z4_0_2 : Int32) (H : Heap) (locs : List Loc) (ls : Array Slot), gH s D (mw cy ad) A σ H locs → lv_has ls 5 [(2, .int z4_0_2)] → X = z4_0_2 → W p l e ({ frames := 0, cells := 0, slots := 0, locals := 0 } : Room) s m [.int x0, .int x1].toArray below meth c H locs 0 0 (MQ below (gQi D (mw cy ad) A σ r0) [.int x0, .int x1].toArray s 0 0 A) (F0 m 21 ls [])) → W p l e ({ frames := 0, cells := 0, slots := 0, locals := 0 } : Room) s m [.int x0, .int x1].toArray below meth c H locs 0 0 (MQ below (gQi D (mw cy ad) A σ r0) [.int x0, .int x1].toArray s 0 0 A) (F0 m 4 ls []) := by
    intro n
    induction n with
    | zero =>
      intro y4_2 y4_3 H locs ls hH hl X h K
      exact itr_0 h
    | succ n ih =>
      intro y4_2 y4_3 H locs ls hH hl X h0 K
      obtain ⟨o, h, h2⟩ := itr_step h0
      unfold f_X4_common_b4 at h
      refine lv_iload_n hx hb dX4_common_4 rfl (lv_at hl 1 rfl) ?_
      refine gb_if_eq (tgt := 21) hx hb dX4_common_5 (by decide) h (fun h => ?_) (fun h => ?_)
      · exact K _ _ _ _ hH (lv_sub hl [0] rfl) (nxt_r h h2)
      · refine lv_iload_n hx hb dX4_common_8 rfl (lv_at hl 0 rfl) ?_
        refine lv_iload_n hx hb dX4_common_9 rfl (lv_at hl 1 rfl) ?_
        refine g_rem hx hb h dX4_common_10 (fun h => ?_)
        refine lv_istore (lv' := [(4, .int (y4_2 - y4_2 / y4_3 * y4_3)), (2, .int y4_2), (3, .int y4_3)]) hx hb dX4_common_11 hl (by decide) rfl (fun ls hl => ?_)
        refine lv_iload_n hx hb dX4_common_13 rfl (lv_at hl 2 rfl) ?_
        refine lv_istore_n (lv' := [(2, .int y4_3), (4, .int (y4_2 - y4_2 / y4_3 * y4_3)), (3, .int y4_3)]) hx hb dX4_common_14 rfl hl (by decide) rfl (fun ls hl => ?_)
        refine lv_iload hx hb dX4_common_15 (lv_at hl 1 rfl) ?_
        refine lv_istore_n (lv' := [(3, .int (y4_2 - y4_2 / y4_3 * y4_3)), (2, .int y4_3), (4, .int (y4_2 - y4_2 / y4_3 * y4_3))]) hx hb dX4_common_17 rfl hl (by decide) rfl (fun ls hl => ?_)
        refine lv_goto (tgt := 4) hx hb dX4_common_18 (by decide) ?_
        exact ih _ _ _ _ _ hH (lv_sub hl [1, 0] rfl) X (nxt_l h h2) K
  obtain ⟨X4, hX4, h⟩ := bnd h
  refine L4 FU x0 x1 _ _ _ hH (lv_sub hl [1, 0] rfl) X4 hX4 ?_
  intro z4_0_2 H locs ls hH hl hE
  replace hE := hE.symm
  subst hE
  refine lv_iload_n hx hb dX4_common_21 rfl (lv_at hl 0 rfl) ?_
  exact g_iret hx hb hr hlk hH ⟨Option.some.inj h, rfl⟩ dX4_common_22
theorem ok_X4_common : okName yX4_common 2 := ⟨by decide, by decide, by decide +kernel⟩
section KL
variable {p : Program} {l : Launch} {e : Env} {R : Room} {s : State} {m : MethodId} {args : Array Value} {below : List Frame} {meth : Method} {c : Code} {H : Heap} {locs : List Loc} {cells slots : Nat} {Q : State → Prop} {cc : ByteArray} {pc nL : Nat} {ls : Array Slot} {rest : List Value}
variable {A : Nat → Prop} {D : va_G} {cy : Nat → ClassId} {ad : Nat → Nat}
theorem kl_X4_120 (C : gC p m c cc nL s args RX4 D (mT cy) (mw cy ad) A) {σ : MS} (hH : gH s D (mw cy ad) A σ H locs) {x1 x2 : Int32} {α : Type} {k : Int32 → Option α} {y : α} (h : (f_X4_common x1 x2).bind k = some y) (hR : 1 ≤ R.frames ∧ 24 ≤ R.locals) (hcs : cells ≤ R.cells ∧ slots ≤ R.slots) (hl : ls.size = nL) (hW : (rest.map fun v => v.category).sum ≤ 8) (hdg : decode cc pc = .ok (.invokestatic 120, 3)) (kk : ∀ (r : Int32) (H1 : Heap) (locs1 : List Loc), gH s D (mw cy ad) A σ H1 locs1 → k r = some y → W p l e R s m args below meth c H1 locs1 cells slots Q (F0 m (pc + 3) ls (.int r :: rest))) : W p l e R s m args below meth c H locs cells slots Q (F0 m pc ls (.int x2 :: .int x1 :: rest)) := by
  obtain ⟨r, h1, h2⟩ := bnd h
  exact g_fi (g_rS (As := [.int x1, .int x2]) C hH (c_X4_common l C.2.2.2 σ x1 x2 r h1) mw_c_X4_common mw_m_X4_120 mw_s_X4_common mw_in_X4 ok_X4_common ⟨rfl, rfl⟩ rfl hR hcs hl rfl hW hdg) hH.2 (fun H1 locs1 hH1 => kk r H1 locs1 hH1 h2)
end KL
set_option maxHeartbeats 4000000 in
set_option maxRecDepth 100000 in
theorem c_X4_share (l : Launch) {D : va_G} {cy : Nat → ClassId} {ad : Nat → Nat} {A : Nat → Prop} (hD : ∀ σ, va_D A (mw cy ad σ)) (σ : MS) (x1 : Int32) (r0 : Int32) (h : f_X4_share σ x1 = some r0) : gMi l yX4_share (wsM yX4_share cX4_share 4 (some .int)) ({ frames := 1, cells := 0, slots := 0, locals := 24 } : Room) D (mT cy) (mw cy ad) A [.ref (ad 0), .int x1] σ σ r0 := by
  refine gMi.of (own := RX4) rfl (by decide) (Nat.le_of_ble_eq_true rfl) hD ?_
  intro p e s m below meth c ls C hx hb hr hlk hH hl
  have hl : lv_has ls 4 [(0, .ref (ad 0)), (1, .int x1)] := hl
  unfold f_X4_share at h
  refine lv_iload_n hx hb dX4_share_0 rfl (lv_at hl 1 rfl) ?_
  refine lv_iconst (v := 0) hx hb dX4_share_1 (by decide) ?_
  refine lv_iconst (v := 1) hx hb dX4_share_2 (by decide) ?_
  refine kl_X4_32 C hH h ⟨by decide, by decide⟩ ⟨by decide, by decide⟩ hl.1 (Nat.le_of_ble_eq_true rfl) dX4_share_3 (fun r1 H locs hH h => ?_)
  refine gb_if_ne (tgt := 12) hx hb dX4_share_6 (by decide) h (fun h => ?_) (fun h => ?_)
  · refine lv_aload_n hx hb dX4_share_12 rfl (lv_at hl 0 rfl) ?_
    refine gf_X4_17 C hH dX4_share_13 ?_
    refine lv_iconst (v := 0) hx hb dX4_share_16 (by decide) ?_
    refine mal_pa C hH h dX4_share_17 (fun h => ?_)
    refine lv_aload_n hx hb dX4_share_18 rfl (lv_at hl 0 rfl) ?_
    refine gf_X4_17 C hH dX4_share_19 ?_
    refine lv_iconst (v := 2) hx hb dX4_share_22 (by decide) ?_
    refine mal_pa C hH h dX4_share_23 (fun h => ?_)
    refine lv_isub hx hb dX4_share_24 ?_
    refine lv_istore_n (lv' := [(2, .int ((mpa σ ((0 : Int32) : Int32).toNatClampNeg) - (mpa σ ((2 : Int32) : Int32).toNatClampNeg))), (0, .ref (ad 0)), (1, .int x1)]) hx hb dX4_share_25 rfl hl (by decide) rfl (fun ls hl => ?_)
    refine lv_iload_n hx hb dX4_share_26 rfl (lv_at hl 0 rfl) ?_
    refine lv_aload_n hx hb dX4_share_27 rfl (lv_at hl 1 rfl) ?_
    refine gf_X4_17 C hH dX4_share_28 ?_
    refine lv_iconst (v := 3) hx hb dX4_share_31 (by decide) ?_
    refine mal_pa C hH h dX4_share_32 (fun h => ?_)
    refine lv_iadd hx hb dX4_share_33 ?_
    refine lv_aload_n hx hb dX4_share_34 rfl (lv_at hl 1 rfl) ?_
    refine gf_X4_17 C hH dX4_share_35 ?_
    refine lv_iconst (v := 1) hx hb dX4_share_38 (by decide) ?_
    refine mal_pa C hH h dX4_share_39 (fun h => ?_)
    refine lv_isub hx hb dX4_share_40 ?_
    refine lv_istore_n (lv' := [(3, .int ((((mpa σ ((0 : Int32) : Int32).toNatClampNeg) - (mpa σ ((2 : Int32) : Int32).toNatClampNeg)) + (mpa σ ((3 : Int32) : Int32).toNatClampNeg)) - (mpa σ ((1 : Int32) : Int32).toNatClampNeg))), (2, .int ((mpa σ ((0 : Int32) : Int32).toNatClampNeg) - (mpa σ ((2 : Int32) : Int32).toNatClampNeg))), (0, .ref (ad 0)), (1, .int x1)]) hx hb dX4_share_41 rfl hl (by decide) rfl (fun ls hl => ?_)
    refine lv_iload_n hx hb dX4_share_42 rfl (lv_at hl 0 rfl) ?_
    refine gb_if_le (tgt := 55) hx hb dX4_share_43 (by decide) h (fun h => ?_) (fun h => ?_)
    · refine lv_bipush (v := -3) hx hb dX4_share_55 (by decide) ?_
      exact g_iret hx hb hr hlk hH ⟨Option.some.inj h, rfl⟩ dX4_share_57
    · refine lv_iload_n hx hb dX4_share_46 rfl (lv_at hl 1 rfl) ?_
      refine lv_iconst (v := 0) hx hb dX4_share_47 (by decide) ?_
      refine lv_iload_n hx hb dX4_share_48 rfl (lv_at hl 0 rfl) ?_
      refine kl_X4_32 C hH h ⟨by decide, by decide⟩ ⟨by decide, by decide⟩ hl.1 (Nat.le_of_ble_eq_true rfl) dX4_share_49 (fun r2 H locs hH h => ?_)
      refine gb_if_ne (tgt := 58) hx hb dX4_share_52 (by decide) h (fun h => ?_) (fun h => ?_)
      · refine lv_iload_n hx hb dX4_share_58 rfl (lv_at hl 3 rfl) ?_
        refine gb_if_ne (tgt := 66) hx hb dX4_share_59 (by decide) h (fun h => ?_) (fun h => ?_)
        · refine lv_iload_n hx hb dX4_share_66 rfl (lv_at hl 0 rfl) ?_
          refine lv_iload_n hx hb dX4_share_67 rfl (lv_at hl 1 rfl) ?_
          refine lv_iload_n hx hb dX4_share_68 rfl (lv_at hl 0 rfl) ?_
          refine kl_X4_120 C hH h ⟨by decide, by decide⟩ ⟨by decide, by decide⟩ hl.1 (Nat.le_of_ble_eq_true rfl) dX4_share_69 (fun r3 H locs hH h => ?_)
          refine g_div hx hb h dX4_share_72 (fun h => ?_)
          exact g_iret hx hb hr hlk hH ⟨Option.some.inj h, rfl⟩ dX4_share_73
        · refine lv_iload_n hx hb dX4_share_62 rfl (lv_at hl 1 rfl) ?_
          refine lv_goto (tgt := 67) hx hb dX4_share_63 (by decide) ?_
          refine lv_iload_n hx hb dX4_share_67 rfl (lv_at hl 1 rfl) ?_
          refine lv_iload_n hx hb dX4_share_68 rfl (lv_at hl 0 rfl) ?_
          refine kl_X4_120 C hH h ⟨by decide, by decide⟩ ⟨by decide, by decide⟩ hl.1 (Nat.le_of_ble_eq_true rfl) dX4_share_69 (fun r4 H locs hH h => ?_)
          refine g_div hx hb h dX4_share_72 (fun h => ?_)
          exact g_iret hx hb hr hlk hH ⟨Option.some.inj h, rfl⟩ dX4_share_73
      · refine lv_bipush (v := -3) hx hb dX4_share_55 (by decide) ?_
        exact g_iret hx hb hr hlk hH ⟨Option.some.inj h, rfl⟩ dX4_share_57
  · refine lv_bipush (v := -2) hx hb dX4_share_9 (by decide) ?_
    exact g_iret hx hb hr hlk hH ⟨Option.some.inj h, rfl⟩ dX4_share_11
theorem ok_X4_share : okName yX4_share 1 := ⟨by decide, by decide, by decide +kernel⟩
set_option maxHeartbeats 4000000 in
set_option maxRecDepth 100000 in
theorem c_X4_hangs (l : Launch) {D : va_G} {cy : Nat → ClassId} {ad : Nat → Nat} {A : Nat → Prop} (hD : ∀ σ, va_D A (mw cy ad σ)) (σ : MS) (x1 x2 : Int32) (r0 : Int32) (h : f_X4_hangs σ x1 x2 = some r0) : gMi l yX4_hangs (wsM yX4_hangs cX4_hangs 7 (some .int)) ({ frames := 2, cells := 0, slots := 0, locals := 43 } : Room) D (mT cy) (mw cy ad) A [.ref (ad 0), .int x1, .int x2] σ σ r0 := by
  refine gMi.of (own := RX4) rfl (by decide) (Nat.le_of_ble_eq_true rfl) hD ?_
  intro p e s m below meth c ls C hx hb hr hlk hH hl
  have hl : lv_has ls 7 [(0, .ref (ad 0)), (1, .int x1), (2, .int x2)] := hl
  unfold f_X4_hangs at h
  refine lv_aload_n hx hb dX4_hangs_0 rfl (lv_at hl 0 rfl) ?_
  refine lv_iload_n hx hb dX4_hangs_1 rfl (lv_at hl 1 rfl) ?_
  refine kl_X4_55 C hH h ⟨by decide, by decide⟩ ⟨by decide, by decide⟩ hl.1 (Nat.le_of_ble_eq_true rfl) dX4_hangs_2 (fun r1 H locs hH h => ?_)
  refine gb_if_eq (tgt := 18) hx hb dX4_hangs_5 (by decide) h (fun h => ?_) (fun h => ?_)
  · refine lv_bipush (v := -2) hx hb dX4_hangs_18 (by decide) ?_
    exact g_iret hx hb hr hlk hH ⟨Option.some.inj h, rfl⟩ dX4_hangs_20
  · refine lv_iload_n hx hb dX4_hangs_8 rfl (lv_at hl 2 rfl) ?_
    refine lv_iconst (v := 1) hx hb dX4_hangs_9 (by decide) ?_
    refine lv_bipush (v := 100) hx hb dX4_hangs_10 (by decide) ?_
    refine kl_X4_32 C hH h ⟨by decide, by decide⟩ ⟨by decide, by decide⟩ hl.1 (Nat.le_of_ble_eq_true rfl) dX4_hangs_12 (fun r2 H locs hH h => ?_)
    refine gb_if_ne (tgt := 21) hx hb dX4_hangs_15 (by decide) h (fun h => ?_) (fun h => ?_)
    · refine lv_iconst (v := 0) hx hb dX4_hangs_21 (by decide) ?_
      refine lv_istore_n (lv' := [(3, .int (0)), (0, .ref (ad 0)), (1, .int x1), (2, .int x2)]) hx hb dX4_hangs_22 rfl hl (by decide) rfl (fun ls hl => ?_)
      have L23 : ∀ (n : Nat) (y23_3 : Int32) (H : Heap) (locs : List Loc) (ls : Array Slot), gH s D (mw cy ad) A σ H locs → lv_has ls 7 [(0, .ref (ad 0)), (1, .int x1), (2, .int x2), (3, .int y23_3)] → ∀ X, itr (f_X4_hangs_b23 σ x1 x2) n y23_3 = some X → (∀ (H : Heap) (locs : List Loc) (ls : Array Slot), gH s D (mw cy ad) A σ H locs → lv_has ls 7 [] → X = (Sum.inl ()) → W p l e ({ frames := 2, cells := 0, slots := 0, locals := 43 } : Room) s m [.ref (ad 0), .int x1, .int x2].toArray below meth c H locs 0 0 (MQ below (gQi D (mw cy ad) A σ r0) [.ref (ad 0), .int x1, .int x2].toArray s 0 0 A) (F0 m 129 ls [])) → (∀ (H : Heap) (locs : List Loc) (ls : Array Slot), gH s D (mw cy ad) A σ H locs → lv_has ls 7 [] → X = (Sum.inr ()) → W p l e ({ frames := 2, cells := 0, slots := 0, locals := 43 } : Room) s m [.ref (ad 0), .int x1, .int x2].toArray below meth c H locs 0 0 (MQ below (gQi D (mw cy ad) A σ r0) [.ref (ad 0), .int x1, .int x2].toArray s 0 0 A) (F0 m 137 ls [])) → W p l e ({ frames := 2, cells := 0, slots := 0, locals := 43 } : Room) s m [.ref (ad 0), .int x1, .int x2].toArray below meth c H locs 0 0 (MQ below (gQi D (mw cy ad) A σ r0) [.ref (ad 0), .int x1, .int x2].toArray s 0 0 A) (F0 m 23 ls []) := by
        intro n
        induction n with
        | zero =>
          intro y23_3 H locs ls hH hl X h K0 K1
          exact itr_0 h
        | succ n ih =>
          intro y23_3 H locs ls hH hl X h0 K0 K1
          obtain ⟨o, h, h2⟩ := itr_step h0
          unfold f_X4_hangs_b23 at h
          refine lv_iload_n hx hb dX4_hangs_23 rfl (lv_at hl 3 rfl) ?_
          refine lv_aload_n hx hb dX4_hangs_24 rfl (lv_at hl 0 rfl) ?_
          refine gf_X4_7 C hH dX4_hangs_25 ?_
          refine gb_icmp_ge (tgt := 137) hx hb dX4_hangs_28 (by decide) h (fun h => ?_) (fun h => ?_)
          · exact K1 _ _ _ hH (lv_sub hl [] rfl) (nxt_r h h2)
          · refine lv_iconst (v := 0) hx hb dX4_hangs_31 (by decide) ?_
            refine lv_istore (lv' := [(4, .int (0)), (0, .ref (ad 0)), (1, .int x1), (2, .int x2), (3, .int y23_3)]) hx hb dX4_hangs_32 hl (by decide) rfl (fun ls hl => ?_)
            refine lv_iconst (v := 0) hx hb dX4_hangs_34 (by decide) ?_
            refine lv_istore (lv' := [(5, .int (0)), (4, .int (0)), (0, .ref (ad 0)), (1, .int x1), (2, .int x2), (3, .int y23_3)]) hx hb dX4_hangs_35 hl (by decide) rfl (fun ls hl => ?_)
            refine lv_iconst (v := 0) hx hb dX4_hangs_37 (by decide) ?_
            refine lv_istore (lv' := [(6, .int (0)), (5, .int (0)), (4, .int (0)), (0, .ref (ad 0)), (1, .int x1), (2, .int x2), (3, .int y23_3)]) hx hb dX4_hangs_38 hl (by decide) rfl (fun ls hl => ?_)
            have L40 : ∀ (n : Nat) (y40_4 : Int32) (y40_5 : Int32) (y40_6 : Int32) (H : Heap) (locs : List Loc) (ls : Array Slot), gH s D (mw cy ad) A σ H locs → lv_has ls 7 [(0, .ref (ad 0)), (1, .int x1), (2, .int x2), (3, .int y23_3), (4, .int y40_4), (5, .int y40_5), (6, .int y40_6)] → ∀ X, itr (f_X4_hangs_b40 σ y23_3 x1) n (y40_4, y40_5, y40_6) = some X → (∀ (z40_0_4 : Int32) (z40_0_5 : Int32) (H : Heap) (locs : List Loc) (ls : Array Slot), gH s D (mw cy ad) A σ H locs → lv_has ls 7 [(0, .ref (ad 0)), (1, .int x1), (2, .int x2), (3, .int y23_3), (4, .int z40_0_4), (5, .int z40_0_5)] → X = (z40_0_4, z40_0_5) → W p l e ({ frames := 2, cells := 0, slots := 0, locals := 43 } : Room) s m [.ref (ad 0), .int x1, .int x2].toArray below meth c H locs 0 0 (MQ below (gQi D (mw cy ad) A σ r0) [.ref (ad 0), .int x1, .int x2].toArray s 0 0 A) (F0 m 103 ls [])) → W p l e ({ frames := 2, cells := 0, slots := 0, locals := 43 } : Room) s m [.ref (ad 0), .int x1, .int x2].toArray below meth c H locs 0 0 (MQ below (gQi D (mw cy ad) A σ r0) [.ref (ad 0), .int x1, .int x2].toArray s 0 0 A) (F0 m 40 ls []) := by
              intro n
              induction n with
              | zero =>
                intro y40_4 y40_5 y40_6 H locs ls hH hl X h K
                exact itr_0 h
              | succ n ih =>
                intro y40_4 y40_5 y40_6 H locs ls hH hl X h0 K
                obtain ⟨o, h, h2⟩ := itr_step h0
                unfold f_X4_hangs_b40 at h
                refine lv_iload hx hb dX4_hangs_40 (lv_at hl 6 rfl) ?_
                refine lv_aload_n hx hb dX4_hangs_42 rfl (lv_at hl 0 rfl) ?_
                refine gf_X4_7 C hH dX4_hangs_43 ?_
                refine gb_icmp_ge (tgt := 103) hx hb dX4_hangs_46 (by decide) h (fun h => ?_) (fun h => ?_)
                · exact K _ _ _ _ _ hH (lv_sub hl [0, 1, 2, 3, 4, 5] rfl) (nxt_r h h2)
                · refine lv_iload hx hb dX4_hangs_49 (lv_at hl 4 rfl) ?_
                  refine lv_aload_n hx hb dX4_hangs_51 rfl (lv_at hl 0 rfl) ?_
                  refine gf_X4_13 C hH dX4_hangs_52 ?_
                  refine lv_bipush (v := 10) hx hb dX4_hangs_55 (by decide) ?_
                  refine lv_iload_n hx hb dX4_hangs_57 rfl (lv_at hl 3 rfl) ?_
                  refine lv_imul hx hb dX4_hangs_58 ?_
                  refine lv_iload hx hb dX4_hangs_59 (lv_at hl 6 rfl) ?_
                  refine lv_iadd hx hb dX4_hangs_61 ?_
                  refine mal_we C hH h dX4_hangs_62 (fun h => ?_)
                  refine lv_iadd hx hb dX4_hangs_63 ?_
                  refine lv_istore (lv' := [(4, .int (y40_4 + (mwe σ ((((10 : Int32) * y23_3) + y40_6) : Int32).toNatClampNeg))), (0, .ref (ad 0)), (1, .int x1), (2, .int x2), (3, .int y23_3), (5, .int y40_5), (6, .int y40_6)]) hx hb dX4_hangs_64 hl (by decide) rfl (fun ls hl => ?_)
                  refine lv_iload hx hb dX4_hangs_66 (lv_at hl 5 rfl) ?_
                  refine lv_iload_n hx hb dX4_hangs_68 rfl (lv_at hl 2 rfl) ?_
                  refine lv_iload hx hb dX4_hangs_69 (lv_at hl 6 rfl) ?_
                  refine lv_ishr hx hb dX4_hangs_71 ?_
                  refine lv_iconst (v := 1) hx hb dX4_hangs_72 (by decide) ?_
                  refine lv_iand hx hb dX4_hangs_73 ?_
                  refine lv_iconst (v := 1) hx hb dX4_hangs_74 (by decide) ?_
                  refine gb_icmp_ne (tgt := 93) hx hb dX4_hangs_75 (by decide) h (fun h => ?_) (fun h => ?_)
                  · refine lv_iconst (v := 0) hx hb dX4_hangs_93 (by decide) ?_
                    refine lv_iadd hx hb dX4_hangs_94 ?_
                    refine lv_istore (lv' := [(5, .int (y40_5 + (0 : Int32))), (4, .int (y40_4 + (mwe σ ((((10 : Int32) * y23_3) + y40_6) : Int32).toNatClampNeg))), (0, .ref (ad 0)), (1, .int x1), (2, .int x2), (3, .int y23_3), (6, .int y40_6)]) hx hb dX4_hangs_95 hl (by decide) rfl (fun ls hl => ?_)
                    refine lv_iinc (v := (y40_6 + (1 : Int32))) (lv' := [(6, .int (y40_6 + (1 : Int32))), (5, .int (y40_5 + (0 : Int32))), (4, .int (y40_4 + (mwe σ ((((10 : Int32) * y23_3) + y40_6) : Int32).toNatClampNeg))), (0, .ref (ad 0)), (1, .int x1), (2, .int x2), (3, .int y23_3)]) hx hb dX4_hangs_97 hl (k := 6) rfl rfl (by decide) rfl (fun ls hl => ?_)
                    refine lv_goto (tgt := 40) hx hb dX4_hangs_100 (by decide) ?_
                    exact ih _ _ _ _ _ _ hH (lv_sub hl [3, 4, 5, 6, 2, 1, 0] rfl) X (nxt_l h h2) K
                  · refine lv_aload_n hx hb dX4_hangs_78 rfl (lv_at hl 1 rfl) ?_
                    refine gf_X4_13 C hH dX4_hangs_79 ?_
                    refine lv_bipush (v := 10) hx hb dX4_hangs_82 (by decide) ?_
                    refine lv_iload_n hx hb dX4_hangs_84 rfl (lv_at hl 4 rfl) ?_
                    refine lv_imul hx hb dX4_hangs_85 ?_
                    refine lv_iload hx hb dX4_hangs_86 (lv_at hl 6 rfl) ?_
                    refine lv_iadd hx hb dX4_hangs_88 ?_
                    refine mal_we C hH h dX4_hangs_89 (fun h => ?_)
                    refine lv_goto (tgt := 94) hx hb dX4_hangs_90 (by decide) ?_
                    refine lv_iadd hx hb dX4_hangs_94 ?_
                    refine lv_istore (lv' := [(5, .int (y40_5 + (mwe σ ((((10 : Int32) * y23_3) + y40_6) : Int32).toNatClampNeg))), (4, .int (y40_4 + (mwe σ ((((10 : Int32) * y23_3) + y40_6) : Int32).toNatClampNeg))), (0, .ref (ad 0)), (1, .int x1), (2, .int x2), (3, .int y23_3), (6, .int y40_6)]) hx hb dX4_hangs_95 hl (by decide) rfl (fun ls hl => ?_)
                    refine lv_iinc (v := (y40_6 + (1 : Int32))) (lv' := [(6, .int (y40_6 + (1 : Int32))), (5, .int (y40_5 + (mwe σ ((((10 : Int32) * y23_3) + y40_6) : Int32).toNatClampNeg))), (4, .int (y40_4 + (mwe σ ((((10 : Int32) * y23_3) + y40_6) : Int32).toNatClampNeg))), (0, .ref (ad 0)), (1, .int x1), (2, .int x2), (3, .int y23_3)]) hx hb dX4_hangs_97 hl (k := 6) rfl rfl (by decide) rfl (fun ls hl => ?_)
                    refine lv_goto (tgt := 40) hx hb dX4_hangs_100 (by decide) ?_
                    exact ih _ _ _ _ _ _ hH (lv_sub hl [3, 4, 5, 6, 2, 1, 0] rfl) X (nxt_l h h2) K
            obtain ⟨X40, hX40, h⟩ := bnd h
            refine L40 FU ((0 : Int32)) ((0 : Int32)) ((0 : Int32)) _ _ _ hH (lv_sub hl [3, 4, 5, 6, 2, 1, 0] rfl) X40 hX40 ?_
            intro z40_0_4 z40_0_5 H locs ls hH hl hE
            replace hE := hE.symm
            subst hE
            refine lv_iload_n hx hb dX4_hangs_103 rfl (lv_at hl 1 rfl) ?_
            refine lv_iload_n hx hb dX4_hangs_104 rfl (lv_at hl 3 rfl) ?_
            refine lv_ishr hx hb dX4_hangs_105 ?_
            refine lv_iconst (v := 1) hx hb dX4_hangs_106 (by decide) ?_
            refine lv_iand hx hb dX4_hangs_107 ?_
            refine lv_iconst (v := 1) hx hb dX4_hangs_108 (by decide) ?_
            refine gb_icmp_ne (tgt := 131) hx hb dX4_hangs_109 (by decide) h (fun h => ?_) (fun h => ?_)
            · refine lv_iinc (v := (y23_3 + (1 : Int32))) (lv' := [(3, .int (y23_3 + (1 : Int32))), (0, .ref (ad 0)), (1, .int x1), (2, .int x2), (4, .int z40_0_4), (5, .int z40_0_5)]) hx hb dX4_hangs_131 hl (k := 3) rfl rfl (by decide) rfl (fun ls hl => ?_)
              refine lv_goto (tgt := 23) hx hb dX4_hangs_134 (by decide) ?_
              exact ih _ _ _ _ hH (lv_sub hl [1, 2, 3, 0] rfl) X (nxt_l h h2) K0 K1
            · refine lv_iload hx hb dX4_hangs_112 (lv_at hl 4 rfl) ?_
              refine gb_if_le (tgt := 131) hx hb dX4_hangs_114 (by decide) h (fun h => ?_) (fun h => ?_)
              · refine lv_iinc (v := (y23_3 + (1 : Int32))) (lv' := [(3, .int (y23_3 + (1 : Int32))), (0, .ref (ad 0)), (1, .int x1), (2, .int x2), (4, .int z40_0_4), (5, .int z40_0_5)]) hx hb dX4_hangs_131 hl (k := 3) rfl rfl (by decide) rfl (fun ls hl => ?_)
                refine lv_goto (tgt := 23) hx hb dX4_hangs_134 (by decide) ?_
                exact ih _ _ _ _ hH (lv_sub hl [1, 2, 3, 0] rfl) X (nxt_l h h2) K0 K1
              · refine lv_bipush (v := 100) hx hb dX4_hangs_117 (by decide) ?_
                refine lv_iload hx hb dX4_hangs_119 (lv_at hl 5 rfl) ?_
                refine lv_imul hx hb dX4_hangs_121 ?_
                refine lv_iload_n hx hb dX4_hangs_122 rfl (lv_at hl 2 rfl) ?_
                refine lv_iload hx hb dX4_hangs_123 (lv_at hl 4 rfl) ?_
                refine lv_imul hx hb dX4_hangs_125 ?_
                refine gb_icmp_ge (tgt := 131) hx hb dX4_hangs_126 (by decide) h (fun h => ?_) (fun h => ?_)
                · refine lv_iinc (v := (y23_3 + (1 : Int32))) (lv' := [(3, .int (y23_3 + (1 : Int32))), (0, .ref (ad 0)), (1, .int x1), (2, .int x2), (4, .int z40_0_4), (5, .int z40_0_5)]) hx hb dX4_hangs_131 hl (k := 3) rfl rfl (by decide) rfl (fun ls hl => ?_)
                  refine lv_goto (tgt := 23) hx hb dX4_hangs_134 (by decide) ?_
                  exact ih _ _ _ _ hH (lv_sub hl [1, 2, 3, 0] rfl) X (nxt_l h h2) K0 K1
                · exact K0 _ _ _ hH (lv_sub hl [] rfl) (nxt_r h h2)
      obtain ⟨X23, hX23, h⟩ := bnd h
      refine L23 FU ((0 : Int32)) _ _ _ hH (lv_sub hl [1, 2, 3, 0] rfl) X23 hX23 ?_ ?_
      · intro H locs ls hH hl hE
        replace hE := hE.symm
        subst hE
        refine lv_iconst (v := 0) hx hb dX4_hangs_129 (by decide) ?_
        exact g_iret hx hb hr hlk hH ⟨Option.some.inj h, rfl⟩ dX4_hangs_130
      · intro H locs ls hH hl hE
        replace hE := hE.symm
        subst hE
        refine lv_iconst (v := 1) hx hb dX4_hangs_137 (by decide) ?_
        exact g_iret hx hb hr hlk hH ⟨Option.some.inj h, rfl⟩ dX4_hangs_138
    · refine lv_bipush (v := -2) hx hb dX4_hangs_18 (by decide) ?_
      exact g_iret hx hb hr hlk hH ⟨Option.some.inj h, rfl⟩ dX4_hangs_20
theorem ok_X4_hangs : okName yX4_hangs 2 := ⟨by decide, by decide, by decide +kernel⟩
set_option maxHeartbeats 4000000 in
set_option maxRecDepth 100000 in
theorem c_X4_lines (l : Launch) {D : va_G} {cy : Nat → ClassId} {ad : Nat → Nat} {A : Nat → Prop} (hD : ∀ σ, va_D A (mw cy ad σ)) (σ : MS) (r0 : Int32) (h : f_X4_lines σ = some r0) : gMi l yX4_lines (wsM yX4_lines cX4_lines 4 (some .int)) ({ frames := 0, cells := 0, slots := 0, locals := 0 } : Room) D (mT cy) (mw cy ad) A [.ref (ad 0)] σ σ r0 := by
  refine gMi.of (own := RX4) rfl (by decide) (Nat.le_of_ble_eq_true rfl) hD ?_
  intro p e s m below meth c ls C hx hb hr hlk hH hl
  have hl : lv_has ls 4 [(0, .ref (ad 0))] := hl
  unfold f_X4_lines at h
  refine lv_iconst (v := 0) hx hb dX4_lines_0 (by decide) ?_
  refine lv_istore_n (lv' := [(1, .int (0)), (0, .ref (ad 0))]) hx hb dX4_lines_1 rfl hl (by decide) rfl (fun ls hl => ?_)
  refine lv_iconst (v := 0) hx hb dX4_lines_2 (by decide) ?_
  refine lv_istore_n (lv' := [(2, .int (0)), (1, .int (0)), (0, .ref (ad 0))]) hx hb dX4_lines_3 rfl hl (by decide) rfl (fun ls hl => ?_)
  have L4 : ∀ (n : Nat) (y4_1 : Int32) (y4_2 : Int32) (H : Heap) (locs : List Loc) (ls : Array Slot), gH s D (mw cy ad) A σ H locs → lv_has ls 4 [(0, .ref (ad 0)), (1, .int y4_1), (2, .int y4_2)] → ∀ X, itr (f_X4_lines_b4 σ) n (y4_1, y4_2) = some X → (∀ (z4_0_1 : Int32) (H : Heap) (locs : List Loc) (ls : Array Slot), gH s D (mw cy ad) A σ H locs → lv_has ls 4 [(1, .int z4_0_1)] → X = z4_0_1 → W p l e ({ frames := 0, cells := 0, slots := 0, locals := 0 } : Room) s m [.ref (ad 0)].toArray below meth c H locs 0 0 (MQ below (gQi D (mw cy ad) A σ r0) [.ref (ad 0)].toArray s 0 0 A) (F0 m 53 ls [])) → W p l e ({ frames := 0, cells := 0, slots := 0, locals := 0 } : Room) s m [.ref (ad 0)].toArray below meth c H locs 0 0 (MQ below (gQi D (mw cy ad) A σ r0) [.ref (ad 0)].toArray s 0 0 A) (F0 m 4 ls []) := by
    intro n
    induction n with
    | zero =>
      intro y4_1 y4_2 H locs ls hH hl X h K
      exact itr_0 h
    | succ n ih =>
      intro y4_1 y4_2 H locs ls hH hl X h0 K
      obtain ⟨o, h, h2⟩ := itr_step h0
      unfold f_X4_lines_b4 at h
      refine lv_iload_n hx hb dX4_lines_4 rfl (lv_at hl 2 rfl) ?_
      refine lv_aload_n hx hb dX4_lines_5 rfl (lv_at hl 0 rfl) ?_
      refine gf_X4_7 C hH dX4_lines_6 ?_
      refine gb_icmp_ge (tgt := 53) hx hb dX4_lines_9 (by decide) h (fun h => ?_) (fun h => ?_)
      · exact K _ _ _ _ hH (lv_sub hl [1] rfl) (nxt_r h h2)
      · refine lv_iconst (v := 0) hx hb dX4_lines_12 (by decide) ?_
        refine lv_istore_n (lv' := [(3, .int (0)), (0, .ref (ad 0)), (1, .int y4_1), (2, .int y4_2)]) hx hb dX4_lines_13 rfl hl (by decide) rfl (fun ls hl => ?_)
        have L14 : ∀ (n : Nat) (y14_1 : Int32) (y14_3 : Int32) (H : Heap) (locs : List Loc) (ls : Array Slot), gH s D (mw cy ad) A σ H locs → lv_has ls 4 [(0, .ref (ad 0)), (1, .int y14_1), (2, .int y4_2), (3, .int y14_3)] → ∀ X, itr (f_X4_lines_b14 σ y4_2) n (y14_1, y14_3) = some X → (∀ (z14_0_1 : Int32) (H : Heap) (locs : List Loc) (ls : Array Slot), gH s D (mw cy ad) A σ H locs → lv_has ls 4 [(0, .ref (ad 0)), (1, .int z14_0_1), (2, .int y4_2)] → X = z14_0_1 → W p l e ({ frames := 0, cells := 0, slots := 0, locals := 0 } : Room) s m [.ref (ad 0)].toArray below meth c H locs 0 0 (MQ below (gQi D (mw cy ad) A σ r0) [.ref (ad 0)].toArray s 0 0 A) (F0 m 47 ls [])) → W p l e ({ frames := 0, cells := 0, slots := 0, locals := 0 } : Room) s m [.ref (ad 0)].toArray below meth c H locs 0 0 (MQ below (gQi D (mw cy ad) A σ r0) [.ref (ad 0)].toArray s 0 0 A) (F0 m 14 ls []) := by
          intro n
          induction n with
          | zero =>
            intro y14_1 y14_3 H locs ls hH hl X h K
            exact itr_0 h
          | succ n ih =>
            intro y14_1 y14_3 H locs ls hH hl X h0 K
            obtain ⟨o, h, h2⟩ := itr_step h0
            unfold f_X4_lines_b14 at h
            refine lv_iload_n hx hb dX4_lines_14 rfl (lv_at hl 3 rfl) ?_
            refine lv_iload_n hx hb dX4_lines_15 rfl (lv_at hl 2 rfl) ?_
            refine gb_icmp_ge (tgt := 47) hx hb dX4_lines_16 (by decide) h (fun h => ?_) (fun h => ?_)
            · exact K _ _ _ _ hH (lv_sub hl [0, 1, 2] rfl) (nxt_r h h2)
            · refine lv_iload_n hx hb dX4_lines_19 rfl (lv_at hl 1 rfl) ?_
              refine lv_aload_n hx hb dX4_lines_20 rfl (lv_at hl 0 rfl) ?_
              refine gf_X4_13 C hH dX4_lines_21 ?_
              refine lv_bipush (v := 10) hx hb dX4_lines_24 (by decide) ?_
              refine lv_iload_n hx hb dX4_lines_26 rfl (lv_at hl 2 rfl) ?_
              refine lv_imul hx hb dX4_lines_27 ?_
              refine lv_iload_n hx hb dX4_lines_28 rfl (lv_at hl 3 rfl) ?_
              refine lv_iadd hx hb dX4_lines_29 ?_
              refine mal_we C hH h dX4_lines_30 (fun h => ?_)
              refine gb_if_le (tgt := 38) hx hb dX4_lines_31 (by decide) h (fun h => ?_) (fun h => ?_)
              · refine lv_iconst (v := 0) hx hb dX4_lines_38 (by decide) ?_
                refine lv_iadd hx hb dX4_lines_39 ?_
                refine lv_istore_n (lv' := [(1, .int (y14_1 + (0 : Int32))), (0, .ref (ad 0)), (2, .int y4_2), (3, .int y14_3)]) hx hb dX4_lines_40 rfl hl (by decide) rfl (fun ls hl => ?_)
                refine lv_iinc (v := (y14_3 + (1 : Int32))) (lv' := [(3, .int (y14_3 + (1 : Int32))), (1, .int (y14_1 + (0 : Int32))), (0, .ref (ad 0)), (2, .int y4_2)]) hx hb dX4_lines_41 hl (k := 3) rfl rfl (by decide) rfl (fun ls hl => ?_)
                refine lv_goto (tgt := 14) hx hb dX4_lines_44 (by decide) ?_
                exact ih _ _ _ _ _ hH (lv_sub hl [2, 1, 3, 0] rfl) X (nxt_l h h2) K
              · refine lv_iconst (v := 1) hx hb dX4_lines_34 (by decide) ?_
                refine lv_goto (tgt := 39) hx hb dX4_lines_35 (by decide) ?_
                refine lv_iadd hx hb dX4_lines_39 ?_
                refine lv_istore_n (lv' := [(1, .int (y14_1 + (1 : Int32))), (0, .ref (ad 0)), (2, .int y4_2), (3, .int y14_3)]) hx hb dX4_lines_40 rfl hl (by decide) rfl (fun ls hl => ?_)
                refine lv_iinc (v := (y14_3 + (1 : Int32))) (lv' := [(3, .int (y14_3 + (1 : Int32))), (1, .int (y14_1 + (1 : Int32))), (0, .ref (ad 0)), (2, .int y4_2)]) hx hb dX4_lines_41 hl (k := 3) rfl rfl (by decide) rfl (fun ls hl => ?_)
                refine lv_goto (tgt := 14) hx hb dX4_lines_44 (by decide) ?_
                exact ih _ _ _ _ _ hH (lv_sub hl [2, 1, 3, 0] rfl) X (nxt_l h h2) K
        obtain ⟨X14, hX14, h⟩ := bnd h
        refine L14 FU y4_1 ((0 : Int32)) _ _ _ hH (lv_sub hl [1, 2, 3, 0] rfl) X14 hX14 ?_
        intro z14_0_1 H locs ls hH hl hE
        replace hE := hE.symm
        subst hE
        refine lv_iinc (v := (y4_2 + (1 : Int32))) (lv' := [(2, .int (y4_2 + (1 : Int32))), (0, .ref (ad 0)), (1, .int z14_0_1)]) hx hb dX4_lines_47 hl (k := 2) rfl rfl (by decide) rfl (fun ls hl => ?_)
        refine lv_goto (tgt := 4) hx hb dX4_lines_50 (by decide) ?_
        exact ih _ _ _ _ _ hH (lv_sub hl [1, 2, 0] rfl) X (nxt_l h h2) K
  obtain ⟨X4, hX4, h⟩ := bnd h
  refine L4 FU ((0 : Int32)) ((0 : Int32)) _ _ _ hH (lv_sub hl [2, 1, 0] rfl) X4 hX4 ?_
  intro z4_0_1 H locs ls hH hl hE
  replace hE := hE.symm
  subst hE
  refine lv_iload_n hx hb dX4_lines_53 rfl (lv_at hl 0 rfl) ?_
  exact g_iret hx hb hr hlk hH ⟨Option.some.inj h, rfl⟩ dX4_lines_54
theorem ok_X4_lines : okName yX4_lines 0 := ⟨by decide, by decide, by decide +kernel⟩
section KL
variable {p : Program} {l : Launch} {e : Env} {R : Room} {s : State} {m : MethodId} {args : Array Value} {below : List Frame} {meth : Method} {c : Code} {H : Heap} {locs : List Loc} {cells slots : Nat} {Q : State → Prop} {cc : ByteArray} {pc nL : Nat} {ls : Array Slot} {rest : List Value}
variable {A : Nat → Prop} {D : va_G} {cy : Nat → ClassId} {ad : Nat → Nat}
theorem kl_X4_123 (C : gC p m c cc nL s args RX4 D (mT cy) (mw cy ad) A) {σ : MS} (hH : gH s D (mw cy ad) A σ H locs) {α : Type} {k : Int32 → Option α} {y : α} (h : (f_X4_lines σ).bind k = some y) (hR : 1 ≤ R.frames ∧ 23 ≤ R.locals) (hcs : cells ≤ R.cells ∧ slots ≤ R.slots) (hl : ls.size = nL) (hW : (rest.map fun v => v.category).sum ≤ 8) (hdg : decode cc pc = .ok (.invokevirtual 123, 3)) (kk : ∀ (r : Int32) (H1 : Heap) (locs1 : List Loc), gH s D (mw cy ad) A σ H1 locs1 → k r = some y → W p l e R s m args below meth c H1 locs1 cells slots Q (F0 m (pc + 3) ls (.int r :: rest))) : W p l e R s m args below meth c H locs cells slots Q (F0 m pc ls (.ref (ad 0) :: rest)) := by
  obtain ⟨r, h1, h2⟩ := bnd h
  exact g_fi (g_rV (As := []) C hH (c_X4_lines l C.2.2.2 σ r h1) (q0 := 0) mw_c_X4_lines mw_m_X4_123 mw_i_X4_lines mw_v_X4_lines mw_in_X4 ok_X4_lines ⟨rfl, rfl⟩ rfl rfl rfl hR hcs hl rfl hW hdg) hH.2 (fun H1 locs1 hH1 => kk r H1 locs1 hH1 h2)
end KL
set_option maxHeartbeats 4000000 in
set_option maxRecDepth 100000 in
theorem c_X4_told (l : Launch) {D : va_G} {cy : Nat → ClassId} {ad : Nat → Nat} {A : Nat → Prop} (hD : ∀ σ, va_D A (mw cy ad σ)) (σ : MS) (x1 : Int32) (r0 : Int32) (h : f_X4_told σ x1 = some r0) : gMi l yX4_told (wsM yX4_told cX4_told 2 (some .int)) ({ frames := 1, cells := 0, slots := 0, locals := 23 } : Room) D (mT cy) (mw cy ad) A [.ref (ad 0), .int x1] σ σ r0 := by
  refine gMi.of (own := RX4) rfl (by decide) (Nat.le_of_ble_eq_true rfl) hD ?_
  intro p e s m below meth c ls C hx hb hr hlk hH hl
  have hl : lv_has ls 2 [(0, .ref (ad 0)), (1, .int x1)] := hl
  unfold f_X4_told at h
  refine lv_iload_n hx hb dX4_told_0 rfl (lv_at hl 1 rfl) ?_
  refine gb_sw h (fun c0 h => ?_) (fun c0 h => ?_)
  · refine lv_tableIn (tgt := 36) (off := 35) hx hb dX4_told_1 (by rw [c0]; decide) (by rw [c0]; decide) (by rw [c0]; rfl) (by decide) ?_
    refine lv_aload_n hx hb dX4_told_36 rfl (lv_at hl 0 rfl) ?_
    refine gf_X4_7 C hH dX4_told_37 ?_
    exact g_iret hx hb hr hlk hH ⟨Option.some.inj h, rfl⟩ dX4_told_40
  · refine gb_sw h (fun c1 h => ?_) (fun c1 h => ?_)
    · refine lv_tableIn (tgt := 41) (off := 40) hx hb dX4_told_1 (by rw [c1]; decide) (by rw [c1]; decide) (by rw [c1]; rfl) (by decide) ?_
      refine lv_aload_n hx hb dX4_told_41 rfl (lv_at hl 0 rfl) ?_
      refine kl_X4_123 C hH h ⟨by decide, by decide⟩ ⟨by decide, by decide⟩ hl.1 (Nat.le_of_ble_eq_true rfl) dX4_told_42 (fun r1 H locs hH h => ?_)
      exact g_iret hx hb hr hlk hH ⟨Option.some.inj h, rfl⟩ dX4_told_45
    · refine gb_sw h (fun c2 h => ?_) (fun c2 h => ?_)
      · refine lv_tableIn (tgt := 46) (off := 45) hx hb dX4_told_1 (by rw [c2]; decide) (by rw [c2]; decide) (by rw [c2]; rfl) (by decide) ?_
        refine lv_aload_n hx hb dX4_told_46 rfl (lv_at hl 0 rfl) ?_
        refine gf_X4_40 C hH dX4_told_47 ?_
        exact g_iret hx hb hr hlk hH ⟨Option.some.inj h, rfl⟩ dX4_told_50
      · refine gb_sw h (fun c3 h => ?_) (fun c3 h => ?_)
        · refine lv_tableIn (tgt := 51) (off := 50) hx hb dX4_told_1 (by rw [c3]; decide) (by rw [c3]; decide) (by rw [c3]; rfl) (by decide) ?_
          refine lv_aload_n hx hb dX4_told_51 rfl (lv_at hl 0 rfl) ?_
          refine gf_X4_43 C hH dX4_told_52 ?_
          exact g_iret hx hb hr hlk hH ⟨Option.some.inj h, rfl⟩ dX4_told_55
        · refine gb_sw h (fun c4 h => ?_) (fun c4 h => ?_)
          · refine lv_tableIn (tgt := 56) (off := 55) hx hb dX4_told_1 (by rw [c4]; decide) (by rw [c4]; decide) (by rw [c4]; rfl) (by decide) ?_
            refine lv_aload_n hx hb dX4_told_56 rfl (lv_at hl 0 rfl) ?_
            refine gf_X4_20 C hH dX4_told_57 ?_
            exact g_iret hx hb hr hlk hH ⟨Option.some.inj h, rfl⟩ dX4_told_60
          · refine lv_tableOut (tgt := 61) hx hb dX4_told_1 (by have q0 := lv_neT c0 (a := 0) (by decide); have q1 := lv_neT c1 (a := 1) (by decide); have q2 := lv_neT c2 (a := 2) (by decide); have q3 := lv_neT c3 (a := 3) (by decide); have q4 := lv_neT c4 (a := 4) (by decide); omega) (by decide) ?_
            refine lv_iload_n hx hb dX4_told_61 rfl (lv_at hl 1 rfl) ?_
            refine lv_bipush (v := 10) hx hb dX4_told_62 (by decide) ?_
            refine lv_bipush (v := 13) hx hb dX4_told_64 (by decide) ?_
            refine kl_X4_32 C hH h ⟨by decide, by decide⟩ ⟨by decide, by decide⟩ hl.1 (Nat.le_of_ble_eq_true rfl) dX4_told_66 (fun r2 H locs hH h => ?_)
            refine gb_if_eq (tgt := 84) hx hb dX4_told_69 (by decide) h (fun h => ?_) (fun h => ?_)
            · refine lv_ldc (v := -100002) hx hb C.1.2.2.2.1 (C.1.2.2.2.2 _ mw_k_X4_54) dX4_told_84 ?_
              exact g_iret hx hb hr hlk hH ⟨Option.some.inj h, rfl⟩ dX4_told_86
            · refine lv_aload_n hx hb dX4_told_72 rfl (lv_at hl 0 rfl) ?_
              refine gf_X4_17 C hH dX4_told_73 ?_
              refine lv_iload_n hx hb dX4_told_76 rfl (lv_at hl 1 rfl) ?_
              refine lv_bipush (v := 10) hx hb dX4_told_77 (by decide) ?_
              refine lv_isub hx hb dX4_told_79 ?_
              refine mal_pa C hH h dX4_told_80 (fun h => ?_)
              refine lv_goto (tgt := 86) hx hb dX4_told_81 (by decide) ?_
              exact g_iret hx hb hr hlk hH ⟨Option.some.inj h, rfl⟩ dX4_told_86
theorem ok_X4_told : okName yX4_told 1 := ⟨by decide, by decide, by decide +kernel⟩
