set_option maxHeartbeats 4000000 in
set_option maxRecDepth 100000 in
theorem c_X3_before (l : Launch) {D : va_G} {cy : Nat → ClassId} {ad : Nat → Nat} {A : Nat → Prop} (hD : ∀ σ, va_D A (gw cy ad σ)) (σ : GS) (x1 x2 : Int32) (r0 : Int32) (σ0 : GS) (h : f_X3_before σ x1 x2 = some (r0, σ0)) : gMi l yX3_before (wsM yX3_before cX3_before 5 (some .int)) ({ frames := 5, cells := 0, slots := 0, locals := 123 } : Room) D (gT cy) (gw cy ad) A [.ref (ad 0), .int x1, .int x2] σ σ0 r0 := by
  refine gMi.of (own := RX3) rfl (by decide) (Nat.le_of_ble_eq_true rfl) hD ?_
  intro p e s m below meth c ls C hx hb hr hlk hH hl
  have hl : lv_has ls 5 [(0, .ref (ad 0)), (1, .int x1), (2, .int x2)] := hl
  unfold f_X3_before at h
  refine lv_iload_n hx hb dX3_before_0 rfl (lv_at hl 1 rfl) ?_
  refine kl_X3_95 C hH h ⟨by decide, by decide⟩ ⟨by decide, by decide⟩ hl.1 (Nat.le_of_ble_eq_true rfl) dX3_before_1 (fun r1 H locs hH h => ?_)
  refine gb_if_ne (tgt := 10) hx hb dX3_before_4 (by decide) h (fun h => ?_) (fun h => ?_)
  · refine lv_iconst (v := 0) hx hb dX3_before_10 (by decide) ?_
    refine lv_istore_n (lv' := [(3, .int (0)), (0, .ref (ad 0)), (1, .int x1), (2, .int x2)]) hx hb dX3_before_11 rfl hl (by decide) rfl (fun ls hl => ?_)
    refine lv_iconst (v := 0) hx hb dX3_before_12 (by decide) ?_
    refine lv_istore (lv' := [(4, .int (0)), (3, .int (0)), (0, .ref (ad 0)), (1, .int x1), (2, .int x2)]) hx hb dX3_before_13 hl (by decide) rfl (fun ls hl => ?_)
    have L15 : ∀ (n : Nat) (y15_3 : Int32) (y15_4 : Int32) (σ15 : GS) (H : Heap) (locs : List Loc) (ls : Array Slot), gH s D (gw cy ad) A σ15 H locs → lv_has ls 5 [(0, .ref (ad 0)), (1, .int x1), (2, .int x2), (3, .int y15_3), (4, .int y15_4)] → ∀ X, itr (f_X3_before_b15 x1 x2) n (y15_3, y15_4, σ15) = some X → (∀ (z15_0_4 : Int32) (σz15_0 : GS) (H : Heap) (locs : List Loc) (ls : Array Slot), gH s D (gw cy ad) A σz15_0 H locs → lv_has ls 5 [(4, .int z15_0_4)] → X = (Sum.inl (z15_0_4, σz15_0)) → W p l e ({ frames := 5, cells := 0, slots := 0, locals := 123 } : Room) s m [.ref (ad 0), .int x1, .int x2].toArray below meth c H locs 0 0 (MQ below (gQi D (gw cy ad) A σ0 r0) [.ref (ad 0), .int x1, .int x2].toArray s 0 0 A) (F0 m 62 ls [])) → (∀ (z15_1_3 : Int32) (σz15_1 : GS) (H : Heap) (locs : List Loc) (ls : Array Slot), gH s D (gw cy ad) A σz15_1 H locs → lv_has ls 5 [(2, .int x2), (3, .int z15_1_3)] → X = (Sum.inr (z15_1_3, σz15_1)) → W p l e ({ frames := 5, cells := 0, slots := 0, locals := 123 } : Room) s m [.ref (ad 0), .int x1, .int x2].toArray below meth c H locs 0 0 (MQ below (gQi D (gw cy ad) A σ0 r0) [.ref (ad 0), .int x1, .int x2].toArray s 0 0 A) (F0 m 74 ls [])) → W p l e ({ frames := 5, cells := 0, slots := 0, locals := 123 } : Room) s m [.ref (ad 0), .int x1, .int x2].toArray below meth c H locs 0 0 (MQ below (gQi D (gw cy ad) A σ0 r0) [.ref (ad 0), .int x1, .int x2].toArray s 0 0 A) (F0 m 15 ls []) := by
      intro n
      induction n with
      | zero =>
        intro y15_3 y15_4 σ15 H locs ls hH hl X h K0 K1
        exact itr_0 h
      | succ n ih =>
        intro y15_3 y15_4 σ15 H locs ls hH hl X h0 K0 K1
        obtain ⟨o, h, h2⟩ := itr_step h0
        unfold f_X3_before_b15 at h
        refine lv_iload hx hb dX3_before_15 (lv_at hl 4 rfl) ?_
        refine lv_aload_n hx hb dX3_before_17 rfl (lv_at hl 0 rfl) ?_
        refine gf_X3_10 C hH dX3_before_18 ?_
        refine kl_X3_133 C hH h ⟨by decide, by decide⟩ ⟨by decide, by decide⟩ hl.1 (Nat.le_of_ble_eq_true rfl) dX3_before_21 (fun r2 H locs hH h => ?_)
        refine gb_icmp_ge (tgt := 74) hx hb dX3_before_24 (by decide) h (fun h => ?_) (fun h => ?_)
        · exact K1 _ _ _ _ _ hH (lv_sub hl [2, 3] rfl) (nxt_r h h2)
        · refine lv_aload_n hx hb dX3_before_27 rfl (lv_at hl 0 rfl) ?_
          refine lv_iload hx hb dX3_before_28 (lv_at hl 4 rfl) ?_
          refine kl_X3_136 C hH h ⟨by decide, by decide⟩ ⟨by decide, by decide⟩ hl.1 (Nat.le_of_ble_eq_true rfl) dX3_before_30 (fun r3 H locs hH h => ?_)
          refine gb_if_eq (tgt := 68) hx hb dX3_before_33 (by decide) h (fun h => ?_) (fun h => ?_)
          · refine lv_iinc (v := (y15_4 + (1 : Int32))) (lv' := [(4, .int (y15_4 + (1 : Int32))), (0, .ref (ad 0)), (1, .int x1), (2, .int x2), (3, .int y15_3)]) hx hb dX3_before_68 hl (k := 4) rfl rfl (by decide) rfl (fun ls hl => ?_)
            refine lv_goto (tgt := 15) hx hb dX3_before_71 (by decide) ?_
            exact ih _ _ _ _ _ _ hH (lv_sub hl [1, 2, 3, 4, 0] rfl) X (nxt_l h h2) K0 K1
          · refine lv_aload_n hx hb dX3_before_36 rfl (lv_at hl 0 rfl) ?_
            refine gf_X3_21 C hH dX3_before_37 ?_
            refine lv_iload_n hx hb dX3_before_40 rfl (lv_at hl 1 rfl) ?_
            refine lv_aload_n hx hb dX3_before_41 rfl (lv_at hl 0 rfl) ?_
            refine gf_X3_38 C hH dX3_before_42 ?_
            refine lv_iload hx hb dX3_before_45 (lv_at hl 4 rfl) ?_
            refine kl_X3_98 C hH h ⟨by decide, by decide⟩ ⟨by decide, by decide⟩ hl.1 (Nat.le_of_ble_eq_true rfl) dX3_before_47 (fun r4 σ4 H locs hH h => ?_)
            refine lv_aload_n hx hb dX3_before_50 rfl (lv_at hl 0 rfl) ?_
            refine gf_X3_42 C hH dX3_before_51 ?_
            refine gb_icmp_ne (tgt := 68) hx hb dX3_before_54 (by decide) h (fun h => ?_) (fun h => ?_)
            · refine lv_iinc (v := (y15_4 + (1 : Int32))) (lv' := [(4, .int (y15_4 + (1 : Int32))), (0, .ref (ad 0)), (1, .int x1), (2, .int x2), (3, .int y15_3)]) hx hb dX3_before_68 hl (k := 4) rfl rfl (by decide) rfl (fun ls hl => ?_)
              refine lv_goto (tgt := 15) hx hb dX3_before_71 (by decide) ?_
              exact ih _ _ _ _ _ _ hH (lv_sub hl [1, 2, 3, 4, 0] rfl) X (nxt_l h h2) K0 K1
            · refine lv_iload_n hx hb dX3_before_57 rfl (lv_at hl 3 rfl) ?_
              refine lv_iload_n hx hb dX3_before_58 rfl (lv_at hl 2 rfl) ?_
              refine gb_icmp_ne (tgt := 65) hx hb dX3_before_59 (by decide) h (fun h => ?_) (fun h => ?_)
              · refine lv_iinc (v := (y15_3 + (1 : Int32))) (lv' := [(3, .int (y15_3 + (1 : Int32))), (0, .ref (ad 0)), (1, .int x1), (2, .int x2), (4, .int y15_4)]) hx hb dX3_before_65 hl (k := 3) rfl rfl (by decide) rfl (fun ls hl => ?_)
                refine lv_iinc (v := (y15_4 + (1 : Int32))) (lv' := [(4, .int (y15_4 + (1 : Int32))), (3, .int (y15_3 + (1 : Int32))), (0, .ref (ad 0)), (1, .int x1), (2, .int x2)]) hx hb dX3_before_68 hl (k := 4) rfl rfl (by decide) rfl (fun ls hl => ?_)
                refine lv_goto (tgt := 15) hx hb dX3_before_71 (by decide) ?_
                exact ih _ _ _ _ _ _ hH (lv_sub hl [2, 3, 4, 1, 0] rfl) X (nxt_l h h2) K0 K1
              · exact K0 _ _ _ _ _ hH (lv_sub hl [4] rfl) (nxt_r h h2)
    obtain ⟨X15, hX15, h⟩ := bnd h
    refine L15 FU ((0 : Int32)) ((0 : Int32)) σ _ _ _ hH (lv_sub hl [2, 3, 4, 1, 0] rfl) X15 hX15 ?_ ?_
    · intro z15_0_4 σz15_0 H locs ls hH hl hE
      replace hE := hE.symm
      subst hE
      refine lv_iload hx hb dX3_before_62 (lv_at hl 0 rfl) ?_
      exact g_iret hx hb hr hlk hH (Prod.mk.inj (Option.some.inj h)) dX3_before_64
    · intro z15_1_3 σz15_1 H locs ls hH hl hE
      replace hE := hE.symm
      subst hE
      refine lv_iload_n hx hb dX3_before_74 rfl (lv_at hl 0 rfl) ?_
      refine lv_iconst (v := -1) hx hb dX3_before_75 (by decide) ?_
      refine gb_icmp_ne (tgt := 83) hx hb dX3_before_76 (by decide) h (fun h => ?_) (fun h => ?_)
      · refine lv_bipush (v := -6) hx hb dX3_before_83 (by decide) ?_
        exact g_iret hx hb hr hlk hH (Prod.mk.inj (Option.some.inj h)) dX3_before_85
      · refine lv_iload_n hx hb dX3_before_79 rfl (lv_at hl 1 rfl) ?_
        refine lv_goto (tgt := 85) hx hb dX3_before_80 (by decide) ?_
        exact g_iret hx hb hr hlk hH (Prod.mk.inj (Option.some.inj h)) dX3_before_85
  · refine lv_bipush (v := -2) hx hb dX3_before_7 (by decide) ?_
    exact g_iret hx hb hr hlk hH (Prod.mk.inj (Option.some.inj h)) dX3_before_9
theorem ok_X3_before : okName yX3_before 2 := ⟨by decide, by decide, by decide +kernel⟩
set_option maxHeartbeats 4000000 in
set_option maxRecDepth 100000 in
theorem c_X3_rise (l : Launch) {D : va_G} {cy : Nat → ClassId} {ad : Nat → Nat} {A : Nat → Prop} (hD : ∀ σ, va_D A (gw cy ad σ)) (σ : GS) (r0 : Int32) (h : f_X3_rise σ = some r0) : gMi l yX3_rise (wsM yX3_rise cX3_rise 1 (some .int)) ({ frames := 3, cells := 0, slots := 0, locals := 68 } : Room) D (gT cy) (gw cy ad) A [.ref (ad 0)] σ σ r0 := by
  refine gMi.of (own := RX3) rfl (by decide) (Nat.le_of_ble_eq_true rfl) hD ?_
  intro p e s m below meth c ls C hx hb hr hlk hH hl
  have hl : lv_has ls 1 [(0, .ref (ad 0))] := hl
  unfold f_X3_rise at h
  refine lv_aload_n hx hb dX3_rise_0 rfl (lv_at hl 0 rfl) ?_
  refine gf_X3_10 C hH dX3_rise_1 ?_
  refine lv_aload_n hx hb dX3_rise_4 rfl (lv_at hl 0 rfl) ?_
  refine gf_X3_42 C hH dX3_rise_5 ?_
  refine kl_X3_139 C hH h ⟨by decide, by decide⟩ ⟨by decide, by decide⟩ hl.1 (Nat.le_of_ble_eq_true rfl) dX3_rise_8 (fun r1 H locs hH h => ?_)
  exact g_iret hx hb hr hlk hH ⟨Option.some.inj h, rfl⟩ dX3_rise_11
theorem ok_X3_rise : okName yX3_rise 0 := ⟨by decide, by decide, by decide +kernel⟩
set_option maxHeartbeats 4000000 in
set_option maxRecDepth 100000 in
theorem c_X3_highest (l : Launch) {D : va_G} {cy : Nat → ClassId} {ad : Nat → Nat} {A : Nat → Prop} (hD : ∀ σ, va_D A (gw cy ad σ)) (σ : GS) (r0 : Int32) (h : f_X3_highest σ = some r0) : gMi l yX3_highest (wsM yX3_highest cX3_highest 5 (some .int)) ({ frames := 3, cells := 0, slots := 0, locals := 68 } : Room) D (gT cy) (gw cy ad) A [.ref (ad 0)] σ σ r0 := by
  refine gMi.of (own := RX3) rfl (by decide) (Nat.le_of_ble_eq_true rfl) hD ?_
  intro p e s m below meth c ls C hx hb hr hlk hH hl
  have hl : lv_has ls 5 [(0, .ref (ad 0))] := hl
  unfold f_X3_highest at h
  refine lv_aload_n hx hb dX3_highest_0 rfl (lv_at hl 0 rfl) ?_
  refine gf_X3_42 C hH dX3_highest_1 ?_
  refine lv_istore_n (lv' := [(1, .int (gnw σ)), (0, .ref (ad 0))]) hx hb dX3_highest_4 rfl hl (by decide) rfl (fun ls hl => ?_)
  refine lv_aload_n hx hb dX3_highest_5 rfl (lv_at hl 1 rfl) ?_
  refine gf_X3_10 C hH dX3_highest_6 ?_
  refine lv_aload_n hx hb dX3_highest_9 rfl (lv_at hl 1 rfl) ?_
  refine gf_X3_42 C hH dX3_highest_10 ?_
  refine kl_X3_139 C hH h ⟨by decide, by decide⟩ ⟨by decide, by decide⟩ hl.1 (Nat.le_of_ble_eq_true rfl) dX3_highest_13 (fun r1 H locs hH h => ?_)
  refine lv_istore_n (lv' := [(2, .int r1), (1, .int (gnw σ)), (0, .ref (ad 0))]) hx hb dX3_highest_16 rfl hl (by decide) rfl (fun ls hl => ?_)
  refine lv_iconst (v := 0) hx hb dX3_highest_17 (by decide) ?_
  refine lv_istore_n (lv' := [(3, .int (0)), (2, .int r1), (1, .int (gnw σ)), (0, .ref (ad 0))]) hx hb dX3_highest_18 rfl hl (by decide) rfl (fun ls hl => ?_)
  have L19 : ∀ (n : Nat) (y19_1 : Int32) (y19_2 : Int32) (y19_3 : Int32) (H : Heap) (locs : List Loc) (ls : Array Slot), gH s D (gw cy ad) A σ H locs → lv_has ls 5 [(0, .ref (ad 0)), (1, .int y19_1), (2, .int y19_2), (3, .int y19_3)] → ∀ X, itr (f_X3_highest_b19 σ) n (y19_1, y19_2, y19_3) = some X → (∀ (z19_0_1 : Int32) (H : Heap) (locs : List Loc) (ls : Array Slot), gH s D (gw cy ad) A σ H locs → lv_has ls 5 [(1, .int z19_0_1)] → X = z19_0_1 → W p l e ({ frames := 3, cells := 0, slots := 0, locals := 68 } : Room) s m [.ref (ad 0)].toArray below meth c H locs 0 0 (MQ below (gQi D (gw cy ad) A σ r0) [.ref (ad 0)].toArray s 0 0 A) (F0 m 76 ls [])) → W p l e ({ frames := 3, cells := 0, slots := 0, locals := 68 } : Room) s m [.ref (ad 0)].toArray below meth c H locs 0 0 (MQ below (gQi D (gw cy ad) A σ r0) [.ref (ad 0)].toArray s 0 0 A) (F0 m 19 ls []) := by
    intro n
    induction n with
    | zero =>
      intro y19_1 y19_2 y19_3 H locs ls hH hl X h K
      exact itr_0 h
    | succ n ih =>
      intro y19_1 y19_2 y19_3 H locs ls hH hl X h0 K
      obtain ⟨o, h, h2⟩ := itr_step h0
      unfold f_X3_highest_b19 at h
      refine lv_iload_n hx hb dX3_highest_19 rfl (lv_at hl 3 rfl) ?_
      refine lv_aload_n hx hb dX3_highest_20 rfl (lv_at hl 0 rfl) ?_
      refine gf_X3_10 C hH dX3_highest_21 ?_
      refine kl_X3_133 C hH h ⟨by decide, by decide⟩ ⟨by decide, by decide⟩ hl.1 (Nat.le_of_ble_eq_true rfl) dX3_highest_24 (fun r2 H locs hH h => ?_)
      refine gb_icmp_ge (tgt := 76) hx hb dX3_highest_27 (by decide) h (fun h => ?_) (fun h => ?_)
      · exact K _ _ _ _ hH (lv_sub hl [1] rfl) (nxt_r h h2)
      · refine lv_aload_n hx hb dX3_highest_30 rfl (lv_at hl 0 rfl) ?_
        refine lv_iload_n hx hb dX3_highest_31 rfl (lv_at hl 3 rfl) ?_
        refine kl_X3_136 C hH h ⟨by decide, by decide⟩ ⟨by decide, by decide⟩ hl.1 (Nat.le_of_ble_eq_true rfl) dX3_highest_32 (fun r3 H locs hH h => ?_)
        refine gb_if_eq (tgt := 70) hx hb dX3_highest_35 (by decide) h (fun h => ?_) (fun h => ?_)
        · refine lv_iinc (v := (y19_3 + (1 : Int32))) (lv' := [(3, .int (y19_3 + (1 : Int32))), (0, .ref (ad 0)), (1, .int y19_1), (2, .int y19_2)]) hx hb dX3_highest_70 hl (k := 3) rfl rfl (by decide) rfl (fun ls hl => ?_)
          refine lv_goto (tgt := 19) hx hb dX3_highest_73 (by decide) ?_
          exact ih _ _ _ _ _ _ hH (lv_sub hl [1, 2, 3, 0] rfl) X (nxt_l h h2) K
        · refine lv_aload_n hx hb dX3_highest_38 rfl (lv_at hl 0 rfl) ?_
          refine gf_X3_10 C hH dX3_highest_39 ?_
          refine lv_iload_n hx hb dX3_highest_42 rfl (lv_at hl 3 rfl) ?_
          refine kl_X3_139 C hH h ⟨by decide, by decide⟩ ⟨by decide, by decide⟩ hl.1 (Nat.le_of_ble_eq_true rfl) dX3_highest_43 (fun r4 H locs hH h => ?_)
          refine lv_istore (lv' := [(4, .int r4), (0, .ref (ad 0)), (1, .int y19_1), (2, .int y19_2), (3, .int y19_3)]) hx hb dX3_highest_46 hl (by decide) rfl (fun ls hl => ?_)
          refine lv_iload hx hb dX3_highest_48 (lv_at hl 0 rfl) ?_
          refine lv_iload_n hx hb dX3_highest_50 rfl (lv_at hl 3 rfl) ?_
          refine gb_icmp_gt (tgt := 65) hx hb dX3_highest_51 (by decide) h (fun h => ?_) (fun h => ?_)
          · refine lv_iload_n hx hb dX3_highest_65 rfl (lv_at hl 4 rfl) ?_
            refine lv_istore_n (lv' := [(1, .int y19_3), (4, .int r4), (0, .ref (ad 0)), (2, .int y19_2), (3, .int y19_3)]) hx hb dX3_highest_66 rfl hl (by decide) rfl (fun ls hl => ?_)
            refine lv_iload hx hb dX3_highest_67 (lv_at hl 1 rfl) ?_
            refine lv_istore_n (lv' := [(2, .int r4), (1, .int y19_3), (4, .int r4), (0, .ref (ad 0)), (3, .int y19_3)]) hx hb dX3_highest_69 rfl hl (by decide) rfl (fun ls hl => ?_)
            refine lv_iinc (v := (y19_3 + (1 : Int32))) (lv' := [(3, .int (y19_3 + (1 : Int32))), (2, .int r4), (1, .int y19_3), (4, .int r4), (0, .ref (ad 0))]) hx hb dX3_highest_70 hl (k := 4) rfl rfl (by decide) rfl (fun ls hl => ?_)
            refine lv_goto (tgt := 19) hx hb dX3_highest_73 (by decide) ?_
            exact ih _ _ _ _ _ _ hH (lv_sub hl [4, 2, 1, 0] rfl) X (nxt_l h h2) K
          · refine lv_iload hx hb dX3_highest_54 (lv_at hl 0 rfl) ?_
            refine lv_iload_n hx hb dX3_highest_56 rfl (lv_at hl 3 rfl) ?_
            refine gb_icmp_ne (tgt := 70) hx hb dX3_highest_57 (by decide) h (fun h => ?_) (fun h => ?_)
            · refine lv_iinc (v := (y19_3 + (1 : Int32))) (lv' := [(3, .int (y19_3 + (1 : Int32))), (4, .int r4), (0, .ref (ad 0)), (1, .int y19_1), (2, .int y19_2)]) hx hb dX3_highest_70 hl (k := 4) rfl rfl (by decide) rfl (fun ls hl => ?_)
              refine lv_goto (tgt := 19) hx hb dX3_highest_73 (by decide) ?_
              exact ih _ _ _ _ _ _ hH (lv_sub hl [2, 3, 4, 0] rfl) X (nxt_l h h2) K
            · refine lv_iload_n hx hb dX3_highest_60 rfl (lv_at hl 4 rfl) ?_
              refine lv_iload_n hx hb dX3_highest_61 rfl (lv_at hl 2 rfl) ?_
              refine gb_icmp_ge (tgt := 70) hx hb dX3_highest_62 (by decide) h (fun h => ?_) (fun h => ?_)
              · refine lv_iinc (v := (y19_3 + (1 : Int32))) (lv' := [(3, .int (y19_3 + (1 : Int32))), (4, .int r4), (0, .ref (ad 0)), (1, .int y19_1), (2, .int y19_2)]) hx hb dX3_highest_70 hl (k := 4) rfl rfl (by decide) rfl (fun ls hl => ?_)
                refine lv_goto (tgt := 19) hx hb dX3_highest_73 (by decide) ?_
                exact ih _ _ _ _ _ _ hH (lv_sub hl [2, 3, 4, 0] rfl) X (nxt_l h h2) K
              · refine lv_iload_n hx hb dX3_highest_65 rfl (lv_at hl 4 rfl) ?_
                refine lv_istore_n (lv' := [(1, .int y19_3), (4, .int r4), (0, .ref (ad 0)), (2, .int y19_2), (3, .int y19_3)]) hx hb dX3_highest_66 rfl hl (by decide) rfl (fun ls hl => ?_)
                refine lv_iload hx hb dX3_highest_67 (lv_at hl 1 rfl) ?_
                refine lv_istore_n (lv' := [(2, .int r4), (1, .int y19_3), (4, .int r4), (0, .ref (ad 0)), (3, .int y19_3)]) hx hb dX3_highest_69 rfl hl (by decide) rfl (fun ls hl => ?_)
                refine lv_iinc (v := (y19_3 + (1 : Int32))) (lv' := [(3, .int (y19_3 + (1 : Int32))), (2, .int r4), (1, .int y19_3), (4, .int r4), (0, .ref (ad 0))]) hx hb dX3_highest_70 hl (k := 4) rfl rfl (by decide) rfl (fun ls hl => ?_)
                refine lv_goto (tgt := 19) hx hb dX3_highest_73 (by decide) ?_
                exact ih _ _ _ _ _ _ hH (lv_sub hl [4, 2, 1, 0] rfl) X (nxt_l h h2) K
  obtain ⟨X19, hX19, h⟩ := bnd h
  refine L19 FU ((gnw σ)) r1 ((0 : Int32)) _ _ _ hH (lv_sub hl [3, 2, 1, 0] rfl) X19 hX19 ?_
  intro z19_0_1 H locs ls hH hl hE
  replace hE := hE.symm
  subst hE
  refine lv_iload_n hx hb dX3_highest_76 rfl (lv_at hl 0 rfl) ?_
  exact g_iret hx hb hr hlk hH ⟨Option.some.inj h, rfl⟩ dX3_highest_77
theorem ok_X3_highest : okName yX3_highest 0 := ⟨by decide, by decide, by decide +kernel⟩
set_option maxHeartbeats 4000000 in
set_option maxRecDepth 100000 in
theorem c_X3_isAtRest (l : Launch) {D : va_G} {cy : Nat → ClassId} {ad : Nat → Nat} {A : Nat → Prop} (hD : ∀ σ, va_D A (gw cy ad σ)) (σ : GS) (x1 : Int32) (r0 : Int32) (σ0 : GS) (h : f_X3_isAtRest σ x1 = some (r0, σ0)) : gMi l yX3_isAtRest (wsM yX3_isAtRest cX3_isAtRest 2 (some .boolean)) ({ frames := 5, cells := 0, slots := 0, locals := 123 } : Room) D (gT cy) (gw cy ad) A [.ref (ad 0), .int x1] σ σ0 r0 := by
  refine gMi.of (own := RX3) rfl (by decide) (Nat.le_of_ble_eq_true rfl) hD ?_
  intro p e s m below meth c ls C hx hb hr hlk hH hl
  have hl : lv_has ls 2 [(0, .ref (ad 0)), (1, .int x1)] := hl
  unfold f_X3_isAtRest at h
  refine lv_aload_n hx hb dX3_isAtRest_0 rfl (lv_at hl 0 rfl) ?_
  refine gf_X3_21 C hH dX3_isAtRest_1 ?_
  refine lv_iconst (v := 0) hx hb dX3_isAtRest_4 (by decide) ?_
  refine lv_aload_n hx hb dX3_isAtRest_5 rfl (lv_at hl 0 rfl) ?_
  refine gf_X3_38 C hH dX3_isAtRest_6 ?_
  refine lv_iload_n hx hb dX3_isAtRest_9 rfl (lv_at hl 1 rfl) ?_
  refine kl_X3_98 C hH h ⟨by decide, by decide⟩ ⟨by decide, by decide⟩ hl.1 (Nat.le_of_ble_eq_true rfl) dX3_isAtRest_10 (fun r1 σ1 H locs hH h => ?_)
  refine lv_iload_n hx hb dX3_isAtRest_13 rfl (lv_at hl 1 rfl) ?_
  refine gb_icmp_ne (tgt := 21) hx hb dX3_isAtRest_14 (by decide) h (fun h => ?_) (fun h => ?_)
  · refine lv_iconst (v := 0) hx hb dX3_isAtRest_21 (by decide) ?_
    exact g_zret hx hb hr hlk hH (Prod.mk.inj (Option.some.inj h)) rfl dX3_isAtRest_22
  · refine lv_iconst (v := 1) hx hb dX3_isAtRest_17 (by decide) ?_
    refine lv_goto (tgt := 22) hx hb dX3_isAtRest_18 (by decide) ?_
    exact g_zret hx hb hr hlk hH (Prod.mk.inj (Option.some.inj h)) rfl dX3_isAtRest_22
theorem ok_X3_isAtRest : okName yX3_isAtRest 1 := ⟨by decide, by decide, by decide +kernel⟩
section KL
variable {p : Program} {l : Launch} {e : Env} {R : Room} {s : State} {m : MethodId} {args : Array Value} {below : List Frame} {meth : Method} {c : Code} {H : Heap} {locs : List Loc} {cells slots : Nat} {Q : State → Prop} {cc : ByteArray} {pc nL : Nat} {ls : Array Slot} {rest : List Value}
variable {A : Nat → Prop} {D : va_G} {cy : Nat → ClassId} {ad : Nat → Nat}
theorem kl_X3_142 (C : gC p m c cc nL s args RX3 D (gT cy) (gw cy ad) A) {σ : GS} (hH : gH s D (gw cy ad) A σ H locs) {x1 : Int32} {α : Type} {k : Int32 × GS → Option α} {y : α} (h : (f_X3_isAtRest σ x1).bind k = some y) (hR : 6 ≤ R.frames ∧ 144 ≤ R.locals) (hcs : cells ≤ R.cells ∧ slots ≤ R.slots) (hl : ls.size = nL) (hW : (rest.map fun v => v.category).sum ≤ 8) (hdg : decode cc pc = .ok (.invokevirtual 142, 3)) (kk : ∀ (r : Int32) (σ1 : GS) (H1 : Heap) (locs1 : List Loc), gH s D (gw cy ad) A σ1 H1 locs1 → k (r, σ1) = some y → W p l e R s m args below meth c H1 locs1 cells slots Q (F0 m (pc + 3) ls (.int r :: rest))) : W p l e R s m args below meth c H locs cells slots Q (F0 m pc ls (.int x1 :: .ref (ad 0) :: rest)) := by
  obtain ⟨⟨r, σ1⟩, h1, h2⟩ := bnd h
  exact g_fi (g_rV (As := [.int x1]) C hH (c_X3_isAtRest l C.2.2.2 σ x1 r σ1 h1) (q0 := 0) mw_c_X3_isAtRest mw_m_X3_142 mw_i_X3_isAtRest mw_v_X3_isAtRest mw_in_X3 ok_X3_isAtRest ⟨rfl, rfl⟩ rfl rfl rfl hR hcs hl rfl hW hdg) hH.2 (fun H1 locs1 hH1 => kk r σ1 H1 locs1 hH1 h2)
end KL
set_option maxHeartbeats 4000000 in
set_option maxRecDepth 100000 in
theorem c_X3_rests (l : Launch) {D : va_G} {cy : Nat → ClassId} {ad : Nat → Nat} {A : Nat → Prop} (hD : ∀ σ, va_D A (gw cy ad σ)) (σ : GS) (r0 : Int32) (σ0 : GS) (h : f_X3_rests σ = some (r0, σ0)) : gMi l yX3_rests (wsM yX3_rests cX3_rests 1 (some .int)) ({ frames := 6, cells := 0, slots := 0, locals := 144 } : Room) D (gT cy) (gw cy ad) A [.ref (ad 0)] σ σ0 r0 := by
  refine gMi.of (own := RX3) rfl (by decide) (Nat.le_of_ble_eq_true rfl) hD ?_
  intro p e s m below meth c ls C hx hb hr hlk hH hl
  have hl : lv_has ls 1 [(0, .ref (ad 0))] := hl
  unfold f_X3_rests at h
  refine lv_aload_n hx hb dX3_rests_0 rfl (lv_at hl 0 rfl) ?_
  refine lv_aload_n hx hb dX3_rests_1 rfl (lv_at hl 0 rfl) ?_
  refine gf_X3_42 C hH dX3_rests_2 ?_
  refine kl_X3_142 C hH h ⟨by decide, by decide⟩ ⟨by decide, by decide⟩ hl.1 (Nat.le_of_ble_eq_true rfl) dX3_rests_5 (fun r1 σ1 H locs hH h => ?_)
  refine gb_if_eq (tgt := 15) hx hb dX3_rests_8 (by decide) h (fun h => ?_) (fun h => ?_)
  · refine lv_iconst (v := 0) hx hb dX3_rests_15 (by decide) ?_
    exact g_iret hx hb hr hlk hH (Prod.mk.inj (Option.some.inj h)) dX3_rests_16
  · refine lv_iconst (v := 1) hx hb dX3_rests_11 (by decide) ?_
    refine lv_goto (tgt := 16) hx hb dX3_rests_12 (by decide) ?_
    exact g_iret hx hb hr hlk hH (Prod.mk.inj (Option.some.inj h)) dX3_rests_16
theorem ok_X3_rests : okName yX3_rests 0 := ⟨by decide, by decide, by decide +kernel⟩
set_option maxHeartbeats 4000000 in
set_option maxRecDepth 100000 in
theorem c_X3_restMany (l : Launch) {D : va_G} {cy : Nat → ClassId} {ad : Nat → Nat} {A : Nat → Prop} (hD : ∀ σ, va_D A (gw cy ad σ)) (σ : GS) (r0 : Int32) (σ0 : GS) (h : f_X3_restMany σ = some (r0, σ0)) : gMi l yX3_restMany (wsM yX3_restMany cX3_restMany 3 (some .int)) ({ frames := 6, cells := 0, slots := 0, locals := 144 } : Room) D (gT cy) (gw cy ad) A [.ref (ad 0)] σ σ0 r0 := by
  refine gMi.of (own := RX3) rfl (by decide) (Nat.le_of_ble_eq_true rfl) hD ?_
  intro p e s m below meth c ls C hx hb hr hlk hH hl
  have hl : lv_has ls 3 [(0, .ref (ad 0))] := hl
  unfold f_X3_restMany at h
  refine lv_iconst (v := 0) hx hb dX3_restMany_0 (by decide) ?_
  refine lv_istore_n (lv' := [(1, .int (0)), (0, .ref (ad 0))]) hx hb dX3_restMany_1 rfl hl (by decide) rfl (fun ls hl => ?_)
  refine lv_iconst (v := 0) hx hb dX3_restMany_2 (by decide) ?_
  refine lv_istore_n (lv' := [(2, .int (0)), (1, .int (0)), (0, .ref (ad 0))]) hx hb dX3_restMany_3 rfl hl (by decide) rfl (fun ls hl => ?_)
  have L4 : ∀ (n : Nat) (y4_1 : Int32) (y4_2 : Int32) (σ4 : GS) (H : Heap) (locs : List Loc) (ls : Array Slot), gH s D (gw cy ad) A σ4 H locs → lv_has ls 3 [(0, .ref (ad 0)), (1, .int y4_1), (2, .int y4_2)] → ∀ X, itr f_X3_restMany_b4 n (y4_1, y4_2, σ4) = some X → (∀ (z4_0_1 : Int32) (σz4_0 : GS) (H : Heap) (locs : List Loc) (ls : Array Slot), gH s D (gw cy ad) A σz4_0 H locs → lv_has ls 3 [(1, .int z4_0_1)] → X = (z4_0_1, σz4_0) → W p l e ({ frames := 6, cells := 0, slots := 0, locals := 144 } : Room) s m [.ref (ad 0)].toArray below meth c H locs 0 0 (MQ below (gQi D (gw cy ad) A σ0 r0) [.ref (ad 0)].toArray s 0 0 A) (F0 m 40 ls [])) → W p l e ({ frames := 6, cells := 0, slots := 0, locals := 144 } : Room) s m [.ref (ad 0)].toArray below meth c H locs 0 0 (MQ below (gQi D (gw cy ad) A σ0 r0) [.ref (ad 0)].toArray s 0 0 A) (F0 m 4 ls []) := by
    intro n
    induction n with
    | zero =>
      intro y4_1 y4_2 σ4 H locs ls hH hl X h K
      exact itr_0 h
    | succ n ih =>
      intro y4_1 y4_2 σ4 H locs ls hH hl X h0 K
      obtain ⟨o, h, h2⟩ := itr_step h0
      unfold f_X3_restMany_b4 at h
      refine lv_iload_n hx hb dX3_restMany_4 rfl (lv_at hl 2 rfl) ?_
      refine lv_aload_n hx hb dX3_restMany_5 rfl (lv_at hl 0 rfl) ?_
      refine gf_X3_10 C hH dX3_restMany_6 ?_
      refine kl_X3_133 C hH h ⟨by decide, by decide⟩ ⟨by decide, by decide⟩ hl.1 (Nat.le_of_ble_eq_true rfl) dX3_restMany_9 (fun r1 H locs hH h => ?_)
      refine gb_icmp_ge (tgt := 40) hx hb dX3_restMany_12 (by decide) h (fun h => ?_) (fun h => ?_)
      · exact K _ _ _ _ _ hH (lv_sub hl [1] rfl) (nxt_r h h2)
      · refine lv_aload_n hx hb dX3_restMany_15 rfl (lv_at hl 0 rfl) ?_
        refine lv_iload_n hx hb dX3_restMany_16 rfl (lv_at hl 2 rfl) ?_
        refine kl_X3_136 C hH h ⟨by decide, by decide⟩ ⟨by decide, by decide⟩ hl.1 (Nat.le_of_ble_eq_true rfl) dX3_restMany_17 (fun r2 H locs hH h => ?_)
        refine gb_if_eq (tgt := 34) hx hb dX3_restMany_20 (by decide) h (fun h => ?_) (fun h => ?_)
        · refine lv_iinc (v := (y4_2 + (1 : Int32))) (lv' := [(2, .int (y4_2 + (1 : Int32))), (0, .ref (ad 0)), (1, .int y4_1)]) hx hb dX3_restMany_34 hl (k := 2) rfl rfl (by decide) rfl (fun ls hl => ?_)
          refine lv_goto (tgt := 4) hx hb dX3_restMany_37 (by decide) ?_
          exact ih _ _ _ _ _ _ hH (lv_sub hl [1, 2, 0] rfl) X (nxt_l h h2) K
        · refine lv_aload_n hx hb dX3_restMany_23 rfl (lv_at hl 0 rfl) ?_
          refine lv_iload_n hx hb dX3_restMany_24 rfl (lv_at hl 2 rfl) ?_
          refine kl_X3_142 C hH h ⟨by decide, by decide⟩ ⟨by decide, by decide⟩ hl.1 (Nat.le_of_ble_eq_true rfl) dX3_restMany_25 (fun r3 σ3 H locs hH h => ?_)
          refine gb_if_eq (tgt := 34) hx hb dX3_restMany_28 (by decide) h (fun h => ?_) (fun h => ?_)
          · refine lv_iinc (v := (y4_2 + (1 : Int32))) (lv' := [(2, .int (y4_2 + (1 : Int32))), (0, .ref (ad 0)), (1, .int y4_1)]) hx hb dX3_restMany_34 hl (k := 2) rfl rfl (by decide) rfl (fun ls hl => ?_)
            refine lv_goto (tgt := 4) hx hb dX3_restMany_37 (by decide) ?_
            exact ih _ _ _ _ _ _ hH (lv_sub hl [1, 2, 0] rfl) X (nxt_l h h2) K
          · refine lv_iinc (v := (y4_1 + (1 : Int32))) (lv' := [(1, .int (y4_1 + (1 : Int32))), (0, .ref (ad 0)), (2, .int y4_2)]) hx hb dX3_restMany_31 hl (k := 1) rfl rfl (by decide) rfl (fun ls hl => ?_)
            refine lv_iinc (v := (y4_2 + (1 : Int32))) (lv' := [(2, .int (y4_2 + (1 : Int32))), (1, .int (y4_1 + (1 : Int32))), (0, .ref (ad 0))]) hx hb dX3_restMany_34 hl (k := 2) rfl rfl (by decide) rfl (fun ls hl => ?_)
            refine lv_goto (tgt := 4) hx hb dX3_restMany_37 (by decide) ?_
            exact ih _ _ _ _ _ _ hH (lv_sub hl [2, 1, 0] rfl) X (nxt_l h h2) K
  obtain ⟨X4, hX4, h⟩ := bnd h
  refine L4 FU ((0 : Int32)) ((0 : Int32)) σ _ _ _ hH (lv_sub hl [2, 1, 0] rfl) X4 hX4 ?_
  intro z4_0_1 σz4_0 H locs ls hH hl hE
  replace hE := hE.symm
  subst hE
  refine lv_iload_n hx hb dX3_restMany_40 rfl (lv_at hl 0 rfl) ?_
  exact g_iret hx hb hr hlk hH (Prod.mk.inj (Option.some.inj h)) dX3_restMany_41
theorem ok_X3_restMany : okName yX3_restMany 0 := ⟨by decide, by decide, by decide +kernel⟩
set_option maxHeartbeats 4000000 in
set_option maxRecDepth 100000 in
theorem c_J6_bitCount_0f7a4 (l : Launch) {D : va_G} {cy : Nat → ClassId} {ad : Nat → Nat} {A : Nat → Prop} (hD : ∀ σ, va_D A (gw cy ad σ)) (σ : GS) (x0 : Int32) (r0 : Int32) (h : f_J6_bitCount_0f7a4 x0 = some r0) : gMi l yJ6_bitCount_0f7a4 (wsM yJ6_bitCount_0f7a4 cJ6_bitCount_0f7a4 1 (some .int)) ({ frames := 0, cells := 0, slots := 0, locals := 0 } : Room) D (gT cy) (gw cy ad) A [.int x0] σ σ r0 := by
  refine gMi.of (own := RJ6) rfl (by decide) (Nat.le_of_ble_eq_true rfl) hD ?_
  intro p e s m below meth c ls C hx hb hr hlk hH hl
  have hl : lv_has ls 1 [(0, .int x0)] := hl
  unfold f_J6_bitCount_0f7a4 at h
  refine lv_iload_n hx hb dJ6_bitCount_0f7a4_0 rfl (lv_at hl 0 rfl) ?_
  refine lv_iload_n hx hb dJ6_bitCount_0f7a4_1 rfl (lv_at hl 0 rfl) ?_
  refine lv_iconst (v := 1) hx hb dJ6_bitCount_0f7a4_2 (by decide) ?_
  refine lv_iushr hx hb dJ6_bitCount_0f7a4_3 rfl ?_
  refine lv_ldcw (v := 1431655765) hx hb C.1.2.2.2.1 (C.1.2.2.2.2 _ mw_k_J6_265) dJ6_bitCount_0f7a4_4 ?_
  refine lv_iand hx hb dJ6_bitCount_0f7a4_7 ?_
  refine lv_isub hx hb dJ6_bitCount_0f7a4_8 ?_
  refine lv_istore_n (lv' := [(0, .int (x0 - (((x0).toUInt32 >>> (((1 : Int32)).toUInt32 &&& Int32.toUInt32 31)).toInt32 &&& (1431655765 : Int32))))]) hx hb dJ6_bitCount_0f7a4_9 rfl hl (by decide) rfl (fun ls hl => ?_)
  refine lv_iload_n hx hb dJ6_bitCount_0f7a4_10 rfl (lv_at hl 0 rfl) ?_
  refine lv_ldcw (v := 858993459) hx hb C.1.2.2.2.1 (C.1.2.2.2.2 _ mw_k_J6_266) dJ6_bitCount_0f7a4_11 ?_
  refine lv_iand hx hb dJ6_bitCount_0f7a4_14 ?_
  refine lv_iload_n hx hb dJ6_bitCount_0f7a4_15 rfl (lv_at hl 0 rfl) ?_
  refine lv_iconst (v := 2) hx hb dJ6_bitCount_0f7a4_16 (by decide) ?_
  refine lv_iushr hx hb dJ6_bitCount_0f7a4_17 rfl ?_
  refine lv_ldcw (v := 858993459) hx hb C.1.2.2.2.1 (C.1.2.2.2.2 _ mw_k_J6_266) dJ6_bitCount_0f7a4_18 ?_
  refine lv_iand hx hb dJ6_bitCount_0f7a4_21 ?_
  refine lv_iadd hx hb dJ6_bitCount_0f7a4_22 ?_
  refine lv_istore_n (lv' := [(0, .int (((x0 - (((x0).toUInt32 >>> (((1 : Int32)).toUInt32 &&& Int32.toUInt32 31)).toInt32 &&& (1431655765 : Int32))) &&& (858993459 : Int32)) + ((((x0 - (((x0).toUInt32 >>> (((1 : Int32)).toUInt32 &&& Int32.toUInt32 31)).toInt32 &&& (1431655765 : Int32)))).toUInt32 >>> (((2 : Int32)).toUInt32 &&& Int32.toUInt32 31)).toInt32 &&& (858993459 : Int32))))]) hx hb dJ6_bitCount_0f7a4_23 rfl hl (by decide) rfl (fun ls hl => ?_)
  refine lv_iload_n hx hb dJ6_bitCount_0f7a4_24 rfl (lv_at hl 0 rfl) ?_
  refine lv_iload_n hx hb dJ6_bitCount_0f7a4_25 rfl (lv_at hl 0 rfl) ?_
  refine lv_iconst (v := 4) hx hb dJ6_bitCount_0f7a4_26 (by decide) ?_
  refine lv_iushr hx hb dJ6_bitCount_0f7a4_27 rfl ?_
  refine lv_iadd hx hb dJ6_bitCount_0f7a4_28 ?_
  refine lv_ldcw (v := 252645135) hx hb C.1.2.2.2.1 (C.1.2.2.2.2 _ mw_k_J6_267) dJ6_bitCount_0f7a4_29 ?_
  refine lv_iand hx hb dJ6_bitCount_0f7a4_32 ?_
  refine lv_istore_n (lv' := [(0, .int (((((x0 - (((x0).toUInt32 >>> (((1 : Int32)).toUInt32 &&& Int32.toUInt32 31)).toInt32 &&& (1431655765 : Int32))) &&& (858993459 : Int32)) + ((((x0 - (((x0).toUInt32 >>> (((1 : Int32)).toUInt32 &&& Int32.toUInt32 31)).toInt32 &&& (1431655765 : Int32)))).toUInt32 >>> (((2 : Int32)).toUInt32 &&& Int32.toUInt32 31)).toInt32 &&& (858993459 : Int32))) + (((((x0 - (((x0).toUInt32 >>> (((1 : Int32)).toUInt32 &&& Int32.toUInt32 31)).toInt32 &&& (1431655765 : Int32))) &&& (858993459 : Int32)) + ((((x0 - (((x0).toUInt32 >>> (((1 : Int32)).toUInt32 &&& Int32.toUInt32 31)).toInt32 &&& (1431655765 : Int32)))).toUInt32 >>> (((2 : Int32)).toUInt32 &&& Int32.toUInt32 31)).toInt32 &&& (858993459 : Int32)))).toUInt32 >>> (((4 : Int32)).toUInt32 &&& Int32.toUInt32 31)).toInt32) &&& (252645135 : Int32)))]) hx hb dJ6_bitCount_0f7a4_33 rfl hl (by decide) rfl (fun ls hl => ?_)
  refine lv_iload_n hx hb dJ6_bitCount_0f7a4_34 rfl (lv_at hl 0 rfl) ?_
  refine lv_iload_n hx hb dJ6_bitCount_0f7a4_35 rfl (lv_at hl 0 rfl) ?_
  refine lv_bipush (v := 8) hx hb dJ6_bitCount_0f7a4_36 (by decide) ?_
  refine lv_iushr hx hb dJ6_bitCount_0f7a4_38 rfl ?_
  refine lv_iadd hx hb dJ6_bitCount_0f7a4_39 ?_
  refine lv_istore_n (lv' := [(0, .int ((((((x0 - (((x0).toUInt32 >>> (((1 : Int32)).toUInt32 &&& Int32.toUInt32 31)).toInt32 &&& (1431655765 : Int32))) &&& (858993459 : Int32)) + ((((x0 - (((x0).toUInt32 >>> (((1 : Int32)).toUInt32 &&& Int32.toUInt32 31)).toInt32 &&& (1431655765 : Int32)))).toUInt32 >>> (((2 : Int32)).toUInt32 &&& Int32.toUInt32 31)).toInt32 &&& (858993459 : Int32))) + (((((x0 - (((x0).toUInt32 >>> (((1 : Int32)).toUInt32 &&& Int32.toUInt32 31)).toInt32 &&& (1431655765 : Int32))) &&& (858993459 : Int32)) + ((((x0 - (((x0).toUInt32 >>> (((1 : Int32)).toUInt32 &&& Int32.toUInt32 31)).toInt32 &&& (1431655765 : Int32)))).toUInt32 >>> (((2 : Int32)).toUInt32 &&& Int32.toUInt32 31)).toInt32 &&& (858993459 : Int32)))).toUInt32 >>> (((4 : Int32)).toUInt32 &&& Int32.toUInt32 31)).toInt32) &&& (252645135 : Int32)) + (((((((x0 - (((x0).toUInt32 >>> (((1 : Int32)).toUInt32 &&& Int32.toUInt32 31)).toInt32 &&& (1431655765 : Int32))) &&& (858993459 : Int32)) + ((((x0 - (((x0).toUInt32 >>> (((1 : Int32)).toUInt32 &&& Int32.toUInt32 31)).toInt32 &&& (1431655765 : Int32)))).toUInt32 >>> (((2 : Int32)).toUInt32 &&& Int32.toUInt32 31)).toInt32 &&& (858993459 : Int32))) + (((((x0 - (((x0).toUInt32 >>> (((1 : Int32)).toUInt32 &&& Int32.toUInt32 31)).toInt32 &&& (1431655765 : Int32))) &&& (858993459 : Int32)) + ((((x0 - (((x0).toUInt32 >>> (((1 : Int32)).toUInt32 &&& Int32.toUInt32 31)).toInt32 &&& (1431655765 : Int32)))).toUInt32 >>> (((2 : Int32)).toUInt32 &&& Int32.toUInt32 31)).toInt32 &&& (858993459 : Int32)))).toUInt32 >>> (((4 : Int32)).toUInt32 &&& Int32.toUInt32 31)).toInt32) &&& (252645135 : Int32))).toUInt32 >>> (((8 : Int32)).toUInt32 &&& Int32.toUInt32 31)).toInt32))]) hx hb dJ6_bitCount_0f7a4_40 rfl hl (by decide) rfl (fun ls hl => ?_)
  refine lv_iload_n hx hb dJ6_bitCount_0f7a4_41 rfl (lv_at hl 0 rfl) ?_
  refine lv_iload_n hx hb dJ6_bitCount_0f7a4_42 rfl (lv_at hl 0 rfl) ?_
  refine lv_bipush (v := 16) hx hb dJ6_bitCount_0f7a4_43 (by decide) ?_
  refine lv_iushr hx hb dJ6_bitCount_0f7a4_45 rfl ?_
  refine lv_iadd hx hb dJ6_bitCount_0f7a4_46 ?_
  refine lv_istore_n (lv' := [(0, .int (((((((x0 - (((x0).toUInt32 >>> (((1 : Int32)).toUInt32 &&& Int32.toUInt32 31)).toInt32 &&& (1431655765 : Int32))) &&& (858993459 : Int32)) + ((((x0 - (((x0).toUInt32 >>> (((1 : Int32)).toUInt32 &&& Int32.toUInt32 31)).toInt32 &&& (1431655765 : Int32)))).toUInt32 >>> (((2 : Int32)).toUInt32 &&& Int32.toUInt32 31)).toInt32 &&& (858993459 : Int32))) + (((((x0 - (((x0).toUInt32 >>> (((1 : Int32)).toUInt32 &&& Int32.toUInt32 31)).toInt32 &&& (1431655765 : Int32))) &&& (858993459 : Int32)) + ((((x0 - (((x0).toUInt32 >>> (((1 : Int32)).toUInt32 &&& Int32.toUInt32 31)).toInt32 &&& (1431655765 : Int32)))).toUInt32 >>> (((2 : Int32)).toUInt32 &&& Int32.toUInt32 31)).toInt32 &&& (858993459 : Int32)))).toUInt32 >>> (((4 : Int32)).toUInt32 &&& Int32.toUInt32 31)).toInt32) &&& (252645135 : Int32)) + (((((((x0 - (((x0).toUInt32 >>> (((1 : Int32)).toUInt32 &&& Int32.toUInt32 31)).toInt32 &&& (1431655765 : Int32))) &&& (858993459 : Int32)) + ((((x0 - (((x0).toUInt32 >>> (((1 : Int32)).toUInt32 &&& Int32.toUInt32 31)).toInt32 &&& (1431655765 : Int32)))).toUInt32 >>> (((2 : Int32)).toUInt32 &&& Int32.toUInt32 31)).toInt32 &&& (858993459 : Int32))) + (((((x0 - (((x0).toUInt32 >>> (((1 : Int32)).toUInt32 &&& Int32.toUInt32 31)).toInt32 &&& (1431655765 : Int32))) &&& (858993459 : Int32)) + ((((x0 - (((x0).toUInt32 >>> (((1 : Int32)).toUInt32 &&& Int32.toUInt32 31)).toInt32 &&& (1431655765 : Int32)))).toUInt32 >>> (((2 : Int32)).toUInt32 &&& Int32.toUInt32 31)).toInt32 &&& (858993459 : Int32)))).toUInt32 >>> (((4 : Int32)).toUInt32 &&& Int32.toUInt32 31)).toInt32) &&& (252645135 : Int32))).toUInt32 >>> (((8 : Int32)).toUInt32 &&& Int32.toUInt32 31)).toInt32) + ((((((((x0 - (((x0).toUInt32 >>> (((1 : Int32)).toUInt32 &&& Int32.toUInt32 31)).toInt32 &&& (1431655765 : Int32))) &&& (858993459 : Int32)) + ((((x0 - (((x0).toUInt32 >>> (((1 : Int32)).toUInt32 &&& Int32.toUInt32 31)).toInt32 &&& (1431655765 : Int32)))).toUInt32 >>> (((2 : Int32)).toUInt32 &&& Int32.toUInt32 31)).toInt32 &&& (858993459 : Int32))) + (((((x0 - (((x0).toUInt32 >>> (((1 : Int32)).toUInt32 &&& Int32.toUInt32 31)).toInt32 &&& (1431655765 : Int32))) &&& (858993459 : Int32)) + ((((x0 - (((x0).toUInt32 >>> (((1 : Int32)).toUInt32 &&& Int32.toUInt32 31)).toInt32 &&& (1431655765 : Int32)))).toUInt32 >>> (((2 : Int32)).toUInt32 &&& Int32.toUInt32 31)).toInt32 &&& (858993459 : Int32)))).toUInt32 >>> (((4 : Int32)).toUInt32 &&& Int32.toUInt32 31)).toInt32) &&& (252645135 : Int32)) + (((((((x0 - (((x0).toUInt32 >>> (((1 : Int32)).toUInt32 &&& Int32.toUInt32 31)).toInt32 &&& (1431655765 : Int32))) &&& (858993459 : Int32)) + ((((x0 - (((x0).toUInt32 >>> (((1 : Int32)).toUInt32 &&& Int32.toUInt32 31)).toInt32 &&& (1431655765 : Int32)))).toUInt32 >>> (((2 : Int32)).toUInt32 &&& Int32.toUInt32 31)).toInt32 &&& (858993459 : Int32))) + (((((x0 - (((x0).toUInt32 >>> (((1 : Int32)).toUInt32 &&& Int32.toUInt32 31)).toInt32 &&& (1431655765 : Int32))) &&& (858993459 : Int32)) + ((((x0 - (((x0).toUInt32 >>> (((1 : Int32)).toUInt32 &&& Int32.toUInt32 31)).toInt32 &&& (1431655765 : Int32)))).toUInt32 >>> (((2 : Int32)).toUInt32 &&& Int32.toUInt32 31)).toInt32 &&& (858993459 : Int32)))).toUInt32 >>> (((4 : Int32)).toUInt32 &&& Int32.toUInt32 31)).toInt32) &&& (252645135 : Int32))).toUInt32 >>> (((8 : Int32)).toUInt32 &&& Int32.toUInt32 31)).toInt32)).toUInt32 >>> (((16 : Int32)).toUInt32 &&& Int32.toUInt32 31)).toInt32))]) hx hb dJ6_bitCount_0f7a4_47 rfl hl (by decide) rfl (fun ls hl => ?_)
  refine lv_iload_n hx hb dJ6_bitCount_0f7a4_48 rfl (lv_at hl 0 rfl) ?_
  refine lv_bipush (v := 63) hx hb dJ6_bitCount_0f7a4_49 (by decide) ?_
  refine lv_iand hx hb dJ6_bitCount_0f7a4_51 ?_
  exact g_iret hx hb hr hlk hH ⟨Option.some.inj h, rfl⟩ dJ6_bitCount_0f7a4_52
theorem ok_J6_bitCount_0f7a4 : okName yJ6_bitCount_0f7a4 1 := ⟨by decide, by decide, by decide +kernel⟩
section KL
variable {p : Program} {l : Launch} {e : Env} {R : Room} {s : State} {m : MethodId} {args : Array Value} {below : List Frame} {meth : Method} {c : Code} {H : Heap} {locs : List Loc} {cells slots : Nat} {Q : State → Prop} {cc : ByteArray} {pc nL : Nat} {ls : Array Slot} {rest : List Value}
variable {A : Nat → Prop} {D : va_G} {cy : Nat → ClassId} {ad : Nat → Nat}
theorem kl_X3_145 (C : gC p m c cc nL s args RX3 D (gT cy) (gw cy ad) A) {σ : GS} (hH : gH s D (gw cy ad) A σ H locs) {x1 : Int32} {α : Type} {k : Int32 → Option α} {y : α} (h : (f_J6_bitCount_0f7a4 x1).bind k = some y) (hR : 1 ≤ R.frames ∧ 20 ≤ R.locals) (hcs : cells ≤ R.cells ∧ slots ≤ R.slots) (hl : ls.size = nL) (hW : (rest.map fun v => v.category).sum ≤ 8) (hdg : decode cc pc = .ok (.invokestatic 145, 3)) (kk : ∀ (r : Int32) (H1 : Heap) (locs1 : List Loc), gH s D (gw cy ad) A σ H1 locs1 → k r = some y → W p l e R s m args below meth c H1 locs1 cells slots Q (F0 m (pc + 3) ls (.int r :: rest))) : W p l e R s m args below meth c H locs cells slots Q (F0 m pc ls (.int x1 :: rest)) := by
  obtain ⟨r, h1, h2⟩ := bnd h
  exact g_fi (g_rS (As := [.int x1]) C hH (c_J6_bitCount_0f7a4 l C.2.2.2 σ x1 r h1) mw_c_J6_bitCount_0f7a4 mw_m_X3_145 mw_s_J6_bitCount_0f7a4 mw_in_J6 ok_J6_bitCount_0f7a4 ⟨rfl, rfl⟩ rfl hR hcs hl rfl hW hdg) hH.2 (fun H1 locs1 hH1 => kk r H1 locs1 hH1 h2)
end KL
set_option maxHeartbeats 4000000 in
set_option maxRecDepth 100000 in
theorem c_X3_tipsAll (l : Launch) {D : va_G} {cy : Nat → ClassId} {ad : Nat → Nat} {A : Nat → Prop} (hD : ∀ σ, va_D A (gw cy ad σ)) (σ : GS) (x1 x2 : Int32) (r0 : Int32) (σ0 : GS) (h : f_X3_tipsAll σ x1 x2 = some (r0, σ0)) : gMi l yX3_tipsAll (wsM yX3_tipsAll cX3_tipsAll 6 (some .boolean)) ({ frames := 5, cells := 0, slots := 0, locals := 123 } : Room) D (gT cy) (gw cy ad) A [.ref (ad 0), .int x1, .int x2] σ σ0 r0 := by
  refine gMi.of (own := RX3) rfl (by decide) (Nat.le_of_ble_eq_true rfl) hD ?_
  intro p e s m below meth c ls C hx hb hr hlk hH hl
  have hl : lv_has ls 6 [(0, .ref (ad 0)), (1, .int x1), (2, .int x2)] := hl
  unfold f_X3_tipsAll at h
  refine lv_aload_n hx hb dX3_tipsAll_0 rfl (lv_at hl 0 rfl) ?_
  refine gf_X3_10 C hH dX3_tipsAll_1 ?_
  refine kl_X3_133 C hH h ⟨by decide, by decide⟩ ⟨by decide, by decide⟩ hl.1 (Nat.le_of_ble_eq_true rfl) dX3_tipsAll_4 (fun r1 H locs hH h => ?_)
  refine lv_iconst (v := 1) hx hb dX3_tipsAll_7 (by decide) ?_
  refine lv_isub hx hb dX3_tipsAll_8 ?_
  refine lv_istore_n (lv' := [(3, .int (r1 - (1 : Int32))), (0, .ref (ad 0)), (1, .int x1), (2, .int x2)]) hx hb dX3_tipsAll_9 rfl hl (by decide) rfl (fun ls hl => ?_)
  refine lv_iload_n hx hb dX3_tipsAll_10 rfl (lv_at hl 3 rfl) ?_
  refine lv_istore (lv' := [(4, .int x2), (3, .int (r1 - (1 : Int32))), (0, .ref (ad 0)), (1, .int x1), (2, .int x2)]) hx hb dX3_tipsAll_11 hl (by decide) rfl (fun ls hl => ?_)
  refine lv_iconst (v := 0) hx hb dX3_tipsAll_13 (by decide) ?_
  refine lv_istore (lv' := [(5, .int (0)), (4, .int x2), (3, .int (r1 - (1 : Int32))), (0, .ref (ad 0)), (1, .int x1), (2, .int x2)]) hx hb dX3_tipsAll_14 hl (by decide) rfl (fun ls hl => ?_)
  have L16 : ∀ (n : Nat) (y16_4 : Int32) (y16_5 : Int32) (σ16 : GS) (H : Heap) (locs : List Loc) (ls : Array Slot), gH s D (gw cy ad) A σ16 H locs → lv_has ls 6 [(0, .ref (ad 0)), (1, .int x1), (2, .int x2), (3, .int (r1 - (1 : Int32))), (4, .int y16_4), (5, .int y16_5)] → ∀ X, itr (f_X3_tipsAll_b16 x2 r1 x1) n (y16_4, y16_5, σ16) = some X → (∀ (σz16_0 : GS) (H : Heap) (locs : List Loc) (ls : Array Slot), gH s D (gw cy ad) A σz16_0 H locs → lv_has ls 6 [] → X = (Sum.inl σz16_0) → W p l e ({ frames := 5, cells := 0, slots := 0, locals := 123 } : Room) s m [.ref (ad 0), .int x1, .int x2].toArray below meth c H locs 0 0 (MQ below (gQi D (gw cy ad) A σ0 r0) [.ref (ad 0), .int x1, .int x2].toArray s 0 0 A) (F0 m 41 ls [])) → (∀ (σz16_1 : GS) (H : Heap) (locs : List Loc) (ls : Array Slot), gH s D (gw cy ad) A σz16_1 H locs → lv_has ls 6 [] → X = (Sum.inr σz16_1) → W p l e ({ frames := 5, cells := 0, slots := 0, locals := 123 } : Room) s m [.ref (ad 0), .int x1, .int x2].toArray below meth c H locs 0 0 (MQ below (gQi D (gw cy ad) A σ0 r0) [.ref (ad 0), .int x1, .int x2].toArray s 0 0 A) (F0 m 70 ls [])) → W p l e ({ frames := 5, cells := 0, slots := 0, locals := 123 } : Room) s m [.ref (ad 0), .int x1, .int x2].toArray below meth c H locs 0 0 (MQ below (gQi D (gw cy ad) A σ0 r0) [.ref (ad 0), .int x1, .int x2].toArray s 0 0 A) (F0 m 16 ls []) := by
    intro n
    induction n with
    | zero =>
      intro y16_4 y16_5 σ16 H locs ls hH hl X h K0 K1
      exact itr_0 h
    | succ n ih =>
      intro y16_4 y16_5 σ16 H locs ls hH hl X h0 K0 K1
      obtain ⟨o, h, h2⟩ := itr_step h0
      unfold f_X3_tipsAll_b16 at h
      refine lv_iload hx hb dX3_tipsAll_16 (lv_at hl 5 rfl) ?_
      refine lv_sipush (v := 1024) hx hb dX3_tipsAll_18 (by decide) ?_
      refine gb_icmp_gt (tgt := 70) hx hb dX3_tipsAll_21 (by decide) h (fun h => ?_) (fun h => ?_)
      · exact K1 _ _ _ _ hH (lv_sub hl [] rfl) (nxt_r h h2)
      · refine lv_aload_n hx hb dX3_tipsAll_24 rfl (lv_at hl 0 rfl) ?_
        refine gf_X3_34 C hH dX3_tipsAll_25 ?_
        refine lv_iload hx hb dX3_tipsAll_28 (lv_at hl 4 rfl) ?_
        refine gal_ma C hH h dX3_tipsAll_30 (fun h => ?_)
        refine lv_iload_n hx hb dX3_tipsAll_31 rfl (lv_at hl 2 rfl) ?_
        refine gb_icmp_eq (tgt := 70) hx hb dX3_tipsAll_32 (by decide) h (fun h => ?_) (fun h => ?_)
        · exact K1 _ _ _ _ hH (lv_sub hl [] rfl) (nxt_r h h2)
        · refine lv_iload hx hb dX3_tipsAll_35 (lv_at hl 4 rfl) ?_
          refine lv_iload_n hx hb dX3_tipsAll_37 rfl (lv_at hl 3 rfl) ?_
          refine gb_icmp_ne (tgt := 43) hx hb dX3_tipsAll_38 (by decide) h (fun h => ?_) (fun h => ?_)
          · refine lv_aload_n hx hb dX3_tipsAll_43 rfl (lv_at hl 0 rfl) ?_
            refine gf_X3_34 C hH dX3_tipsAll_44 ?_
            refine lv_iload hx hb dX3_tipsAll_47 (lv_at hl 4 rfl) ?_
            refine lv_iload_n hx hb dX3_tipsAll_49 rfl (lv_at hl 2 rfl) ?_
            refine gas_ma C hH h dX3_tipsAll_50 (fun h H locs hH => ?_)
            refine lv_aload_n hx hb dX3_tipsAll_51 rfl (lv_at hl 0 rfl) ?_
            refine gf_X3_21 C hH dX3_tipsAll_52 ?_
            refine lv_iload_n hx hb dX3_tipsAll_55 rfl (lv_at hl 1 rfl) ?_
            refine lv_iload_n hx hb dX3_tipsAll_56 rfl (lv_at hl 2 rfl) ?_
            refine lv_iload hx hb dX3_tipsAll_57 (lv_at hl 4 rfl) ?_
            refine kl_X3_98 C hH h ⟨by decide, by decide⟩ ⟨by decide, by decide⟩ hl.1 (Nat.le_of_ble_eq_true rfl) dX3_tipsAll_59 (fun r2 σ2 H locs hH h => ?_)
            refine lv_istore (lv' := [(4, .int r2), (0, .ref (ad 0)), (1, .int x1), (2, .int x2), (3, .int (r1 - (1 : Int32))), (5, .int y16_5)]) hx hb dX3_tipsAll_62 hl (by decide) rfl (fun ls hl => ?_)
            refine lv_iinc (v := (y16_5 + (1 : Int32))) (lv' := [(5, .int (y16_5 + (1 : Int32))), (4, .int r2), (0, .ref (ad 0)), (1, .int x1), (2, .int x2), (3, .int (r1 - (1 : Int32)))]) hx hb dX3_tipsAll_64 hl (k := 5) rfl rfl (by decide) rfl (fun ls hl => ?_)
            refine lv_goto (tgt := 16) hx hb dX3_tipsAll_67 (by decide) ?_
            exact ih _ _ _ _ _ _ hH (lv_sub hl [2, 3, 4, 5, 1, 0] rfl) X (nxt_l h h2) K0 K1
          · exact K0 _ _ _ _ hH (lv_sub hl [] rfl) (nxt_r h h2)
  obtain ⟨X16, hX16, h⟩ := bnd h
  refine L16 FU x2 ((0 : Int32)) σ _ _ _ hH (lv_sub hl [3, 4, 5, 2, 1, 0] rfl) X16 hX16 ?_ ?_
  · intro σz16_0 H locs ls hH hl hE
    replace hE := hE.symm
    subst hE
    refine lv_iconst (v := 1) hx hb dX3_tipsAll_41 (by decide) ?_
    exact g_zret hx hb hr hlk hH (Prod.mk.inj (Option.some.inj h)) rfl dX3_tipsAll_42
  · intro σz16_1 H locs ls hH hl hE
    replace hE := hE.symm
    subst hE
    refine lv_iconst (v := 0) hx hb dX3_tipsAll_70 (by decide) ?_
    exact g_zret hx hb hr hlk hH (Prod.mk.inj (Option.some.inj h)) rfl dX3_tipsAll_71
theorem ok_X3_tipsAll : okName yX3_tipsAll 2 := ⟨by decide, by decide, by decide +kernel⟩
section KL
variable {p : Program} {l : Launch} {e : Env} {R : Room} {s : State} {m : MethodId} {args : Array Value} {below : List Frame} {meth : Method} {c : Code} {H : Heap} {locs : List Loc} {cells slots : Nat} {Q : State → Prop} {cc : ByteArray} {pc nL : Nat} {ls : Array Slot} {rest : List Value}
variable {A : Nat → Prop} {D : va_G} {cy : Nat → ClassId} {ad : Nat → Nat}
theorem kl_X3_150 (C : gC p m c cc nL s args RX3 D (gT cy) (gw cy ad) A) {σ : GS} (hH : gH s D (gw cy ad) A σ H locs) {x1 x2 : Int32} {α : Type} {k : Int32 × GS → Option α} {y : α} (h : (f_X3_tipsAll σ x1 x2).bind k = some y) (hR : 6 ≤ R.frames ∧ 148 ≤ R.locals) (hcs : cells ≤ R.cells ∧ slots ≤ R.slots) (hl : ls.size = nL) (hW : (rest.map fun v => v.category).sum ≤ 8) (hdg : decode cc pc = .ok (.invokevirtual 150, 3)) (kk : ∀ (r : Int32) (σ1 : GS) (H1 : Heap) (locs1 : List Loc), gH s D (gw cy ad) A σ1 H1 locs1 → k (r, σ1) = some y → W p l e R s m args below meth c H1 locs1 cells slots Q (F0 m (pc + 3) ls (.int r :: rest))) : W p l e R s m args below meth c H locs cells slots Q (F0 m pc ls (.int x2 :: .int x1 :: .ref (ad 0) :: rest)) := by
  obtain ⟨⟨r, σ1⟩, h1, h2⟩ := bnd h
  exact g_fi (g_rV (As := [.int x1, .int x2]) C hH (c_X3_tipsAll l C.2.2.2 σ x1 x2 r σ1 h1) (q0 := 0) mw_c_X3_tipsAll mw_m_X3_150 mw_i_X3_tipsAll mw_v_X3_tipsAll mw_in_X3 ok_X3_tipsAll ⟨rfl, rfl⟩ rfl rfl rfl hR hcs hl rfl hW hdg) hH.2 (fun H1 locs1 hH1 => kk r σ1 H1 locs1 hH1 h2)
end KL
set_option maxHeartbeats 4000000 in
set_option maxRecDepth 100000 in
theorem c_X3_tip (l : Launch) {D : va_G} {cy : Nat → ClassId} {ad : Nat → Nat} {A : Nat → Prop} (hD : ∀ σ, va_D A (gw cy ad σ)) (σ : GS) (x1 : Int32) (r0 : Int32) (σ0 : GS) (h : f_X3_tip σ x1 = some (r0, σ0)) : gMi l yX3_tip (wsM yX3_tip cX3_tip 4 (some .int)) ({ frames := 6, cells := 0, slots := 0, locals := 148 } : Room) D (gT cy) (gw cy ad) A [.ref (ad 0), .int x1] σ σ0 r0 := by
  refine gMi.of (own := RX3) rfl (by decide) (Nat.le_of_ble_eq_true rfl) hD ?_
  intro p e s m below meth c ls C hx hb hr hlk hH hl
  have hl : lv_has ls 4 [(0, .ref (ad 0)), (1, .int x1)] := hl
  unfold f_X3_tip at h
  refine lv_iload_n hx hb dX3_tip_0 rfl (lv_at hl 1 rfl) ?_
  refine kl_X3_95 C hH h ⟨by decide, by decide⟩ ⟨by decide, by decide⟩ hl.1 (Nat.le_of_ble_eq_true rfl) dX3_tip_1 (fun r1 H locs hH h => ?_)
  refine gb_if_ne (tgt := 10) hx hb dX3_tip_4 (by decide) h (fun h => ?_) (fun h => ?_)
  · refine lv_aload_n hx hb dX3_tip_10 rfl (lv_at hl 0 rfl) ?_
    refine kl_X3_130 C hH h ⟨by decide, by decide⟩ ⟨by decide, by decide⟩ hl.1 (Nat.le_of_ble_eq_true rfl) dX3_tip_11 (fun σ2 H locs hH h => ?_)
    refine lv_iconst (v := 0) hx hb dX3_tip_14 (by decide) ?_
    refine lv_istore_n (lv' := [(2, .int (0)), (0, .ref (ad 0)), (1, .int x1)]) hx hb dX3_tip_15 rfl hl (by decide) rfl (fun ls hl => ?_)
    have L16 : ∀ (n : Nat) (y16_2 : Int32) (σ16 : GS) (H : Heap) (locs : List Loc) (ls : Array Slot), gH s D (gw cy ad) A σ16 H locs → lv_has ls 4 [(0, .ref (ad 0)), (1, .int x1), (2, .int y16_2)] → ∀ X, itr (f_X3_tip_b16 x1) n (y16_2, σ16) = some X → (∀ (z16_0_3 : Int32) (σz16_0 : GS) (H : Heap) (locs : List Loc) (ls : Array Slot), gH s D (gw cy ad) A σz16_0 H locs → lv_has ls 4 [(3, .int z16_0_3)] → X = (Sum.inl (z16_0_3, σz16_0)) → W p l e ({ frames := 6, cells := 0, slots := 0, locals := 148 } : Room) s m [.ref (ad 0), .int x1].toArray below meth c H locs 0 0 (MQ below (gQi D (gw cy ad) A σ0 r0) [.ref (ad 0), .int x1].toArray s 0 0 A) (F0 m 57 ls [])) → (∀ (σz16_1 : GS) (H : Heap) (locs : List Loc) (ls : Array Slot), gH s D (gw cy ad) A σz16_1 H locs → lv_has ls 4 [] → X = (Sum.inr σz16_1) → W p l e ({ frames := 6, cells := 0, slots := 0, locals := 148 } : Room) s m [.ref (ad 0), .int x1].toArray below meth c H locs 0 0 (MQ below (gQi D (gw cy ad) A σ0 r0) [.ref (ad 0), .int x1].toArray s 0 0 A) (F0 m 71 ls [])) → W p l e ({ frames := 6, cells := 0, slots := 0, locals := 148 } : Room) s m [.ref (ad 0), .int x1].toArray below meth c H locs 0 0 (MQ below (gQi D (gw cy ad) A σ0 r0) [.ref (ad 0), .int x1].toArray s 0 0 A) (F0 m 16 ls []) := by
      intro n
      induction n with
      | zero =>
        intro y16_2 σ16 H locs ls hH hl X h K0 K1
        exact itr_0 h
      | succ n ih =>
        intro y16_2 σ16 H locs ls hH hl X h0 K0 K1
        obtain ⟨o, h, h2⟩ := itr_step h0
        unfold f_X3_tip_b16 at h
        refine lv_iload_n hx hb dX3_tip_16 rfl (lv_at hl 2 rfl) ?_
        refine lv_aload_n hx hb dX3_tip_17 rfl (lv_at hl 0 rfl) ?_
        refine gf_X3_10 C hH dX3_tip_18 ?_
        refine gf_X3_45 C hH dX3_tip_21 ?_
        refine gb_icmp_gt (tgt := 71) hx hb dX3_tip_24 (by decide) h (fun h => ?_) (fun h => ?_)
        · exact K1 _ _ _ _ hH (lv_sub hl [] rfl) (nxt_r h h2)
        · refine lv_iconst (v := 0) hx hb dX3_tip_27 (by decide) ?_
          refine lv_istore_n (lv' := [(3, .int (0)), (0, .ref (ad 0)), (1, .int x1), (2, .int y16_2)]) hx hb dX3_tip_28 rfl hl (by decide) rfl (fun ls hl => ?_)
          have L29 : ∀ (n : Nat) (y29_3 : Int32) (σ29 : GS) (H : Heap) (locs : List Loc) (ls : Array Slot), gH s D (gw cy ad) A σ29 H locs → lv_has ls 4 [(0, .ref (ad 0)), (1, .int x1), (2, .int y16_2), (3, .int y29_3)] → ∀ X, itr (f_X3_tip_b29 y16_2 x1) n (y29_3, σ29) = some X → (∀ (z29_0_3 : Int32) (σz29_0 : GS) (H : Heap) (locs : List Loc) (ls : Array Slot), gH s D (gw cy ad) A σz29_0 H locs → lv_has ls 4 [(3, .int z29_0_3)] → X = (Sum.inl (z29_0_3, σz29_0)) → W p l e ({ frames := 6, cells := 0, slots := 0, locals := 148 } : Room) s m [.ref (ad 0), .int x1].toArray below meth c H locs 0 0 (MQ below (gQi D (gw cy ad) A σ0 r0) [.ref (ad 0), .int x1].toArray s 0 0 A) (F0 m 57 ls [])) → (∀ (σz29_1 : GS) (H : Heap) (locs : List Loc) (ls : Array Slot), gH s D (gw cy ad) A σz29_1 H locs → lv_has ls 4 [(0, .ref (ad 0)), (1, .int x1), (2, .int y16_2)] → X = (Sum.inr σz29_1) → W p l e ({ frames := 6, cells := 0, slots := 0, locals := 148 } : Room) s m [.ref (ad 0), .int x1].toArray below meth c H locs 0 0 (MQ below (gQi D (gw cy ad) A σ0 r0) [.ref (ad 0), .int x1].toArray s 0 0 A) (F0 m 65 ls [])) → W p l e ({ frames := 6, cells := 0, slots := 0, locals := 148 } : Room) s m [.ref (ad 0), .int x1].toArray below meth c H locs 0 0 (MQ below (gQi D (gw cy ad) A σ0 r0) [.ref (ad 0), .int x1].toArray s 0 0 A) (F0 m 29 ls []) := by
            intro n
            induction n with
            | zero =>
              intro y29_3 σ29 H locs ls hH hl X h K0 K1
              exact itr_0 h
            | succ n ih =>
              intro y29_3 σ29 H locs ls hH hl X h0 K0 K1
              obtain ⟨o, h, h2⟩ := itr_step h0
              unfold f_X3_tip_b29 at h
              refine lv_iload_n hx hb dX3_tip_29 rfl (lv_at hl 3 rfl) ?_
              refine lv_aload_n hx hb dX3_tip_30 rfl (lv_at hl 0 rfl) ?_
              refine gf_X3_10 C hH dX3_tip_31 ?_
              refine kl_X3_133 C hH h ⟨by decide, by decide⟩ ⟨by decide, by decide⟩ hl.1 (Nat.le_of_ble_eq_true rfl) dX3_tip_34 (fun r3 H locs hH h => ?_)
              refine gb_icmp_ge (tgt := 65) hx hb dX3_tip_37 (by decide) h (fun h => ?_) (fun h => ?_)
              · exact K1 _ _ _ _ hH (lv_sub hl [0, 1, 2] rfl) (nxt_r h h2)
              · refine lv_iload_n hx hb dX3_tip_40 rfl (lv_at hl 3 rfl) ?_
                refine kl_X3_145 C hH h ⟨by decide, by decide⟩ ⟨by decide, by decide⟩ hl.1 (Nat.le_of_ble_eq_true rfl) dX3_tip_41 (fun r4 H locs hH h => ?_)
                refine lv_iload_n hx hb dX3_tip_44 rfl (lv_at hl 2 rfl) ?_
                refine gb_icmp_ne (tgt := 59) hx hb dX3_tip_45 (by decide) h (fun h => ?_) (fun h => ?_)
                · refine lv_iinc (v := (y29_3 + (1 : Int32))) (lv' := [(3, .int (y29_3 + (1 : Int32))), (0, .ref (ad 0)), (1, .int x1), (2, .int y16_2)]) hx hb dX3_tip_59 hl (k := 3) rfl rfl (by decide) rfl (fun ls hl => ?_)
                  refine lv_goto (tgt := 29) hx hb dX3_tip_62 (by decide) ?_
                  exact ih _ _ _ _ _ hH (lv_sub hl [1, 2, 3, 0] rfl) X (nxt_l h h2) K0 K1
                · refine lv_aload_n hx hb dX3_tip_48 rfl (lv_at hl 0 rfl) ?_
                  refine lv_iload_n hx hb dX3_tip_49 rfl (lv_at hl 1 rfl) ?_
                  refine lv_iload_n hx hb dX3_tip_50 rfl (lv_at hl 3 rfl) ?_
                  refine kl_X3_150 C hH h ⟨by decide, by decide⟩ ⟨by decide, by decide⟩ hl.1 (Nat.le_of_ble_eq_true rfl) dX3_tip_51 (fun r5 σ5 H locs hH h => ?_)
                  refine gb_if_eq (tgt := 59) hx hb dX3_tip_54 (by decide) h (fun h => ?_) (fun h => ?_)
                  · refine lv_iinc (v := (y29_3 + (1 : Int32))) (lv' := [(3, .int (y29_3 + (1 : Int32))), (0, .ref (ad 0)), (1, .int x1), (2, .int y16_2)]) hx hb dX3_tip_59 hl (k := 3) rfl rfl (by decide) rfl (fun ls hl => ?_)
                    refine lv_goto (tgt := 29) hx hb dX3_tip_62 (by decide) ?_
                    exact ih _ _ _ _ _ hH (lv_sub hl [1, 2, 3, 0] rfl) X (nxt_l h h2) K0 K1
                  · exact K0 _ _ _ _ _ hH (lv_sub hl [3] rfl) (nxt_r h h2)
          obtain ⟨X29, hX29, h⟩ := bnd h
          refine L29 FU ((0 : Int32)) σ16 _ _ _ hH (lv_sub hl [1, 2, 3, 0] rfl) X29 hX29 ?_ ?_
          · intro z29_0_3 σz29_0 H locs ls hH hl hE
            replace hE := hE.symm
            subst hE
            exact K0 _ _ _ _ _ hH (lv_sub hl [0] rfl) (nxt_r h h2)
          · intro σz29_1 H locs ls hH hl hE
            replace hE := hE.symm
            subst hE
            refine lv_iinc (v := (y16_2 + (1 : Int32))) (lv' := [(2, .int (y16_2 + (1 : Int32))), (0, .ref (ad 0)), (1, .int x1)]) hx hb dX3_tip_65 hl (k := 2) rfl rfl (by decide) rfl (fun ls hl => ?_)
            refine lv_goto (tgt := 16) hx hb dX3_tip_68 (by decide) ?_
            exact ih _ _ _ _ _ hH (lv_sub hl [1, 2, 0] rfl) X (nxt_l h h2) K0 K1
    obtain ⟨X16, hX16, h⟩ := bnd h
    refine L16 FU ((0 : Int32)) σ2 _ _ _ hH (lv_sub hl [1, 2, 0] rfl) X16 hX16 ?_ ?_
    · intro z16_0_3 σz16_0 H locs ls hH hl hE
      replace hE := hE.symm
      subst hE
      refine lv_iload_n hx hb dX3_tip_57 rfl (lv_at hl 0 rfl) ?_
      exact g_iret hx hb hr hlk hH (Prod.mk.inj (Option.some.inj h)) dX3_tip_58
    · intro σz16_1 H locs ls hH hl hE
      replace hE := hE.symm
      subst hE
      refine lv_bipush (v := -6) hx hb dX3_tip_71 (by decide) ?_
      exact g_iret hx hb hr hlk hH (Prod.mk.inj (Option.some.inj h)) dX3_tip_73
  · refine lv_bipush (v := -2) hx hb dX3_tip_7 (by decide) ?_
    exact g_iret hx hb hr hlk hH (Prod.mk.inj (Option.some.inj h)) dX3_tip_9
theorem ok_X3_tip : okName yX3_tip 1 := ⟨by decide, by decide, by decide +kernel⟩
set_option maxHeartbeats 4000000 in
set_option maxRecDepth 100000 in
theorem c_X3_commonDivisor (l : Launch) {D : va_G} {cy : Nat → ClassId} {ad : Nat → Nat} {A : Nat → Prop} (hD : ∀ σ, va_D A (gw cy ad σ)) (σ : GS) (x0 x1 : Int32) (r0 : Int32) (h : f_X3_commonDivisor x0 x1 = some r0) : gMi l yX3_commonDivisor (wsM yX3_commonDivisor cX3_commonDivisor 6 (some .int)) ({ frames := 0, cells := 0, slots := 0, locals := 0 } : Room) D (gT cy) (gw cy ad) A [.int x0, .int x1] σ σ r0 := by
  refine gMi.of (own := RX3) rfl (by decide) (Nat.le_of_ble_eq_true rfl) hD ?_
  intro p e s m below meth c ls C hx hb hr hlk hH hl
  have hl : lv_has ls 6 [(0, .int x0), (1, .int x1)] := hl
  unfold f_X3_commonDivisor at h
  refine lv_iload_n hx hb dX3_commonDivisor_0 rfl (lv_at hl 0 rfl) ?_
  refine lv_istore_n (lv' := [(2, .int x0), (0, .int x0), (1, .int x1)]) hx hb dX3_commonDivisor_1 rfl hl (by decide) rfl (fun ls hl => ?_)
  refine lv_iload_n hx hb dX3_commonDivisor_2 rfl (lv_at hl 2 rfl) ?_
  refine lv_istore_n (lv' := [(3, .int x1), (2, .int x0), (0, .int x0), (1, .int x1)]) hx hb dX3_commonDivisor_3 rfl hl (by decide) rfl (fun ls hl => ?_)
  refine lv_iconst (v := 0) hx hb dX3_commonDivisor_4 (by decide) ?_
  refine lv_istore (lv' := [(4, .int (0)), (3, .int x1), (2, .int x0), (0, .int x0), (1, .int x1)]) hx hb dX3_commonDivisor_5 hl (by decide) rfl (fun ls hl => ?_)
  have L7 : ∀ (n : Nat) (y7_2 : Int32) (y7_3 : Int32) (y7_4 : Int32) (H : Heap) (locs : List Loc) (ls : Array Slot), gH s D (gw cy ad) A σ H locs → lv_has ls 6 [(2, .int y7_2), (3, .int y7_3), (4, .int y7_4)] → ∀ X, itr f_X3_commonDivisor_b7 n (y7_2, y7_3, y7_4) = some X → (∀ (z7_0_2 : Int32) (H : Heap) (locs : List Loc) (ls : Array Slot), gH s D (gw cy ad) A σ H locs → lv_has ls 6 [(2, .int z7_0_2)] → X = z7_0_2 → W p l e ({ frames := 0, cells := 0, slots := 0, locals := 0 } : Room) s m [.int x0, .int x1].toArray below meth c H locs 0 0 (MQ below (gQi D (gw cy ad) A σ r0) [.int x0, .int x1].toArray s 0 0 A) (F0 m 34 ls [])) → W p l e ({ frames := 0, cells := 0, slots := 0, locals := 0 } : Room) s m [.int x0, .int x1].toArray below meth c H locs 0 0 (MQ below (gQi D (gw cy ad) A σ r0) [.int x0, .int x1].toArray s 0 0 A) (F0 m 7 ls []) := by
    intro n
    induction n with
    | zero =>
      intro y7_2 y7_3 y7_4 H locs ls hH hl X h K
      exact itr_0 h
    | succ n ih =>
      intro y7_2 y7_3 y7_4 H locs ls hH hl X h0 K
      obtain ⟨o, h, h2⟩ := itr_step h0
      unfold f_X3_commonDivisor_b7 at h
      refine lv_iload hx hb dX3_commonDivisor_7 (lv_at hl 2 rfl) ?_
      refine lv_bipush (v := 100) hx hb dX3_commonDivisor_9 (by decide) ?_
      refine gb_icmp_ge (tgt := 34) hx hb dX3_commonDivisor_11 (by decide) h (fun h => ?_) (fun h => ?_)
      · exact K _ _ _ _ hH (lv_sub hl [0] rfl) (nxt_r h h2)
      · refine lv_iload_n hx hb dX3_commonDivisor_14 rfl (lv_at hl 1 rfl) ?_
        refine gb_if_eq (tgt := 34) hx hb dX3_commonDivisor_15 (by decide) h (fun h => ?_) (fun h => ?_)
        · exact K _ _ _ _ hH (lv_sub hl [0] rfl) (nxt_r h h2)
        · refine lv_iload_n hx hb dX3_commonDivisor_18 rfl (lv_at hl 0 rfl) ?_
          refine lv_iload_n hx hb dX3_commonDivisor_19 rfl (lv_at hl 1 rfl) ?_
          refine g_rem hx hb h dX3_commonDivisor_20 (fun h => ?_)
          refine lv_istore (lv' := [(5, .int (y7_2 - y7_2 / y7_3 * y7_3)), (2, .int y7_2), (3, .int y7_3), (4, .int y7_4)]) hx hb dX3_commonDivisor_21 hl (by decide) rfl (fun ls hl => ?_)
          refine lv_iload_n hx hb dX3_commonDivisor_23 rfl (lv_at hl 2 rfl) ?_
          refine lv_istore_n (lv' := [(2, .int y7_3), (5, .int (y7_2 - y7_2 / y7_3 * y7_3)), (3, .int y7_3), (4, .int y7_4)]) hx hb dX3_commonDivisor_24 rfl hl (by decide) rfl (fun ls hl => ?_)
          refine lv_iload hx hb dX3_commonDivisor_25 (lv_at hl 1 rfl) ?_
          refine lv_istore_n (lv' := [(3, .int (y7_2 - y7_2 / y7_3 * y7_3)), (2, .int y7_3), (5, .int (y7_2 - y7_2 / y7_3 * y7_3)), (4, .int y7_4)]) hx hb dX3_commonDivisor_27 rfl hl (by decide) rfl (fun ls hl => ?_)
          refine lv_iinc (v := (y7_4 + (1 : Int32))) (lv' := [(4, .int (y7_4 + (1 : Int32))), (3, .int (y7_2 - y7_2 / y7_3 * y7_3)), (2, .int y7_3), (5, .int (y7_2 - y7_2 / y7_3 * y7_3))]) hx hb dX3_commonDivisor_28 hl (k := 3) rfl rfl (by decide) rfl (fun ls hl => ?_)
          refine lv_goto (tgt := 7) hx hb dX3_commonDivisor_31 (by decide) ?_
          exact ih _ _ _ _ _ _ hH (lv_sub hl [2, 1, 0] rfl) X (nxt_l h h2) K
  obtain ⟨X7, hX7, h⟩ := bnd h
  refine L7 FU x0 x1 ((0 : Int32)) _ _ _ hH (lv_sub hl [2, 1, 0] rfl) X7 hX7 ?_
  intro z7_0_2 H locs ls hH hl hE
  replace hE := hE.symm
  subst hE
  refine lv_iload_n hx hb dX3_commonDivisor_34 rfl (lv_at hl 0 rfl) ?_
  exact g_iret hx hb hr hlk hH ⟨Option.some.inj h, rfl⟩ dX3_commonDivisor_35
theorem ok_X3_commonDivisor : okName yX3_commonDivisor 2 := ⟨by decide, by decide, by decide +kernel⟩
section KL
variable {p : Program} {l : Launch} {e : Env} {R : Room} {s : State} {m : MethodId} {args : Array Value} {below : List Frame} {meth : Method} {c : Code} {H : Heap} {locs : List Loc} {cells slots : Nat} {Q : State → Prop} {cc : ByteArray} {pc nL : Nat} {ls : Array Slot} {rest : List Value}
variable {A : Nat → Prop} {D : va_G} {cy : Nat → ClassId} {ad : Nat → Nat}
theorem kl_X3_159 (C : gC p m c cc nL s args RX3 D (gT cy) (gw cy ad) A) {σ : GS} (hH : gH s D (gw cy ad) A σ H locs) {x1 x2 : Int32} {α : Type} {k : Int32 → Option α} {y : α} (h : (f_X3_commonDivisor x1 x2).bind k = some y) (hR : 1 ≤ R.frames ∧ 25 ≤ R.locals) (hcs : cells ≤ R.cells ∧ slots ≤ R.slots) (hl : ls.size = nL) (hW : (rest.map fun v => v.category).sum ≤ 8) (hdg : decode cc pc = .ok (.invokestatic 159, 3)) (kk : ∀ (r : Int32) (H1 : Heap) (locs1 : List Loc), gH s D (gw cy ad) A σ H1 locs1 → k r = some y → W p l e R s m args below meth c H1 locs1 cells slots Q (F0 m (pc + 3) ls (.int r :: rest))) : W p l e R s m args below meth c H locs cells slots Q (F0 m pc ls (.int x2 :: .int x1 :: rest)) := by
  obtain ⟨r, h1, h2⟩ := bnd h
  exact g_fi (g_rS (As := [.int x1, .int x2]) C hH (c_X3_commonDivisor l C.2.2.2 σ x1 x2 r h1) mw_c_X3_commonDivisor mw_m_X3_159 mw_s_X3_commonDivisor mw_in_X3 ok_X3_commonDivisor ⟨rfl, rfl⟩ rfl hR hcs hl rfl hW hdg) hH.2 (fun H1 locs1 hH1 => kk r H1 locs1 hH1 h2)
end KL
set_option maxHeartbeats 4000000 in
set_option maxRecDepth 100000 in
theorem c_X3_share (l : Launch) {D : va_G} {cy : Nat → ClassId} {ad : Nat → Nat} {A : Nat → Prop} (hD : ∀ σ, va_D A (gw cy ad σ)) (σ : GS) (x1 : Int32) (r0 : Int32) (h : f_X3_share σ x1 = some r0) : gMi l yX3_share (wsM yX3_share cX3_share 5 (some .int)) ({ frames := 2, cells := 0, slots := 0, locals := 42 } : Room) D (gT cy) (gw cy ad) A [.ref (ad 0), .int x1] σ σ r0 := by
  refine gMi.of (own := RX3) rfl (by decide) (Nat.le_of_ble_eq_true rfl) hD ?_
  intro p e s m below meth c ls C hx hb hr hlk hH hl
  have hl : lv_has ls 5 [(0, .ref (ad 0)), (1, .int x1)] := hl
  unfold f_X3_share at h
  refine lv_iload_n hx hb dX3_share_0 rfl (lv_at hl 1 rfl) ?_
  refine gb_if_eq (tgt := 12) hx hb dX3_share_1 (by decide) h (fun h => ?_) (fun h => ?_)
  · refine lv_aload_n hx hb dX3_share_12 rfl (lv_at hl 0 rfl) ?_
    refine gf_X3_10 C hH dX3_share_13 ?_
    refine kl_X3_153 C hH h ⟨by decide, by decide⟩ ⟨by decide, by decide⟩ hl.1 (Nat.le_of_ble_eq_true rfl) dX3_share_16 (fun r1 H locs hH h => ?_)
    refine lv_istore_n (lv' := [(2, .int r1), (0, .ref (ad 0)), (1, .int x1)]) hx hb dX3_share_19 rfl hl (by decide) rfl (fun ls hl => ?_)
    refine lv_iload_n hx hb dX3_share_20 rfl (lv_at hl 0 rfl) ?_
    refine lv_aload_n hx hb dX3_share_21 rfl (lv_at hl 1 rfl) ?_
    refine gf_X3_10 C hH dX3_share_22 ?_
    refine kl_X3_156 C hH h ⟨by decide, by decide⟩ ⟨by decide, by decide⟩ hl.1 (Nat.le_of_ble_eq_true rfl) dX3_share_25 (fun r2 H locs hH h => ?_)
    refine lv_iadd hx hb dX3_share_28 ?_
    refine lv_istore_n (lv' := [(3, .int (r1 + r2)), (2, .int r1), (0, .ref (ad 0)), (1, .int x1)]) hx hb dX3_share_29 rfl hl (by decide) rfl (fun ls hl => ?_)
    refine lv_iload_n hx hb dX3_share_30 rfl (lv_at hl 0 rfl) ?_
    refine gb_if_le (tgt := 43) hx hb dX3_share_31 (by decide) h (fun h => ?_) (fun h => ?_)
    · refine lv_bipush (v := -3) hx hb dX3_share_43 (by decide) ?_
      exact g_iret hx hb hr hlk hH ⟨Option.some.inj h, rfl⟩ dX3_share_45
    · refine lv_iload_n hx hb dX3_share_34 rfl (lv_at hl 1 rfl) ?_
      refine gb_if_lt (tgt := 43) hx hb dX3_share_35 (by decide) h (fun h => ?_) (fun h => ?_)
      · refine lv_bipush (v := -3) hx hb dX3_share_43 (by decide) ?_
        exact g_iret hx hb hr hlk hH ⟨Option.some.inj h, rfl⟩ dX3_share_45
      · refine lv_iload_n hx hb dX3_share_38 rfl (lv_at hl 1 rfl) ?_
        refine lv_iload_n hx hb dX3_share_39 rfl (lv_at hl 0 rfl) ?_
        refine gb_icmp_le (tgt := 46) hx hb dX3_share_40 (by decide) h (fun h => ?_) (fun h => ?_)
        · refine lv_iload_n hx hb dX3_share_46 rfl (lv_at hl 0 rfl) ?_
          refine lv_iload_n hx hb dX3_share_47 rfl (lv_at hl 1 rfl) ?_
          refine kl_X3_159 C hH h ⟨by decide, by decide⟩ ⟨by decide, by decide⟩ hl.1 (Nat.le_of_ble_eq_true rfl) dX3_share_48 (fun r3 H locs hH h => ?_)
          refine lv_istore (lv' := [(4, .int r3), (3, .int (r1 + r2)), (2, .int r1), (0, .ref (ad 0)), (1, .int x1)]) hx hb dX3_share_51 hl (by decide) rfl (fun ls hl => ?_)
          refine lv_iload hx hb dX3_share_53 (lv_at hl 0 rfl) ?_
          refine lv_iconst (v := 1) hx hb dX3_share_55 (by decide) ?_
          refine gb_icmp_ge (tgt := 64) hx hb dX3_share_56 (by decide) h (fun h => ?_) (fun h => ?_)
          · refine lv_iload_n hx hb dX3_share_64 rfl (lv_at hl 4 rfl) ?_
            refine gb_if_ne (tgt := 72) hx hb dX3_share_65 (by decide) h (fun h => ?_) (fun h => ?_)
            · refine lv_iload_n hx hb dX3_share_72 rfl (lv_at hl 1 rfl) ?_
              refine lv_iload hx hb dX3_share_73 (lv_at hl 0 rfl) ?_
              refine g_div hx hb h dX3_share_75 (fun h => ?_)
              exact g_iret hx hb hr hlk hH ⟨Option.some.inj h, rfl⟩ dX3_share_76
            · refine lv_iload_n hx hb dX3_share_68 rfl (lv_at hl 2 rfl) ?_
              refine lv_goto (tgt := 73) hx hb dX3_share_69 (by decide) ?_
              refine lv_iload hx hb dX3_share_73 (lv_at hl 0 rfl) ?_
              refine g_div hx hb h dX3_share_75 (fun h => ?_)
              exact g_iret hx hb hr hlk hH ⟨Option.some.inj h, rfl⟩ dX3_share_76
          · refine lv_bipush (v := -3) hx hb dX3_share_59 (by decide) ?_
            refine lv_goto (tgt := 76) hx hb dX3_share_61 (by decide) ?_
            exact g_iret hx hb hr hlk hH ⟨Option.some.inj h, rfl⟩ dX3_share_76
        · refine lv_bipush (v := -3) hx hb dX3_share_43 (by decide) ?_
          exact g_iret hx hb hr hlk hH ⟨Option.some.inj h, rfl⟩ dX3_share_45
  · refine lv_iload_n hx hb dX3_share_4 rfl (lv_at hl 1 rfl) ?_
    refine lv_iconst (v := 1) hx hb dX3_share_5 (by decide) ?_
    refine gb_icmp_eq (tgt := 12) hx hb dX3_share_6 (by decide) h (fun h => ?_) (fun h => ?_)
    · refine lv_aload_n hx hb dX3_share_12 rfl (lv_at hl 0 rfl) ?_
      refine gf_X3_10 C hH dX3_share_13 ?_
      refine kl_X3_153 C hH h ⟨by decide, by decide⟩ ⟨by decide, by decide⟩ hl.1 (Nat.le_of_ble_eq_true rfl) dX3_share_16 (fun r4 H locs hH h => ?_)
      refine lv_istore_n (lv' := [(2, .int r4), (0, .ref (ad 0)), (1, .int x1)]) hx hb dX3_share_19 rfl hl (by decide) rfl (fun ls hl => ?_)
      refine lv_iload_n hx hb dX3_share_20 rfl (lv_at hl 0 rfl) ?_
      refine lv_aload_n hx hb dX3_share_21 rfl (lv_at hl 1 rfl) ?_
      refine gf_X3_10 C hH dX3_share_22 ?_
      refine kl_X3_156 C hH h ⟨by decide, by decide⟩ ⟨by decide, by decide⟩ hl.1 (Nat.le_of_ble_eq_true rfl) dX3_share_25 (fun r5 H locs hH h => ?_)
      refine lv_iadd hx hb dX3_share_28 ?_
      refine lv_istore_n (lv' := [(3, .int (r4 + r5)), (2, .int r4), (0, .ref (ad 0)), (1, .int x1)]) hx hb dX3_share_29 rfl hl (by decide) rfl (fun ls hl => ?_)
      refine lv_iload_n hx hb dX3_share_30 rfl (lv_at hl 0 rfl) ?_
      refine gb_if_le (tgt := 43) hx hb dX3_share_31 (by decide) h (fun h => ?_) (fun h => ?_)
      · refine lv_bipush (v := -3) hx hb dX3_share_43 (by decide) ?_
        exact g_iret hx hb hr hlk hH ⟨Option.some.inj h, rfl⟩ dX3_share_45
      · refine lv_iload_n hx hb dX3_share_34 rfl (lv_at hl 1 rfl) ?_
        refine gb_if_lt (tgt := 43) hx hb dX3_share_35 (by decide) h (fun h => ?_) (fun h => ?_)
        · refine lv_bipush (v := -3) hx hb dX3_share_43 (by decide) ?_
          exact g_iret hx hb hr hlk hH ⟨Option.some.inj h, rfl⟩ dX3_share_45
        · refine lv_iload_n hx hb dX3_share_38 rfl (lv_at hl 1 rfl) ?_
          refine lv_iload_n hx hb dX3_share_39 rfl (lv_at hl 0 rfl) ?_
          refine gb_icmp_le (tgt := 46) hx hb dX3_share_40 (by decide) h (fun h => ?_) (fun h => ?_)
          · refine lv_iload_n hx hb dX3_share_46 rfl (lv_at hl 0 rfl) ?_
            refine lv_iload_n hx hb dX3_share_47 rfl (lv_at hl 1 rfl) ?_
            refine kl_X3_159 C hH h ⟨by decide, by decide⟩ ⟨by decide, by decide⟩ hl.1 (Nat.le_of_ble_eq_true rfl) dX3_share_48 (fun r6 H locs hH h => ?_)
            refine lv_istore (lv' := [(4, .int r6), (3, .int (r4 + r5)), (2, .int r4), (0, .ref (ad 0)), (1, .int x1)]) hx hb dX3_share_51 hl (by decide) rfl (fun ls hl => ?_)
            refine lv_iload hx hb dX3_share_53 (lv_at hl 0 rfl) ?_
            refine lv_iconst (v := 1) hx hb dX3_share_55 (by decide) ?_
            refine gb_icmp_ge (tgt := 64) hx hb dX3_share_56 (by decide) h (fun h => ?_) (fun h => ?_)
            · refine lv_iload_n hx hb dX3_share_64 rfl (lv_at hl 4 rfl) ?_
              refine gb_if_ne (tgt := 72) hx hb dX3_share_65 (by decide) h (fun h => ?_) (fun h => ?_)
              · refine lv_iload_n hx hb dX3_share_72 rfl (lv_at hl 1 rfl) ?_
                refine lv_iload hx hb dX3_share_73 (lv_at hl 0 rfl) ?_
                refine g_div hx hb h dX3_share_75 (fun h => ?_)
                exact g_iret hx hb hr hlk hH ⟨Option.some.inj h, rfl⟩ dX3_share_76
              · refine lv_iload_n hx hb dX3_share_68 rfl (lv_at hl 2 rfl) ?_
                refine lv_goto (tgt := 73) hx hb dX3_share_69 (by decide) ?_
                refine lv_iload hx hb dX3_share_73 (lv_at hl 0 rfl) ?_
                refine g_div hx hb h dX3_share_75 (fun h => ?_)
                exact g_iret hx hb hr hlk hH ⟨Option.some.inj h, rfl⟩ dX3_share_76
            · refine lv_bipush (v := -3) hx hb dX3_share_59 (by decide) ?_
              refine lv_goto (tgt := 76) hx hb dX3_share_61 (by decide) ?_
              exact g_iret hx hb hr hlk hH ⟨Option.some.inj h, rfl⟩ dX3_share_76
          · refine lv_bipush (v := -3) hx hb dX3_share_43 (by decide) ?_
            exact g_iret hx hb hr hlk hH ⟨Option.some.inj h, rfl⟩ dX3_share_45
    · refine lv_bipush (v := -2) hx hb dX3_share_9 (by decide) ?_
      exact g_iret hx hb hr hlk hH ⟨Option.some.inj h, rfl⟩ dX3_share_11
theorem ok_X3_share : okName yX3_share 1 := ⟨by decide, by decide, by decide +kernel⟩
set_option maxHeartbeats 4000000 in
set_option maxRecDepth 100000 in
theorem c_X3_hangs (l : Launch) {D : va_G} {cy : Nat → ClassId} {ad : Nat → Nat} {A : Nat → Prop} (hD : ∀ σ, va_D A (gw cy ad σ)) (σ : GS) (x1 x2 : Int32) (r0 : Int32) (h : f_X3_hangs σ x1 x2 = some r0) : gMi l yX3_hangs (wsM yX3_hangs cX3_hangs 4 (some .int)) ({ frames := 2, cells := 0, slots := 0, locals := 47 } : Room) D (gT cy) (gw cy ad) A [.ref (ad 0), .int x1, .int x2] σ σ r0 := by
  refine gMi.of (own := RX3) rfl (by decide) (Nat.le_of_ble_eq_true rfl) hD ?_
  intro p e s m below meth c ls C hx hb hr hlk hH hl
  have hl : lv_has ls 4 [(0, .ref (ad 0)), (1, .int x1), (2, .int x2)] := hl
  unfold f_X3_hangs at h
  refine lv_aload_n hx hb dX3_hangs_0 rfl (lv_at hl 0 rfl) ?_
  refine gf_X3_10 C hH dX3_hangs_1 ?_
  refine lv_iload_n hx hb dX3_hangs_4 rfl (lv_at hl 1 rfl) ?_
  refine kl_X3_87 C hH h ⟨by decide, by decide⟩ ⟨by decide, by decide⟩ hl.1 (Nat.le_of_ble_eq_true rfl) dX3_hangs_5 (fun r1 H locs hH h => ?_)
  refine gb_if_eq (tgt := 22) hx hb dX3_hangs_8 (by decide) h (fun h => ?_) (fun h => ?_)
  · refine lv_bipush (v := -2) hx hb dX3_hangs_22 (by decide) ?_
    exact g_iret hx hb hr hlk hH ⟨Option.some.inj h, rfl⟩ dX3_hangs_24
  · refine lv_iload_n hx hb dX3_hangs_11 rfl (lv_at hl 2 rfl) ?_
    refine lv_iconst (v := 1) hx hb dX3_hangs_12 (by decide) ?_
    refine gb_icmp_lt (tgt := 22) hx hb dX3_hangs_13 (by decide) h (fun h => ?_) (fun h => ?_)
    · refine lv_bipush (v := -2) hx hb dX3_hangs_22 (by decide) ?_
      exact g_iret hx hb hr hlk hH ⟨Option.some.inj h, rfl⟩ dX3_hangs_24
    · refine lv_iload_n hx hb dX3_hangs_16 rfl (lv_at hl 2 rfl) ?_
      refine lv_bipush (v := 100) hx hb dX3_hangs_17 (by decide) ?_
      refine gb_icmp_le (tgt := 25) hx hb dX3_hangs_19 (by decide) h (fun h => ?_) (fun h => ?_)
      · refine lv_iconst (v := 0) hx hb dX3_hangs_25 (by decide) ?_
        refine lv_istore_n (lv' := [(3, .int (0)), (0, .ref (ad 0)), (1, .int x1), (2, .int x2)]) hx hb dX3_hangs_26 rfl hl (by decide) rfl (fun ls hl => ?_)
        have L27 : ∀ (n : Nat) (y27_3 : Int32) (H : Heap) (locs : List Loc) (ls : Array Slot), gH s D (gw cy ad) A σ H locs → lv_has ls 4 [(0, .ref (ad 0)), (1, .int x1), (2, .int x2), (3, .int y27_3)] → ∀ X, itr (f_X3_hangs_b27 σ x1 x2) n y27_3 = some X → (∀ (H : Heap) (locs : List Loc) (ls : Array Slot), gH s D (gw cy ad) A σ H locs → lv_has ls 4 [] → X = (Sum.inl ()) → W p l e ({ frames := 2, cells := 0, slots := 0, locals := 47 } : Room) s m [.ref (ad 0), .int x1, .int x2].toArray below meth c H locs 0 0 (MQ below (gQi D (gw cy ad) A σ r0) [.ref (ad 0), .int x1, .int x2].toArray s 0 0 A) (F0 m 60 ls [])) → (∀ (H : Heap) (locs : List Loc) (ls : Array Slot), gH s D (gw cy ad) A σ H locs → lv_has ls 4 [] → X = (Sum.inr ()) → W p l e ({ frames := 2, cells := 0, slots := 0, locals := 47 } : Room) s m [.ref (ad 0), .int x1, .int x2].toArray below meth c H locs 0 0 (MQ below (gQi D (gw cy ad) A σ r0) [.ref (ad 0), .int x1, .int x2].toArray s 0 0 A) (F0 m 68 ls [])) → W p l e ({ frames := 2, cells := 0, slots := 0, locals := 47 } : Room) s m [.ref (ad 0), .int x1, .int x2].toArray below meth c H locs 0 0 (MQ below (gQi D (gw cy ad) A σ r0) [.ref (ad 0), .int x1, .int x2].toArray s 0 0 A) (F0 m 27 ls []) := by
          intro n
          induction n with
          | zero =>
            intro y27_3 H locs ls hH hl X h K0 K1
            exact itr_0 h
          | succ n ih =>
            intro y27_3 H locs ls hH hl X h0 K0 K1
            obtain ⟨o, h, h2⟩ := itr_step h0
            unfold f_X3_hangs_b27 at h
            refine lv_iload_n hx hb dX3_hangs_27 rfl (lv_at hl 3 rfl) ?_
            refine lv_aload_n hx hb dX3_hangs_28 rfl (lv_at hl 0 rfl) ?_
            refine gf_X3_10 C hH dX3_hangs_29 ?_
            refine gf_X3_45 C hH dX3_hangs_32 ?_
            refine gb_icmp_ge (tgt := 68) hx hb dX3_hangs_35 (by decide) h (fun h => ?_) (fun h => ?_)
            · exact K1 _ _ _ hH (lv_sub hl [] rfl) (nxt_r h h2)
            · refine lv_iload_n hx hb dX3_hangs_38 rfl (lv_at hl 3 rfl) ?_
              refine lv_iload_n hx hb dX3_hangs_39 rfl (lv_at hl 1 rfl) ?_
              refine kl_X3_84 C hH h ⟨by decide, by decide⟩ ⟨by decide, by decide⟩ hl.1 (Nat.le_of_ble_eq_true rfl) dX3_hangs_40 (fun r2 H locs hH h => ?_)
              refine lv_iconst (v := 1) hx hb dX3_hangs_43 (by decide) ?_
              refine gb_icmp_ne (tgt := 62) hx hb dX3_hangs_44 (by decide) h (fun h => ?_) (fun h => ?_)
              · refine lv_iinc (v := (y27_3 + (1 : Int32))) (lv' := [(3, .int (y27_3 + (1 : Int32))), (0, .ref (ad 0)), (1, .int x1), (2, .int x2)]) hx hb dX3_hangs_62 hl (k := 3) rfl rfl (by decide) rfl (fun ls hl => ?_)
                refine lv_goto (tgt := 27) hx hb dX3_hangs_65 (by decide) ?_
                exact ih _ _ _ _ hH (lv_sub hl [1, 2, 3, 0] rfl) X (nxt_l h h2) K0 K1
              · refine lv_aload_n hx hb dX3_hangs_47 rfl (lv_at hl 0 rfl) ?_
                refine gf_X3_10 C hH dX3_hangs_48 ?_
                refine lv_iload_n hx hb dX3_hangs_51 rfl (lv_at hl 3 rfl) ?_
                refine lv_iload_n hx hb dX3_hangs_52 rfl (lv_at hl 1 rfl) ?_
                refine lv_iload_n hx hb dX3_hangs_53 rfl (lv_at hl 2 rfl) ?_
                refine kl_X3_162 C hH h ⟨by decide, by decide⟩ ⟨by decide, by decide⟩ hl.1 (Nat.le_of_ble_eq_true rfl) dX3_hangs_54 (fun r3 H locs hH h => ?_)
                refine gb_if_ne (tgt := 62) hx hb dX3_hangs_57 (by decide) h (fun h => ?_) (fun h => ?_)
                · refine lv_iinc (v := (y27_3 + (1 : Int32))) (lv' := [(3, .int (y27_3 + (1 : Int32))), (0, .ref (ad 0)), (1, .int x1), (2, .int x2)]) hx hb dX3_hangs_62 hl (k := 3) rfl rfl (by decide) rfl (fun ls hl => ?_)
                  refine lv_goto (tgt := 27) hx hb dX3_hangs_65 (by decide) ?_
                  exact ih _ _ _ _ hH (lv_sub hl [1, 2, 3, 0] rfl) X (nxt_l h h2) K0 K1
                · exact K0 _ _ _ hH (lv_sub hl [] rfl) (nxt_r h h2)
        obtain ⟨X27, hX27, h⟩ := bnd h
        refine L27 FU ((0 : Int32)) _ _ _ hH (lv_sub hl [1, 2, 3, 0] rfl) X27 hX27 ?_ ?_
        · intro H locs ls hH hl hE
          replace hE := hE.symm
          subst hE
          refine lv_iconst (v := 0) hx hb dX3_hangs_60 (by decide) ?_
          exact g_iret hx hb hr hlk hH ⟨Option.some.inj h, rfl⟩ dX3_hangs_61
        · intro H locs ls hH hl hE
          replace hE := hE.symm
          subst hE
          refine lv_iconst (v := 1) hx hb dX3_hangs_68 (by decide) ?_
          exact g_iret hx hb hr hlk hH ⟨Option.some.inj h, rfl⟩ dX3_hangs_69
      · refine lv_bipush (v := -2) hx hb dX3_hangs_22 (by decide) ?_
        exact g_iret hx hb hr hlk hH ⟨Option.some.inj h, rfl⟩ dX3_hangs_24
theorem ok_X3_hangs : okName yX3_hangs 2 := ⟨by decide, by decide, by decide +kernel⟩
set_option maxHeartbeats 4000000 in
set_option maxRecDepth 100000 in
theorem c_X3_toldPay (l : Launch) {D : va_G} {cy : Nat → ClassId} {ad : Nat → Nat} {A : Nat → Prop} (hD : ∀ σ, va_D A (gw cy ad σ)) (σ : GS) (x1 : Int32) (r0 : Int32) (h : f_X3_toldPay σ x1 = some r0) : gMi l yX3_toldPay (wsM yX3_toldPay cX3_toldPay 3 (some .int)) ({ frames := 1, cells := 0, slots := 0, locals := 22 } : Room) D (gT cy) (gw cy ad) A [.ref (ad 0), .int x1] σ σ r0 := by
  refine gMi.of (own := RX3) rfl (by decide) (Nat.le_of_ble_eq_true rfl) hD ?_
  intro p e s m below meth c ls C hx hb hr hlk hH hl
  have hl : lv_has ls 3 [(0, .ref (ad 0)), (1, .int x1)] := hl
  unfold f_X3_toldPay at h
  refine lv_iload_n hx hb dX3_toldPay_0 rfl (lv_at hl 1 rfl) ?_
  refine lv_bipush (v := 10) hx hb dX3_toldPay_1 (by decide) ?_
  refine gb_icmp_lt (tgt := 12) hx hb dX3_toldPay_3 (by decide) h (fun h => ?_) (fun h => ?_)
  · refine lv_ldc (v := -100002) hx hb C.1.2.2.2.1 (C.1.2.2.2.2 _ mw_k_X3_71) dX3_toldPay_12 ?_
    exact g_iret hx hb hr hlk hH ⟨Option.some.inj h, rfl⟩ dX3_toldPay_14
  · refine lv_iload_n hx hb dX3_toldPay_6 rfl (lv_at hl 1 rfl) ?_
    refine lv_bipush (v := 13) hx hb dX3_toldPay_7 (by decide) ?_
    refine gb_icmp_le (tgt := 15) hx hb dX3_toldPay_9 (by decide) h (fun h => ?_) (fun h => ?_)
    · refine lv_iload_n hx hb dX3_toldPay_15 rfl (lv_at hl 1 rfl) ?_
      refine lv_bipush (v := 10) hx hb dX3_toldPay_16 (by decide) ?_
      refine lv_isub hx hb dX3_toldPay_18 ?_
      refine lv_istore_n (lv' := [(2, .int (x1 - (10 : Int32))), (0, .ref (ad 0)), (1, .int x1)]) hx hb dX3_toldPay_19 rfl hl (by decide) rfl (fun ls hl => ?_)
      refine lv_aload_n hx hb dX3_toldPay_20 rfl (lv_at hl 1 rfl) ?_
      refine gf_X3_10 C hH dX3_toldPay_21 ?_
      refine lv_iload_n hx hb dX3_toldPay_24 rfl (lv_at hl 0 rfl) ?_
      refine lv_iconst (v := 1) hx hb dX3_toldPay_25 (by decide) ?_
      refine lv_ishr hx hb dX3_toldPay_26 ?_
      refine lv_iload_n hx hb dX3_toldPay_27 rfl (lv_at hl 0 rfl) ?_
      refine lv_iconst (v := 1) hx hb dX3_toldPay_28 (by decide) ?_
      refine lv_iand hx hb dX3_toldPay_29 ?_
      refine kl_X3_72 C hH h ⟨by decide, by decide⟩ ⟨by decide, by decide⟩ hl.1 (Nat.le_of_ble_eq_true rfl) dX3_toldPay_30 (fun r1 H locs hH h => ?_)
      exact g_iret hx hb hr hlk hH ⟨Option.some.inj h, rfl⟩ dX3_toldPay_33
    · refine lv_ldc (v := -100002) hx hb C.1.2.2.2.1 (C.1.2.2.2.2 _ mw_k_X3_71) dX3_toldPay_12 ?_
      exact g_iret hx hb hr hlk hH ⟨Option.some.inj h, rfl⟩ dX3_toldPay_14
theorem ok_X3_toldPay : okName yX3_toldPay 1 := ⟨by decide, by decide, by decide +kernel⟩
section KL
variable {p : Program} {l : Launch} {e : Env} {R : Room} {s : State} {m : MethodId} {args : Array Value} {below : List Frame} {meth : Method} {c : Code} {H : Heap} {locs : List Loc} {cells slots : Nat} {Q : State → Prop} {cc : ByteArray} {pc nL : Nat} {ls : Array Slot} {rest : List Value}
variable {A : Nat → Prop} {D : va_G} {cy : Nat → ClassId} {ad : Nat → Nat}
theorem kl_X3_169 (C : gC p m c cc nL s args RX3 D (gT cy) (gw cy ad) A) {σ : GS} (hH : gH s D (gw cy ad) A σ H locs) {x1 : Int32} {α : Type} {k : Int32 → Option α} {y : α} (h : (f_X3_toldPay σ x1).bind k = some y) (hR : 2 ≤ R.frames ∧ 44 ≤ R.locals) (hcs : cells ≤ R.cells ∧ slots ≤ R.slots) (hl : ls.size = nL) (hW : (rest.map fun v => v.category).sum ≤ 8) (hdg : decode cc pc = .ok (.invokevirtual 169, 3)) (kk : ∀ (r : Int32) (H1 : Heap) (locs1 : List Loc), gH s D (gw cy ad) A σ H1 locs1 → k r = some y → W p l e R s m args below meth c H1 locs1 cells slots Q (F0 m (pc + 3) ls (.int r :: rest))) : W p l e R s m args below meth c H locs cells slots Q (F0 m pc ls (.int x1 :: .ref (ad 0) :: rest)) := by
  obtain ⟨r, h1, h2⟩ := bnd h
  exact g_fi (g_rV (As := [.int x1]) C hH (c_X3_toldPay l C.2.2.2 σ x1 r h1) (q0 := 0) mw_c_X3_toldPay mw_m_X3_169 mw_i_X3_toldPay mw_v_X3_toldPay mw_in_X3 ok_X3_toldPay ⟨rfl, rfl⟩ rfl rfl rfl hR hcs hl rfl hW hdg) hH.2 (fun H1 locs1 hH1 => kk r H1 locs1 hH1 h2)
end KL
set_option maxHeartbeats 4000000 in
set_option maxRecDepth 100000 in
theorem c_X3_told (l : Launch) {D : va_G} {cy : Nat → ClassId} {ad : Nat → Nat} {A : Nat → Prop} (hD : ∀ σ, va_D A (gw cy ad σ)) (σ : GS) (x1 : Int32) (r0 : Int32) (h : f_X3_told σ x1 = some r0) : gMi l yX3_told (wsM yX3_told cX3_told 2 (some .int)) ({ frames := 2, cells := 0, slots := 0, locals := 45 } : Room) D (gT cy) (gw cy ad) A [.ref (ad 0), .int x1] σ σ r0 := by
  refine gMi.of (own := RX3) rfl (by decide) (Nat.le_of_ble_eq_true rfl) hD ?_
  intro p e s m below meth c ls C hx hb hr hlk hH hl
  have hl : lv_has ls 2 [(0, .ref (ad 0)), (1, .int x1)] := hl
  unfold f_X3_told at h
  refine lv_iload_n hx hb dX3_told_0 rfl (lv_at hl 1 rfl) ?_
  refine gb_sw h (fun c0 h => ?_) (fun c0 h => ?_)
  · refine lv_tableIn (tgt := 36) (off := 35) hx hb dX3_told_1 (by rw [c0]; decide) (by rw [c0]; decide) (by rw [c0]; rfl) (by decide) ?_
    refine lv_aload_n hx hb dX3_told_36 rfl (lv_at hl 0 rfl) ?_
    refine gf_X3_10 C hH dX3_told_37 ?_
    refine gf_X3_45 C hH dX3_told_40 ?_
    exact g_iret hx hb hr hlk hH ⟨Option.some.inj h, rfl⟩ dX3_told_43
  · refine gb_sw h (fun c1 h => ?_) (fun c1 h => ?_)
    · refine lv_tableIn (tgt := 44) (off := 43) hx hb dX3_told_1 (by rw [c1]; decide) (by rw [c1]; decide) (by rw [c1]; rfl) (by decide) ?_
      refine lv_aload_n hx hb dX3_told_44 rfl (lv_at hl 0 rfl) ?_
      refine gf_X3_10 C hH dX3_told_45 ?_
      refine kl_X3_166 C hH h ⟨by decide, by decide⟩ ⟨by decide, by decide⟩ hl.1 (Nat.le_of_ble_eq_true rfl) dX3_told_48 (fun r1 H locs hH h => ?_)
      exact g_iret hx hb hr hlk hH ⟨Option.some.inj h, rfl⟩ dX3_told_51
    · refine gb_sw h (fun c2 h => ?_) (fun c2 h => ?_)
      · refine lv_tableIn (tgt := 52) (off := 51) hx hb dX3_told_1 (by rw [c2]; decide) (by rw [c2]; decide) (by rw [c2]; rfl) (by decide) ?_
        refine lv_aload_n hx hb dX3_told_52 rfl (lv_at hl 0 rfl) ?_
        refine gf_X3_38 C hH dX3_told_53 ?_
        exact g_iret hx hb hr hlk hH ⟨Option.some.inj h, rfl⟩ dX3_told_56
      · refine gb_sw h (fun c3 h => ?_) (fun c3 h => ?_)
        · refine lv_tableIn (tgt := 57) (off := 56) hx hb dX3_told_1 (by rw [c3]; decide) (by rw [c3]; decide) (by rw [c3]; rfl) (by decide) ?_
          refine lv_aload_n hx hb dX3_told_57 rfl (lv_at hl 0 rfl) ?_
          refine gf_X3_42 C hH dX3_told_58 ?_
          exact g_iret hx hb hr hlk hH ⟨Option.some.inj h, rfl⟩ dX3_told_61
        · refine gb_sw h (fun c4 h => ?_) (fun c4 h => ?_)
          · refine lv_tableIn (tgt := 62) (off := 61) hx hb dX3_told_1 (by rw [c4]; decide) (by rw [c4]; decide) (by rw [c4]; rfl) (by decide) ?_
            refine lv_aload_n hx hb dX3_told_62 rfl (lv_at hl 0 rfl) ?_
            refine gf_X3_10 C hH dX3_told_63 ?_
            refine gf_X3_78 C hH dX3_told_66 ?_
            exact g_iret hx hb hr hlk hH ⟨Option.some.inj h, rfl⟩ dX3_told_69
          · refine lv_tableOut (tgt := 70) hx hb dX3_told_1 (by have q0 := lv_neT c0 (a := 0) (by decide); have q1 := lv_neT c1 (a := 1) (by decide); have q2 := lv_neT c2 (a := 2) (by decide); have q3 := lv_neT c3 (a := 3) (by decide); have q4 := lv_neT c4 (a := 4) (by decide); omega) (by decide) ?_
            refine lv_aload_n hx hb dX3_told_70 rfl (lv_at hl 0 rfl) ?_
            refine lv_iload_n hx hb dX3_told_71 rfl (lv_at hl 1 rfl) ?_
            refine kl_X3_169 C hH h ⟨by decide, by decide⟩ ⟨by decide, by decide⟩ hl.1 (Nat.le_of_ble_eq_true rfl) dX3_told_72 (fun r2 H locs hH h => ?_)
            exact g_iret hx hb hr hlk hH ⟨Option.some.inj h, rfl⟩ dX3_told_75
theorem ok_X3_told : okName yX3_told 1 := ⟨by decide, by decide, by decide +kernel⟩
set_option maxHeartbeats 4000000 in
set_option maxRecDepth 100000 in
theorem c_X4_in (l : Launch) {D : va_G} {cy : Nat → ClassId} {ad : Nat → Nat} {A : Nat → Prop} (hD : ∀ σ, va_D A (mw cy ad σ)) (σ : MS) (x0 x1 x2 : Int32) (r0 : Int32) (h : f_X4_in x0 x1 x2 = some r0) : gMi l yX4_in (wsM yX4_in cX4_in 3 (some .boolean)) ({ frames := 0, cells := 0, slots := 0, locals := 0 } : Room) D (mT cy) (mw cy ad) A [.int x0, .int x1, .int x2] σ σ r0 := by
  refine gMi.of (own := RX4) rfl (by decide) (Nat.le_of_ble_eq_true rfl) hD ?_
  intro p e s m below meth c ls C hx hb hr hlk hH hl
  have hl : lv_has ls 3 [(0, .int x0), (1, .int x1), (2, .int x2)] := hl
  unfold f_X4_in at h
  refine lv_iload_n hx hb dX4_in_0 rfl (lv_at hl 0 rfl) ?_
  refine lv_iload_n hx hb dX4_in_1 rfl (lv_at hl 1 rfl) ?_
  refine gb_icmp_lt (tgt := 14) hx hb dX4_in_2 (by decide) h (fun h => ?_) (fun h => ?_)
  · refine lv_iconst (v := 0) hx hb dX4_in_14 (by decide) ?_
    exact g_zret hx hb hr hlk hH ⟨Option.some.inj h, rfl⟩ rfl dX4_in_15
  · refine lv_iload_n hx hb dX4_in_5 rfl (lv_at hl 0 rfl) ?_
    refine lv_iload_n hx hb dX4_in_6 rfl (lv_at hl 2 rfl) ?_
    refine gb_icmp_gt (tgt := 14) hx hb dX4_in_7 (by decide) h (fun h => ?_) (fun h => ?_)
    · refine lv_iconst (v := 0) hx hb dX4_in_14 (by decide) ?_
      exact g_zret hx hb hr hlk hH ⟨Option.some.inj h, rfl⟩ rfl dX4_in_15
    · refine lv_iconst (v := 1) hx hb dX4_in_10 (by decide) ?_
      refine lv_goto (tgt := 15) hx hb dX4_in_11 (by decide) ?_
      exact g_zret hx hb hr hlk hH ⟨Option.some.inj h, rfl⟩ rfl dX4_in_15
theorem ok_X4_in : okName yX4_in 3 := ⟨by decide, by decide, by decide +kernel⟩
section KL
variable {p : Program} {l : Launch} {e : Env} {R : Room} {s : State} {m : MethodId} {args : Array Value} {below : List Frame} {meth : Method} {c : Code} {H : Heap} {locs : List Loc} {cells slots : Nat} {Q : State → Prop} {cc : ByteArray} {pc nL : Nat} {ls : Array Slot} {rest : List Value}
variable {A : Nat → Prop} {D : va_G} {cy : Nat → ClassId} {ad : Nat → Nat}
theorem kl_X4_32 (C : gC p m c cc nL s args RX4 D (mT cy) (mw cy ad) A) {σ : MS} (hH : gH s D (mw cy ad) A σ H locs) {x1 x2 x3 : Int32} {α : Type} {k : Int32 → Option α} {y : α} (h : (f_X4_in x1 x2 x3).bind k = some y) (hR : 1 ≤ R.frames ∧ 22 ≤ R.locals) (hcs : cells ≤ R.cells ∧ slots ≤ R.slots) (hl : ls.size = nL) (hW : (rest.map fun v => v.category).sum ≤ 8) (hdg : decode cc pc = .ok (.invokestatic 32, 3)) (kk : ∀ (r : Int32) (H1 : Heap) (locs1 : List Loc), gH s D (mw cy ad) A σ H1 locs1 → k r = some y → W p l e R s m args below meth c H1 locs1 cells slots Q (F0 m (pc + 3) ls (.int r :: rest))) : W p l e R s m args below meth c H locs cells slots Q (F0 m pc ls (.int x3 :: .int x2 :: .int x1 :: rest)) := by
  obtain ⟨r, h1, h2⟩ := bnd h
  exact g_fi (g_rS (As := [.int x1, .int x2, .int x3]) C hH (c_X4_in l C.2.2.2 σ x1 x2 x3 r h1) mw_c_X4_in mw_m_X4_32 mw_s_X4_in mw_in_X4 ok_X4_in ⟨rfl, rfl⟩ rfl hR hcs hl rfl hW hdg) hH.2 (fun H1 locs1 hH1 => kk r H1 locs1 hH1 h2)
end KL
set_option maxHeartbeats 4000000 in
set_option maxRecDepth 100000 in
theorem c_X4_isOne (l : Launch) {D : va_G} {cy : Nat → ClassId} {ad : Nat → Nat} {A : Nat → Prop} (hD : ∀ σ, va_D A (mw cy ad σ)) (σ : MS) (x1 : Int32) (r0 : Int32) (h : f_X4_isOne σ x1 = some r0) : gMi l yX4_isOne (wsM yX4_isOne cX4_isOne 2 (some .boolean)) ({ frames := 1, cells := 0, slots := 0, locals := 22 } : Room) D (mT cy) (mw cy ad) A [.ref (ad 0), .int x1] σ σ r0 := by
  refine gMi.of (own := RX4) rfl (by decide) (Nat.le_of_ble_eq_true rfl) hD ?_
  intro p e s m below meth c ls C hx hb hr hlk hH hl
  have hl : lv_has ls 2 [(0, .ref (ad 0)), (1, .int x1)] := hl
  unfold f_X4_isOne at h
  refine lv_iload_n hx hb dX4_isOne_0 rfl (lv_at hl 1 rfl) ?_
  refine lv_iconst (v := 0) hx hb dX4_isOne_1 (by decide) ?_
  refine lv_aload_n hx hb dX4_isOne_2 rfl (lv_at hl 0 rfl) ?_
  refine gf_X4_7 C hH dX4_isOne_3 ?_
  refine lv_iconst (v := 1) hx hb dX4_isOne_6 (by decide) ?_
  refine lv_isub hx hb dX4_isOne_7 ?_
  refine kl_X4_32 C hH h ⟨by decide, by decide⟩ ⟨by decide, by decide⟩ hl.1 (Nat.le_of_ble_eq_true rfl) dX4_isOne_8 (fun r1 H locs hH h => ?_)
  exact g_bret hx hb hr hlk hH h (fun h => ⟨Option.some.inj h, rfl⟩) dX4_isOne_11
theorem ok_X4_isOne : okName yX4_isOne 1 := ⟨by decide, by decide, by decide +kernel⟩
section KL
variable {p : Program} {l : Launch} {e : Env} {R : Room} {s : State} {m : MethodId} {args : Array Value} {below : List Frame} {meth : Method} {c : Code} {H : Heap} {locs : List Loc} {cells slots : Nat} {Q : State → Prop} {cc : ByteArray} {pc nL : Nat} {ls : Array Slot} {rest : List Value}
variable {A : Nat → Prop} {D : va_G} {cy : Nat → ClassId} {ad : Nat → Nat}
theorem kl_X4_46 (C : gC p m c cc nL s args RX4 D (mT cy) (mw cy ad) A) {σ : MS} (hH : gH s D (mw cy ad) A σ H locs) {x1 : Int32} {α : Type} {k : Int32 → Option α} {y : α} (h : (f_X4_isOne σ x1).bind k = some y) (hR : 2 ≤ R.frames ∧ 43 ≤ R.locals) (hcs : cells ≤ R.cells ∧ slots ≤ R.slots) (hl : ls.size = nL) (hW : (rest.map fun v => v.category).sum ≤ 8) (hdg : decode cc pc = .ok (.invokevirtual 46, 3)) (kk : ∀ (r : Int32) (H1 : Heap) (locs1 : List Loc), gH s D (mw cy ad) A σ H1 locs1 → k r = some y → W p l e R s m args below meth c H1 locs1 cells slots Q (F0 m (pc + 3) ls (.int r :: rest))) : W p l e R s m args below meth c H locs cells slots Q (F0 m pc ls (.int x1 :: .ref (ad 0) :: rest)) := by
  obtain ⟨r, h1, h2⟩ := bnd h
  exact g_fi (g_rV (As := [.int x1]) C hH (c_X4_isOne l C.2.2.2 σ x1 r h1) (q0 := 0) mw_c_X4_isOne mw_m_X4_46 mw_i_X4_isOne mw_v_X4_isOne mw_in_X4 ok_X4_isOne ⟨rfl, rfl⟩ rfl rfl rfl hR hcs hl rfl hW hdg) hH.2 (fun H1 locs1 hH1 => kk r H1 locs1 hH1 h2)
end KL
set_option maxHeartbeats 4000000 in
set_option maxRecDepth 100000 in
theorem c_X4_states (l : Launch) {D : va_G} {cy : Nat → ClassId} {ad : Nat → Nat} {A : Nat → Prop} (hD : ∀ σ, va_D A (mw cy ad σ)) (σ : MS) (r0 : Int32) (h : f_X4_states σ = some r0) : gMi l yX4_states (wsM yX4_states cX4_states 1 (some .int)) ({ frames := 0, cells := 0, slots := 0, locals := 0 } : Room) D (mT cy) (mw cy ad) A [.ref (ad 0)] σ σ r0 := by
  refine gMi.of (own := RX4) rfl (by decide) (Nat.le_of_ble_eq_true rfl) hD ?_
  intro p e s m below meth c ls C hx hb hr hlk hH hl
  have hl : lv_has ls 1 [(0, .ref (ad 0))] := hl
  unfold f_X4_states at h
  refine lv_iconst (v := 1) hx hb dX4_states_0 (by decide) ?_
  refine lv_aload_n hx hb dX4_states_1 rfl (lv_at hl 0 rfl) ?_
  refine gf_X4_7 C hH dX4_states_2 ?_
  refine lv_ishl hx hb dX4_states_5 ?_
  exact g_iret hx hb hr hlk hH ⟨Option.some.inj h, rfl⟩ dX4_states_6
theorem ok_X4_states : okName yX4_states 0 := ⟨by decide, by decide, by decide +kernel⟩
section KL
variable {p : Program} {l : Launch} {e : Env} {R : Room} {s : State} {m : MethodId} {args : Array Value} {below : List Frame} {meth : Method} {c : Code} {H : Heap} {locs : List Loc} {cells slots : Nat} {Q : State → Prop} {cc : ByteArray} {pc nL : Nat} {ls : Array Slot} {rest : List Value}
variable {A : Nat → Prop} {D : va_G} {cy : Nat → ClassId} {ad : Nat → Nat}
theorem kl_X4_36 (C : gC p m c cc nL s args RX4 D (mT cy) (mw cy ad) A) {σ : MS} (hH : gH s D (mw cy ad) A σ H locs) {α : Type} {k : Int32 → Option α} {y : α} (h : (f_X4_states σ).bind k = some y) (hR : 1 ≤ R.frames ∧ 20 ≤ R.locals) (hcs : cells ≤ R.cells ∧ slots ≤ R.slots) (hl : ls.size = nL) (hW : (rest.map fun v => v.category).sum ≤ 8) (hdg : decode cc pc = .ok (.invokevirtual 36, 3)) (kk : ∀ (r : Int32) (H1 : Heap) (locs1 : List Loc), gH s D (mw cy ad) A σ H1 locs1 → k r = some y → W p l e R s m args below meth c H1 locs1 cells slots Q (F0 m (pc + 3) ls (.int r :: rest))) : W p l e R s m args below meth c H locs cells slots Q (F0 m pc ls (.ref (ad 0) :: rest)) := by
  obtain ⟨r, h1, h2⟩ := bnd h
  exact g_fi (g_rV (As := []) C hH (c_X4_states l C.2.2.2 σ r h1) (q0 := 0) mw_c_X4_states mw_m_X4_36 mw_i_X4_states mw_v_X4_states mw_in_X4 ok_X4_states ⟨rfl, rfl⟩ rfl rfl rfl hR hcs hl rfl hW hdg) hH.2 (fun H1 locs1 hH1 => kk r H1 locs1 hH1 h2)
end KL
set_option maxHeartbeats 4000000 in
set_option maxRecDepth 100000 in
theorem c_X4_isState (l : Launch) {D : va_G} {cy : Nat → ClassId} {ad : Nat → Nat} {A : Nat → Prop} (hD : ∀ σ, va_D A (mw cy ad σ)) (σ : MS) (x1 : Int32) (r0 : Int32) (h : f_X4_isState σ x1 = some r0) : gMi l yX4_isState (wsM yX4_isState cX4_isState 2 (some .boolean)) ({ frames := 1, cells := 0, slots := 0, locals := 22 } : Room) D (mT cy) (mw cy ad) A [.ref (ad 0), .int x1] σ σ r0 := by
  refine gMi.of (own := RX4) rfl (by decide) (Nat.le_of_ble_eq_true rfl) hD ?_
  intro p e s m below meth c ls C hx hb hr hlk hH hl
  have hl : lv_has ls 2 [(0, .ref (ad 0)), (1, .int x1)] := hl
  unfold f_X4_isState at h
  refine lv_iload_n hx hb dX4_isState_0 rfl (lv_at hl 1 rfl) ?_
  refine lv_iconst (v := 0) hx hb dX4_isState_1 (by decide) ?_
  refine lv_aload_n hx hb dX4_isState_2 rfl (lv_at hl 0 rfl) ?_
  refine kl_X4_36 C hH h ⟨by decide, by decide⟩ ⟨by decide, by decide⟩ hl.1 (Nat.le_of_ble_eq_true rfl) dX4_isState_3 (fun r1 H locs hH h => ?_)
  refine lv_iconst (v := 1) hx hb dX4_isState_6 (by decide) ?_
  refine lv_isub hx hb dX4_isState_7 ?_
  refine kl_X4_32 C hH h ⟨by decide, by decide⟩ ⟨by decide, by decide⟩ hl.1 (Nat.le_of_ble_eq_true rfl) dX4_isState_8 (fun r2 H locs hH h => ?_)
  exact g_bret hx hb hr hlk hH h (fun h => ⟨Option.some.inj h, rfl⟩) dX4_isState_11
theorem ok_X4_isState : okName yX4_isState 1 := ⟨by decide, by decide, by decide +kernel⟩
section KL
variable {p : Program} {l : Launch} {e : Env} {R : Room} {s : State} {m : MethodId} {args : Array Value} {below : List Frame} {meth : Method} {c : Code} {H : Heap} {locs : List Loc} {cells slots : Nat} {Q : State → Prop} {cc : ByteArray} {pc nL : Nat} {ls : Array Slot} {rest : List Value}
variable {A : Nat → Prop} {D : va_G} {cy : Nat → ClassId} {ad : Nat → Nat}
theorem kl_X4_55 (C : gC p m c cc nL s args RX4 D (mT cy) (mw cy ad) A) {σ : MS} (hH : gH s D (mw cy ad) A σ H locs) {x1 : Int32} {α : Type} {k : Int32 → Option α} {y : α} (h : (f_X4_isState σ x1).bind k = some y) (hR : 2 ≤ R.frames ∧ 43 ≤ R.locals) (hcs : cells ≤ R.cells ∧ slots ≤ R.slots) (hl : ls.size = nL) (hW : (rest.map fun v => v.category).sum ≤ 8) (hdg : decode cc pc = .ok (.invokevirtual 55, 3)) (kk : ∀ (r : Int32) (H1 : Heap) (locs1 : List Loc), gH s D (mw cy ad) A σ H1 locs1 → k r = some y → W p l e R s m args below meth c H1 locs1 cells slots Q (F0 m (pc + 3) ls (.int r :: rest))) : W p l e R s m args below meth c H locs cells slots Q (F0 m pc ls (.int x1 :: .ref (ad 0) :: rest)) := by
  obtain ⟨r, h1, h2⟩ := bnd h
  exact g_fi (g_rV (As := [.int x1]) C hH (c_X4_isState l C.2.2.2 σ x1 r h1) (q0 := 0) mw_c_X4_isState mw_m_X4_55 mw_i_X4_isState mw_v_X4_isState mw_in_X4 ok_X4_isState ⟨rfl, rfl⟩ rfl rfl rfl hR hcs hl rfl hW hdg) hH.2 (fun H1 locs1 hH1 => kk r H1 locs1 hH1 h2)
end KL
set_option maxHeartbeats 4000000 in
set_option maxRecDepth 100000 in
theorem c_X4_players (l : Launch) {D : va_G} {cy : Nat → ClassId} {ad : Nat → Nat} {A : Nat → Prop} (hD : ∀ σ, va_D A (mw cy ad σ)) (σ : MS) (x1 : Int32) (r0 : Int32) (σ0 : MS) (h : f_X4_players σ x1 = some (r0, σ0)) : gMi l yX4_players (wsM yX4_players cX4_players 4 (some .int)) ({ frames := 1, cells := 0, slots := 0, locals := 22 } : Room) D (mT cy) (mw cy ad) A [.ref (ad 0), .int x1] σ σ0 r0 := by
  refine gMi.of (own := RX4) rfl (by decide) (Nat.le_of_ble_eq_true rfl) hD ?_
  intro p e s m below meth c ls C hx hb hr hlk hH hl
  have hl : lv_has ls 4 [(0, .ref (ad 0)), (1, .int x1)] := hl
  unfold f_X4_players at h
  refine lv_iload_n hx hb dX4_players_0 rfl (lv_at hl 1 rfl) ?_
  refine lv_iconst (v := 2) hx hb dX4_players_1 (by decide) ?_
  refine lv_bipush (v := 10) hx hb dX4_players_2 (by decide) ?_
  refine kl_X4_32 C hH h ⟨by decide, by decide⟩ ⟨by decide, by decide⟩ hl.1 (Nat.le_of_ble_eq_true rfl) dX4_players_4 (fun r1 H locs hH h => ?_)
  refine gb_if_ne (tgt := 13) hx hb dX4_players_7 (by decide) h (fun h => ?_) (fun h => ?_)
  · refine lv_aload_n hx hb dX4_players_13 rfl (lv_at hl 0 rfl) ?_
    refine gf_X4_7 C hH dX4_players_14 ?_
    refine lv_istore_n (lv' := [(2, .int (mpl σ)), (0, .ref (ad 0)), (1, .int x1)]) hx hb dX4_players_17 rfl hl (by decide) rfl (fun ls hl => ?_)
    refine lv_aload_n hx hb dX4_players_18 rfl (lv_at hl 1 rfl) ?_
    refine lv_iload_n hx hb dX4_players_19 rfl (lv_at hl 2 rfl) ?_
    refine pf_X4_7 C hH dX4_players_20 (fun H locs hH => ?_)
    refine lv_aload_n hx hb dX4_players_23 rfl (lv_at hl 1 rfl) ?_
    refine lv_iconst (v := 0) hx hb dX4_players_24 (by decide) ?_
    refine pf_X4_40 C hH dX4_players_25 (fun H locs hH => ?_)
    refine lv_aload_n hx hb dX4_players_28 rfl (lv_at hl 1 rfl) ?_
    refine lv_iconst (v := 0) hx hb dX4_players_29 (by decide) ?_
    refine pf_X4_43 C hH dX4_players_30 (fun H locs hH => ?_)
    refine lv_iconst (v := 0) hx hb dX4_players_33 (by decide) ?_
    refine lv_istore_n (lv' := [(3, .int (0)), (2, .int (mpl σ)), (0, .ref (ad 0)), (1, .int x1)]) hx hb dX4_players_34 rfl hl (by decide) rfl (fun ls hl => ?_)
    have L35 : ∀ (n : Nat) (y35_3 : Int32) (σ35 : MS) (H : Heap) (locs : List Loc) (ls : Array Slot), gH s D (mw cy ad) A σ35 H locs → lv_has ls 4 [(0, .ref (ad 0)), (2, .int (mpl σ)), (3, .int y35_3)] → ∀ X, itr f_X4_players_b35 n (y35_3, σ35) = some X → (∀ (σz35_0 : MS) (H : Heap) (locs : List Loc) (ls : Array Slot), gH s D (mw cy ad) A σz35_0 H locs → lv_has ls 4 [(2, .int (mpl σ))] → X = σz35_0 → W p l e ({ frames := 1, cells := 0, slots := 0, locals := 22 } : Room) s m [.ref (ad 0), .int x1].toArray below meth c H locs 0 0 (MQ below (gQi D (mw cy ad) A σ0 r0) [.ref (ad 0), .int x1].toArray s 0 0 A) (F0 m 54 ls [])) → W p l e ({ frames := 1, cells := 0, slots := 0, locals := 22 } : Room) s m [.ref (ad 0), .int x1].toArray below meth c H locs 0 0 (MQ below (gQi D (mw cy ad) A σ0 r0) [.ref (ad 0), .int x1].toArray s 0 0 A) (F0 m 35 ls []) := by
      intro n
      induction n with
      | zero =>
        intro y35_3 σ35 H locs ls hH hl X h K
        exact itr_0 h
      | succ n ih =>
        intro y35_3 σ35 H locs ls hH hl X h0 K
        obtain ⟨o, h, h2⟩ := itr_step h0
        unfold f_X4_players_b35 at h
        refine lv_iload_n hx hb dX4_players_35 rfl (lv_at hl 2 rfl) ?_
        refine lv_bipush (v := 100) hx hb dX4_players_36 (by decide) ?_
        refine gb_icmp_ge (tgt := 54) hx hb dX4_players_38 (by decide) h (fun h => ?_) (fun h => ?_)
        · exact K _ _ _ _ hH (lv_sub hl [1] rfl) (nxt_r h h2)
        · refine lv_aload_n hx hb dX4_players_41 rfl (lv_at hl 0 rfl) ?_
          refine gf_X4_13 C hH dX4_players_42 ?_
          refine lv_iload_n hx hb dX4_players_45 rfl (lv_at hl 2 rfl) ?_
          refine lv_iconst (v := 0) hx hb dX4_players_46 (by decide) ?_
          refine mas_we C hH h dX4_players_47 (fun h H locs hH => ?_)
          refine lv_iinc (v := (y35_3 + (1 : Int32))) (lv' := [(3, .int (y35_3 + (1 : Int32))), (0, .ref (ad 0)), (2, .int (mpl σ))]) hx hb dX4_players_48 hl (k := 2) rfl rfl (by decide) rfl (fun ls hl => ?_)
          refine lv_goto (tgt := 35) hx hb dX4_players_51 (by decide) ?_
          exact ih _ _ _ _ _ hH (lv_sub hl [1, 2, 0] rfl) X (nxt_l h h2) K
    obtain ⟨X35, hX35, h⟩ := bnd h
    refine L35 FU ((0 : Int32)) ((msnw (mshd (mspl σ x1) (0 : Int32)) (0 : Int32))) _ _ _ hH (lv_sub hl [2, 1, 0] rfl) X35 hX35 ?_
    intro σz35_0 H locs ls hH hl hE
    replace hE := hE.symm
    subst hE
    refine lv_iload_n hx hb dX4_players_54 rfl (lv_at hl 0 rfl) ?_
    exact g_iret hx hb hr hlk hH (Prod.mk.inj (Option.some.inj h)) dX4_players_55
  · refine lv_bipush (v := -2) hx hb dX4_players_10 (by decide) ?_
    exact g_iret hx hb hr hlk hH (Prod.mk.inj (Option.some.inj h)) dX4_players_12
theorem ok_X4_players : okName yX4_players 1 := ⟨by decide, by decide, by decide +kernel⟩
set_option maxHeartbeats 4000000 in
set_option maxRecDepth 100000 in
theorem c_X4_arePair (l : Launch) {D : va_G} {cy : Nat → ClassId} {ad : Nat → Nat} {A : Nat → Prop} (hD : ∀ σ, va_D A (mw cy ad σ)) (σ : MS) (x1 x2 : Int32) (r0 : Int32) (h : f_X4_arePair σ x1 x2 = some r0) : gMi l yX4_arePair (wsM yX4_arePair cX4_arePair 3 (some .boolean)) ({ frames := 2, cells := 0, slots := 0, locals := 43 } : Room) D (mT cy) (mw cy ad) A [.ref (ad 0), .int x1, .int x2] σ σ r0 := by
  refine gMi.of (own := RX4) rfl (by decide) (Nat.le_of_ble_eq_true rfl) hD ?_
  intro p e s m below meth c ls C hx hb hr hlk hH hl
  have hl : lv_has ls 3 [(0, .ref (ad 0)), (1, .int x1), (2, .int x2)] := hl
  unfold f_X4_arePair at h
  refine lv_aload_n hx hb dX4_arePair_0 rfl (lv_at hl 0 rfl) ?_
  refine lv_iload_n hx hb dX4_arePair_1 rfl (lv_at hl 1 rfl) ?_
  refine kl_X4_46 C hH h ⟨by decide, by decide⟩ ⟨by decide, by decide⟩ hl.1 (Nat.le_of_ble_eq_true rfl) dX4_arePair_2 (fun r1 H locs hH h => ?_)
  refine gb_if_eq (tgt := 25) hx hb dX4_arePair_5 (by decide) h (fun h => ?_) (fun h => ?_)
  · refine lv_iconst (v := 0) hx hb dX4_arePair_25 (by decide) ?_
    exact g_zret hx hb hr hlk hH ⟨Option.some.inj h, rfl⟩ rfl dX4_arePair_26
  · refine lv_aload_n hx hb dX4_arePair_8 rfl (lv_at hl 0 rfl) ?_
    refine lv_iload_n hx hb dX4_arePair_9 rfl (lv_at hl 2 rfl) ?_
    refine kl_X4_46 C hH h ⟨by decide, by decide⟩ ⟨by decide, by decide⟩ hl.1 (Nat.le_of_ble_eq_true rfl) dX4_arePair_10 (fun r2 H locs hH h => ?_)
    refine gb_if_eq (tgt := 25) hx hb dX4_arePair_13 (by decide) h (fun h => ?_) (fun h => ?_)
    · refine lv_iconst (v := 0) hx hb dX4_arePair_25 (by decide) ?_
      exact g_zret hx hb hr hlk hH ⟨Option.some.inj h, rfl⟩ rfl dX4_arePair_26
    · refine lv_iload_n hx hb dX4_arePair_16 rfl (lv_at hl 1 rfl) ?_
      refine lv_iload_n hx hb dX4_arePair_17 rfl (lv_at hl 2 rfl) ?_
      refine gb_icmp_eq (tgt := 25) hx hb dX4_arePair_18 (by decide) h (fun h => ?_) (fun h => ?_)
      · refine lv_iconst (v := 0) hx hb dX4_arePair_25 (by decide) ?_
        exact g_zret hx hb hr hlk hH ⟨Option.some.inj h, rfl⟩ rfl dX4_arePair_26
      · refine lv_iconst (v := 1) hx hb dX4_arePair_21 (by decide) ?_
        refine lv_goto (tgt := 26) hx hb dX4_arePair_22 (by decide) ?_
        exact g_zret hx hb hr hlk hH ⟨Option.some.inj h, rfl⟩ rfl dX4_arePair_26
theorem ok_X4_arePair : okName yX4_arePair 2 := ⟨by decide, by decide, by decide +kernel⟩
section KL
variable {p : Program} {l : Launch} {e : Env} {R : Room} {s : State} {m : MethodId} {args : Array Value} {below : List Frame} {meth : Method} {c : Code} {H : Heap} {locs : List Loc} {cells slots : Nat} {Q : State → Prop} {cc : ByteArray} {pc nL : Nat} {ls : Array Slot} {rest : List Value}
variable {A : Nat → Prop} {D : va_G} {cy : Nat → ClassId} {ad : Nat → Nat}
theorem kl_X4_50 (C : gC p m c cc nL s args RX4 D (mT cy) (mw cy ad) A) {σ : MS} (hH : gH s D (mw cy ad) A σ H locs) {x1 x2 : Int32} {α : Type} {k : Int32 → Option α} {y : α} (h : (f_X4_arePair σ x1 x2).bind k = some y) (hR : 3 ≤ R.frames ∧ 65 ≤ R.locals) (hcs : cells ≤ R.cells ∧ slots ≤ R.slots) (hl : ls.size = nL) (hW : (rest.map fun v => v.category).sum ≤ 8) (hdg : decode cc pc = .ok (.invokevirtual 50, 3)) (kk : ∀ (r : Int32) (H1 : Heap) (locs1 : List Loc), gH s D (mw cy ad) A σ H1 locs1 → k r = some y → W p l e R s m args below meth c H1 locs1 cells slots Q (F0 m (pc + 3) ls (.int r :: rest))) : W p l e R s m args below meth c H locs cells slots Q (F0 m pc ls (.int x2 :: .int x1 :: .ref (ad 0) :: rest)) := by
  obtain ⟨r, h1, h2⟩ := bnd h
  exact g_fi (g_rV (As := [.int x1, .int x2]) C hH (c_X4_arePair l C.2.2.2 σ x1 x2 r h1) (q0 := 0) mw_c_X4_arePair mw_m_X4_50 mw_i_X4_arePair mw_v_X4_arePair mw_in_X4 ok_X4_arePair ⟨rfl, rfl⟩ rfl rfl rfl hR hcs hl rfl hW hdg) hH.2 (fun H1 locs1 hH1 => kk r H1 locs1 hH1 h2)
end KL
set_option maxHeartbeats 4000000 in
set_option maxRecDepth 100000 in
theorem c_X4_line (l : Launch) {D : va_G} {cy : Nat → ClassId} {ad : Nat → Nat} {A : Nat → Prop} (hD : ∀ σ, va_D A (mw cy ad σ)) (σ : MS) (x1 x2 x3 : Int32) (r0 : Int32) (σ0 : MS) (h : f_X4_line σ x1 x2 x3 = some (r0, σ0)) : gMi l yX4_line (wsM yX4_line cX4_line 5 (some .int)) ({ frames := 3, cells := 0, slots := 0, locals := 65 } : Room) D (mT cy) (mw cy ad) A [.ref (ad 0), .int x1, .int x2, .int x3] σ σ0 r0 := by
  refine gMi.of (own := RX4) rfl (by decide) (Nat.le_of_ble_eq_true rfl) hD ?_
  intro p e s m below meth c ls C hx hb hr hlk hH hl
  have hl : lv_has ls 5 [(0, .ref (ad 0)), (1, .int x1), (2, .int x2), (3, .int x3)] := hl
  unfold f_X4_line at h
  refine lv_aload_n hx hb dX4_line_0 rfl (lv_at hl 0 rfl) ?_
  refine lv_iload_n hx hb dX4_line_1 rfl (lv_at hl 1 rfl) ?_
  refine lv_iload_n hx hb dX4_line_2 rfl (lv_at hl 2 rfl) ?_
  refine kl_X4_50 C hH h ⟨by decide, by decide⟩ ⟨by decide, by decide⟩ hl.1 (Nat.le_of_ble_eq_true rfl) dX4_line_3 (fun r1 H locs hH h => ?_)
  refine gb_if_ne (tgt := 11) hx hb dX4_line_6 (by decide) h (fun h => ?_) (fun h => ?_)
  · refine lv_iload_n hx hb dX4_line_11 rfl (lv_at hl 3 rfl) ?_
    refine lv_iconst (v := 0) hx hb dX4_line_12 (by decide) ?_
    refine lv_bipush (v := 9) hx hb dX4_line_13 (by decide) ?_
    refine kl_X4_32 C hH h ⟨by decide, by decide⟩ ⟨by decide, by decide⟩ hl.1 (Nat.le_of_ble_eq_true rfl) dX4_line_15 (fun r2 H locs hH h => ?_)
    refine gb_if_ne (tgt := 24) hx hb dX4_line_18 (by decide) h (fun h => ?_) (fun h => ?_)
    · refine lv_aload_n hx hb dX4_line_24 rfl (lv_at hl 0 rfl) ?_
      refine gf_X4_13 C hH dX4_line_25 ?_
      refine lv_bipush (v := 10) hx hb dX4_line_28 (by decide) ?_
      refine lv_iload_n hx hb dX4_line_30 rfl (lv_at hl 1 rfl) ?_
      refine lv_imul hx hb dX4_line_31 ?_
      refine lv_iload_n hx hb dX4_line_32 rfl (lv_at hl 2 rfl) ?_
      refine lv_iadd hx hb dX4_line_33 ?_
      refine mal_we C hH h dX4_line_34 (fun h => ?_)
      refine lv_istore (lv' := [(4, .int (mwe σ ((((10 : Int32) * x1) + x2) : Int32).toNatClampNeg)), (0, .ref (ad 0)), (1, .int x1), (2, .int x2), (3, .int x3)]) hx hb dX4_line_35 hl (by decide) rfl (fun ls hl => ?_)
      refine lv_aload_n hx hb dX4_line_37 rfl (lv_at hl 1 rfl) ?_
      refine gf_X4_13 C hH dX4_line_38 ?_
      refine lv_bipush (v := 10) hx hb dX4_line_41 (by decide) ?_
      refine lv_iload_n hx hb dX4_line_43 rfl (lv_at hl 2 rfl) ?_
      refine lv_imul hx hb dX4_line_44 ?_
      refine lv_iload_n hx hb dX4_line_45 rfl (lv_at hl 3 rfl) ?_
      refine lv_iadd hx hb dX4_line_46 ?_
      refine lv_iload_n hx hb dX4_line_47 rfl (lv_at hl 4 rfl) ?_
      refine mas_we C hH h dX4_line_48 (fun h H locs hH => ?_)
      refine lv_aload_n hx hb dX4_line_49 rfl (lv_at hl 1 rfl) ?_
      refine gf_X4_13 C hH dX4_line_50 ?_
      refine lv_bipush (v := 10) hx hb dX4_line_53 (by decide) ?_
      refine lv_iload_n hx hb dX4_line_55 rfl (lv_at hl 3 rfl) ?_
      refine lv_imul hx hb dX4_line_56 ?_
      refine lv_iload_n hx hb dX4_line_57 rfl (lv_at hl 2 rfl) ?_
      refine lv_iadd hx hb dX4_line_58 ?_
      refine lv_iload_n hx hb dX4_line_59 rfl (lv_at hl 4 rfl) ?_
      refine mas_we C hH h dX4_line_60 (fun h H locs hH => ?_)
      refine lv_iload hx hb dX4_line_61 (lv_at hl 0 rfl) ?_
      exact g_iret hx hb hr hlk hH (Prod.mk.inj (Option.some.inj h)) dX4_line_63
    · refine lv_bipush (v := -2) hx hb dX4_line_21 (by decide) ?_
      exact g_iret hx hb hr hlk hH (Prod.mk.inj (Option.some.inj h)) dX4_line_23
  · refine lv_iconst (v := -1) hx hb dX4_line_9 (by decide) ?_
    exact g_iret hx hb hr hlk hH (Prod.mk.inj (Option.some.inj h)) dX4_line_10
theorem ok_X4_line : okName yX4_line 3 := ⟨by decide, by decide, by decide +kernel⟩
set_option maxHeartbeats 4000000 in
set_option maxRecDepth 100000 in
theorem c_X4_weight (l : Launch) {D : va_G} {cy : Nat → ClassId} {ad : Nat → Nat} {A : Nat → Prop} (hD : ∀ σ, va_D A (mw cy ad σ)) (σ : MS) (x1 x2 : Int32) (r0 : Int32) (h : f_X4_weight σ x1 x2 = some r0) : gMi l yX4_weight (wsM yX4_weight cX4_weight 3 (some .int)) ({ frames := 3, cells := 0, slots := 0, locals := 65 } : Room) D (mT cy) (mw cy ad) A [.ref (ad 0), .int x1, .int x2] σ σ r0 := by
  refine gMi.of (own := RX4) rfl (by decide) (Nat.le_of_ble_eq_true rfl) hD ?_
  intro p e s m below meth c ls C hx hb hr hlk hH hl
  have hl : lv_has ls 3 [(0, .ref (ad 0)), (1, .int x1), (2, .int x2)] := hl
  unfold f_X4_weight at h
  refine lv_aload_n hx hb dX4_weight_0 rfl (lv_at hl 0 rfl) ?_
  refine lv_iload_n hx hb dX4_weight_1 rfl (lv_at hl 1 rfl) ?_
  refine lv_iload_n hx hb dX4_weight_2 rfl (lv_at hl 2 rfl) ?_
  refine kl_X4_50 C hH h ⟨by decide, by decide⟩ ⟨by decide, by decide⟩ hl.1 (Nat.le_of_ble_eq_true rfl) dX4_weight_3 (fun r1 H locs hH h => ?_)
  refine gb_if_eq (tgt := 23) hx hb dX4_weight_6 (by decide) h (fun h => ?_) (fun h => ?_)
  · refine lv_iconst (v := -1) hx hb dX4_weight_23 (by decide) ?_
    exact g_iret hx hb hr hlk hH ⟨Option.some.inj h, rfl⟩ dX4_weight_24
  · refine lv_aload_n hx hb dX4_weight_9 rfl (lv_at hl 0 rfl) ?_
    refine gf_X4_13 C hH dX4_weight_10 ?_
    refine lv_bipush (v := 10) hx hb dX4_weight_13 (by decide) ?_
    refine lv_iload_n hx hb dX4_weight_15 rfl (lv_at hl 1 rfl) ?_
    refine lv_imul hx hb dX4_weight_16 ?_
    refine lv_iload_n hx hb dX4_weight_17 rfl (lv_at hl 2 rfl) ?_
    refine lv_iadd hx hb dX4_weight_18 ?_
    refine mal_we C hH h dX4_weight_19 (fun h => ?_)
    refine lv_goto (tgt := 24) hx hb dX4_weight_20 (by decide) ?_
    exact g_iret hx hb hr hlk hH ⟨Option.some.inj h, rfl⟩ dX4_weight_24
theorem ok_X4_weight : okName yX4_weight 2 := ⟨by decide, by decide, by decide +kernel⟩
set_option maxHeartbeats 4000000 in
set_option maxRecDepth 100000 in
theorem c_X4_pay (l : Launch) {D : va_G} {cy : Nat → ClassId} {ad : Nat → Nat} {A : Nat → Prop} (hD : ∀ σ, va_D A (mw cy ad σ)) (σ : MS) (x1 x2 x3 : Int32) (r0 : Int32) (σ0 : MS) (h : f_X4_pay σ x1 x2 x3 = some (r0, σ0)) : gMi l yX4_pay (wsM yX4_pay cX4_pay 5 (some .int)) ({ frames := 1, cells := 0, slots := 0, locals := 22 } : Room) D (mT cy) (mw cy ad) A [.ref (ad 0), .int x1, .int x2, .int x3] σ σ0 r0 := by
  refine gMi.of (own := RX4) rfl (by decide) (Nat.le_of_ble_eq_true rfl) hD ?_
  intro p e s m below meth c ls C hx hb hr hlk hH hl
  have hl : lv_has ls 5 [(0, .ref (ad 0)), (1, .int x1), (2, .int x2), (3, .int x3)] := hl
  unfold f_X4_pay at h
  refine lv_iload_n hx hb dX4_pay_0 rfl (lv_at hl 1 rfl) ?_
  refine lv_iconst (v := 0) hx hb dX4_pay_1 (by decide) ?_
  refine lv_iconst (v := 1) hx hb dX4_pay_2 (by decide) ?_
  refine kl_X4_32 C hH h ⟨by decide, by decide⟩ ⟨by decide, by decide⟩ hl.1 (Nat.le_of_ble_eq_true rfl) dX4_pay_3 (fun r1 H locs hH h => ?_)
  refine gb_if_eq (tgt := 29) hx hb dX4_pay_6 (by decide) h (fun h => ?_) (fun h => ?_)
  · refine lv_ldc (v := -100002) hx hb C.1.2.2.2.1 (C.1.2.2.2.2 _ mw_k_X4_54) dX4_pay_29 ?_
    exact g_iret hx hb hr hlk hH (Prod.mk.inj (Option.some.inj h)) dX4_pay_31
  · refine lv_iload_n hx hb dX4_pay_9 rfl (lv_at hl 2 rfl) ?_
    refine lv_iconst (v := 0) hx hb dX4_pay_10 (by decide) ?_
    refine lv_iconst (v := 1) hx hb dX4_pay_11 (by decide) ?_
    refine kl_X4_32 C hH h ⟨by decide, by decide⟩ ⟨by decide, by decide⟩ hl.1 (Nat.le_of_ble_eq_true rfl) dX4_pay_12 (fun r2 H locs hH h => ?_)
    refine gb_if_eq (tgt := 29) hx hb dX4_pay_15 (by decide) h (fun h => ?_) (fun h => ?_)
    · refine lv_ldc (v := -100002) hx hb C.1.2.2.2.1 (C.1.2.2.2.2 _ mw_k_X4_54) dX4_pay_29 ?_
      exact g_iret hx hb hr hlk hH (Prod.mk.inj (Option.some.inj h)) dX4_pay_31
    · refine lv_iload_n hx hb dX4_pay_18 rfl (lv_at hl 3 rfl) ?_
      refine lv_bipush (v := -9) hx hb dX4_pay_19 (by decide) ?_
      refine lv_bipush (v := 9) hx hb dX4_pay_21 (by decide) ?_
      refine kl_X4_32 C hH h ⟨by decide, by decide⟩ ⟨by decide, by decide⟩ hl.1 (Nat.le_of_ble_eq_true rfl) dX4_pay_23 (fun r3 H locs hH h => ?_)
      refine gb_if_ne (tgt := 32) hx hb dX4_pay_26 (by decide) h (fun h => ?_) (fun h => ?_)
      · refine lv_aload_n hx hb dX4_pay_32 rfl (lv_at hl 0 rfl) ?_
        refine gf_X4_17 C hH dX4_pay_33 ?_
        refine lv_iconst (v := 2) hx hb dX4_pay_36 (by decide) ?_
        refine lv_iload_n hx hb dX4_pay_37 rfl (lv_at hl 1 rfl) ?_
        refine lv_imul hx hb dX4_pay_38 ?_
        refine lv_iload_n hx hb dX4_pay_39 rfl (lv_at hl 2 rfl) ?_
        refine lv_iadd hx hb dX4_pay_40 ?_
        refine mal_pa C hH h dX4_pay_41 (fun h => ?_)
        refine lv_istore (lv' := [(4, .int (mpa σ ((((2 : Int32) * x1) + x2) : Int32).toNatClampNeg)), (0, .ref (ad 0)), (1, .int x1), (2, .int x2), (3, .int x3)]) hx hb dX4_pay_42 hl (by decide) rfl (fun ls hl => ?_)
        refine lv_aload_n hx hb dX4_pay_44 rfl (lv_at hl 1 rfl) ?_
        refine gf_X4_17 C hH dX4_pay_45 ?_
        refine lv_iconst (v := 2) hx hb dX4_pay_48 (by decide) ?_
        refine lv_iload_n hx hb dX4_pay_49 rfl (lv_at hl 2 rfl) ?_
        refine lv_imul hx hb dX4_pay_50 ?_
        refine lv_iload_n hx hb dX4_pay_51 rfl (lv_at hl 3 rfl) ?_
        refine lv_iadd hx hb dX4_pay_52 ?_
        refine lv_iload_n hx hb dX4_pay_53 rfl (lv_at hl 4 rfl) ?_
        refine mas_pa C hH h dX4_pay_54 (fun h H locs hH => ?_)
        refine lv_iload hx hb dX4_pay_55 (lv_at hl 0 rfl) ?_
        exact g_iret hx hb hr hlk hH (Prod.mk.inj (Option.some.inj h)) dX4_pay_57
      · refine lv_ldc (v := -100002) hx hb C.1.2.2.2.1 (C.1.2.2.2.2 _ mw_k_X4_54) dX4_pay_29 ?_
        exact g_iret hx hb hr hlk hH (Prod.mk.inj (Option.some.inj h)) dX4_pay_31
theorem ok_X4_pay : okName yX4_pay 3 := ⟨by decide, by decide, by decide +kernel⟩
set_option maxHeartbeats 4000000 in
set_option maxRecDepth 100000 in
theorem c_X4_bar (l : Launch) {D : va_G} {cy : Nat → ClassId} {ad : Nat → Nat} {A : Nat → Prop} (hD : ∀ σ, va_D A (mw cy ad σ)) (σ : MS) (x1 : Int32) (r0 : Int32) (σ0 : MS) (h : f_X4_bar σ x1 = some (r0, σ0)) : gMi l yX4_bar (wsM yX4_bar cX4_bar 3 (some .int)) ({ frames := 1, cells := 0, slots := 0, locals := 22 } : Room) D (mT cy) (mw cy ad) A [.ref (ad 0), .int x1] σ σ0 r0 := by
  refine gMi.of (own := RX4) rfl (by decide) (Nat.le_of_ble_eq_true rfl) hD ?_
  intro p e s m below meth c ls C hx hb hr hlk hH hl
  have hl : lv_has ls 3 [(0, .ref (ad 0)), (1, .int x1)] := hl
  unfold f_X4_bar at h
  refine lv_iload_n hx hb dX4_bar_0 rfl (lv_at hl 1 rfl) ?_
  refine lv_iconst (v := 0) hx hb dX4_bar_1 (by decide) ?_
  refine lv_bipush (v := 100) hx hb dX4_bar_2 (by decide) ?_
  refine kl_X4_32 C hH h ⟨by decide, by decide⟩ ⟨by decide, by decide⟩ hl.1 (Nat.le_of_ble_eq_true rfl) dX4_bar_4 (fun r1 H locs hH h => ?_)
  refine gb_if_ne (tgt := 13) hx hb dX4_bar_7 (by decide) h (fun h => ?_) (fun h => ?_)
  · refine lv_aload_n hx hb dX4_bar_13 rfl (lv_at hl 0 rfl) ?_
    refine gf_X4_20 C hH dX4_bar_14 ?_
    refine lv_istore_n (lv' := [(2, .int (mbr σ)), (0, .ref (ad 0)), (1, .int x1)]) hx hb dX4_bar_17 rfl hl (by decide) rfl (fun ls hl => ?_)
    refine lv_aload_n hx hb dX4_bar_18 rfl (lv_at hl 1 rfl) ?_
    refine lv_iload_n hx hb dX4_bar_19 rfl (lv_at hl 2 rfl) ?_
    refine pf_X4_20 C hH dX4_bar_20 (fun H locs hH => ?_)
    refine lv_iload_n hx hb dX4_bar_23 rfl (lv_at hl 0 rfl) ?_
    exact g_iret hx hb hr hlk hH (Prod.mk.inj (Option.some.inj h)) dX4_bar_24
  · refine lv_bipush (v := -2) hx hb dX4_bar_10 (by decide) ?_
    exact g_iret hx hb hr hlk hH (Prod.mk.inj (Option.some.inj h)) dX4_bar_12
theorem ok_X4_bar : okName yX4_bar 1 := ⟨by decide, by decide, by decide +kernel⟩
set_option maxHeartbeats 4000000 in
set_option maxRecDepth 100000 in
theorem c_X4_hold (l : Launch) {D : va_G} {cy : Nat → ClassId} {ad : Nat → Nat} {A : Nat → Prop} (hD : ∀ σ, va_D A (mw cy ad σ)) (σ : MS) (x1 x2 : Int32) (r0 : Int32) (σ0 : MS) (h : f_X4_hold σ x1 x2 = some (r0, σ0)) : gMi l yX4_hold (wsM yX4_hold cX4_hold 4 (some .int)) ({ frames := 2, cells := 0, slots := 0, locals := 43 } : Room) D (mT cy) (mw cy ad) A [.ref (ad 0), .int x1, .int x2] σ σ0 r0 := by
  refine gMi.of (own := RX4) rfl (by decide) (Nat.le_of_ble_eq_true rfl) hD ?_
  intro p e s m below meth c ls C hx hb hr hlk hH hl
  have hl : lv_has ls 4 [(0, .ref (ad 0)), (1, .int x1), (2, .int x2)] := hl
  unfold f_X4_hold at h
  refine lv_aload_n hx hb dX4_hold_0 rfl (lv_at hl 0 rfl) ?_
  refine lv_iload_n hx hb dX4_hold_1 rfl (lv_at hl 1 rfl) ?_
  refine kl_X4_46 C hH h ⟨by decide, by decide⟩ ⟨by decide, by decide⟩ hl.1 (Nat.le_of_ble_eq_true rfl) dX4_hold_2 (fun r1 H locs hH h => ?_)
  refine gb_if_ne (tgt := 10) hx hb dX4_hold_5 (by decide) h (fun h => ?_) (fun h => ?_)
  · refine lv_aload_n hx hb dX4_hold_10 rfl (lv_at hl 0 rfl) ?_
    refine gf_X4_40 C hH dX4_hold_11 ?_
    refine lv_iload_n hx hb dX4_hold_14 rfl (lv_at hl 1 rfl) ?_
    refine lv_ishr hx hb dX4_hold_15 ?_
    refine lv_iconst (v := 1) hx hb dX4_hold_16 (by decide) ?_
    refine lv_iand hx hb dX4_hold_17 ?_
    refine lv_istore_n (lv' := [(3, .int (((mhd σ) >>> (x1 &&& 31)) &&& (1 : Int32))), (0, .ref (ad 0)), (1, .int x1), (2, .int x2)]) hx hb dX4_hold_18 rfl hl (by decide) rfl (fun ls hl => ?_)
    refine lv_aload_n hx hb dX4_hold_19 rfl (lv_at hl 1 rfl) ?_
    refine lv_iload_n hx hb dX4_hold_20 rfl (lv_at hl 3 rfl) ?_
    refine gb_if_eq (tgt := 35) hx hb dX4_hold_21 (by decide) h (fun h => ?_) (fun h => ?_)
    · refine lv_aload_n hx hb dX4_hold_35 rfl (lv_at hl 1 rfl) ?_
      refine gf_X4_40 C hH dX4_hold_36 ?_
      refine lv_iconst (v := 1) hx hb dX4_hold_39 (by decide) ?_
      refine lv_iload_n hx hb dX4_hold_40 rfl (lv_at hl 2 rfl) ?_
      refine lv_ishl hx hb dX4_hold_41 ?_
      refine lv_iconst (v := -1) hx hb dX4_hold_42 (by decide) ?_
      refine lv_ixor hx hb dX4_hold_43 ?_
      refine lv_iand hx hb dX4_hold_44 ?_
      refine pf_X4_40 C hH dX4_hold_45 (fun H locs hH => ?_)
      refine lv_iload_n hx hb dX4_hold_48 rfl (lv_at hl 0 rfl) ?_
      exact g_iret hx hb hr hlk hH (Prod.mk.inj (Option.some.inj h)) dX4_hold_49
    · refine lv_aload_n hx hb dX4_hold_24 rfl (lv_at hl 1 rfl) ?_
      refine gf_X4_40 C hH dX4_hold_25 ?_
      refine lv_iconst (v := 1) hx hb dX4_hold_28 (by decide) ?_
      refine lv_iload_n hx hb dX4_hold_29 rfl (lv_at hl 2 rfl) ?_
      refine lv_ishl hx hb dX4_hold_30 ?_
      refine lv_ior hx hb dX4_hold_31 ?_
      refine lv_goto (tgt := 45) hx hb dX4_hold_32 (by decide) ?_
      refine pf_X4_40 C hH dX4_hold_45 (fun H locs hH => ?_)
      refine lv_iload_n hx hb dX4_hold_48 rfl (lv_at hl 0 rfl) ?_
      exact g_iret hx hb hr hlk hH (Prod.mk.inj (Option.some.inj h)) dX4_hold_49
  · refine lv_iconst (v := -1) hx hb dX4_hold_8 (by decide) ?_
    exact g_iret hx hb hr hlk hH (Prod.mk.inj (Option.some.inj h)) dX4_hold_9
theorem ok_X4_hold : okName yX4_hold 2 := ⟨by decide, by decide, by decide +kernel⟩
set_option maxHeartbeats 4000000 in
set_option maxRecDepth 100000 in
theorem c_X4_state (l : Launch) {D : va_G} {cy : Nat → ClassId} {ad : Nat → Nat} {A : Nat → Prop} (hD : ∀ σ, va_D A (mw cy ad σ)) (σ : MS) (x1 : Int32) (r0 : Int32) (σ0 : MS) (h : f_X4_state σ x1 = some (r0, σ0)) : gMi l yX4_state (wsM yX4_state cX4_state 3 (some .int)) ({ frames := 2, cells := 0, slots := 0, locals := 43 } : Room) D (mT cy) (mw cy ad) A [.ref (ad 0), .int x1] σ σ0 r0 := by
  refine gMi.of (own := RX4) rfl (by decide) (Nat.le_of_ble_eq_true rfl) hD ?_
  intro p e s m below meth c ls C hx hb hr hlk hH hl
  have hl : lv_has ls 3 [(0, .ref (ad 0)), (1, .int x1)] := hl
  unfold f_X4_state at h
  refine lv_aload_n hx hb dX4_state_0 rfl (lv_at hl 0 rfl) ?_
  refine lv_iload_n hx hb dX4_state_1 rfl (lv_at hl 1 rfl) ?_
  refine kl_X4_55 C hH h ⟨by decide, by decide⟩ ⟨by decide, by decide⟩ hl.1 (Nat.le_of_ble_eq_true rfl) dX4_state_2 (fun r1 H locs hH h => ?_)
  refine gb_if_ne (tgt := 11) hx hb dX4_state_5 (by decide) h (fun h => ?_) (fun h => ?_)
  · refine lv_aload_n hx hb dX4_state_11 rfl (lv_at hl 0 rfl) ?_
    refine gf_X4_43 C hH dX4_state_12 ?_
    refine lv_istore_n (lv' := [(2, .int (mnw σ)), (0, .ref (ad 0)), (1, .int x1)]) hx hb dX4_state_15 rfl hl (by decide) rfl (fun ls hl => ?_)
    refine lv_aload_n hx hb dX4_state_16 rfl (lv_at hl 1 rfl) ?_
    refine lv_iload_n hx hb dX4_state_17 rfl (lv_at hl 2 rfl) ?_
    refine pf_X4_43 C hH dX4_state_18 (fun H locs hH => ?_)
    refine lv_iload_n hx hb dX4_state_21 rfl (lv_at hl 0 rfl) ?_
    exact g_iret hx hb hr hlk hH (Prod.mk.inj (Option.some.inj h)) dX4_state_22
  · refine lv_bipush (v := -2) hx hb dX4_state_8 (by decide) ?_
    exact g_iret hx hb hr hlk hH (Prod.mk.inj (Option.some.inj h)) dX4_state_10
theorem ok_X4_state : okName yX4_state 1 := ⟨by decide, by decide, by decide +kernel⟩
set_option maxHeartbeats 4000000 in
set_option maxRecDepth 100000 in
theorem c_X4_wageOf (l : Launch) {D : va_G} {cy : Nat → ClassId} {ad : Nat → Nat} {A : Nat → Prop} (hD : ∀ σ, va_D A (mw cy ad σ)) (σ : MS) (x1 x2 x3 : Int32) (r0 : Int32) (h : f_X4_wageOf σ x1 x2 x3 = some r0) : gMi l yX4_wageOf (wsM yX4_wageOf cX4_wageOf 6 (some .int)) ({ frames := 0, cells := 0, slots := 0, locals := 0 } : Room) D (mT cy) (mw cy ad) A [.ref (ad 0), .int x1, .int x2, .int x3] σ σ r0 := by
  refine gMi.of (own := RX4) rfl (by decide) (Nat.le_of_ble_eq_true rfl) hD ?_
  intro p e s m below meth c ls C hx hb hr hlk hH hl
  have hl : lv_has ls 6 [(0, .ref (ad 0)), (1, .int x1), (2, .int x2), (3, .int x3)] := hl
  unfold f_X4_wageOf at h
  refine lv_iconst (v := 0) hx hb dX4_wageOf_0 (by decide) ?_
  refine lv_istore (lv' := [(4, .int (0)), (0, .ref (ad 0)), (1, .int x1), (2, .int x2), (3, .int x3)]) hx hb dX4_wageOf_1 hl (by decide) rfl (fun ls hl => ?_)
  refine lv_iconst (v := 0) hx hb dX4_wageOf_3 (by decide) ?_
  refine lv_istore (lv' := [(5, .int (0)), (4, .int (0)), (0, .ref (ad 0)), (1, .int x1), (2, .int x2), (3, .int x3)]) hx hb dX4_wageOf_4 hl (by decide) rfl (fun ls hl => ?_)
  have L6 : ∀ (n : Nat) (y6_4 : Int32) (y6_5 : Int32) (H : Heap) (locs : List Loc) (ls : Array Slot), gH s D (mw cy ad) A σ H locs → lv_has ls 6 [(0, .ref (ad 0)), (1, .int x1), (2, .int x2), (3, .int x3), (4, .int y6_4), (5, .int y6_5)] → ∀ X, itr (f_X4_wageOf_b6 σ x2 x3 x1) n (y6_4, y6_5) = some X → (∀ (z6_0_4 : Int32) (H : Heap) (locs : List Loc) (ls : Array Slot), gH s D (mw cy ad) A σ H locs → lv_has ls 6 [(4, .int z6_0_4)] → X = z6_0_4 → W p l e ({ frames := 0, cells := 0, slots := 0, locals := 0 } : Room) s m [.ref (ad 0), .int x1, .int x2, .int x3].toArray below meth c H locs 0 0 (MQ below (gQi D (mw cy ad) A σ r0) [.ref (ad 0), .int x1, .int x2, .int x3].toArray s 0 0 A) (F0 m 54 ls [])) → W p l e ({ frames := 0, cells := 0, slots := 0, locals := 0 } : Room) s m [.ref (ad 0), .int x1, .int x2, .int x3].toArray below meth c H locs 0 0 (MQ below (gQi D (mw cy ad) A σ r0) [.ref (ad 0), .int x1, .int x2, .int x3].toArray s 0 0 A) (F0 m 6 ls []) := by
    intro n
    induction n with
    | zero =>
      intro y6_4 y6_5 H locs ls hH hl X h K
      exact itr_0 h
    | succ n ih =>
      intro y6_4 y6_5 H locs ls hH hl X h0 K
      obtain ⟨o, h, h2⟩ := itr_step h0
      unfold f_X4_wageOf_b6 at h
      refine lv_iload hx hb dX4_wageOf_6 (lv_at hl 5 rfl) ?_
      refine lv_aload_n hx hb dX4_wageOf_8 rfl (lv_at hl 0 rfl) ?_
      refine gf_X4_7 C hH dX4_wageOf_9 ?_
      refine gb_icmp_ge (tgt := 54) hx hb dX4_wageOf_12 (by decide) h (fun h => ?_) (fun h => ?_)
      · exact K _ _ _ _ hH (lv_sub hl [4] rfl) (nxt_r h h2)
      · refine lv_iload hx hb dX4_wageOf_15 (lv_at hl 4 rfl) ?_
        refine lv_aload_n hx hb dX4_wageOf_17 rfl (lv_at hl 0 rfl) ?_
        refine gf_X4_13 C hH dX4_wageOf_18 ?_
        refine lv_bipush (v := 10) hx hb dX4_wageOf_21 (by decide) ?_
        refine lv_iload_n hx hb dX4_wageOf_23 rfl (lv_at hl 2 rfl) ?_
        refine lv_imul hx hb dX4_wageOf_24 ?_
        refine lv_iload hx hb dX4_wageOf_25 (lv_at hl 5 rfl) ?_
        refine lv_iadd hx hb dX4_wageOf_27 ?_
        refine mal_we C hH h dX4_wageOf_28 (fun h => ?_)
        refine lv_aload_n hx hb dX4_wageOf_29 rfl (lv_at hl 0 rfl) ?_
        refine gf_X4_17 C hH dX4_wageOf_30 ?_
        refine lv_iconst (v := 2) hx hb dX4_wageOf_33 (by decide) ?_
        refine lv_iload_n hx hb dX4_wageOf_34 rfl (lv_at hl 3 rfl) ?_
        refine lv_imul hx hb dX4_wageOf_35 ?_
        refine lv_iload_n hx hb dX4_wageOf_36 rfl (lv_at hl 1 rfl) ?_
        refine lv_iload hx hb dX4_wageOf_37 (lv_at hl 5 rfl) ?_
        refine lv_ishr hx hb dX4_wageOf_39 ?_
        refine lv_iconst (v := 1) hx hb dX4_wageOf_40 (by decide) ?_
        refine lv_iand hx hb dX4_wageOf_41 ?_
        refine lv_iadd hx hb dX4_wageOf_42 ?_
        refine mal_pa C hH h dX4_wageOf_43 (fun h => ?_)
        refine lv_imul hx hb dX4_wageOf_44 ?_
        refine lv_iadd hx hb dX4_wageOf_45 ?_
        refine lv_istore (lv' := [(4, .int (y6_4 + ((mwe σ ((((10 : Int32) * x2) + y6_5) : Int32).toNatClampNeg) * (mpa σ ((((2 : Int32) * x3) + ((x1 >>> (y6_5 &&& 31)) &&& (1 : Int32))) : Int32).toNatClampNeg)))), (0, .ref (ad 0)), (1, .int x1), (2, .int x2), (3, .int x3), (5, .int y6_5)]) hx hb dX4_wageOf_46 hl (by decide) rfl (fun ls hl => ?_)
        refine lv_iinc (v := (y6_5 + (1 : Int32))) (lv' := [(5, .int (y6_5 + (1 : Int32))), (4, .int (y6_4 + ((mwe σ ((((10 : Int32) * x2) + y6_5) : Int32).toNatClampNeg) * (mpa σ ((((2 : Int32) * x3) + ((x1 >>> (y6_5 &&& 31)) &&& (1 : Int32))) : Int32).toNatClampNeg)))), (0, .ref (ad 0)), (1, .int x1), (2, .int x2), (3, .int x3)]) hx hb dX4_wageOf_48 hl (k := 5) rfl rfl (by decide) rfl (fun ls hl => ?_)
        refine lv_goto (tgt := 6) hx hb dX4_wageOf_51 (by decide) ?_
        exact ih _ _ _ _ _ hH (lv_sub hl [2, 3, 4, 5, 1, 0] rfl) X (nxt_l h h2) K
  obtain ⟨X6, hX6, h⟩ := bnd h
  refine L6 FU ((0 : Int32)) ((0 : Int32)) _ _ _ hH (lv_sub hl [2, 3, 4, 5, 1, 0] rfl) X6 hX6 ?_
  intro z6_0_4 H locs ls hH hl hE
  replace hE := hE.symm
  subst hE
  refine lv_iload hx hb dX4_wageOf_54 (lv_at hl 0 rfl) ?_
  exact g_iret hx hb hr hlk hH ⟨Option.some.inj h, rfl⟩ dX4_wageOf_56
theorem ok_X4_wageOf : okName yX4_wageOf 3 := ⟨by decide, by decide, by decide +kernel⟩
section KL
variable {p : Program} {l : Launch} {e : Env} {R : Room} {s : State} {m : MethodId} {args : Array Value} {below : List Frame} {meth : Method} {c : Code} {H : Heap} {locs : List Loc} {cells slots : Nat} {Q : State → Prop} {cc : ByteArray} {pc nL : Nat} {ls : Array Slot} {rest : List Value}
variable {A : Nat → Prop} {D : va_G} {cy : Nat → ClassId} {ad : Nat → Nat}
theorem kl_X4_59 (C : gC p m c cc nL s args RX4 D (mT cy) (mw cy ad) A) {σ : MS} (hH : gH s D (mw cy ad) A σ H locs) {x1 x2 x3 : Int32} {α : Type} {k : Int32 → Option α} {y : α} (h : (f_X4_wageOf σ x1 x2 x3).bind k = some y) (hR : 1 ≤ R.frames ∧ 25 ≤ R.locals) (hcs : cells ≤ R.cells ∧ slots ≤ R.slots) (hl : ls.size = nL) (hW : (rest.map fun v => v.category).sum ≤ 8) (hdg : decode cc pc = .ok (.invokevirtual 59, 3)) (kk : ∀ (r : Int32) (H1 : Heap) (locs1 : List Loc), gH s D (mw cy ad) A σ H1 locs1 → k r = some y → W p l e R s m args below meth c H1 locs1 cells slots Q (F0 m (pc + 3) ls (.int r :: rest))) : W p l e R s m args below meth c H locs cells slots Q (F0 m pc ls (.int x3 :: .int x2 :: .int x1 :: .ref (ad 0) :: rest)) := by
  obtain ⟨r, h1, h2⟩ := bnd h
  exact g_fi (g_rV (As := [.int x1, .int x2, .int x3]) C hH (c_X4_wageOf l C.2.2.2 σ x1 x2 x3 r h1) (q0 := 0) mw_c_X4_wageOf mw_m_X4_59 mw_i_X4_wageOf mw_v_X4_wageOf mw_in_X4 ok_X4_wageOf ⟨rfl, rfl⟩ rfl rfl rfl hR hcs hl rfl hW hdg) hH.2 (fun H1 locs1 hH1 => kk r H1 locs1 hH1 h2)
end KL
set_option maxHeartbeats 4000000 in
set_option maxRecDepth 100000 in
theorem c_X4_wage (l : Launch) {D : va_G} {cy : Nat → ClassId} {ad : Nat → Nat} {A : Nat → Prop} (hD : ∀ σ, va_D A (mw cy ad σ)) (σ : MS) (x1 x2 : Int32) (r0 : Int32) (h : f_X4_wage σ x1 x2 = some r0) : gMi l yX4_wage (wsM yX4_wage cX4_wage 4 (some .int)) ({ frames := 2, cells := 0, slots := 0, locals := 43 } : Room) D (mT cy) (mw cy ad) A [.ref (ad 0), .int x1, .int x2] σ σ r0 := by
  refine gMi.of (own := RX4) rfl (by decide) (Nat.le_of_ble_eq_true rfl) hD ?_
  intro p e s m below meth c ls C hx hb hr hlk hH hl
  have hl : lv_has ls 4 [(0, .ref (ad 0)), (1, .int x1), (2, .int x2)] := hl
  unfold f_X4_wage at h
  refine lv_aload_n hx hb dX4_wage_0 rfl (lv_at hl 0 rfl) ?_
  refine lv_iload_n hx hb dX4_wage_1 rfl (lv_at hl 1 rfl) ?_
  refine kl_X4_46 C hH h ⟨by decide, by decide⟩ ⟨by decide, by decide⟩ hl.1 (Nat.le_of_ble_eq_true rfl) dX4_wage_2 (fun r1 H locs hH h => ?_)
  refine gb_if_ne (tgt := 11) hx hb dX4_wage_5 (by decide) h (fun h => ?_) (fun h => ?_)
  · refine lv_iload_n hx hb dX4_wage_11 rfl (lv_at hl 2 rfl) ?_
    refine lv_iconst (v := 0) hx hb dX4_wage_12 (by decide) ?_
    refine lv_iconst (v := 1) hx hb dX4_wage_13 (by decide) ?_
    refine kl_X4_32 C hH h ⟨by decide, by decide⟩ ⟨by decide, by decide⟩ hl.1 (Nat.le_of_ble_eq_true rfl) dX4_wage_14 (fun r2 H locs hH h => ?_)
    refine gb_if_ne (tgt := 23) hx hb dX4_wage_17 (by decide) h (fun h => ?_) (fun h => ?_)
    · refine lv_aload_n hx hb dX4_wage_23 rfl (lv_at hl 0 rfl) ?_
      refine gf_X4_43 C hH dX4_wage_24 ?_
      refine lv_iload_n hx hb dX4_wage_27 rfl (lv_at hl 1 rfl) ?_
      refine lv_ishr hx hb dX4_wage_28 ?_
      refine lv_iconst (v := 1) hx hb dX4_wage_29 (by decide) ?_
      refine lv_iand hx hb dX4_wage_30 ?_
      refine lv_istore_n (lv' := [(3, .int (((mnw σ) >>> (x1 &&& 31)) &&& (1 : Int32))), (0, .ref (ad 0)), (1, .int x1), (2, .int x2)]) hx hb dX4_wage_31 rfl hl (by decide) rfl (fun ls hl => ?_)
      refine lv_aload_n hx hb dX4_wage_32 rfl (lv_at hl 1 rfl) ?_
      refine lv_aload_n hx hb dX4_wage_33 rfl (lv_at hl 1 rfl) ?_
      refine gf_X4_43 C hH dX4_wage_34 ?_
      refine lv_iload_n hx hb dX4_wage_37 rfl (lv_at hl 2 rfl) ?_
      refine lv_iload_n hx hb dX4_wage_38 rfl (lv_at hl 3 rfl) ?_
      refine gb_if_ne (tgt := 46) hx hb dX4_wage_39 (by decide) h (fun h => ?_) (fun h => ?_)
      · refine lv_iconst (v := 1) hx hb dX4_wage_46 (by decide) ?_
        refine lv_iload_n hx hb dX4_wage_47 rfl (lv_at hl 0 rfl) ?_
        refine lv_isub hx hb dX4_wage_48 ?_
        refine kl_X4_59 C hH h ⟨by decide, by decide⟩ ⟨by decide, by decide⟩ hl.1 (Nat.le_of_ble_eq_true rfl) dX4_wage_49 (fun r3 H locs hH h => ?_)
        exact g_iret hx hb hr hlk hH ⟨Option.some.inj h, rfl⟩ dX4_wage_52
      · refine lv_iload_n hx hb dX4_wage_42 rfl (lv_at hl 0 rfl) ?_
        refine lv_goto (tgt := 49) hx hb dX4_wage_43 (by decide) ?_
        refine kl_X4_59 C hH h ⟨by decide, by decide⟩ ⟨by decide, by decide⟩ hl.1 (Nat.le_of_ble_eq_true rfl) dX4_wage_49 (fun r4 H locs hH h => ?_)
        exact g_iret hx hb hr hlk hH ⟨Option.some.inj h, rfl⟩ dX4_wage_52
    · refine lv_ldc (v := -100002) hx hb C.1.2.2.2.1 (C.1.2.2.2.2 _ mw_k_X4_54) dX4_wage_20 ?_
      exact g_iret hx hb hr hlk hH ⟨Option.some.inj h, rfl⟩ dX4_wage_22
  · refine lv_ldc (v := -100001) hx hb C.1.2.2.2.1 (C.1.2.2.2.2 _ mw_k_X4_58) dX4_wage_8 ?_
    exact g_iret hx hb hr hlk hH ⟨Option.some.inj h, rfl⟩ dX4_wage_10
theorem ok_X4_wage : okName yX4_wage 2 := ⟨by decide, by decide, by decide +kernel⟩
set_option maxHeartbeats 4000000 in
set_option maxRecDepth 100000 in
theorem c_X4_sum (l : Launch) {D : va_G} {cy : Nat → ClassId} {ad : Nat → Nat} {A : Nat → Prop} (hD : ∀ σ, va_D A (mw cy ad σ)) (σ : MS) (r0 : Int32) (h : f_X4_sum σ = some r0) : gMi l yX4_sum (wsM yX4_sum cX4_sum 3 (some .int)) ({ frames := 1, cells := 0, slots := 0, locals := 25 } : Room) D (mT cy) (mw cy ad) A [.ref (ad 0)] σ σ r0 := by
  refine gMi.of (own := RX4) rfl (by decide) (Nat.le_of_ble_eq_true rfl) hD ?_
  intro p e s m below meth c ls C hx hb hr hlk hH hl
  have hl : lv_has ls 3 [(0, .ref (ad 0))] := hl
  unfold f_X4_sum at h
  refine lv_iconst (v := 0) hx hb dX4_sum_0 (by decide) ?_
  refine lv_istore_n (lv' := [(1, .int (0)), (0, .ref (ad 0))]) hx hb dX4_sum_1 rfl hl (by decide) rfl (fun ls hl => ?_)
  refine lv_iconst (v := 0) hx hb dX4_sum_2 (by decide) ?_
  refine lv_istore_n (lv' := [(2, .int (0)), (1, .int (0)), (0, .ref (ad 0))]) hx hb dX4_sum_3 rfl hl (by decide) rfl (fun ls hl => ?_)
  have L4 : ∀ (n : Nat) (y4_1 : Int32) (y4_2 : Int32) (H : Heap) (locs : List Loc) (ls : Array Slot), gH s D (mw cy ad) A σ H locs → lv_has ls 3 [(0, .ref (ad 0)), (1, .int y4_1), (2, .int y4_2)] → ∀ X, itr (f_X4_sum_b4 σ) n (y4_1, y4_2) = some X → (∀ (z4_0_1 : Int32) (H : Heap) (locs : List Loc) (ls : Array Slot), gH s D (mw cy ad) A σ H locs → lv_has ls 3 [(1, .int z4_0_1)] → X = z4_0_1 → W p l e ({ frames := 1, cells := 0, slots := 0, locals := 25 } : Room) s m [.ref (ad 0)].toArray below meth c H locs 0 0 (MQ below (gQi D (mw cy ad) A σ r0) [.ref (ad 0)].toArray s 0 0 A) (F0 m 38 ls [])) → W p l e ({ frames := 1, cells := 0, slots := 0, locals := 25 } : Room) s m [.ref (ad 0)].toArray below meth c H locs 0 0 (MQ below (gQi D (mw cy ad) A σ r0) [.ref (ad 0)].toArray s 0 0 A) (F0 m 4 ls []) := by
    intro n
    induction n with
    | zero =>
      intro y4_1 y4_2 H locs ls hH hl X h K
      exact itr_0 h
    | succ n ih =>
      intro y4_1 y4_2 H locs ls hH hl X h0 K
      obtain ⟨o, h, h2⟩ := itr_step h0
      unfold f_X4_sum_b4 at h
      refine lv_iload_n hx hb dX4_sum_4 rfl (lv_at hl 2 rfl) ?_
      refine lv_aload_n hx hb dX4_sum_5 rfl (lv_at hl 0 rfl) ?_
      refine gf_X4_7 C hH dX4_sum_6 ?_
      refine gb_icmp_ge (tgt := 38) hx hb dX4_sum_9 (by decide) h (fun h => ?_) (fun h => ?_)
      · exact K _ _ _ _ hH (lv_sub hl [1] rfl) (nxt_r h h2)
      · refine lv_iload_n hx hb dX4_sum_12 rfl (lv_at hl 1 rfl) ?_
        refine lv_aload_n hx hb dX4_sum_13 rfl (lv_at hl 0 rfl) ?_
        refine lv_aload_n hx hb dX4_sum_14 rfl (lv_at hl 0 rfl) ?_
        refine gf_X4_43 C hH dX4_sum_15 ?_
        refine lv_iload_n hx hb dX4_sum_18 rfl (lv_at hl 2 rfl) ?_
        refine lv_aload_n hx hb dX4_sum_19 rfl (lv_at hl 0 rfl) ?_
        refine gf_X4_43 C hH dX4_sum_20 ?_
        refine lv_iload_n hx hb dX4_sum_23 rfl (lv_at hl 2 rfl) ?_
        refine lv_ishr hx hb dX4_sum_24 ?_
        refine lv_iconst (v := 1) hx hb dX4_sum_25 (by decide) ?_
        refine lv_iand hx hb dX4_sum_26 ?_
        refine kl_X4_59 C hH h ⟨by decide, by decide⟩ ⟨by decide, by decide⟩ hl.1 (Nat.le_of_ble_eq_true rfl) dX4_sum_27 (fun r1 H locs hH h => ?_)
        refine lv_iadd hx hb dX4_sum_30 ?_
        refine lv_istore_n (lv' := [(1, .int (y4_1 + r1)), (0, .ref (ad 0)), (2, .int y4_2)]) hx hb dX4_sum_31 rfl hl (by decide) rfl (fun ls hl => ?_)
        refine lv_iinc (v := (y4_2 + (1 : Int32))) (lv' := [(2, .int (y4_2 + (1 : Int32))), (1, .int (y4_1 + r1)), (0, .ref (ad 0))]) hx hb dX4_sum_32 hl (k := 2) rfl rfl (by decide) rfl (fun ls hl => ?_)
        refine lv_goto (tgt := 4) hx hb dX4_sum_35 (by decide) ?_
        exact ih _ _ _ _ _ hH (lv_sub hl [2, 1, 0] rfl) X (nxt_l h h2) K
  obtain ⟨X4, hX4, h⟩ := bnd h
  refine L4 FU ((0 : Int32)) ((0 : Int32)) _ _ _ hH (lv_sub hl [2, 1, 0] rfl) X4 hX4 ?_
  intro z4_0_1 H locs ls hH hl hE
  replace hE := hE.symm
  subst hE
  refine lv_iload_n hx hb dX4_sum_38 rfl (lv_at hl 0 rfl) ?_
  exact g_iret hx hb hr hlk hH ⟨Option.some.inj h, rfl⟩ dX4_sum_39
theorem ok_X4_sum : okName yX4_sum 0 := ⟨by decide, by decide, by decide +kernel⟩
set_option maxHeartbeats 4000000 in
set_option maxRecDepth 100000 in
theorem c_X4_gains (l : Launch) {D : va_G} {cy : Nat → ClassId} {ad : Nat → Nat} {A : Nat → Prop} (hD : ∀ σ, va_D A (mw cy ad σ)) (σ : MS) (x1 x2 : Int32) (r0 : Int32) (h : f_X4_gains σ x1 x2 = some r0) : gMi l yX4_gains (wsM yX4_gains cX4_gains 4 (some .boolean)) ({ frames := 1, cells := 0, slots := 0, locals := 25 } : Room) D (mT cy) (mw cy ad) A [.ref (ad 0), .int x1, .int x2] σ σ r0 := by
  refine gMi.of (own := RX4) rfl (by decide) (Nat.le_of_ble_eq_true rfl) hD ?_
  intro p e s m below meth c ls C hx hb hr hlk hH hl
  have hl : lv_has ls 4 [(0, .ref (ad 0)), (1, .int x1), (2, .int x2)] := hl
  unfold f_X4_gains at h
  refine lv_iload_n hx hb dX4_gains_0 rfl (lv_at hl 1 rfl) ?_
  refine lv_iload_n hx hb dX4_gains_1 rfl (lv_at hl 2 rfl) ?_
  refine lv_ishr hx hb dX4_gains_2 ?_
  refine lv_iconst (v := 1) hx hb dX4_gains_3 (by decide) ?_
  refine lv_iand hx hb dX4_gains_4 ?_
  refine lv_istore_n (lv' := [(3, .int ((x1 >>> (x2 &&& 31)) &&& (1 : Int32))), (0, .ref (ad 0)), (1, .int x1), (2, .int x2)]) hx hb dX4_gains_5 rfl hl (by decide) rfl (fun ls hl => ?_)
  refine lv_aload_n hx hb dX4_gains_6 rfl (lv_at hl 1 rfl) ?_
  refine lv_iload_n hx hb dX4_gains_7 rfl (lv_at hl 2 rfl) ?_
  refine lv_iload_n hx hb dX4_gains_8 rfl (lv_at hl 3 rfl) ?_
  refine lv_iconst (v := 1) hx hb dX4_gains_9 (by decide) ?_
  refine lv_iload_n hx hb dX4_gains_10 rfl (lv_at hl 0 rfl) ?_
  refine lv_isub hx hb dX4_gains_11 ?_
  refine kl_X4_59 C hH h ⟨by decide, by decide⟩ ⟨by decide, by decide⟩ hl.1 (Nat.le_of_ble_eq_true rfl) dX4_gains_12 (fun r1 H locs hH h => ?_)
  refine lv_aload_n hx hb dX4_gains_15 rfl (lv_at hl 1 rfl) ?_
  refine lv_iload_n hx hb dX4_gains_16 rfl (lv_at hl 2 rfl) ?_
  refine lv_iload_n hx hb dX4_gains_17 rfl (lv_at hl 3 rfl) ?_
  refine lv_iload_n hx hb dX4_gains_18 rfl (lv_at hl 0 rfl) ?_
  refine kl_X4_59 C hH h ⟨by decide, by decide⟩ ⟨by decide, by decide⟩ hl.1 (Nat.le_of_ble_eq_true rfl) dX4_gains_19 (fun r2 H locs hH h => ?_)
  refine gb_icmp_le (tgt := 29) hx hb dX4_gains_22 (by decide) h (fun h => ?_) (fun h => ?_)
  · refine lv_iconst (v := 0) hx hb dX4_gains_29 (by decide) ?_
    exact g_zret hx hb hr hlk hH ⟨Option.some.inj h, rfl⟩ rfl dX4_gains_30
  · refine lv_iconst (v := 1) hx hb dX4_gains_25 (by decide) ?_
    refine lv_goto (tgt := 30) hx hb dX4_gains_26 (by decide) ?_
    exact g_zret hx hb hr hlk hH ⟨Option.some.inj h, rfl⟩ rfl dX4_gains_30
theorem ok_X4_gains : okName yX4_gains 2 := ⟨by decide, by decide, by decide +kernel⟩
section KL
variable {p : Program} {l : Launch} {e : Env} {R : Room} {s : State} {m : MethodId} {args : Array Value} {below : List Frame} {meth : Method} {c : Code} {H : Heap} {locs : List Loc} {cells slots : Nat} {Q : State → Prop} {cc : ByteArray} {pc nL : Nat} {ls : Array Slot} {rest : List Value}
variable {A : Nat → Prop} {D : va_G} {cy : Nat → ClassId} {ad : Nat → Nat}
theorem kl_X4_70 (C : gC p m c cc nL s args RX4 D (mT cy) (mw cy ad) A) {σ : MS} (hH : gH s D (mw cy ad) A σ H locs) {x1 x2 : Int32} {α : Type} {k : Int32 → Option α} {y : α} (h : (f_X4_gains σ x1 x2).bind k = some y) (hR : 2 ≤ R.frames ∧ 48 ≤ R.locals) (hcs : cells ≤ R.cells ∧ slots ≤ R.slots) (hl : ls.size = nL) (hW : (rest.map fun v => v.category).sum ≤ 8) (hdg : decode cc pc = .ok (.invokevirtual 70, 3)) (kk : ∀ (r : Int32) (H1 : Heap) (locs1 : List Loc), gH s D (mw cy ad) A σ H1 locs1 → k r = some y → W p l e R s m args below meth c H1 locs1 cells slots Q (F0 m (pc + 3) ls (.int r :: rest))) : W p l e R s m args below meth c H locs cells slots Q (F0 m pc ls (.int x2 :: .int x1 :: .ref (ad 0) :: rest)) := by
  obtain ⟨r, h1, h2⟩ := bnd h
  exact g_fi (g_rV (As := [.int x1, .int x2]) C hH (c_X4_gains l C.2.2.2 σ x1 x2 r h1) (q0 := 0) mw_c_X4_gains mw_m_X4_70 mw_i_X4_gains mw_v_X4_gains mw_in_X4 ok_X4_gains ⟨rfl, rfl⟩ rfl rfl rfl hR hcs hl rfl hW hdg) hH.2 (fun H1 locs1 hH1 => kk r H1 locs1 hH1 h2)
end KL
set_option maxHeartbeats 4000000 in
set_option maxRecDepth 100000 in
theorem c_X4_copied (l : Launch) {D : va_G} {cy : Nat → ClassId} {ad : Nat → Nat} {A : Nat → Prop} (hD : ∀ σ, va_D A (mw cy ad σ)) (σ : MS) (x1 x2 : Int32) (r0 : Int32) (h : f_X4_copied σ x1 x2 = some r0) : gMi l yX4_copied (wsM yX4_copied cX4_copied 7 (some .int)) ({ frames := 1, cells := 0, slots := 0, locals := 25 } : Room) D (mT cy) (mw cy ad) A [.ref (ad 0), .int x1, .int x2] σ σ r0 := by
  refine gMi.of (own := RX4) rfl (by decide) (Nat.le_of_ble_eq_true rfl) hD ?_
  intro p e s m below meth c ls C hx hb hr hlk hH hl
  have hl : lv_has ls 7 [(0, .ref (ad 0)), (1, .int x1), (2, .int x2)] := hl
  unfold f_X4_copied at h
  refine lv_iload_n hx hb dX4_copied_0 rfl (lv_at hl 2 rfl) ?_
  refine lv_istore_n (lv' := [(3, .int x2), (0, .ref (ad 0)), (1, .int x1), (2, .int x2)]) hx hb dX4_copied_1 rfl hl (by decide) rfl (fun ls hl => ?_)
  refine lv_iconst (v := 0) hx hb dX4_copied_2 (by decide) ?_
  refine lv_istore (lv' := [(4, .int (0)), (3, .int x2), (0, .ref (ad 0)), (1, .int x1), (2, .int x2)]) hx hb dX4_copied_3 hl (by decide) rfl (fun ls hl => ?_)
  have L5 : ∀ (n : Nat) (y5_3 : Int32) (y5_4 : Int32) (H : Heap) (locs : List Loc) (ls : Array Slot), gH s D (mw cy ad) A σ H locs → lv_has ls 7 [(0, .ref (ad 0)), (1, .int x1), (2, .int x2), (3, .int y5_3), (4, .int y5_4)] → ∀ X, itr (f_X4_copied_b5 σ x2 x1) n (y5_3, y5_4) = some X → (∀ (z5_0_3 : Int32) (H : Heap) (locs : List Loc) (ls : Array Slot), gH s D (mw cy ad) A σ H locs → lv_has ls 7 [(1, .int x1), (3, .int z5_0_3)] → X = z5_0_3 → W p l e ({ frames := 1, cells := 0, slots := 0, locals := 25 } : Room) s m [.ref (ad 0), .int x1, .int x2].toArray below meth c H locs 0 0 (MQ below (gQi D (mw cy ad) A σ r0) [.ref (ad 0), .int x1, .int x2].toArray s 0 0 A) (F0 m 93 ls [])) → W p l e ({ frames := 1, cells := 0, slots := 0, locals := 25 } : Room) s m [.ref (ad 0), .int x1, .int x2].toArray below meth c H locs 0 0 (MQ below (gQi D (mw cy ad) A σ r0) [.ref (ad 0), .int x1, .int x2].toArray s 0 0 A) (F0 m 5 ls []) := by
    intro n
    induction n with
    | zero =>
      intro y5_3 y5_4 H locs ls hH hl X h K
      exact itr_0 h
    | succ n ih =>
      intro y5_3 y5_4 H locs ls hH hl X h0 K
      obtain ⟨o, h, h2⟩ := itr_step h0
      unfold f_X4_copied_b5 at h
      refine lv_iload hx hb dX4_copied_5 (lv_at hl 4 rfl) ?_
      refine lv_aload_n hx hb dX4_copied_7 rfl (lv_at hl 0 rfl) ?_
      refine gf_X4_7 C hH dX4_copied_8 ?_
      refine gb_icmp_ge (tgt := 93) hx hb dX4_copied_11 (by decide) h (fun h => ?_) (fun h => ?_)
      · exact K _ _ _ _ hH (lv_sub hl [1, 3] rfl) (nxt_r h h2)
      · refine lv_aload_n hx hb dX4_copied_14 rfl (lv_at hl 0 rfl) ?_
        refine gf_X4_13 C hH dX4_copied_15 ?_
        refine lv_bipush (v := 10) hx hb dX4_copied_18 (by decide) ?_
        refine lv_iload_n hx hb dX4_copied_20 rfl (lv_at hl 2 rfl) ?_
        refine lv_imul hx hb dX4_copied_21 ?_
        refine lv_iload hx hb dX4_copied_22 (lv_at hl 4 rfl) ?_
        refine lv_iadd hx hb dX4_copied_24 ?_
        refine mal_we C hH h dX4_copied_25 (fun h => ?_)
        refine gb_if_le (tgt := 33) hx hb dX4_copied_26 (by decide) h (fun h => ?_) (fun h => ?_)
        · refine lv_iconst (v := 0) hx hb dX4_copied_33 (by decide) ?_
          refine lv_istore (lv' := [(5, .int (0)), (0, .ref (ad 0)), (1, .int x1), (2, .int x2), (3, .int y5_3), (4, .int y5_4)]) hx hb dX4_copied_34 hl (by decide) rfl (fun ls hl => ?_)
          refine lv_iload hx hb dX4_copied_36 (lv_at hl 0 rfl) ?_
          refine lv_if_eq (tgt := 72) hx hb dX4_copied_38 (by decide) (fun _ => ?_) (fun q => absurd q (by decide))
          refine lv_iconst (v := 0) hx hb dX4_copied_72 (by decide) ?_
          refine lv_istore (lv' := [(6, .int (0)), (5, .int (0)), (0, .ref (ad 0)), (1, .int x1), (2, .int x2), (3, .int y5_3), (4, .int y5_4)]) hx hb dX4_copied_73 hl (by decide) rfl (fun ls hl => ?_)
          refine lv_iload hx hb dX4_copied_75 (lv_at hl 0 rfl) ?_
          refine lv_if_eq (tgt := 85) hx hb dX4_copied_77 (by decide) (fun _ => ?_) (fun q => absurd q (by decide))
          refine lv_iload_n hx hb dX4_copied_85 rfl (lv_at hl 5 rfl) ?_
          refine lv_istore_n (lv' := [(3, .int y5_3), (6, .int (0)), (5, .int (0)), (0, .ref (ad 0)), (1, .int x1), (2, .int x2), (4, .int y5_4)]) hx hb dX4_copied_86 rfl hl (by decide) rfl (fun ls hl => ?_)
          refine lv_iinc (v := (y5_4 + (1 : Int32))) (lv' := [(4, .int (y5_4 + (1 : Int32))), (3, .int y5_3), (6, .int (0)), (5, .int (0)), (0, .ref (ad 0)), (1, .int x1), (2, .int x2)]) hx hb dX4_copied_87 hl (k := 6) rfl rfl (by decide) rfl (fun ls hl => ?_)
          refine lv_goto (tgt := 5) hx hb dX4_copied_90 (by decide) ?_
          exact ih _ _ _ _ _ hH (lv_sub hl [4, 5, 6, 1, 0] rfl) X (nxt_l h h2) K
        · refine lv_iconst (v := 1) hx hb dX4_copied_29 (by decide) ?_
          refine lv_goto (tgt := 34) hx hb dX4_copied_30 (by decide) ?_
          refine lv_istore (lv' := [(5, .int (1)), (0, .ref (ad 0)), (1, .int x1), (2, .int x2), (3, .int y5_3), (4, .int y5_4)]) hx hb dX4_copied_34 hl (by decide) rfl (fun ls hl => ?_)
          refine lv_iload hx hb dX4_copied_36 (lv_at hl 0 rfl) ?_
          refine lv_if_eq (tgt := 72) hx hb dX4_copied_38 (by decide) (fun q => absurd q (by decide)) (fun _ => ?_)
          refine lv_aload_n hx hb dX4_copied_41 rfl (lv_at hl 1 rfl) ?_
          refine lv_iload_n hx hb dX4_copied_42 rfl (lv_at hl 2 rfl) ?_
          refine lv_iload hx hb dX4_copied_43 (lv_at hl 5 rfl) ?_
          refine lv_iload_n hx hb dX4_copied_45 rfl (lv_at hl 2 rfl) ?_
          refine lv_iload hx hb dX4_copied_46 (lv_at hl 5 rfl) ?_
          refine lv_ishr hx hb dX4_copied_48 ?_
          refine lv_iconst (v := 1) hx hb dX4_copied_49 (by decide) ?_
          refine lv_iand hx hb dX4_copied_50 ?_
          refine kl_X4_59 C hH h ⟨by decide, by decide⟩ ⟨by decide, by decide⟩ hl.1 (Nat.le_of_ble_eq_true rfl) dX4_copied_51 (fun r1 H locs hH h => ?_)
          refine lv_aload_n hx hb dX4_copied_54 rfl (lv_at hl 1 rfl) ?_
          refine lv_iload_n hx hb dX4_copied_55 rfl (lv_at hl 2 rfl) ?_
          refine lv_iload_n hx hb dX4_copied_56 rfl (lv_at hl 4 rfl) ?_
          refine lv_iload_n hx hb dX4_copied_57 rfl (lv_at hl 2 rfl) ?_
          refine lv_iload_n hx hb dX4_copied_58 rfl (lv_at hl 4 rfl) ?_
          refine lv_ishr hx hb dX4_copied_59 ?_
          refine lv_iconst (v := 1) hx hb dX4_copied_60 (by decide) ?_
          refine lv_iand hx hb dX4_copied_61 ?_
          refine kl_X4_59 C hH h ⟨by decide, by decide⟩ ⟨by decide, by decide⟩ hl.1 (Nat.le_of_ble_eq_true rfl) dX4_copied_62 (fun r2 H locs hH h => ?_)
          refine gb_icmp_le (tgt := 72) hx hb dX4_copied_65 (by decide) h (fun h => ?_) (fun h => ?_)
          · refine lv_iconst (v := 0) hx hb dX4_copied_72 (by decide) ?_
            refine lv_istore (lv' := [(6, .int (0)), (5, .int (1)), (0, .ref (ad 0)), (1, .int x1), (2, .int x2), (3, .int y5_3), (4, .int y5_4)]) hx hb dX4_copied_73 hl (by decide) rfl (fun ls hl => ?_)
            refine lv_iload hx hb dX4_copied_75 (lv_at hl 0 rfl) ?_
            refine lv_if_eq (tgt := 85) hx hb dX4_copied_77 (by decide) (fun _ => ?_) (fun q => absurd q (by decide))
            refine lv_iload_n hx hb dX4_copied_85 rfl (lv_at hl 5 rfl) ?_
            refine lv_istore_n (lv' := [(3, .int y5_3), (6, .int (0)), (5, .int (1)), (0, .ref (ad 0)), (1, .int x1), (2, .int x2), (4, .int y5_4)]) hx hb dX4_copied_86 rfl hl (by decide) rfl (fun ls hl => ?_)
            refine lv_iinc (v := (y5_4 + (1 : Int32))) (lv' := [(4, .int (y5_4 + (1 : Int32))), (3, .int y5_3), (6, .int (0)), (5, .int (1)), (0, .ref (ad 0)), (1, .int x1), (2, .int x2)]) hx hb dX4_copied_87 hl (k := 6) rfl rfl (by decide) rfl (fun ls hl => ?_)
            refine lv_goto (tgt := 5) hx hb dX4_copied_90 (by decide) ?_
            exact ih _ _ _ _ _ hH (lv_sub hl [4, 5, 6, 1, 0] rfl) X (nxt_l h h2) K
          · refine lv_iconst (v := 1) hx hb dX4_copied_68 (by decide) ?_
            refine lv_goto (tgt := 73) hx hb dX4_copied_69 (by decide) ?_
            refine lv_istore (lv' := [(6, .int (1)), (5, .int (1)), (0, .ref (ad 0)), (1, .int x1), (2, .int x2), (3, .int y5_3), (4, .int y5_4)]) hx hb dX4_copied_73 hl (by decide) rfl (fun ls hl => ?_)
            refine lv_iload hx hb dX4_copied_75 (lv_at hl 0 rfl) ?_
            refine lv_if_eq (tgt := 85) hx hb dX4_copied_77 (by decide) (fun q => absurd q (by decide)) (fun _ => ?_)
            refine lv_iload hx hb dX4_copied_80 (lv_at hl 6 rfl) ?_
            refine lv_goto (tgt := 86) hx hb dX4_copied_82 (by decide) ?_
            refine lv_istore_n (lv' := [(3, .int y5_4), (6, .int (1)), (5, .int (1)), (0, .ref (ad 0)), (1, .int x1), (2, .int x2), (4, .int y5_4)]) hx hb dX4_copied_86 rfl hl (by decide) rfl (fun ls hl => ?_)
            refine lv_iinc (v := (y5_4 + (1 : Int32))) (lv' := [(4, .int (y5_4 + (1 : Int32))), (3, .int y5_4), (6, .int (1)), (5, .int (1)), (0, .ref (ad 0)), (1, .int x1), (2, .int x2)]) hx hb dX4_copied_87 hl (k := 6) rfl rfl (by decide) rfl (fun ls hl => ?_)
            refine lv_goto (tgt := 5) hx hb dX4_copied_90 (by decide) ?_
            exact ih _ _ _ _ _ hH (lv_sub hl [4, 5, 6, 1, 0] rfl) X (nxt_l h h2) K
  obtain ⟨X5, hX5, h⟩ := bnd h
  refine L5 FU x2 ((0 : Int32)) _ _ _ hH (lv_sub hl [2, 3, 4, 1, 0] rfl) X5 hX5 ?_
  intro z5_0_3 H locs ls hH hl hE
  replace hE := hE.symm
  subst hE
  refine lv_iload_n hx hb dX4_copied_93 rfl (lv_at hl 0 rfl) ?_
  refine lv_iload_n hx hb dX4_copied_94 rfl (lv_at hl 1 rfl) ?_
  refine lv_ishr hx hb dX4_copied_95 ?_
  refine lv_iconst (v := 1) hx hb dX4_copied_96 (by decide) ?_
  refine lv_iand hx hb dX4_copied_97 ?_
  exact g_iret hx hb hr hlk hH ⟨Option.some.inj h, rfl⟩ dX4_copied_98
theorem ok_X4_copied : okName yX4_copied 2 := ⟨by decide, by decide, by decide +kernel⟩
section KL
variable {p : Program} {l : Launch} {e : Env} {R : Room} {s : State} {m : MethodId} {args : Array Value} {below : List Frame} {meth : Method} {c : Code} {H : Heap} {locs : List Loc} {cells slots : Nat} {Q : State → Prop} {cc : ByteArray} {pc nL : Nat} {ls : Array Slot} {rest : List Value}
variable {A : Nat → Prop} {D : va_G} {cy : Nat → ClassId} {ad : Nat → Nat}
theorem kl_X4_63 (C : gC p m c cc nL s args RX4 D (mT cy) (mw cy ad) A) {σ : MS} (hH : gH s D (mw cy ad) A σ H locs) {x1 x2 : Int32} {α : Type} {k : Int32 → Option α} {y : α} (h : (f_X4_copied σ x1 x2).bind k = some y) (hR : 2 ≤ R.frames ∧ 51 ≤ R.locals) (hcs : cells ≤ R.cells ∧ slots ≤ R.slots) (hl : ls.size = nL) (hW : (rest.map fun v => v.category).sum ≤ 8) (hdg : decode cc pc = .ok (.invokevirtual 63, 3)) (kk : ∀ (r : Int32) (H1 : Heap) (locs1 : List Loc), gH s D (mw cy ad) A σ H1 locs1 → k r = some y → W p l e R s m args below meth c H1 locs1 cells slots Q (F0 m (pc + 3) ls (.int r :: rest))) : W p l e R s m args below meth c H locs cells slots Q (F0 m pc ls (.int x2 :: .int x1 :: .ref (ad 0) :: rest)) := by
  obtain ⟨r, h1, h2⟩ := bnd h
  exact g_fi (g_rV (As := [.int x1, .int x2]) C hH (c_X4_copied l C.2.2.2 σ x1 x2 r h1) (q0 := 0) mw_c_X4_copied mw_m_X4_63 mw_i_X4_copied mw_v_X4_copied mw_in_X4 ok_X4_copied ⟨rfl, rfl⟩ rfl rfl rfl hR hcs hl rfl hW hdg) hH.2 (fun H1 locs1 hH1 => kk r H1 locs1 hH1 h2)
end KL
set_option maxHeartbeats 4000000 in
set_option maxRecDepth 100000 in
theorem c_X4_tipped (l : Launch) {D : va_G} {cy : Nat → ClassId} {ad : Nat → Nat} {A : Nat → Prop} (hD : ∀ σ, va_D A (mw cy ad σ)) (σ : MS) (x1 x2 : Int32) (r0 : Int32) (h : f_X4_tipped σ x1 x2 = some r0) : gMi l yX4_tipped (wsM yX4_tipped cX4_tipped 6 (some .int)) ({ frames := 0, cells := 0, slots := 0, locals := 0 } : Room) D (mT cy) (mw cy ad) A [.ref (ad 0), .int x1, .int x2] σ σ r0 := by
  refine gMi.of (own := RX4) rfl (by decide) (Nat.le_of_ble_eq_true rfl) hD ?_
  intro p e s m below meth c ls C hx hb hr hlk hH hl
  have hl : lv_has ls 6 [(0, .ref (ad 0)), (1, .int x1), (2, .int x2)] := hl
  unfold f_X4_tipped at h
  refine lv_iconst (v := 0) hx hb dX4_tipped_0 (by decide) ?_
  refine lv_istore_n (lv' := [(3, .int (0)), (0, .ref (ad 0)), (1, .int x1), (2, .int x2)]) hx hb dX4_tipped_1 rfl hl (by decide) rfl (fun ls hl => ?_)
  refine lv_iconst (v := 0) hx hb dX4_tipped_2 (by decide) ?_
  refine lv_istore (lv' := [(4, .int (0)), (3, .int (0)), (0, .ref (ad 0)), (1, .int x1), (2, .int x2)]) hx hb dX4_tipped_3 hl (by decide) rfl (fun ls hl => ?_)
  refine lv_iconst (v := 0) hx hb dX4_tipped_5 (by decide) ?_
  refine lv_istore (lv' := [(5, .int (0)), (4, .int (0)), (3, .int (0)), (0, .ref (ad 0)), (1, .int x1), (2, .int x2)]) hx hb dX4_tipped_6 hl (by decide) rfl (fun ls hl => ?_)
  have L8 : ∀ (n : Nat) (y8_3 : Int32) (y8_4 : Int32) (y8_5 : Int32) (H : Heap) (locs : List Loc) (ls : Array Slot), gH s D (mw cy ad) A σ H locs → lv_has ls 6 [(0, .ref (ad 0)), (1, .int x1), (2, .int x2), (3, .int y8_3), (4, .int y8_4), (5, .int y8_5)] → ∀ X, itr (f_X4_tipped_b8 σ x2 x1) n (y8_3, y8_4, y8_5) = some X → (∀ (z8_0_3 : Int32) (z8_0_4 : Int32) (H : Heap) (locs : List Loc) (ls : Array Slot), gH s D (mw cy ad) A σ H locs → lv_has ls 6 [(0, .ref (ad 0)), (1, .int x1), (2, .int x2), (3, .int z8_0_3), (4, .int z8_0_4)] → X = (z8_0_3, z8_0_4) → W p l e ({ frames := 0, cells := 0, slots := 0, locals := 0 } : Room) s m [.ref (ad 0), .int x1, .int x2].toArray below meth c H locs 0 0 (MQ below (gQi D (mw cy ad) A σ r0) [.ref (ad 0), .int x1, .int x2].toArray s 0 0 A) (F0 m 69 ls [])) → W p l e ({ frames := 0, cells := 0, slots := 0, locals := 0 } : Room) s m [.ref (ad 0), .int x1, .int x2].toArray below meth c H locs 0 0 (MQ below (gQi D (mw cy ad) A σ r0) [.ref (ad 0), .int x1, .int x2].toArray s 0 0 A) (F0 m 8 ls []) := by
    intro n
    induction n with
    | zero =>
      intro y8_3 y8_4 y8_5 H locs ls hH hl X h K
      exact itr_0 h
    | succ n ih =>
      intro y8_3 y8_4 y8_5 H locs ls hH hl X h0 K
      obtain ⟨o, h, h2⟩ := itr_step h0
      unfold f_X4_tipped_b8 at h
      refine lv_iload hx hb dX4_tipped_8 (lv_at hl 5 rfl) ?_
      refine lv_aload_n hx hb dX4_tipped_10 rfl (lv_at hl 0 rfl) ?_
      refine gf_X4_7 C hH dX4_tipped_11 ?_
      refine gb_icmp_ge (tgt := 69) hx hb dX4_tipped_14 (by decide) h (fun h => ?_) (fun h => ?_)
      · exact K _ _ _ _ _ hH (lv_sub hl [0, 1, 2, 3, 4] rfl) (nxt_r h h2)
      · refine lv_iload_n hx hb dX4_tipped_17 rfl (lv_at hl 3 rfl) ?_
        refine lv_aload_n hx hb dX4_tipped_18 rfl (lv_at hl 0 rfl) ?_
        refine gf_X4_13 C hH dX4_tipped_19 ?_
        refine lv_bipush (v := 10) hx hb dX4_tipped_22 (by decide) ?_
        refine lv_iload_n hx hb dX4_tipped_24 rfl (lv_at hl 2 rfl) ?_
        refine lv_imul hx hb dX4_tipped_25 ?_
        refine lv_iload hx hb dX4_tipped_26 (lv_at hl 5 rfl) ?_
        refine lv_iadd hx hb dX4_tipped_28 ?_
        refine mal_we C hH h dX4_tipped_29 (fun h => ?_)
        refine lv_iadd hx hb dX4_tipped_30 ?_
        refine lv_istore_n (lv' := [(3, .int (y8_3 + (mwe σ ((((10 : Int32) * x2) + y8_5) : Int32).toNatClampNeg))), (0, .ref (ad 0)), (1, .int x1), (2, .int x2), (4, .int y8_4), (5, .int y8_5)]) hx hb dX4_tipped_31 rfl hl (by decide) rfl (fun ls hl => ?_)
        refine lv_iload hx hb dX4_tipped_32 (lv_at hl 4 rfl) ?_
        refine lv_iload_n hx hb dX4_tipped_34 rfl (lv_at hl 2 rfl) ?_
        refine lv_iload hx hb dX4_tipped_35 (lv_at hl 5 rfl) ?_
        refine lv_ishr hx hb dX4_tipped_37 ?_
        refine lv_iconst (v := 1) hx hb dX4_tipped_38 (by decide) ?_
        refine lv_iand hx hb dX4_tipped_39 ?_
        refine lv_iconst (v := 1) hx hb dX4_tipped_40 (by decide) ?_
        refine gb_icmp_ne (tgt := 59) hx hb dX4_tipped_41 (by decide) h (fun h => ?_) (fun h => ?_)
        · refine lv_iconst (v := 0) hx hb dX4_tipped_59 (by decide) ?_
          refine lv_iadd hx hb dX4_tipped_60 ?_
          refine lv_istore (lv' := [(4, .int (y8_4 + (0 : Int32))), (3, .int (y8_3 + (mwe σ ((((10 : Int32) * x2) + y8_5) : Int32).toNatClampNeg))), (0, .ref (ad 0)), (1, .int x1), (2, .int x2), (5, .int y8_5)]) hx hb dX4_tipped_61 hl (by decide) rfl (fun ls hl => ?_)
          refine lv_iinc (v := (y8_5 + (1 : Int32))) (lv' := [(5, .int (y8_5 + (1 : Int32))), (4, .int (y8_4 + (0 : Int32))), (3, .int (y8_3 + (mwe σ ((((10 : Int32) * x2) + y8_5) : Int32).toNatClampNeg))), (0, .ref (ad 0)), (1, .int x1), (2, .int x2)]) hx hb dX4_tipped_63 hl (k := 5) rfl rfl (by decide) rfl (fun ls hl => ?_)
          refine lv_goto (tgt := 8) hx hb dX4_tipped_66 (by decide) ?_
          exact ih _ _ _ _ _ _ hH (lv_sub hl [3, 4, 5, 2, 1, 0] rfl) X (nxt_l h h2) K
        · refine lv_aload_n hx hb dX4_tipped_44 rfl (lv_at hl 1 rfl) ?_
          refine gf_X4_13 C hH dX4_tipped_45 ?_
          refine lv_bipush (v := 10) hx hb dX4_tipped_48 (by decide) ?_
          refine lv_iload_n hx hb dX4_tipped_50 rfl (lv_at hl 3 rfl) ?_
          refine lv_imul hx hb dX4_tipped_51 ?_
          refine lv_iload hx hb dX4_tipped_52 (lv_at hl 5 rfl) ?_
          refine lv_iadd hx hb dX4_tipped_54 ?_
          refine mal_we C hH h dX4_tipped_55 (fun h => ?_)
          refine lv_goto (tgt := 60) hx hb dX4_tipped_56 (by decide) ?_
          refine lv_iadd hx hb dX4_tipped_60 ?_
          refine lv_istore (lv' := [(4, .int (y8_4 + (mwe σ ((((10 : Int32) * x2) + y8_5) : Int32).toNatClampNeg))), (3, .int (y8_3 + (mwe σ ((((10 : Int32) * x2) + y8_5) : Int32).toNatClampNeg))), (0, .ref (ad 0)), (1, .int x1), (2, .int x2), (5, .int y8_5)]) hx hb dX4_tipped_61 hl (by decide) rfl (fun ls hl => ?_)
          refine lv_iinc (v := (y8_5 + (1 : Int32))) (lv' := [(5, .int (y8_5 + (1 : Int32))), (4, .int (y8_4 + (mwe σ ((((10 : Int32) * x2) + y8_5) : Int32).toNatClampNeg))), (3, .int (y8_3 + (mwe σ ((((10 : Int32) * x2) + y8_5) : Int32).toNatClampNeg))), (0, .ref (ad 0)), (1, .int x1), (2, .int x2)]) hx hb dX4_tipped_63 hl (k := 5) rfl rfl (by decide) rfl (fun ls hl => ?_)
          refine lv_goto (tgt := 8) hx hb dX4_tipped_66 (by decide) ?_
          exact ih _ _ _ _ _ _ hH (lv_sub hl [3, 4, 5, 2, 1, 0] rfl) X (nxt_l h h2) K
  obtain ⟨X8, hX8, h⟩ := bnd h
  refine L8 FU ((0 : Int32)) ((0 : Int32)) ((0 : Int32)) _ _ _ hH (lv_sub hl [3, 4, 5, 2, 1, 0] rfl) X8 hX8 ?_
  intro z8_0_3 z8_0_4 H locs ls hH hl hE
  replace hE := hE.symm
  subst hE
  refine lv_iload_n hx hb dX4_tipped_69 rfl (lv_at hl 3 rfl) ?_
  refine gb_if_ne (tgt := 81) hx hb dX4_tipped_70 (by decide) h (fun h => ?_) (fun h => ?_)
  · refine lv_bipush (v := 100) hx hb dX4_tipped_81 (by decide) ?_
    refine lv_iload hx hb dX4_tipped_83 (lv_at hl 4 rfl) ?_
    refine lv_imul hx hb dX4_tipped_85 ?_
    refine lv_aload_n hx hb dX4_tipped_86 rfl (lv_at hl 0 rfl) ?_
    refine gf_X4_20 C hH dX4_tipped_87 ?_
    refine lv_iload_n hx hb dX4_tipped_90 rfl (lv_at hl 3 rfl) ?_
    refine lv_imul hx hb dX4_tipped_91 ?_
    refine gb_icmp_lt (tgt := 99) hx hb dX4_tipped_92 (by decide) h (fun h => ?_) (fun h => ?_)
    · refine lv_iconst (v := 0) hx hb dX4_tipped_99 (by decide) ?_
      exact g_iret hx hb hr hlk hH ⟨Option.some.inj h, rfl⟩ dX4_tipped_100
    · refine lv_iconst (v := 1) hx hb dX4_tipped_95 (by decide) ?_
      refine lv_goto (tgt := 100) hx hb dX4_tipped_96 (by decide) ?_
      exact g_iret hx hb hr hlk hH ⟨Option.some.inj h, rfl⟩ dX4_tipped_100
  · refine lv_iload_n hx hb dX4_tipped_73 rfl (lv_at hl 1 rfl) ?_
    refine lv_iload_n hx hb dX4_tipped_74 rfl (lv_at hl 2 rfl) ?_
    refine lv_ishr hx hb dX4_tipped_75 ?_
    refine lv_iconst (v := 1) hx hb dX4_tipped_76 (by decide) ?_
    refine lv_iand hx hb dX4_tipped_77 ?_
    refine lv_goto (tgt := 100) hx hb dX4_tipped_78 (by decide) ?_
    exact g_iret hx hb hr hlk hH ⟨Option.some.inj h, rfl⟩ dX4_tipped_100
theorem ok_X4_tipped : okName yX4_tipped 2 := ⟨by decide, by decide, by decide +kernel⟩
section KL
variable {p : Program} {l : Launch} {e : Env} {R : Room} {s : State} {m : MethodId} {args : Array Value} {below : List Frame} {meth : Method} {c : Code} {H : Heap} {locs : List Loc} {cells slots : Nat} {Q : State → Prop} {cc : ByteArray} {pc nL : Nat} {ls : Array Slot} {rest : List Value}
variable {A : Nat → Prop} {D : va_G} {cy : Nat → ClassId} {ad : Nat → Nat}
theorem kl_X4_67 (C : gC p m c cc nL s args RX4 D (mT cy) (mw cy ad) A) {σ : MS} (hH : gH s D (mw cy ad) A σ H locs) {x1 x2 : Int32} {α : Type} {k : Int32 → Option α} {y : α} (h : (f_X4_tipped σ x1 x2).bind k = some y) (hR : 1 ≤ R.frames ∧ 25 ≤ R.locals) (hcs : cells ≤ R.cells ∧ slots ≤ R.slots) (hl : ls.size = nL) (hW : (rest.map fun v => v.category).sum ≤ 8) (hdg : decode cc pc = .ok (.invokevirtual 67, 3)) (kk : ∀ (r : Int32) (H1 : Heap) (locs1 : List Loc), gH s D (mw cy ad) A σ H1 locs1 → k r = some y → W p l e R s m args below meth c H1 locs1 cells slots Q (F0 m (pc + 3) ls (.int r :: rest))) : W p l e R s m args below meth c H locs cells slots Q (F0 m pc ls (.int x2 :: .int x1 :: .ref (ad 0) :: rest)) := by
  obtain ⟨r, h1, h2⟩ := bnd h
  exact g_fi (g_rV (As := [.int x1, .int x2]) C hH (c_X4_tipped l C.2.2.2 σ x1 x2 r h1) (q0 := 0) mw_c_X4_tipped mw_m_X4_67 mw_i_X4_tipped mw_v_X4_tipped mw_in_X4 ok_X4_tipped ⟨rfl, rfl⟩ rfl rfl rfl hR hcs hl rfl hW hdg) hH.2 (fun H1 locs1 hH1 => kk r H1 locs1 hH1 h2)
end KL
