set_option maxHeartbeats 4000000 in
set_option maxRecDepth 100000 in
theorem c_X4_wayBehind (l : Launch) {D : va_G} {cy : Nat → ClassId} {ad : Nat → Nat} {A : Nat → Prop} (hD : ∀ σ, va_D A (mw cy ad σ)) (σ : MS) (x1 x2 x3 : Int32) (r0 : Int32) (h : f_X4_wayBehind σ x1 x2 x3 = some r0) : gMi l yX4_wayBehind (wsM yX4_wayBehind cX4_wayBehind 4 (some .int)) ({ frames := 2, cells := 0, slots := 0, locals := 51 } : Room) D (mT cy) (mw cy ad) A [.ref (ad 0), .int x1, .int x2, .int x3] σ σ r0 := by
  refine gMi.of (own := RX4) rfl (by decide) (Nat.le_of_ble_eq_true rfl) hD ?_
  intro p e s m below meth c ls C hx hb hr hlk hH hl
  have hl : lv_has ls 4 [(0, .ref (ad 0)), (1, .int x1), (2, .int x2), (3, .int x3)] := hl
  unfold f_X4_wayBehind at h
  refine lv_iload_n hx hb dX4_wayBehind_0 rfl (lv_at hl 1 rfl) ?_
  refine lv_iconst (v := 1) hx hb dX4_wayBehind_1 (by decide) ?_
  refine gb_icmp_ne (tgt := 12) hx hb dX4_wayBehind_2 (by decide) h (fun h => ?_) (fun h => ?_)
  · refine lv_iload_n hx hb dX4_wayBehind_12 rfl (lv_at hl 1 rfl) ?_
    refine lv_iconst (v := 2) hx hb dX4_wayBehind_13 (by decide) ?_
    refine gb_icmp_ne (tgt := 26) hx hb dX4_wayBehind_14 (by decide) h (fun h => ?_) (fun h => ?_)
    · refine lv_aload_n hx hb dX4_wayBehind_26 rfl (lv_at hl 0 rfl) ?_
      refine lv_iload_n hx hb dX4_wayBehind_27 rfl (lv_at hl 2 rfl) ?_
      refine lv_iload_n hx hb dX4_wayBehind_28 rfl (lv_at hl 3 rfl) ?_
      refine kl_X4_70 C hH h ⟨by decide, by decide⟩ ⟨by decide, by decide⟩ hl.1 (Nat.le_of_ble_eq_true rfl) dX4_wayBehind_29 (fun r1 H locs hH h => ?_)
      refine gb_if_eq (tgt := 45) hx hb dX4_wayBehind_32 (by decide) h (fun h => ?_) (fun h => ?_)
      · refine lv_iload_n hx hb dX4_wayBehind_45 rfl (lv_at hl 2 rfl) ?_
        refine lv_iload_n hx hb dX4_wayBehind_46 rfl (lv_at hl 3 rfl) ?_
        refine lv_ishr hx hb dX4_wayBehind_47 ?_
        refine lv_iconst (v := 1) hx hb dX4_wayBehind_48 (by decide) ?_
        refine lv_iand hx hb dX4_wayBehind_49 ?_
        exact g_iret hx hb hr hlk hH ⟨Option.some.inj h, rfl⟩ dX4_wayBehind_50
      · refine lv_iconst (v := 1) hx hb dX4_wayBehind_35 (by decide) ?_
        refine lv_iload_n hx hb dX4_wayBehind_36 rfl (lv_at hl 2 rfl) ?_
        refine lv_iload_n hx hb dX4_wayBehind_37 rfl (lv_at hl 3 rfl) ?_
        refine lv_ishr hx hb dX4_wayBehind_38 ?_
        refine lv_iconst (v := 1) hx hb dX4_wayBehind_39 (by decide) ?_
        refine lv_iand hx hb dX4_wayBehind_40 ?_
        refine lv_isub hx hb dX4_wayBehind_41 ?_
        refine lv_goto (tgt := 50) hx hb dX4_wayBehind_42 (by decide) ?_
        exact g_iret hx hb hr hlk hH ⟨Option.some.inj h, rfl⟩ dX4_wayBehind_50
    · refine lv_aload_n hx hb dX4_wayBehind_17 rfl (lv_at hl 0 rfl) ?_
      refine lv_iload_n hx hb dX4_wayBehind_18 rfl (lv_at hl 2 rfl) ?_
      refine lv_iload_n hx hb dX4_wayBehind_19 rfl (lv_at hl 3 rfl) ?_
      refine kl_X4_67 C hH h ⟨by decide, by decide⟩ ⟨by decide, by decide⟩ hl.1 (Nat.le_of_ble_eq_true rfl) dX4_wayBehind_20 (fun r2 H locs hH h => ?_)
      refine lv_goto (tgt := 50) hx hb dX4_wayBehind_23 (by decide) ?_
      exact g_iret hx hb hr hlk hH ⟨Option.some.inj h, rfl⟩ dX4_wayBehind_50
  · refine lv_aload_n hx hb dX4_wayBehind_5 rfl (lv_at hl 0 rfl) ?_
    refine lv_iload_n hx hb dX4_wayBehind_6 rfl (lv_at hl 2 rfl) ?_
    refine lv_iload_n hx hb dX4_wayBehind_7 rfl (lv_at hl 3 rfl) ?_
    refine kl_X4_63 C hH h ⟨by decide, by decide⟩ ⟨by decide, by decide⟩ hl.1 (Nat.le_of_ble_eq_true rfl) dX4_wayBehind_8 (fun r3 H locs hH h => ?_)
    exact g_iret hx hb hr hlk hH ⟨Option.some.inj h, rfl⟩ dX4_wayBehind_11
theorem ok_X4_wayBehind : okName yX4_wayBehind 3 := ⟨by decide, by decide, by decide +kernel⟩
section KL
variable {p : Program} {l : Launch} {e : Env} {R : Room} {s : State} {m : MethodId} {args : Array Value} {below : List Frame} {meth : Method} {c : Code} {H : Heap} {locs : List Loc} {cells slots : Nat} {Q : State → Prop} {cc : ByteArray} {pc nL : Nat} {ls : Array Slot} {rest : List Value}
variable {A : Nat → Prop} {D : va_G} {cy : Nat → ClassId} {ad : Nat → Nat}
theorem kl_X4_73 (C : gC p m c cc nL s args RX4 D (mT cy) (mw cy ad) A) {σ : MS} (hH : gH s D (mw cy ad) A σ H locs) {x1 x2 x3 : Int32} {α : Type} {k : Int32 → Option α} {y : α} (h : (f_X4_wayBehind σ x1 x2 x3).bind k = some y) (hR : 3 ≤ R.frames ∧ 74 ≤ R.locals) (hcs : cells ≤ R.cells ∧ slots ≤ R.slots) (hl : ls.size = nL) (hW : (rest.map fun v => v.category).sum ≤ 8) (hdg : decode cc pc = .ok (.invokevirtual 73, 3)) (kk : ∀ (r : Int32) (H1 : Heap) (locs1 : List Loc), gH s D (mw cy ad) A σ H1 locs1 → k r = some y → W p l e R s m args below meth c H1 locs1 cells slots Q (F0 m (pc + 3) ls (.int r :: rest))) : W p l e R s m args below meth c H locs cells slots Q (F0 m pc ls (.int x3 :: .int x2 :: .int x1 :: .ref (ad 0) :: rest)) := by
  obtain ⟨r, h1, h2⟩ := bnd h
  exact g_fi (g_rV (As := [.int x1, .int x2, .int x3]) C hH (c_X4_wayBehind l C.2.2.2 σ x1 x2 x3 r h1) (q0 := 0) mw_c_X4_wayBehind mw_m_X4_73 mw_i_X4_wayBehind mw_v_X4_wayBehind mw_in_X4 ok_X4_wayBehind ⟨rfl, rfl⟩ rfl rfl rfl hR hcs hl rfl hW hdg) hH.2 (fun H1 locs1 hH1 => kk r H1 locs1 hH1 h2)
end KL
set_option maxHeartbeats 4000000 in
set_option maxRecDepth 100000 in
theorem c_X4_next (l : Launch) {D : va_G} {cy : Nat → ClassId} {ad : Nat → Nat} {A : Nat → Prop} (hD : ∀ σ, va_D A (mw cy ad σ)) (σ : MS) (x1 x2 x3 : Int32) (r0 : Int32) (h : f_X4_next σ x1 x2 x3 = some r0) : gMi l yX4_next (wsM yX4_next cX4_next 7 (some .int)) ({ frames := 3, cells := 0, slots := 0, locals := 74 } : Room) D (mT cy) (mw cy ad) A [.ref (ad 0), .int x1, .int x2, .int x3] σ σ r0 := by
  refine gMi.of (own := RX4) rfl (by decide) (Nat.le_of_ble_eq_true rfl) hD ?_
  intro p e s m below meth c ls C hx hb hr hlk hH hl
  have hl : lv_has ls 7 [(0, .ref (ad 0)), (1, .int x1), (2, .int x2), (3, .int x3)] := hl
  unfold f_X4_next at h
  refine lv_iload_n hx hb dX4_next_0 rfl (lv_at hl 2 rfl) ?_
  refine lv_istore (lv' := [(4, .int x2), (0, .ref (ad 0)), (1, .int x1), (2, .int x2), (3, .int x3)]) hx hb dX4_next_1 hl (by decide) rfl (fun ls hl => ?_)
  refine lv_iconst (v := 0) hx hb dX4_next_3 (by decide) ?_
  refine lv_istore (lv' := [(5, .int (0)), (4, .int x2), (0, .ref (ad 0)), (1, .int x1), (2, .int x2), (3, .int x3)]) hx hb dX4_next_4 hl (by decide) rfl (fun ls hl => ?_)
  have L6 : ∀ (n : Nat) (y6_4 : Int32) (y6_5 : Int32) (H : Heap) (locs : List Loc) (ls : Array Slot), gH s D (mw cy ad) A σ H locs → lv_has ls 7 [(0, .ref (ad 0)), (1, .int x1), (2, .int x2), (3, .int x3), (4, .int y6_4), (5, .int y6_5)] → ∀ X, itr (f_X4_next_b6 σ x3 x1 x2) n (y6_4, y6_5) = some X → (∀ (z6_0_4 : Int32) (H : Heap) (locs : List Loc) (ls : Array Slot), gH s D (mw cy ad) A σ H locs → lv_has ls 7 [(4, .int z6_0_4)] → X = z6_0_4 → W p l e ({ frames := 3, cells := 0, slots := 0, locals := 74 } : Room) s m [.ref (ad 0), .int x1, .int x2, .int x3].toArray below meth c H locs 0 0 (MQ below (gQi D (mw cy ad) A σ r0) [.ref (ad 0), .int x1, .int x2, .int x3].toArray s 0 0 A) (F0 m 77 ls [])) → W p l e ({ frames := 3, cells := 0, slots := 0, locals := 74 } : Room) s m [.ref (ad 0), .int x1, .int x2, .int x3].toArray below meth c H locs 0 0 (MQ below (gQi D (mw cy ad) A σ r0) [.ref (ad 0), .int x1, .int x2, .int x3].toArray s 0 0 A) (F0 m 6 ls []) := by
    intro n
    induction n with
    | zero =>
      intro y6_4 y6_5 H locs ls hH hl X h K
      exact itr_0 h
    | succ n ih =>
      intro y6_4 y6_5 H locs ls hH hl X h0 K
      obtain ⟨o, h, h2⟩ := itr_step h0
      unfold f_X4_next_b6 at h
      refine lv_iload hx hb dX4_next_6 (lv_at hl 5 rfl) ?_
      refine lv_aload_n hx hb dX4_next_8 rfl (lv_at hl 0 rfl) ?_
      refine gf_X4_7 C hH dX4_next_9 ?_
      refine gb_icmp_ge (tgt := 77) hx hb dX4_next_12 (by decide) h (fun h => ?_) (fun h => ?_)
      · exact K _ _ _ _ hH (lv_sub hl [4] rfl) (nxt_r h h2)
      · refine lv_iload_n hx hb dX4_next_15 rfl (lv_at hl 3 rfl) ?_
        refine lv_iload hx hb dX4_next_16 (lv_at hl 5 rfl) ?_
        refine lv_ishr hx hb dX4_next_18 ?_
        refine lv_iconst (v := 1) hx hb dX4_next_19 (by decide) ?_
        refine lv_iand hx hb dX4_next_20 ?_
        refine gb_if_ne (tgt := 71) hx hb dX4_next_21 (by decide) h (fun h => ?_) (fun h => ?_)
        · refine lv_iinc (v := (y6_5 + (1 : Int32))) (lv' := [(5, .int (y6_5 + (1 : Int32))), (0, .ref (ad 0)), (1, .int x1), (2, .int x2), (3, .int x3), (4, .int y6_4)]) hx hb dX4_next_71 hl (k := 5) rfl rfl (by decide) rfl (fun ls hl => ?_)
          refine lv_goto (tgt := 6) hx hb dX4_next_74 (by decide) ?_
          exact ih _ _ _ _ _ hH (lv_sub hl [1, 2, 3, 4, 5, 0] rfl) X (nxt_l h h2) K
        · refine lv_aload_n hx hb dX4_next_24 rfl (lv_at hl 0 rfl) ?_
          refine lv_iload_n hx hb dX4_next_25 rfl (lv_at hl 1 rfl) ?_
          refine lv_iload_n hx hb dX4_next_26 rfl (lv_at hl 1 rfl) ?_
          refine lv_iconst (v := 3) hx hb dX4_next_27 (by decide) ?_
          refine gb_icmp_ne (tgt := 36) hx hb dX4_next_28 (by decide) h (fun h => ?_) (fun h => ?_)
          · refine lv_iload_n hx hb dX4_next_36 rfl (lv_at hl 2 rfl) ?_
            refine lv_iload hx hb dX4_next_37 (lv_at hl 5 rfl) ?_
            refine kl_X4_73 C hH h ⟨by decide, by decide⟩ ⟨by decide, by decide⟩ hl.1 (Nat.le_of_ble_eq_true rfl) dX4_next_39 (fun r1 H locs hH h => ?_)
            refine lv_istore (lv' := [(6, .int r1), (0, .ref (ad 0)), (1, .int x1), (2, .int x2), (3, .int x3), (4, .int y6_4), (5, .int y6_5)]) hx hb dX4_next_42 hl (by decide) rfl (fun ls hl => ?_)
            refine lv_iload hx hb dX4_next_44 (lv_at hl 0 rfl) ?_
            refine lv_iconst (v := 1) hx hb dX4_next_46 (by decide) ?_
            refine gb_icmp_ne (tgt := 60) hx hb dX4_next_47 (by decide) h (fun h => ?_) (fun h => ?_)
            · refine lv_iload hx hb dX4_next_60 (lv_at hl 5 rfl) ?_
              refine lv_iconst (v := 1) hx hb dX4_next_62 (by decide) ?_
              refine lv_iload hx hb dX4_next_63 (lv_at hl 6 rfl) ?_
              refine lv_ishl hx hb dX4_next_65 ?_
              refine lv_iconst (v := -1) hx hb dX4_next_66 (by decide) ?_
              refine lv_ixor hx hb dX4_next_67 ?_
              refine lv_iand hx hb dX4_next_68 ?_
              refine lv_istore (lv' := [(4, .int (y6_4 &&& (((1 : Int32) <<< (y6_5 &&& 31)) ^^^ (-1 : Int32)))), (6, .int r1), (0, .ref (ad 0)), (1, .int x1), (2, .int x2), (3, .int x3), (5, .int y6_5)]) hx hb dX4_next_69 hl (by decide) rfl (fun ls hl => ?_)
              refine lv_iinc (v := (y6_5 + (1 : Int32))) (lv' := [(5, .int (y6_5 + (1 : Int32))), (4, .int (y6_4 &&& (((1 : Int32) <<< (y6_5 &&& 31)) ^^^ (-1 : Int32)))), (6, .int r1), (0, .ref (ad 0)), (1, .int x1), (2, .int x2), (3, .int x3)]) hx hb dX4_next_71 hl (k := 6) rfl rfl (by decide) rfl (fun ls hl => ?_)
              refine lv_goto (tgt := 6) hx hb dX4_next_74 (by decide) ?_
              exact ih _ _ _ _ _ hH (lv_sub hl [3, 4, 5, 6, 1, 0] rfl) X (nxt_l h h2) K
            · refine lv_iload hx hb dX4_next_50 (lv_at hl 5 rfl) ?_
              refine lv_iconst (v := 1) hx hb dX4_next_52 (by decide) ?_
              refine lv_iload hx hb dX4_next_53 (lv_at hl 6 rfl) ?_
              refine lv_ishl hx hb dX4_next_55 ?_
              refine lv_ior hx hb dX4_next_56 ?_
              refine lv_goto (tgt := 69) hx hb dX4_next_57 (by decide) ?_
              refine lv_istore (lv' := [(4, .int (y6_4 ||| ((1 : Int32) <<< (y6_5 &&& 31)))), (6, .int r1), (0, .ref (ad 0)), (1, .int x1), (2, .int x2), (3, .int x3), (5, .int y6_5)]) hx hb dX4_next_69 hl (by decide) rfl (fun ls hl => ?_)
              refine lv_iinc (v := (y6_5 + (1 : Int32))) (lv' := [(5, .int (y6_5 + (1 : Int32))), (4, .int (y6_4 ||| ((1 : Int32) <<< (y6_5 &&& 31)))), (6, .int r1), (0, .ref (ad 0)), (1, .int x1), (2, .int x2), (3, .int x3)]) hx hb dX4_next_71 hl (k := 6) rfl rfl (by decide) rfl (fun ls hl => ?_)
              refine lv_goto (tgt := 6) hx hb dX4_next_74 (by decide) ?_
              exact ih _ _ _ _ _ hH (lv_sub hl [3, 4, 5, 6, 1, 0] rfl) X (nxt_l h h2) K
          · refine lv_iload hx hb dX4_next_31 (lv_at hl 4 rfl) ?_
            refine lv_goto (tgt := 37) hx hb dX4_next_33 (by decide) ?_
            refine lv_iload hx hb dX4_next_37 (lv_at hl 5 rfl) ?_
            refine kl_X4_73 C hH h ⟨by decide, by decide⟩ ⟨by decide, by decide⟩ hl.1 (Nat.le_of_ble_eq_true rfl) dX4_next_39 (fun r2 H locs hH h => ?_)
            refine lv_istore (lv' := [(6, .int r2), (0, .ref (ad 0)), (1, .int x1), (2, .int x2), (3, .int x3), (4, .int y6_4), (5, .int y6_5)]) hx hb dX4_next_42 hl (by decide) rfl (fun ls hl => ?_)
            refine lv_iload hx hb dX4_next_44 (lv_at hl 0 rfl) ?_
            refine lv_iconst (v := 1) hx hb dX4_next_46 (by decide) ?_
            refine gb_icmp_ne (tgt := 60) hx hb dX4_next_47 (by decide) h (fun h => ?_) (fun h => ?_)
            · refine lv_iload hx hb dX4_next_60 (lv_at hl 5 rfl) ?_
              refine lv_iconst (v := 1) hx hb dX4_next_62 (by decide) ?_
              refine lv_iload hx hb dX4_next_63 (lv_at hl 6 rfl) ?_
              refine lv_ishl hx hb dX4_next_65 ?_
              refine lv_iconst (v := -1) hx hb dX4_next_66 (by decide) ?_
              refine lv_ixor hx hb dX4_next_67 ?_
              refine lv_iand hx hb dX4_next_68 ?_
              refine lv_istore (lv' := [(4, .int (y6_4 &&& (((1 : Int32) <<< (y6_5 &&& 31)) ^^^ (-1 : Int32)))), (6, .int r2), (0, .ref (ad 0)), (1, .int x1), (2, .int x2), (3, .int x3), (5, .int y6_5)]) hx hb dX4_next_69 hl (by decide) rfl (fun ls hl => ?_)
              refine lv_iinc (v := (y6_5 + (1 : Int32))) (lv' := [(5, .int (y6_5 + (1 : Int32))), (4, .int (y6_4 &&& (((1 : Int32) <<< (y6_5 &&& 31)) ^^^ (-1 : Int32)))), (6, .int r2), (0, .ref (ad 0)), (1, .int x1), (2, .int x2), (3, .int x3)]) hx hb dX4_next_71 hl (k := 6) rfl rfl (by decide) rfl (fun ls hl => ?_)
              refine lv_goto (tgt := 6) hx hb dX4_next_74 (by decide) ?_
              exact ih _ _ _ _ _ hH (lv_sub hl [3, 4, 5, 6, 1, 0] rfl) X (nxt_l h h2) K
            · refine lv_iload hx hb dX4_next_50 (lv_at hl 5 rfl) ?_
              refine lv_iconst (v := 1) hx hb dX4_next_52 (by decide) ?_
              refine lv_iload hx hb dX4_next_53 (lv_at hl 6 rfl) ?_
              refine lv_ishl hx hb dX4_next_55 ?_
              refine lv_ior hx hb dX4_next_56 ?_
              refine lv_goto (tgt := 69) hx hb dX4_next_57 (by decide) ?_
              refine lv_istore (lv' := [(4, .int (y6_4 ||| ((1 : Int32) <<< (y6_5 &&& 31)))), (6, .int r2), (0, .ref (ad 0)), (1, .int x1), (2, .int x2), (3, .int x3), (5, .int y6_5)]) hx hb dX4_next_69 hl (by decide) rfl (fun ls hl => ?_)
              refine lv_iinc (v := (y6_5 + (1 : Int32))) (lv' := [(5, .int (y6_5 + (1 : Int32))), (4, .int (y6_4 ||| ((1 : Int32) <<< (y6_5 &&& 31)))), (6, .int r2), (0, .ref (ad 0)), (1, .int x1), (2, .int x2), (3, .int x3)]) hx hb dX4_next_71 hl (k := 6) rfl rfl (by decide) rfl (fun ls hl => ?_)
              refine lv_goto (tgt := 6) hx hb dX4_next_74 (by decide) ?_
              exact ih _ _ _ _ _ hH (lv_sub hl [3, 4, 5, 6, 1, 0] rfl) X (nxt_l h h2) K
  obtain ⟨X6, hX6, h⟩ := bnd h
  refine L6 FU x2 ((0 : Int32)) _ _ _ hH (lv_sub hl [2, 3, 4, 5, 1, 0] rfl) X6 hX6 ?_
  intro z6_0_4 H locs ls hH hl hE
  replace hE := hE.symm
  subst hE
  refine lv_iload hx hb dX4_next_77 (lv_at hl 0 rfl) ?_
  exact g_iret hx hb hr hlk hH ⟨Option.some.inj h, rfl⟩ dX4_next_79
theorem ok_X4_next : okName yX4_next 3 := ⟨by decide, by decide, by decide +kernel⟩
section KL
variable {p : Program} {l : Launch} {e : Env} {R : Room} {s : State} {m : MethodId} {args : Array Value} {below : List Frame} {meth : Method} {c : Code} {H : Heap} {locs : List Loc} {cells slots : Nat} {Q : State → Prop} {cc : ByteArray} {pc nL : Nat} {ls : Array Slot} {rest : List Value}
variable {A : Nat → Prop} {D : va_G} {cy : Nat → ClassId} {ad : Nat → Nat}
theorem kl_X4_79 (C : gC p m c cc nL s args RX4 D (mT cy) (mw cy ad) A) {σ : MS} (hH : gH s D (mw cy ad) A σ H locs) {x1 x2 x3 : Int32} {α : Type} {k : Int32 → Option α} {y : α} (h : (f_X4_next σ x1 x2 x3).bind k = some y) (hR : 4 ≤ R.frames ∧ 100 ≤ R.locals) (hcs : cells ≤ R.cells ∧ slots ≤ R.slots) (hl : ls.size = nL) (hW : (rest.map fun v => v.category).sum ≤ 8) (hdg : decode cc pc = .ok (.invokevirtual 79, 3)) (kk : ∀ (r : Int32) (H1 : Heap) (locs1 : List Loc), gH s D (mw cy ad) A σ H1 locs1 → k r = some y → W p l e R s m args below meth c H1 locs1 cells slots Q (F0 m (pc + 3) ls (.int r :: rest))) : W p l e R s m args below meth c H locs cells slots Q (F0 m pc ls (.int x3 :: .int x2 :: .int x1 :: .ref (ad 0) :: rest)) := by
  obtain ⟨r, h1, h2⟩ := bnd h
  exact g_fi (g_rV (As := [.int x1, .int x2, .int x3]) C hH (c_X4_next l C.2.2.2 σ x1 x2 x3 r h1) (q0 := 0) mw_c_X4_next mw_m_X4_79 mw_i_X4_next mw_v_X4_next mw_in_X4 ok_X4_next ⟨rfl, rfl⟩ rfl rfl rfl hR hcs hl rfl hW hdg) hH.2 (fun H1 locs1 hH1 => kk r H1 locs1 hH1 h2)
end KL
set_option maxHeartbeats 4000000 in
set_option maxRecDepth 100000 in
theorem c_X4_isRule (l : Launch) {D : va_G} {cy : Nat → ClassId} {ad : Nat → Nat} {A : Nat → Prop} (hD : ∀ σ, va_D A (mw cy ad σ)) (σ : MS) (x0 : Int32) (r0 : Int32) (h : f_X4_isRule x0 = some r0) : gMi l yX4_isRule (wsM yX4_isRule cX4_isRule 1 (some .boolean)) ({ frames := 1, cells := 0, slots := 0, locals := 22 } : Room) D (mT cy) (mw cy ad) A [.int x0] σ σ r0 := by
  refine gMi.of (own := RX4) rfl (by decide) (Nat.le_of_ble_eq_true rfl) hD ?_
  intro p e s m below meth c ls C hx hb hr hlk hH hl
  have hl : lv_has ls 1 [(0, .int x0)] := hl
  unfold f_X4_isRule at h
  refine lv_iload_n hx hb dX4_isRule_0 rfl (lv_at hl 0 rfl) ?_
  refine lv_iconst (v := 0) hx hb dX4_isRule_1 (by decide) ?_
  refine lv_iconst (v := 3) hx hb dX4_isRule_2 (by decide) ?_
  refine kl_X4_32 C hH h ⟨by decide, by decide⟩ ⟨by decide, by decide⟩ hl.1 (Nat.le_of_ble_eq_true rfl) dX4_isRule_3 (fun r1 H locs hH h => ?_)
  exact g_bret hx hb hr hlk hH h (fun h => ⟨Option.some.inj h, rfl⟩) dX4_isRule_6
theorem ok_X4_isRule : okName yX4_isRule 1 := ⟨by decide, by decide, by decide +kernel⟩
section KL
variable {p : Program} {l : Launch} {e : Env} {R : Room} {s : State} {m : MethodId} {args : Array Value} {below : List Frame} {meth : Method} {c : Code} {H : Heap} {locs : List Loc} {cells slots : Nat} {Q : State → Prop} {cc : ByteArray} {pc nL : Nat} {ls : Array Slot} {rest : List Value}
variable {A : Nat → Prop} {D : va_G} {cy : Nat → ClassId} {ad : Nat → Nat}
theorem kl_X4_76 (C : gC p m c cc nL s args RX4 D (mT cy) (mw cy ad) A) {σ : MS} (hH : gH s D (mw cy ad) A σ H locs) {x1 : Int32} {α : Type} {k : Int32 → Option α} {y : α} (h : (f_X4_isRule x1).bind k = some y) (hR : 2 ≤ R.frames ∧ 42 ≤ R.locals) (hcs : cells ≤ R.cells ∧ slots ≤ R.slots) (hl : ls.size = nL) (hW : (rest.map fun v => v.category).sum ≤ 8) (hdg : decode cc pc = .ok (.invokestatic 76, 3)) (kk : ∀ (r : Int32) (H1 : Heap) (locs1 : List Loc), gH s D (mw cy ad) A σ H1 locs1 → k r = some y → W p l e R s m args below meth c H1 locs1 cells slots Q (F0 m (pc + 3) ls (.int r :: rest))) : W p l e R s m args below meth c H locs cells slots Q (F0 m pc ls (.int x1 :: rest)) := by
  obtain ⟨r, h1, h2⟩ := bnd h
  exact g_fi (g_rS (As := [.int x1]) C hH (c_X4_isRule l C.2.2.2 σ x1 r h1) mw_c_X4_isRule mw_m_X4_76 mw_s_X4_isRule mw_in_X4 ok_X4_isRule ⟨rfl, rfl⟩ rfl hR hcs hl rfl hW hdg) hH.2 (fun H1 locs1 hH1 => kk r H1 locs1 hH1 h2)
end KL
set_option maxHeartbeats 4000000 in
set_option maxRecDepth 100000 in
theorem c_X4_step (l : Launch) {D : va_G} {cy : Nat → ClassId} {ad : Nat → Nat} {A : Nat → Prop} (hD : ∀ σ, va_D A (mw cy ad σ)) (σ : MS) (x1 x2 : Int32) (r0 : Int32) (σ0 : MS) (h : f_X4_step σ x1 x2 = some (r0, σ0)) : gMi l yX4_step (wsM yX4_step cX4_step 4 (some .int)) ({ frames := 4, cells := 0, slots := 0, locals := 100 } : Room) D (mT cy) (mw cy ad) A [.ref (ad 0), .int x1, .int x2] σ σ0 r0 := by
  refine gMi.of (own := RX4) rfl (by decide) (Nat.le_of_ble_eq_true rfl) hD ?_
  intro p e s m below meth c ls C hx hb hr hlk hH hl
  have hl : lv_has ls 4 [(0, .ref (ad 0)), (1, .int x1), (2, .int x2)] := hl
  unfold f_X4_step at h
  refine lv_iload_n hx hb dX4_step_0 rfl (lv_at hl 1 rfl) ?_
  refine kl_X4_76 C hH h ⟨by decide, by decide⟩ ⟨by decide, by decide⟩ hl.1 (Nat.le_of_ble_eq_true rfl) dX4_step_1 (fun r1 H locs hH h => ?_)
  refine gb_if_eq (tgt := 17) hx hb dX4_step_4 (by decide) h (fun h => ?_) (fun h => ?_)
  · refine lv_bipush (v := -2) hx hb dX4_step_17 (by decide) ?_
    exact g_iret hx hb hr hlk hH (Prod.mk.inj (Option.some.inj h)) dX4_step_19
  · refine lv_iload_n hx hb dX4_step_7 rfl (lv_at hl 2 rfl) ?_
    refine lv_iconst (v := 1) hx hb dX4_step_8 (by decide) ?_
    refine lv_bipush (v := 100) hx hb dX4_step_9 (by decide) ?_
    refine kl_X4_32 C hH h ⟨by decide, by decide⟩ ⟨by decide, by decide⟩ hl.1 (Nat.le_of_ble_eq_true rfl) dX4_step_11 (fun r2 H locs hH h => ?_)
    refine gb_if_ne (tgt := 20) hx hb dX4_step_14 (by decide) h (fun h => ?_) (fun h => ?_)
    · refine lv_iconst (v := 0) hx hb dX4_step_20 (by decide) ?_
      refine lv_istore_n (lv' := [(3, .int (0)), (0, .ref (ad 0)), (1, .int x1), (2, .int x2)]) hx hb dX4_step_21 rfl hl (by decide) rfl (fun ls hl => ?_)
      have L22 : ∀ (n : Nat) (y22_3 : Int32) (σ22 : MS) (H : Heap) (locs : List Loc) (ls : Array Slot), gH s D (mw cy ad) A σ22 H locs → lv_has ls 4 [(0, .ref (ad 0)), (1, .int x1), (2, .int x2), (3, .int y22_3)] → ∀ X, itr (f_X4_step_b22 x2 x1) n (y22_3, σ22) = some X → (∀ (σz22_0 : MS) (H : Heap) (locs : List Loc) (ls : Array Slot), gH s D (mw cy ad) A σz22_0 H locs → lv_has ls 4 [(0, .ref (ad 0))] → X = σz22_0 → W p l e ({ frames := 4, cells := 0, slots := 0, locals := 100 } : Room) s m [.ref (ad 0), .int x1, .int x2].toArray below meth c H locs 0 0 (MQ below (gQi D (mw cy ad) A σ0 r0) [.ref (ad 0), .int x1, .int x2].toArray s 0 0 A) (F0 m 50 ls [])) → W p l e ({ frames := 4, cells := 0, slots := 0, locals := 100 } : Room) s m [.ref (ad 0), .int x1, .int x2].toArray below meth c H locs 0 0 (MQ below (gQi D (mw cy ad) A σ0 r0) [.ref (ad 0), .int x1, .int x2].toArray s 0 0 A) (F0 m 22 ls []) := by
        intro n
        induction n with
        | zero =>
          intro y22_3 σ22 H locs ls hH hl X h K
          exact itr_0 h
        | succ n ih =>
          intro y22_3 σ22 H locs ls hH hl X h0 K
          obtain ⟨o, h, h2⟩ := itr_step h0
          unfold f_X4_step_b22 at h
          refine lv_iload_n hx hb dX4_step_22 rfl (lv_at hl 3 rfl) ?_
          refine lv_iload_n hx hb dX4_step_23 rfl (lv_at hl 2 rfl) ?_
          refine gb_icmp_ge (tgt := 50) hx hb dX4_step_24 (by decide) h (fun h => ?_) (fun h => ?_)
          · exact K _ _ _ _ hH (lv_sub hl [0] rfl) (nxt_r h h2)
          · refine lv_aload_n hx hb dX4_step_27 rfl (lv_at hl 0 rfl) ?_
            refine lv_aload_n hx hb dX4_step_28 rfl (lv_at hl 0 rfl) ?_
            refine lv_iload_n hx hb dX4_step_29 rfl (lv_at hl 1 rfl) ?_
            refine lv_aload_n hx hb dX4_step_30 rfl (lv_at hl 0 rfl) ?_
            refine gf_X4_43 C hH dX4_step_31 ?_
            refine lv_aload_n hx hb dX4_step_34 rfl (lv_at hl 0 rfl) ?_
            refine gf_X4_40 C hH dX4_step_35 ?_
            refine kl_X4_79 C hH h ⟨by decide, by decide⟩ ⟨by decide, by decide⟩ hl.1 (Nat.le_of_ble_eq_true rfl) dX4_step_38 (fun r3 H locs hH h => ?_)
            refine pf_X4_43 C hH dX4_step_41 (fun H locs hH => ?_)
            refine lv_iinc (v := (y22_3 + (1 : Int32))) (lv' := [(3, .int (y22_3 + (1 : Int32))), (0, .ref (ad 0)), (1, .int x1), (2, .int x2)]) hx hb dX4_step_44 hl (k := 3) rfl rfl (by decide) rfl (fun ls hl => ?_)
            refine lv_goto (tgt := 22) hx hb dX4_step_47 (by decide) ?_
            exact ih _ _ _ _ _ hH (lv_sub hl [1, 2, 3, 0] rfl) X (nxt_l h h2) K
      obtain ⟨X22, hX22, h⟩ := bnd h
      refine L22 FU ((0 : Int32)) σ _ _ _ hH (lv_sub hl [1, 2, 3, 0] rfl) X22 hX22 ?_
      intro σz22_0 H locs ls hH hl hE
      replace hE := hE.symm
      subst hE
      refine lv_aload_n hx hb dX4_step_50 rfl (lv_at hl 0 rfl) ?_
      refine gf_X4_43 C hH dX4_step_51 ?_
      exact g_iret hx hb hr hlk hH (Prod.mk.inj (Option.some.inj h)) dX4_step_54
    · refine lv_bipush (v := -2) hx hb dX4_step_17 (by decide) ?_
      exact g_iret hx hb hr hlk hH (Prod.mk.inj (Option.some.inj h)) dX4_step_19
theorem ok_X4_step : okName yX4_step 2 := ⟨by decide, by decide, by decide +kernel⟩
set_option maxHeartbeats 4000000 in
set_option maxRecDepth 100000 in
theorem c_X4_after (l : Launch) {D : va_G} {cy : Nat → ClassId} {ad : Nat → Nat} {A : Nat → Prop} (hD : ∀ σ, va_D A (mw cy ad σ)) (σ : MS) (x1 x2 : Int32) (r0 : Int32) (h : f_X4_after σ x1 x2 = some r0) : gMi l yX4_after (wsM yX4_after cX4_after 3 (some .int)) ({ frames := 4, cells := 0, slots := 0, locals := 100 } : Room) D (mT cy) (mw cy ad) A [.ref (ad 0), .int x1, .int x2] σ σ r0 := by
  refine gMi.of (own := RX4) rfl (by decide) (Nat.le_of_ble_eq_true rfl) hD ?_
  intro p e s m below meth c ls C hx hb hr hlk hH hl
  have hl : lv_has ls 3 [(0, .ref (ad 0)), (1, .int x1), (2, .int x2)] := hl
  unfold f_X4_after at h
  refine lv_iload_n hx hb dX4_after_0 rfl (lv_at hl 1 rfl) ?_
  refine kl_X4_76 C hH h ⟨by decide, by decide⟩ ⟨by decide, by decide⟩ hl.1 (Nat.le_of_ble_eq_true rfl) dX4_after_1 (fun r1 H locs hH h => ?_)
  refine gb_if_eq (tgt := 28) hx hb dX4_after_4 (by decide) h (fun h => ?_) (fun h => ?_)
  · refine lv_bipush (v := -2) hx hb dX4_after_28 (by decide) ?_
    exact g_iret hx hb hr hlk hH ⟨Option.some.inj h, rfl⟩ dX4_after_30
  · refine lv_aload_n hx hb dX4_after_7 rfl (lv_at hl 0 rfl) ?_
    refine lv_iload_n hx hb dX4_after_8 rfl (lv_at hl 2 rfl) ?_
    refine kl_X4_55 C hH h ⟨by decide, by decide⟩ ⟨by decide, by decide⟩ hl.1 (Nat.le_of_ble_eq_true rfl) dX4_after_9 (fun r2 H locs hH h => ?_)
    refine gb_if_eq (tgt := 28) hx hb dX4_after_12 (by decide) h (fun h => ?_) (fun h => ?_)
    · refine lv_bipush (v := -2) hx hb dX4_after_28 (by decide) ?_
      exact g_iret hx hb hr hlk hH ⟨Option.some.inj h, rfl⟩ dX4_after_30
    · refine lv_aload_n hx hb dX4_after_15 rfl (lv_at hl 0 rfl) ?_
      refine lv_iload_n hx hb dX4_after_16 rfl (lv_at hl 1 rfl) ?_
      refine lv_iload_n hx hb dX4_after_17 rfl (lv_at hl 2 rfl) ?_
      refine lv_aload_n hx hb dX4_after_18 rfl (lv_at hl 0 rfl) ?_
      refine gf_X4_40 C hH dX4_after_19 ?_
      refine kl_X4_79 C hH h ⟨by decide, by decide⟩ ⟨by decide, by decide⟩ hl.1 (Nat.le_of_ble_eq_true rfl) dX4_after_22 (fun r3 H locs hH h => ?_)
      refine lv_goto (tgt := 30) hx hb dX4_after_25 (by decide) ?_
      exact g_iret hx hb hr hlk hH ⟨Option.some.inj h, rfl⟩ dX4_after_30
theorem ok_X4_after : okName yX4_after 2 := ⟨by decide, by decide, by decide +kernel⟩
set_option maxHeartbeats 4000000 in
set_option maxRecDepth 100000 in
theorem c_X4_isBeginning (l : Launch) {D : va_G} {cy : Nat → ClassId} {ad : Nat → Nat} {A : Nat → Prop} (hD : ∀ σ, va_D A (mw cy ad σ)) (σ : MS) (x1 : Int32) (r0 : Int32) (h : f_X4_isBeginning σ x1 = some r0) : gMi l yX4_isBeginning (wsM yX4_isBeginning cX4_isBeginning 2 (some .boolean)) ({ frames := 0, cells := 0, slots := 0, locals := 0 } : Room) D (mT cy) (mw cy ad) A [.ref (ad 0), .int x1] σ σ r0 := by
  refine gMi.of (own := RX4) rfl (by decide) (Nat.le_of_ble_eq_true rfl) hD ?_
  intro p e s m below meth c ls C hx hb hr hlk hH hl
  have hl : lv_has ls 2 [(0, .ref (ad 0)), (1, .int x1)] := hl
  unfold f_X4_isBeginning at h
  refine lv_iload_n hx hb dX4_isBeginning_0 rfl (lv_at hl 1 rfl) ?_
  refine lv_aload_n hx hb dX4_isBeginning_1 rfl (lv_at hl 0 rfl) ?_
  refine gf_X4_43 C hH dX4_isBeginning_2 ?_
  refine lv_ixor hx hb dX4_isBeginning_5 ?_
  refine lv_aload_n hx hb dX4_isBeginning_6 rfl (lv_at hl 0 rfl) ?_
  refine gf_X4_40 C hH dX4_isBeginning_7 ?_
  refine lv_iand hx hb dX4_isBeginning_10 ?_
  refine gb_if_ne (tgt := 18) hx hb dX4_isBeginning_11 (by decide) h (fun h => ?_) (fun h => ?_)
  · refine lv_iconst (v := 0) hx hb dX4_isBeginning_18 (by decide) ?_
    exact g_zret hx hb hr hlk hH ⟨Option.some.inj h, rfl⟩ rfl dX4_isBeginning_19
  · refine lv_iconst (v := 1) hx hb dX4_isBeginning_14 (by decide) ?_
    refine lv_goto (tgt := 19) hx hb dX4_isBeginning_15 (by decide) ?_
    exact g_zret hx hb hr hlk hH ⟨Option.some.inj h, rfl⟩ rfl dX4_isBeginning_19
theorem ok_X4_isBeginning : okName yX4_isBeginning 1 := ⟨by decide, by decide, by decide +kernel⟩
section KL
variable {p : Program} {l : Launch} {e : Env} {R : Room} {s : State} {m : MethodId} {args : Array Value} {below : List Frame} {meth : Method} {c : Code} {H : Heap} {locs : List Loc} {cells slots : Nat} {Q : State → Prop} {cc : ByteArray} {pc nL : Nat} {ls : Array Slot} {rest : List Value}
variable {A : Nat → Prop} {D : va_G} {cy : Nat → ClassId} {ad : Nat → Nat}
theorem kl_X4_82 (C : gC p m c cc nL s args RX4 D (mT cy) (mw cy ad) A) {σ : MS} (hH : gH s D (mw cy ad) A σ H locs) {x1 : Int32} {α : Type} {k : Int32 → Option α} {y : α} (h : (f_X4_isBeginning σ x1).bind k = some y) (hR : 1 ≤ R.frames ∧ 21 ≤ R.locals) (hcs : cells ≤ R.cells ∧ slots ≤ R.slots) (hl : ls.size = nL) (hW : (rest.map fun v => v.category).sum ≤ 8) (hdg : decode cc pc = .ok (.invokevirtual 82, 3)) (kk : ∀ (r : Int32) (H1 : Heap) (locs1 : List Loc), gH s D (mw cy ad) A σ H1 locs1 → k r = some y → W p l e R s m args below meth c H1 locs1 cells slots Q (F0 m (pc + 3) ls (.int r :: rest))) : W p l e R s m args below meth c H locs cells slots Q (F0 m pc ls (.int x1 :: .ref (ad 0) :: rest)) := by
  obtain ⟨r, h1, h2⟩ := bnd h
  exact g_fi (g_rV (As := [.int x1]) C hH (c_X4_isBeginning l C.2.2.2 σ x1 r h1) (q0 := 0) mw_c_X4_isBeginning mw_m_X4_82 mw_i_X4_isBeginning mw_v_X4_isBeginning mw_in_X4 ok_X4_isBeginning ⟨rfl, rfl⟩ rfl rfl rfl hR hcs hl rfl hW hdg) hH.2 (fun H1 locs1 hH1 => kk r H1 locs1 hH1 h2)
end KL
set_option maxHeartbeats 4000000 in
set_option maxRecDepth 100000 in
theorem c_X4_layBehind (l : Launch) {D : va_G} {cy : Nat → ClassId} {ad : Nat → Nat} {A : Nat → Prop} (hD : ∀ σ, va_D A (mw cy ad σ)) (σ : MS) (x1 : Int32) (σ0 : MS) (h : f_X4_layBehind σ x1 = some σ0) : gMv l yX4_layBehind (wsM yX4_layBehind cX4_layBehind 3 none) ({ frames := 4, cells := 0, slots := 0, locals := 100 } : Room) D (mT cy) (mw cy ad) A [.ref (ad 0), .int x1] σ σ0 := by
  refine gMv.of (own := RX4) rfl (by decide) (Nat.le_of_ble_eq_true rfl) hD ?_
  intro p e s m below meth c ls C hx hb hr hlk hH hl
  have hl : lv_has ls 3 [(0, .ref (ad 0)), (1, .int x1)] := hl
  unfold f_X4_layBehind at h
  refine lv_iconst (v := 0) hx hb dX4_layBehind_0 (by decide) ?_
  refine lv_istore_n (lv' := [(2, .int (0)), (0, .ref (ad 0)), (1, .int x1)]) hx hb dX4_layBehind_1 rfl hl (by decide) rfl (fun ls hl => ?_)
  have L2 : ∀ (n : Nat) (y2_2 : Int32) (σ2 : MS) (H : Heap) (locs : List Loc) (ls : Array Slot), gH s D (mw cy ad) A σ2 H locs → lv_has ls 3 [(0, .ref (ad 0)), (1, .int x1), (2, .int y2_2)] → ∀ X, itr (f_X4_layBehind_b2 x1) n (y2_2, σ2) = some X → (∀ (σz2_0 : MS) (H : Heap) (locs : List Loc) (ls : Array Slot), gH s D (mw cy ad) A σz2_0 H locs → lv_has ls 3 [] → X = σz2_0 → W p l e ({ frames := 4, cells := 0, slots := 0, locals := 100 } : Room) s m [.ref (ad 0), .int x1].toArray below meth c H locs 0 0 (MQ below (gQv D (mw cy ad) A σ0) [.ref (ad 0), .int x1].toArray s 0 0 A) (F0 m 45 ls [])) → W p l e ({ frames := 4, cells := 0, slots := 0, locals := 100 } : Room) s m [.ref (ad 0), .int x1].toArray below meth c H locs 0 0 (MQ below (gQv D (mw cy ad) A σ0) [.ref (ad 0), .int x1].toArray s 0 0 A) (F0 m 2 ls []) := by
    intro n
    induction n with
    | zero =>
      intro y2_2 σ2 H locs ls hH hl X h K
      exact itr_0 h
    | succ n ih =>
      intro y2_2 σ2 H locs ls hH hl X h0 K
      obtain ⟨o, h, h2⟩ := itr_step h0
      unfold f_X4_layBehind_b2 at h
      refine lv_iload_n hx hb dX4_layBehind_2 rfl (lv_at hl 2 rfl) ?_
      refine lv_aload_n hx hb dX4_layBehind_3 rfl (lv_at hl 0 rfl) ?_
      refine kl_X4_36 C hH h ⟨by decide, by decide⟩ ⟨by decide, by decide⟩ hl.1 (Nat.le_of_ble_eq_true rfl) dX4_layBehind_4 (fun r1 H locs hH h => ?_)
      refine gb_icmp_ge (tgt := 45) hx hb dX4_layBehind_7 (by decide) h (fun h => ?_) (fun h => ?_)
      · exact K _ _ _ _ hH (lv_sub hl [] rfl) (nxt_r h h2)
      · refine lv_aload_n hx hb dX4_layBehind_10 rfl (lv_at hl 0 rfl) ?_
        refine gf_X4_23 C hH dX4_layBehind_11 ?_
        refine lv_iload_n hx hb dX4_layBehind_14 rfl (lv_at hl 2 rfl) ?_
        refine lv_aload_n hx hb dX4_layBehind_15 rfl (lv_at hl 0 rfl) ?_
        refine lv_iload_n hx hb dX4_layBehind_16 rfl (lv_at hl 2 rfl) ?_
        refine kl_X4_82 C hH h ⟨by decide, by decide⟩ ⟨by decide, by decide⟩ hl.1 (Nat.le_of_ble_eq_true rfl) dX4_layBehind_17 (fun r2 H locs hH h => ?_)
        refine gb_if_eq (tgt := 36) hx hb dX4_layBehind_20 (by decide) h (fun h => ?_) (fun h => ?_)
        · refine lv_bipush (v := -6) hx hb dX4_layBehind_36 (by decide) ?_
          refine mas_be C hH h dX4_layBehind_38 (fun h H locs hH => ?_)
          refine lv_iinc (v := (y2_2 + (1 : Int32))) (lv' := [(2, .int (y2_2 + (1 : Int32))), (0, .ref (ad 0)), (1, .int x1)]) hx hb dX4_layBehind_39 hl (k := 2) rfl rfl (by decide) rfl (fun ls hl => ?_)
          refine lv_goto (tgt := 2) hx hb dX4_layBehind_42 (by decide) ?_
          exact ih _ _ _ _ _ hH (lv_sub hl [1, 2, 0] rfl) X (nxt_l h h2) K
        · refine lv_aload_n hx hb dX4_layBehind_23 rfl (lv_at hl 0 rfl) ?_
          refine lv_iload_n hx hb dX4_layBehind_24 rfl (lv_at hl 1 rfl) ?_
          refine lv_iload_n hx hb dX4_layBehind_25 rfl (lv_at hl 2 rfl) ?_
          refine lv_aload_n hx hb dX4_layBehind_26 rfl (lv_at hl 0 rfl) ?_
          refine gf_X4_40 C hH dX4_layBehind_27 ?_
          refine kl_X4_79 C hH h ⟨by decide, by decide⟩ ⟨by decide, by decide⟩ hl.1 (Nat.le_of_ble_eq_true rfl) dX4_layBehind_30 (fun r3 H locs hH h => ?_)
          refine lv_goto (tgt := 38) hx hb dX4_layBehind_33 (by decide) ?_
          refine mas_be C hH h dX4_layBehind_38 (fun h H locs hH => ?_)
          refine lv_iinc (v := (y2_2 + (1 : Int32))) (lv' := [(2, .int (y2_2 + (1 : Int32))), (0, .ref (ad 0)), (1, .int x1)]) hx hb dX4_layBehind_39 hl (k := 2) rfl rfl (by decide) rfl (fun ls hl => ?_)
          refine lv_goto (tgt := 2) hx hb dX4_layBehind_42 (by decide) ?_
          exact ih _ _ _ _ _ hH (lv_sub hl [1, 2, 0] rfl) X (nxt_l h h2) K
  obtain ⟨X2, hX2, h⟩ := bnd h
  refine L2 FU ((0 : Int32)) σ _ _ _ hH (lv_sub hl [1, 2, 0] rfl) X2 hX2 ?_
  intro σz2_0 H locs ls hH hl hE
  replace hE := hE.symm
  subst hE
  exact g_vret hx hb hr hlk hH (Option.some.inj h) dX4_layBehind_45
theorem ok_X4_layBehind : okName yX4_layBehind 1 := ⟨by decide, by decide, by decide +kernel⟩
section KL
variable {p : Program} {l : Launch} {e : Env} {R : Room} {s : State} {m : MethodId} {args : Array Value} {below : List Frame} {meth : Method} {c : Code} {H : Heap} {locs : List Loc} {cells slots : Nat} {Q : State → Prop} {cc : ByteArray} {pc nL : Nat} {ls : Array Slot} {rest : List Value}
variable {A : Nat → Prop} {D : va_G} {cy : Nat → ClassId} {ad : Nat → Nat}
theorem kl_X4_85 (C : gC p m c cc nL s args RX4 D (mT cy) (mw cy ad) A) {σ : MS} (hH : gH s D (mw cy ad) A σ H locs) {x1 : Int32} {α : Type} {k : MS → Option α} {y : α} (h : (f_X4_layBehind σ x1).bind k = some y) (hR : 5 ≤ R.frames ∧ 122 ≤ R.locals) (hcs : cells ≤ R.cells ∧ slots ≤ R.slots) (hl : ls.size = nL) (hW : (rest.map fun v => v.category).sum ≤ 8) (hdg : decode cc pc = .ok (.invokevirtual 85, 3)) (kk : ∀ (σ1 : MS) (H1 : Heap) (locs1 : List Loc), gH s D (mw cy ad) A σ1 H1 locs1 → k σ1 = some y → W p l e R s m args below meth c H1 locs1 cells slots Q (F0 m (pc + 3) ls (rest))) : W p l e R s m args below meth c H locs cells slots Q (F0 m pc ls (.int x1 :: .ref (ad 0) :: rest)) := by
  obtain ⟨σ1, h1, h2⟩ := bnd h
  exact g_fv (g_rV (As := [.int x1]) C hH (c_X4_layBehind l C.2.2.2 σ x1 σ1 h1) (q0 := 0) mw_c_X4_layBehind mw_m_X4_85 mw_i_X4_layBehind mw_v_X4_layBehind mw_in_X4 ok_X4_layBehind ⟨rfl, rfl⟩ rfl rfl rfl hR hcs hl rfl hW hdg) hH.2 (fun H1 locs1 hH1 => kk σ1 H1 locs1 hH1 h2)
end KL
set_option maxHeartbeats 4000000 in
set_option maxRecDepth 100000 in
theorem c_X4_inRing (l : Launch) {D : va_G} {cy : Nat → ClassId} {ad : Nat → Nat} {A : Nat → Prop} (hD : ∀ σ, va_D A (mw cy ad σ)) (σ : MS) (x1 : Int32) (r0 : Int32) (h : f_X4_inRing σ x1 = some r0) : gMi l yX4_inRing (wsM yX4_inRing cX4_inRing 4 (some .int)) ({ frames := 1, cells := 0, slots := 0, locals := 20 } : Room) D (mT cy) (mw cy ad) A [.ref (ad 0), .int x1] σ σ r0 := by
  refine gMi.of (own := RX4) rfl (by decide) (Nat.le_of_ble_eq_true rfl) hD ?_
  intro p e s m below meth c ls C hx hb hr hlk hH hl
  have hl : lv_has ls 4 [(0, .ref (ad 0)), (1, .int x1)] := hl
  unfold f_X4_inRing at h
  refine lv_iload_n hx hb dX4_inRing_0 rfl (lv_at hl 1 rfl) ?_
  refine lv_istore_n (lv' := [(2, .int x1), (0, .ref (ad 0)), (1, .int x1)]) hx hb dX4_inRing_1 rfl hl (by decide) rfl (fun ls hl => ?_)
  refine lv_iconst (v := 0) hx hb dX4_inRing_2 (by decide) ?_
  refine lv_istore_n (lv' := [(3, .int (0)), (2, .int x1), (0, .ref (ad 0)), (1, .int x1)]) hx hb dX4_inRing_3 rfl hl (by decide) rfl (fun ls hl => ?_)
  have L4 : ∀ (n : Nat) (y4_2 : Int32) (y4_3 : Int32) (H : Heap) (locs : List Loc) (ls : Array Slot), gH s D (mw cy ad) A σ H locs → lv_has ls 4 [(0, .ref (ad 0)), (2, .int y4_2), (3, .int y4_3)] → ∀ X, itr (f_X4_inRing_b4 σ) n (y4_2, y4_3) = some X → (∀ (z4_0_2 : Int32) (H : Heap) (locs : List Loc) (ls : Array Slot), gH s D (mw cy ad) A σ H locs → lv_has ls 4 [(2, .int z4_0_2)] → X = z4_0_2 → W p l e ({ frames := 1, cells := 0, slots := 0, locals := 20 } : Room) s m [.ref (ad 0), .int x1].toArray below meth c H locs 0 0 (MQ below (gQi D (mw cy ad) A σ r0) [.ref (ad 0), .int x1].toArray s 0 0 A) (F0 m 25 ls [])) → W p l e ({ frames := 1, cells := 0, slots := 0, locals := 20 } : Room) s m [.ref (ad 0), .int x1].toArray below meth c H locs 0 0 (MQ below (gQi D (mw cy ad) A σ r0) [.ref (ad 0), .int x1].toArray s 0 0 A) (F0 m 4 ls []) := by
    intro n
    induction n with
    | zero =>
      intro y4_2 y4_3 H locs ls hH hl X h K
      exact itr_0 h
    | succ n ih =>
      intro y4_2 y4_3 H locs ls hH hl X h0 K
      obtain ⟨o, h, h2⟩ := itr_step h0
      unfold f_X4_inRing_b4 at h
      refine lv_iload_n hx hb dX4_inRing_4 rfl (lv_at hl 2 rfl) ?_
      refine lv_aload_n hx hb dX4_inRing_5 rfl (lv_at hl 0 rfl) ?_
      refine kl_X4_36 C hH h ⟨by decide, by decide⟩ ⟨by decide, by decide⟩ hl.1 (Nat.le_of_ble_eq_true rfl) dX4_inRing_6 (fun r1 H locs hH h => ?_)
      refine gb_icmp_ge (tgt := 25) hx hb dX4_inRing_9 (by decide) h (fun h => ?_) (fun h => ?_)
      · exact K _ _ _ _ hH (lv_sub hl [1] rfl) (nxt_r h h2)
      · refine lv_aload_n hx hb dX4_inRing_12 rfl (lv_at hl 0 rfl) ?_
        refine gf_X4_23 C hH dX4_inRing_13 ?_
        refine lv_iload_n hx hb dX4_inRing_16 rfl (lv_at hl 1 rfl) ?_
        refine mal_be C hH h dX4_inRing_17 (fun h => ?_)
        refine lv_istore_n (lv' := [(2, .int (mbe σ (y4_2 : Int32).toNatClampNeg)), (0, .ref (ad 0)), (3, .int y4_3)]) hx hb dX4_inRing_18 rfl hl (by decide) rfl (fun ls hl => ?_)
        refine lv_iinc (v := (y4_3 + (1 : Int32))) (lv' := [(3, .int (y4_3 + (1 : Int32))), (2, .int (mbe σ (y4_2 : Int32).toNatClampNeg)), (0, .ref (ad 0))]) hx hb dX4_inRing_19 hl (k := 2) rfl rfl (by decide) rfl (fun ls hl => ?_)
        refine lv_goto (tgt := 4) hx hb dX4_inRing_22 (by decide) ?_
        exact ih _ _ _ _ _ hH (lv_sub hl [2, 1, 0] rfl) X (nxt_l h h2) K
  obtain ⟨X4, hX4, h⟩ := bnd h
  refine L4 FU x1 ((0 : Int32)) _ _ _ hH (lv_sub hl [2, 1, 0] rfl) X4 hX4 ?_
  intro z4_0_2 H locs ls hH hl hE
  replace hE := hE.symm
  subst hE
  refine lv_iload_n hx hb dX4_inRing_25 rfl (lv_at hl 0 rfl) ?_
  exact g_iret hx hb hr hlk hH ⟨Option.some.inj h, rfl⟩ dX4_inRing_26
theorem ok_X4_inRing : okName yX4_inRing 1 := ⟨by decide, by decide, by decide +kernel⟩
section KL
variable {p : Program} {l : Launch} {e : Env} {R : Room} {s : State} {m : MethodId} {args : Array Value} {below : List Frame} {meth : Method} {c : Code} {H : Heap} {locs : List Loc} {cells slots : Nat} {Q : State → Prop} {cc : ByteArray} {pc nL : Nat} {ls : Array Slot} {rest : List Value}
variable {A : Nat → Prop} {D : va_G} {cy : Nat → ClassId} {ad : Nat → Nat}
theorem kl_X4_89 (C : gC p m c cc nL s args RX4 D (mT cy) (mw cy ad) A) {σ : MS} (hH : gH s D (mw cy ad) A σ H locs) {x1 : Int32} {α : Type} {k : Int32 → Option α} {y : α} (h : (f_X4_inRing σ x1).bind k = some y) (hR : 2 ≤ R.frames ∧ 43 ≤ R.locals) (hcs : cells ≤ R.cells ∧ slots ≤ R.slots) (hl : ls.size = nL) (hW : (rest.map fun v => v.category).sum ≤ 8) (hdg : decode cc pc = .ok (.invokevirtual 89, 3)) (kk : ∀ (r : Int32) (H1 : Heap) (locs1 : List Loc), gH s D (mw cy ad) A σ H1 locs1 → k r = some y → W p l e R s m args below meth c H1 locs1 cells slots Q (F0 m (pc + 3) ls (.int r :: rest))) : W p l e R s m args below meth c H locs cells slots Q (F0 m pc ls (.int x1 :: .ref (ad 0) :: rest)) := by
  obtain ⟨r, h1, h2⟩ := bnd h
  exact g_fi (g_rV (As := [.int x1]) C hH (c_X4_inRing l C.2.2.2 σ x1 r h1) (q0 := 0) mw_c_X4_inRing mw_m_X4_89 mw_i_X4_inRing mw_v_X4_inRing mw_in_X4 ok_X4_inRing ⟨rfl, rfl⟩ rfl rfl rfl hR hcs hl rfl hW hdg) hH.2 (fun H1 locs1 hH1 => kk r H1 locs1 hH1 h2)
end KL
set_option maxHeartbeats 4000000 in
set_option maxRecDepth 100000 in
theorem c_X4_ringOf (l : Launch) {D : va_G} {cy : Nat → ClassId} {ad : Nat → Nat} {A : Nat → Prop} (hD : ∀ σ, va_D A (mw cy ad σ)) (σ : MS) (x1 : Int32) (r0 : Int32) (h : f_X4_ringOf σ x1 = some r0) : gMi l yX4_ringOf (wsM yX4_ringOf cX4_ringOf 4 (some .int)) ({ frames := 0, cells := 0, slots := 0, locals := 0 } : Room) D (mT cy) (mw cy ad) A [.ref (ad 0), .int x1] σ σ r0 := by
  refine gMi.of (own := RX4) rfl (by decide) (Nat.le_of_ble_eq_true rfl) hD ?_
  intro p e s m below meth c ls C hx hb hr hlk hH hl
  have hl : lv_has ls 4 [(0, .ref (ad 0)), (1, .int x1)] := hl
  unfold f_X4_ringOf at h
  refine lv_iconst (v := 1) hx hb dX4_ringOf_0 (by decide) ?_
  refine lv_istore_n (lv' := [(2, .int (1)), (0, .ref (ad 0)), (1, .int x1)]) hx hb dX4_ringOf_1 rfl hl (by decide) rfl (fun ls hl => ?_)
  refine lv_aload_n hx hb dX4_ringOf_2 rfl (lv_at hl 1 rfl) ?_
  refine gf_X4_23 C hH dX4_ringOf_3 ?_
  refine lv_iload_n hx hb dX4_ringOf_6 rfl (lv_at hl 2 rfl) ?_
  refine mal_be C hH h dX4_ringOf_7 (fun h => ?_)
  refine lv_istore_n (lv' := [(3, .int (mbe σ (x1 : Int32).toNatClampNeg)), (2, .int (1)), (0, .ref (ad 0)), (1, .int x1)]) hx hb dX4_ringOf_8 rfl hl (by decide) rfl (fun ls hl => ?_)
  have L9 : ∀ (n : Nat) (y9_2 : Int32) (y9_3 : Int32) (H : Heap) (locs : List Loc) (ls : Array Slot), gH s D (mw cy ad) A σ H locs → lv_has ls 4 [(0, .ref (ad 0)), (1, .int x1), (2, .int y9_2), (3, .int y9_3)] → ∀ X, itr (f_X4_ringOf_b9 σ x1) n (y9_2, y9_3) = some X → (∀ (z9_0_2 : Int32) (H : Heap) (locs : List Loc) (ls : Array Slot), gH s D (mw cy ad) A σ H locs → lv_has ls 4 [(2, .int z9_0_2)] → X = z9_0_2 → W p l e ({ frames := 0, cells := 0, slots := 0, locals := 0 } : Room) s m [.ref (ad 0), .int x1].toArray below meth c H locs 0 0 (MQ below (gQi D (mw cy ad) A σ r0) [.ref (ad 0), .int x1].toArray s 0 0 A) (F0 m 27 ls [])) → W p l e ({ frames := 0, cells := 0, slots := 0, locals := 0 } : Room) s m [.ref (ad 0), .int x1].toArray below meth c H locs 0 0 (MQ below (gQi D (mw cy ad) A σ r0) [.ref (ad 0), .int x1].toArray s 0 0 A) (F0 m 9 ls []) := by
    intro n
    induction n with
    | zero =>
      intro y9_2 y9_3 H locs ls hH hl X h K
      exact itr_0 h
    | succ n ih =>
      intro y9_2 y9_3 H locs ls hH hl X h0 K
      obtain ⟨o, h, h2⟩ := itr_step h0
      unfold f_X4_ringOf_b9 at h
      refine lv_iload_n hx hb dX4_ringOf_9 rfl (lv_at hl 3 rfl) ?_
      refine lv_iload_n hx hb dX4_ringOf_10 rfl (lv_at hl 1 rfl) ?_
      refine gb_icmp_eq (tgt := 27) hx hb dX4_ringOf_11 (by decide) h (fun h => ?_) (fun h => ?_)
      · exact K _ _ _ _ hH (lv_sub hl [2] rfl) (nxt_r h h2)
      · refine lv_iinc (v := (y9_2 + (1 : Int32))) (lv' := [(2, .int (y9_2 + (1 : Int32))), (0, .ref (ad 0)), (1, .int x1), (3, .int y9_3)]) hx hb dX4_ringOf_14 hl (k := 2) rfl rfl (by decide) rfl (fun ls hl => ?_)
        refine lv_aload_n hx hb dX4_ringOf_17 rfl (lv_at hl 1 rfl) ?_
        refine gf_X4_23 C hH dX4_ringOf_18 ?_
        refine lv_iload_n hx hb dX4_ringOf_21 rfl (lv_at hl 3 rfl) ?_
        refine mal_be C hH h dX4_ringOf_22 (fun h => ?_)
        refine lv_istore_n (lv' := [(3, .int (mbe σ (y9_3 : Int32).toNatClampNeg)), (2, .int (y9_2 + (1 : Int32))), (0, .ref (ad 0)), (1, .int x1)]) hx hb dX4_ringOf_23 rfl hl (by decide) rfl (fun ls hl => ?_)
        refine lv_goto (tgt := 9) hx hb dX4_ringOf_24 (by decide) ?_
        exact ih _ _ _ _ _ hH (lv_sub hl [2, 3, 1, 0] rfl) X (nxt_l h h2) K
  obtain ⟨X9, hX9, h⟩ := bnd h
  refine L9 FU ((1 : Int32)) ((mbe σ (x1 : Int32).toNatClampNeg)) _ _ _ hH (lv_sub hl [2, 3, 1, 0] rfl) X9 hX9 ?_
  intro z9_0_2 H locs ls hH hl hE
  replace hE := hE.symm
  subst hE
  refine lv_iload_n hx hb dX4_ringOf_27 rfl (lv_at hl 0 rfl) ?_
  exact g_iret hx hb hr hlk hH ⟨Option.some.inj h, rfl⟩ dX4_ringOf_28
theorem ok_X4_ringOf : okName yX4_ringOf 1 := ⟨by decide, by decide, by decide +kernel⟩
section KL
variable {p : Program} {l : Launch} {e : Env} {R : Room} {s : State} {m : MethodId} {args : Array Value} {below : List Frame} {meth : Method} {c : Code} {H : Heap} {locs : List Loc} {cells slots : Nat} {Q : State → Prop} {cc : ByteArray} {pc nL : Nat} {ls : Array Slot} {rest : List Value}
variable {A : Nat → Prop} {D : va_G} {cy : Nat → ClassId} {ad : Nat → Nat}
theorem kl_X4_96 (C : gC p m c cc nL s args RX4 D (mT cy) (mw cy ad) A) {σ : MS} (hH : gH s D (mw cy ad) A σ H locs) {x1 : Int32} {α : Type} {k : Int32 → Option α} {y : α} (h : (f_X4_ringOf σ x1).bind k = some y) (hR : 1 ≤ R.frames ∧ 23 ≤ R.locals) (hcs : cells ≤ R.cells ∧ slots ≤ R.slots) (hl : ls.size = nL) (hW : (rest.map fun v => v.category).sum ≤ 8) (hdg : decode cc pc = .ok (.invokevirtual 96, 3)) (kk : ∀ (r : Int32) (H1 : Heap) (locs1 : List Loc), gH s D (mw cy ad) A σ H1 locs1 → k r = some y → W p l e R s m args below meth c H1 locs1 cells slots Q (F0 m (pc + 3) ls (.int r :: rest))) : W p l e R s m args below meth c H locs cells slots Q (F0 m pc ls (.int x1 :: .ref (ad 0) :: rest)) := by
  obtain ⟨r, h1, h2⟩ := bnd h
  exact g_fi (g_rV (As := [.int x1]) C hH (c_X4_ringOf l C.2.2.2 σ x1 r h1) (q0 := 0) mw_c_X4_ringOf mw_m_X4_96 mw_i_X4_ringOf mw_v_X4_ringOf mw_in_X4 ok_X4_ringOf ⟨rfl, rfl⟩ rfl rfl rfl hR hcs hl rfl hW hdg) hH.2 (fun H1 locs1 hH1 => kk r H1 locs1 hH1 h2)
end KL
set_option maxHeartbeats 4000000 in
set_option maxRecDepth 100000 in
theorem c_X4_leastOf (l : Launch) {D : va_G} {cy : Nat → ClassId} {ad : Nat → Nat} {A : Nat → Prop} (hD : ∀ σ, va_D A (mw cy ad σ)) (σ : MS) (x1 : Int32) (r0 : Int32) (h : f_X4_leastOf σ x1 = some r0) : gMi l yX4_leastOf (wsM yX4_leastOf cX4_leastOf 4 (some .int)) ({ frames := 0, cells := 0, slots := 0, locals := 0 } : Room) D (mT cy) (mw cy ad) A [.ref (ad 0), .int x1] σ σ r0 := by
  refine gMi.of (own := RX4) rfl (by decide) (Nat.le_of_ble_eq_true rfl) hD ?_
  intro p e s m below meth c ls C hx hb hr hlk hH hl
  have hl : lv_has ls 4 [(0, .ref (ad 0)), (1, .int x1)] := hl
  unfold f_X4_leastOf at h
  refine lv_iload_n hx hb dX4_leastOf_0 rfl (lv_at hl 1 rfl) ?_
  refine lv_istore_n (lv' := [(2, .int x1), (0, .ref (ad 0)), (1, .int x1)]) hx hb dX4_leastOf_1 rfl hl (by decide) rfl (fun ls hl => ?_)
  refine lv_aload_n hx hb dX4_leastOf_2 rfl (lv_at hl 1 rfl) ?_
  refine gf_X4_23 C hH dX4_leastOf_3 ?_
  refine lv_iload_n hx hb dX4_leastOf_6 rfl (lv_at hl 2 rfl) ?_
  refine mal_be C hH h dX4_leastOf_7 (fun h => ?_)
  refine lv_istore_n (lv' := [(3, .int (mbe σ (x1 : Int32).toNatClampNeg)), (2, .int x1), (0, .ref (ad 0)), (1, .int x1)]) hx hb dX4_leastOf_8 rfl hl (by decide) rfl (fun ls hl => ?_)
  have L9 : ∀ (n : Nat) (y9_2 : Int32) (y9_3 : Int32) (H : Heap) (locs : List Loc) (ls : Array Slot), gH s D (mw cy ad) A σ H locs → lv_has ls 4 [(0, .ref (ad 0)), (1, .int x1), (2, .int y9_2), (3, .int y9_3)] → ∀ X, itr (f_X4_leastOf_b9 σ x1) n (y9_2, y9_3) = some X → (∀ (z9_0_2 : Int32) (H : Heap) (locs : List Loc) (ls : Array Slot), gH s D (mw cy ad) A σ H locs → lv_has ls 4 [(2, .int z9_0_2)] → X = z9_0_2 → W p l e ({ frames := 0, cells := 0, slots := 0, locals := 0 } : Room) s m [.ref (ad 0), .int x1].toArray below meth c H locs 0 0 (MQ below (gQi D (mw cy ad) A σ r0) [.ref (ad 0), .int x1].toArray s 0 0 A) (F0 m 35 ls [])) → W p l e ({ frames := 0, cells := 0, slots := 0, locals := 0 } : Room) s m [.ref (ad 0), .int x1].toArray below meth c H locs 0 0 (MQ below (gQi D (mw cy ad) A σ r0) [.ref (ad 0), .int x1].toArray s 0 0 A) (F0 m 9 ls []) := by
    intro n
    induction n with
    | zero =>
      intro y9_2 y9_3 H locs ls hH hl X h K
      exact itr_0 h
    | succ n ih =>
      intro y9_2 y9_3 H locs ls hH hl X h0 K
      obtain ⟨o, h, h2⟩ := itr_step h0
      unfold f_X4_leastOf_b9 at h
      refine lv_iload_n hx hb dX4_leastOf_9 rfl (lv_at hl 3 rfl) ?_
      refine lv_iload_n hx hb dX4_leastOf_10 rfl (lv_at hl 1 rfl) ?_
      refine gb_icmp_eq (tgt := 35) hx hb dX4_leastOf_11 (by decide) h (fun h => ?_) (fun h => ?_)
      · exact K _ _ _ _ hH (lv_sub hl [2] rfl) (nxt_r h h2)
      · refine lv_iload_n hx hb dX4_leastOf_14 rfl (lv_at hl 3 rfl) ?_
        refine lv_iload_n hx hb dX4_leastOf_15 rfl (lv_at hl 2 rfl) ?_
        refine gb_icmp_ge (tgt := 23) hx hb dX4_leastOf_16 (by decide) h (fun h => ?_) (fun h => ?_)
        · refine lv_iload_n hx hb dX4_leastOf_23 rfl (lv_at hl 2 rfl) ?_
          refine lv_istore_n (lv' := [(2, .int y9_2), (0, .ref (ad 0)), (1, .int x1), (3, .int y9_3)]) hx hb dX4_leastOf_24 rfl hl (by decide) rfl (fun ls hl => ?_)
          refine lv_aload_n hx hb dX4_leastOf_25 rfl (lv_at hl 1 rfl) ?_
          refine gf_X4_23 C hH dX4_leastOf_26 ?_
          refine lv_iload_n hx hb dX4_leastOf_29 rfl (lv_at hl 3 rfl) ?_
          refine mal_be C hH h dX4_leastOf_30 (fun h => ?_)
          refine lv_istore_n (lv' := [(3, .int (mbe σ (y9_3 : Int32).toNatClampNeg)), (2, .int y9_2), (0, .ref (ad 0)), (1, .int x1)]) hx hb dX4_leastOf_31 rfl hl (by decide) rfl (fun ls hl => ?_)
          refine lv_goto (tgt := 9) hx hb dX4_leastOf_32 (by decide) ?_
          exact ih _ _ _ _ _ hH (lv_sub hl [2, 3, 1, 0] rfl) X (nxt_l h h2) K
        · refine lv_iload_n hx hb dX4_leastOf_19 rfl (lv_at hl 3 rfl) ?_
          refine lv_goto (tgt := 24) hx hb dX4_leastOf_20 (by decide) ?_
          refine lv_istore_n (lv' := [(2, .int y9_3), (0, .ref (ad 0)), (1, .int x1), (3, .int y9_3)]) hx hb dX4_leastOf_24 rfl hl (by decide) rfl (fun ls hl => ?_)
          refine lv_aload_n hx hb dX4_leastOf_25 rfl (lv_at hl 1 rfl) ?_
          refine gf_X4_23 C hH dX4_leastOf_26 ?_
          refine lv_iload_n hx hb dX4_leastOf_29 rfl (lv_at hl 3 rfl) ?_
          refine mal_be C hH h dX4_leastOf_30 (fun h => ?_)
          refine lv_istore_n (lv' := [(3, .int (mbe σ (y9_3 : Int32).toNatClampNeg)), (2, .int y9_3), (0, .ref (ad 0)), (1, .int x1)]) hx hb dX4_leastOf_31 rfl hl (by decide) rfl (fun ls hl => ?_)
          refine lv_goto (tgt := 9) hx hb dX4_leastOf_32 (by decide) ?_
          exact ih _ _ _ _ _ hH (lv_sub hl [2, 3, 1, 0] rfl) X (nxt_l h h2) K
  obtain ⟨X9, hX9, h⟩ := bnd h
  refine L9 FU x1 ((mbe σ (x1 : Int32).toNatClampNeg)) _ _ _ hH (lv_sub hl [2, 3, 1, 0] rfl) X9 hX9 ?_
  intro z9_0_2 H locs ls hH hl hE
  replace hE := hE.symm
  subst hE
  refine lv_iload_n hx hb dX4_leastOf_35 rfl (lv_at hl 0 rfl) ?_
  exact g_iret hx hb hr hlk hH ⟨Option.some.inj h, rfl⟩ dX4_leastOf_36
theorem ok_X4_leastOf : okName yX4_leastOf 1 := ⟨by decide, by decide, by decide +kernel⟩
section KL
variable {p : Program} {l : Launch} {e : Env} {R : Room} {s : State} {m : MethodId} {args : Array Value} {below : List Frame} {meth : Method} {c : Code} {H : Heap} {locs : List Loc} {cells slots : Nat} {Q : State → Prop} {cc : ByteArray} {pc nL : Nat} {ls : Array Slot} {rest : List Value}
variable {A : Nat → Prop} {D : va_G} {cy : Nat → ClassId} {ad : Nat → Nat}
theorem kl_X4_99 (C : gC p m c cc nL s args RX4 D (mT cy) (mw cy ad) A) {σ : MS} (hH : gH s D (mw cy ad) A σ H locs) {x1 : Int32} {α : Type} {k : Int32 → Option α} {y : α} (h : (f_X4_leastOf σ x1).bind k = some y) (hR : 1 ≤ R.frames ∧ 23 ≤ R.locals) (hcs : cells ≤ R.cells ∧ slots ≤ R.slots) (hl : ls.size = nL) (hW : (rest.map fun v => v.category).sum ≤ 8) (hdg : decode cc pc = .ok (.invokevirtual 99, 3)) (kk : ∀ (r : Int32) (H1 : Heap) (locs1 : List Loc), gH s D (mw cy ad) A σ H1 locs1 → k r = some y → W p l e R s m args below meth c H1 locs1 cells slots Q (F0 m (pc + 3) ls (.int r :: rest))) : W p l e R s m args below meth c H locs cells slots Q (F0 m pc ls (.int x1 :: .ref (ad 0) :: rest)) := by
  obtain ⟨r, h1, h2⟩ := bnd h
  exact g_fi (g_rV (As := [.int x1]) C hH (c_X4_leastOf l C.2.2.2 σ x1 r h1) (q0 := 0) mw_c_X4_leastOf mw_m_X4_99 mw_i_X4_leastOf mw_v_X4_leastOf mw_in_X4 ok_X4_leastOf ⟨rfl, rfl⟩ rfl rfl rfl hR hcs hl rfl hW hdg) hH.2 (fun H1 locs1 hH1 => kk r H1 locs1 hH1 h2)
end KL
set_option maxHeartbeats 4000000 in
set_option maxRecDepth 100000 in
theorem c_X4_isOn (l : Launch) {D : va_G} {cy : Nat → ClassId} {ad : Nat → Nat} {A : Nat → Prop} (hD : ∀ σ, va_D A (mw cy ad σ)) (σ : MS) (x1 x2 : Int32) (r0 : Int32) (h : f_X4_isOn σ x1 x2 = some r0) : gMi l yX4_isOn (wsM yX4_isOn cX4_isOn 5 (some .boolean)) ({ frames := 0, cells := 0, slots := 0, locals := 0 } : Room) D (mT cy) (mw cy ad) A [.ref (ad 0), .int x1, .int x2] σ σ r0 := by
  refine gMi.of (own := RX4) rfl (by decide) (Nat.le_of_ble_eq_true rfl) hD ?_
  intro p e s m below meth c ls C hx hb hr hlk hH hl
  have hl : lv_has ls 5 [(0, .ref (ad 0)), (1, .int x1), (2, .int x2)] := hl
  unfold f_X4_isOn at h
  have J10 : ∀ (j10_s0 : Int32) (H : Heap) (locs : List Loc) (ls : Array Slot), gH s D (mw cy ad) A σ H locs → lv_has ls 5 [(0, .ref (ad 0)), (1, .int x1), (2, .int x2)] → f_X4_isOn_j10 x2 σ x1 j10_s0 = some r0 → W p l e ({ frames := 0, cells := 0, slots := 0, locals := 0 } : Room) s m [.ref (ad 0), .int x1, .int x2].toArray below meth c H locs 0 0 (MQ below (gQi D (mw cy ad) A σ r0) [.ref (ad 0), .int x1, .int x2].toArray s 0 0 A) (F0 m 10 ls [.int j10_s0]) := by
    intro j10_s0 H locs ls hH hl h
    unfold f_X4_isOn_j10 at h
    refine lv_istore_n (lv' := [(3, .int j10_s0), (0, .ref (ad 0)), (1, .int x1), (2, .int x2)]) hx hb dX4_isOn_10 rfl hl (by decide) rfl (fun ls hl => ?_)
    refine lv_aload_n hx hb dX4_isOn_11 rfl (lv_at hl 1 rfl) ?_
    refine gf_X4_23 C hH dX4_isOn_12 ?_
    refine lv_iload_n hx hb dX4_isOn_15 rfl (lv_at hl 3 rfl) ?_
    refine mal_be C hH h dX4_isOn_16 (fun h => ?_)
    refine lv_istore (lv' := [(4, .int (mbe σ (x2 : Int32).toNatClampNeg)), (3, .int j10_s0), (0, .ref (ad 0)), (1, .int x1), (2, .int x2)]) hx hb dX4_isOn_17 hl (by decide) rfl (fun ls hl => ?_)
    have L19 : ∀ (n : Nat) (y19_3 : Int32) (y19_4 : Int32) (H : Heap) (locs : List Loc) (ls : Array Slot), gH s D (mw cy ad) A σ H locs → lv_has ls 5 [(0, .ref (ad 0)), (1, .int x1), (2, .int x2), (3, .int y19_3), (4, .int y19_4)] → ∀ X, itr (f_X4_isOn_b19 σ x2 x1) n (y19_3, y19_4) = some X → (∀ (z19_0_3 : Int32) (H : Heap) (locs : List Loc) (ls : Array Slot), gH s D (mw cy ad) A σ H locs → lv_has ls 5 [(3, .int z19_0_3)] → X = z19_0_3 → W p l e ({ frames := 0, cells := 0, slots := 0, locals := 0 } : Room) s m [.ref (ad 0), .int x1, .int x2].toArray below meth c H locs 0 0 (MQ below (gQi D (mw cy ad) A σ r0) [.ref (ad 0), .int x1, .int x2].toArray s 0 0 A) (F0 m 53 ls [])) → W p l e ({ frames := 0, cells := 0, slots := 0, locals := 0 } : Room) s m [.ref (ad 0), .int x1, .int x2].toArray below meth c H locs 0 0 (MQ below (gQi D (mw cy ad) A σ r0) [.ref (ad 0), .int x1, .int x2].toArray s 0 0 A) (F0 m 19 ls []) := by
      intro n
      induction n with
      | zero =>
        intro y19_3 y19_4 H locs ls hH hl X h K
        exact itr_0 h
      | succ n ih =>
        intro y19_3 y19_4 H locs ls hH hl X h0 K
        obtain ⟨o, h, h2⟩ := itr_step h0
        unfold f_X4_isOn_b19 at h
        refine lv_iload hx hb dX4_isOn_19 (lv_at hl 4 rfl) ?_
        refine lv_iload_n hx hb dX4_isOn_21 rfl (lv_at hl 2 rfl) ?_
        refine gb_icmp_eq (tgt := 53) hx hb dX4_isOn_22 (by decide) h (fun h => ?_) (fun h => ?_)
        · exact K _ _ _ _ hH (lv_sub hl [3] rfl) (nxt_r h h2)
        · refine lv_iload_n hx hb dX4_isOn_25 rfl (lv_at hl 3 rfl) ?_
          refine gb_if_ne (tgt := 53) hx hb dX4_isOn_26 (by decide) h (fun h => ?_) (fun h => ?_)
          · exact K _ _ _ _ hH (lv_sub hl [3] rfl) (nxt_r h h2)
          · refine lv_iload hx hb dX4_isOn_29 (lv_at hl 4 rfl) ?_
            refine lv_iload_n hx hb dX4_isOn_31 rfl (lv_at hl 1 rfl) ?_
            refine gb_icmp_ne (tgt := 39) hx hb dX4_isOn_32 (by decide) h (fun h => ?_) (fun h => ?_)
            · refine lv_iconst (v := 0) hx hb dX4_isOn_39 (by decide) ?_
              refine lv_istore_n (lv' := [(3, .int (0)), (0, .ref (ad 0)), (1, .int x1), (2, .int x2), (4, .int y19_4)]) hx hb dX4_isOn_40 rfl hl (by decide) rfl (fun ls hl => ?_)
              refine lv_aload_n hx hb dX4_isOn_41 rfl (lv_at hl 1 rfl) ?_
              refine gf_X4_23 C hH dX4_isOn_42 ?_
              refine lv_iload hx hb dX4_isOn_45 (lv_at hl 4 rfl) ?_
              refine mal_be C hH h dX4_isOn_47 (fun h => ?_)
              refine lv_istore (lv' := [(4, .int (mbe σ (y19_4 : Int32).toNatClampNeg)), (3, .int (0)), (0, .ref (ad 0)), (1, .int x1), (2, .int x2)]) hx hb dX4_isOn_48 hl (by decide) rfl (fun ls hl => ?_)
              refine lv_goto (tgt := 19) hx hb dX4_isOn_50 (by decide) ?_
              exact ih _ _ _ _ _ hH (lv_sub hl [2, 3, 4, 1, 0] rfl) X (nxt_l h h2) K
            · refine lv_iconst (v := 1) hx hb dX4_isOn_35 (by decide) ?_
              refine lv_goto (tgt := 40) hx hb dX4_isOn_36 (by decide) ?_
              refine lv_istore_n (lv' := [(3, .int (1)), (0, .ref (ad 0)), (1, .int x1), (2, .int x2), (4, .int y19_4)]) hx hb dX4_isOn_40 rfl hl (by decide) rfl (fun ls hl => ?_)
              refine lv_aload_n hx hb dX4_isOn_41 rfl (lv_at hl 1 rfl) ?_
              refine gf_X4_23 C hH dX4_isOn_42 ?_
              refine lv_iload hx hb dX4_isOn_45 (lv_at hl 4 rfl) ?_
              refine mal_be C hH h dX4_isOn_47 (fun h => ?_)
              refine lv_istore (lv' := [(4, .int (mbe σ (y19_4 : Int32).toNatClampNeg)), (3, .int (1)), (0, .ref (ad 0)), (1, .int x1), (2, .int x2)]) hx hb dX4_isOn_48 hl (by decide) rfl (fun ls hl => ?_)
              refine lv_goto (tgt := 19) hx hb dX4_isOn_50 (by decide) ?_
              exact ih _ _ _ _ _ hH (lv_sub hl [2, 3, 4, 1, 0] rfl) X (nxt_l h h2) K
    obtain ⟨X19, hX19, h⟩ := bnd h
    refine L19 FU j10_s0 ((mbe σ (x2 : Int32).toNatClampNeg)) _ _ _ hH (lv_sub hl [2, 3, 4, 1, 0] rfl) X19 hX19 ?_
    intro z19_0_3 H locs ls hH hl hE
    replace hE := hE.symm
    subst hE
    refine lv_iload_n hx hb dX4_isOn_53 rfl (lv_at hl 0 rfl) ?_
    exact g_bret hx hb hr hlk hH h (fun h => ⟨Option.some.inj h, rfl⟩) dX4_isOn_54
  refine lv_iload_n hx hb dX4_isOn_0 rfl (lv_at hl 1 rfl) ?_
  refine lv_iload_n hx hb dX4_isOn_1 rfl (lv_at hl 2 rfl) ?_
  refine gb_icmp_ne (tgt := 9) hx hb dX4_isOn_2 (by decide) h (fun h => ?_) (fun h => ?_)
  · refine lv_iconst (v := 0) hx hb dX4_isOn_9 (by decide) ?_
    exact J10 ((0 : Int32)) _ _ _ hH (lv_sub hl [0, 1, 2] rfl) h
  · refine lv_iconst (v := 1) hx hb dX4_isOn_5 (by decide) ?_
    refine lv_goto (tgt := 10) hx hb dX4_isOn_6 (by decide) ?_
    exact J10 ((1 : Int32)) _ _ _ hH (lv_sub hl [0, 1, 2] rfl) h
theorem ok_X4_isOn : okName yX4_isOn 2 := ⟨by decide, by decide, by decide +kernel⟩
section KL
variable {p : Program} {l : Launch} {e : Env} {R : Room} {s : State} {m : MethodId} {args : Array Value} {below : List Frame} {meth : Method} {c : Code} {H : Heap} {locs : List Loc} {cells slots : Nat} {Q : State → Prop} {cc : ByteArray} {pc nL : Nat} {ls : Array Slot} {rest : List Value}
variable {A : Nat → Prop} {D : va_G} {cy : Nat → ClassId} {ad : Nat → Nat}
theorem kl_X4_93 (C : gC p m c cc nL s args RX4 D (mT cy) (mw cy ad) A) {σ : MS} (hH : gH s D (mw cy ad) A σ H locs) {x1 x2 : Int32} {α : Type} {k : Int32 → Option α} {y : α} (h : (f_X4_isOn σ x1 x2).bind k = some y) (hR : 1 ≤ R.frames ∧ 24 ≤ R.locals) (hcs : cells ≤ R.cells ∧ slots ≤ R.slots) (hl : ls.size = nL) (hW : (rest.map fun v => v.category).sum ≤ 8) (hdg : decode cc pc = .ok (.invokevirtual 93, 3)) (kk : ∀ (r : Int32) (H1 : Heap) (locs1 : List Loc), gH s D (mw cy ad) A σ H1 locs1 → k r = some y → W p l e R s m args below meth c H1 locs1 cells slots Q (F0 m (pc + 3) ls (.int r :: rest))) : W p l e R s m args below meth c H locs cells slots Q (F0 m pc ls (.int x2 :: .int x1 :: .ref (ad 0) :: rest)) := by
  obtain ⟨r, h1, h2⟩ := bnd h
  exact g_fi (g_rV (As := [.int x1, .int x2]) C hH (c_X4_isOn l C.2.2.2 σ x1 x2 r h1) (q0 := 0) mw_c_X4_isOn mw_m_X4_93 mw_i_X4_isOn mw_v_X4_isOn mw_in_X4 ok_X4_isOn ⟨rfl, rfl⟩ rfl rfl rfl hR hcs hl rfl hW hdg) hH.2 (fun H1 locs1 hH1 => kk r H1 locs1 hH1 h2)
end KL
set_option maxHeartbeats 4000000 in
set_option maxRecDepth 100000 in
theorem c_X4_goes (l : Launch) {D : va_G} {cy : Nat → ClassId} {ad : Nat → Nat} {A : Nat → Prop} (hD : ∀ σ, va_D A (mw cy ad σ)) (σ : MS) (x1 x2 : Int32) (r0 : Int32) (σ0 : MS) (h : f_X4_goes σ x1 x2 = some (r0, σ0)) : gMi l yX4_goes (wsM yX4_goes cX4_goes 6 (some .int)) ({ frames := 5, cells := 0, slots := 0, locals := 122 } : Room) D (mT cy) (mw cy ad) A [.ref (ad 0), .int x1, .int x2] σ σ0 r0 := by
  refine gMi.of (own := RX4) rfl (by decide) (Nat.le_of_ble_eq_true rfl) hD ?_
  intro p e s m below meth c ls C hx hb hr hlk hH hl
  have hl : lv_has ls 6 [(0, .ref (ad 0)), (1, .int x1), (2, .int x2)] := hl
  unfold f_X4_goes at h
  refine lv_iload_n hx hb dX4_goes_0 rfl (lv_at hl 1 rfl) ?_
  refine kl_X4_76 C hH h ⟨by decide, by decide⟩ ⟨by decide, by decide⟩ hl.1 (Nat.le_of_ble_eq_true rfl) dX4_goes_1 (fun r1 H locs hH h => ?_)
  refine gb_if_eq (tgt := 16) hx hb dX4_goes_4 (by decide) h (fun h => ?_) (fun h => ?_)
  · refine lv_bipush (v := -2) hx hb dX4_goes_16 (by decide) ?_
    exact g_iret hx hb hr hlk hH (Prod.mk.inj (Option.some.inj h)) dX4_goes_18
  · refine lv_iload_n hx hb dX4_goes_7 rfl (lv_at hl 2 rfl) ?_
    refine lv_iconst (v := 0) hx hb dX4_goes_8 (by decide) ?_
    refine lv_iconst (v := 3) hx hb dX4_goes_9 (by decide) ?_
    refine kl_X4_32 C hH h ⟨by decide, by decide⟩ ⟨by decide, by decide⟩ hl.1 (Nat.le_of_ble_eq_true rfl) dX4_goes_10 (fun r2 H locs hH h => ?_)
    refine gb_if_ne (tgt := 19) hx hb dX4_goes_13 (by decide) h (fun h => ?_) (fun h => ?_)
    · refine lv_aload_n hx hb dX4_goes_19 rfl (lv_at hl 0 rfl) ?_
      refine lv_iload_n hx hb dX4_goes_20 rfl (lv_at hl 1 rfl) ?_
      refine kl_X4_85 C hH h ⟨by decide, by decide⟩ ⟨by decide, by decide⟩ hl.1 (Nat.le_of_ble_eq_true rfl) dX4_goes_21 (fun σ3 H locs hH h => ?_)
      refine lv_aload_n hx hb dX4_goes_24 rfl (lv_at hl 0 rfl) ?_
      refine lv_aload_n hx hb dX4_goes_25 rfl (lv_at hl 0 rfl) ?_
      refine gf_X4_43 C hH dX4_goes_26 ?_
      refine kl_X4_89 C hH h ⟨by decide, by decide⟩ ⟨by decide, by decide⟩ hl.1 (Nat.le_of_ble_eq_true rfl) dX4_goes_29 (fun r4 H locs hH h => ?_)
      refine lv_istore_n (lv' := [(3, .int r4), (0, .ref (ad 0)), (1, .int x1), (2, .int x2)]) hx hb dX4_goes_32 rfl hl (by decide) rfl (fun ls hl => ?_)
      refine lv_iconst (v := 0) hx hb dX4_goes_33 (by decide) ?_
      refine lv_istore (lv' := [(4, .int (0)), (3, .int r4), (0, .ref (ad 0)), (1, .int x1), (2, .int x2)]) hx hb dX4_goes_34 hl (by decide) rfl (fun ls hl => ?_)
      refine lv_aload_n hx hb dX4_goes_36 rfl (lv_at hl 2 rfl) ?_
      refine gf_X4_43 C hH dX4_goes_37 ?_
      refine lv_istore (lv' := [(5, .int (mnw σ3)), (4, .int (0)), (3, .int r4), (0, .ref (ad 0)), (1, .int x1), (2, .int x2)]) hx hb dX4_goes_40 hl (by decide) rfl (fun ls hl => ?_)
      have L42 : ∀ (n : Nat) (y42_4 : Int32) (y42_5 : Int32) (H : Heap) (locs : List Loc) (ls : Array Slot), gH s D (mw cy ad) A σ3 H locs → lv_has ls 6 [(0, .ref (ad 0)), (2, .int x2), (3, .int r4), (4, .int y42_4), (5, .int y42_5)] → ∀ X, itr (f_X4_goes_b42 σ3 r4) n (y42_4, y42_5) = some X → (∀ (z42_0_4 : Int32) (z42_0_5 : Int32) (H : Heap) (locs : List Loc) (ls : Array Slot), gH s D (mw cy ad) A σ3 H locs → lv_has ls 6 [(0, .ref (ad 0)), (2, .int x2), (3, .int r4), (4, .int z42_0_4), (5, .int z42_0_5)] → X = (z42_0_4, z42_0_5) → W p l e ({ frames := 5, cells := 0, slots := 0, locals := 122 } : Room) s m [.ref (ad 0), .int x1, .int x2].toArray below meth c H locs 0 0 (MQ below (gQi D (mw cy ad) A σ0 r0) [.ref (ad 0), .int x1, .int x2].toArray s 0 0 A) (F0 m 67 ls [])) → W p l e ({ frames := 5, cells := 0, slots := 0, locals := 122 } : Room) s m [.ref (ad 0), .int x1, .int x2].toArray below meth c H locs 0 0 (MQ below (gQi D (mw cy ad) A σ0 r0) [.ref (ad 0), .int x1, .int x2].toArray s 0 0 A) (F0 m 42 ls []) := by
        intro n
        induction n with
        | zero =>
          intro y42_4 y42_5 H locs ls hH hl X h K
          exact itr_0 h
        | succ n ih =>
          intro y42_4 y42_5 H locs ls hH hl X h0 K
          obtain ⟨o, h, h2⟩ := itr_step h0
          unfold f_X4_goes_b42 at h
          refine lv_aload_n hx hb dX4_goes_42 rfl (lv_at hl 0 rfl) ?_
          refine lv_iload hx hb dX4_goes_43 (lv_at hl 4 rfl) ?_
          refine lv_iload_n hx hb dX4_goes_45 rfl (lv_at hl 2 rfl) ?_
          refine kl_X4_93 C hH h ⟨by decide, by decide⟩ ⟨by decide, by decide⟩ hl.1 (Nat.le_of_ble_eq_true rfl) dX4_goes_46 (fun r5 H locs hH h => ?_)
          refine gb_if_ne (tgt := 67) hx hb dX4_goes_49 (by decide) h (fun h => ?_) (fun h => ?_)
          · exact K _ _ _ _ _ hH (lv_sub hl [0, 1, 2, 3, 4] rfl) (nxt_r h h2)
          · refine lv_aload_n hx hb dX4_goes_52 rfl (lv_at hl 0 rfl) ?_
            refine gf_X4_23 C hH dX4_goes_53 ?_
            refine lv_iload hx hb dX4_goes_56 (lv_at hl 4 rfl) ?_
            refine mal_be C hH h dX4_goes_58 (fun h => ?_)
            refine lv_istore (lv' := [(5, .int (mbe σ3 (y42_5 : Int32).toNatClampNeg)), (0, .ref (ad 0)), (2, .int x2), (3, .int r4), (4, .int y42_4)]) hx hb dX4_goes_59 hl (by decide) rfl (fun ls hl => ?_)
            refine lv_iinc (v := (y42_4 + (1 : Int32))) (lv' := [(4, .int (y42_4 + (1 : Int32))), (5, .int (mbe σ3 (y42_5 : Int32).toNatClampNeg)), (0, .ref (ad 0)), (2, .int x2), (3, .int r4)]) hx hb dX4_goes_61 hl (k := 4) rfl rfl (by decide) rfl (fun ls hl => ?_)
            refine lv_goto (tgt := 42) hx hb dX4_goes_64 (by decide) ?_
            exact ih _ _ _ _ _ hH (lv_sub hl [2, 3, 4, 0, 1] rfl) X (nxt_l h h2) K
      obtain ⟨X42, hX42, h⟩ := bnd h
      refine L42 FU ((0 : Int32)) ((mnw σ3)) _ _ _ hH (lv_sub hl [3, 5, 2, 1, 0] rfl) X42 hX42 ?_
      intro z42_0_4 z42_0_5 H locs ls hH hl hE
      replace hE := hE.symm
      subst hE
      refine lv_iload_n hx hb dX4_goes_67 rfl (lv_at hl 1 rfl) ?_
      refine gb_if_ne (tgt := 76) hx hb dX4_goes_68 (by decide) h (fun h => ?_) (fun h => ?_)
      · refine lv_iload_n hx hb dX4_goes_76 rfl (lv_at hl 1 rfl) ?_
        refine lv_iconst (v := 1) hx hb dX4_goes_77 (by decide) ?_
        refine gb_icmp_ne (tgt := 89) hx hb dX4_goes_78 (by decide) h (fun h => ?_) (fun h => ?_)
        · refine lv_iload_n hx hb dX4_goes_89 rfl (lv_at hl 1 rfl) ?_
          refine lv_iconst (v := 2) hx hb dX4_goes_90 (by decide) ?_
          refine gb_icmp_ne (tgt := 102) hx hb dX4_goes_91 (by decide) h (fun h => ?_) (fun h => ?_)
          · refine lv_iload hx hb dX4_goes_102 (lv_at hl 4 rfl) ?_
            exact g_iret hx hb hr hlk hH (Prod.mk.inj (Option.some.inj h)) dX4_goes_104
          · refine lv_aload_n hx hb dX4_goes_94 rfl (lv_at hl 0 rfl) ?_
            refine lv_iload_n hx hb dX4_goes_95 rfl (lv_at hl 2 rfl) ?_
            refine kl_X4_99 C hH h ⟨by decide, by decide⟩ ⟨by decide, by decide⟩ hl.1 (Nat.le_of_ble_eq_true rfl) dX4_goes_96 (fun r7 H locs hH h => ?_)
            refine lv_goto (tgt := 104) hx hb dX4_goes_99 (by decide) ?_
            exact g_iret hx hb hr hlk hH (Prod.mk.inj (Option.some.inj h)) dX4_goes_104
        · refine lv_aload_n hx hb dX4_goes_81 rfl (lv_at hl 0 rfl) ?_
          refine lv_iload_n hx hb dX4_goes_82 rfl (lv_at hl 2 rfl) ?_
          refine kl_X4_96 C hH h ⟨by decide, by decide⟩ ⟨by decide, by decide⟩ hl.1 (Nat.le_of_ble_eq_true rfl) dX4_goes_83 (fun r8 H locs hH h => ?_)
          refine lv_goto (tgt := 104) hx hb dX4_goes_86 (by decide) ?_
          exact g_iret hx hb hr hlk hH (Prod.mk.inj (Option.some.inj h)) dX4_goes_104
      · refine lv_iload hx hb dX4_goes_71 (lv_at hl 3 rfl) ?_
        refine lv_goto (tgt := 104) hx hb dX4_goes_73 (by decide) ?_
        exact g_iret hx hb hr hlk hH (Prod.mk.inj (Option.some.inj h)) dX4_goes_104
    · refine lv_bipush (v := -2) hx hb dX4_goes_16 (by decide) ?_
      exact g_iret hx hb hr hlk hH (Prod.mk.inj (Option.some.inj h)) dX4_goes_18
theorem ok_X4_goes : okName yX4_goes 2 := ⟨by decide, by decide, by decide +kernel⟩
set_option maxHeartbeats 4000000 in
set_option maxRecDepth 100000 in
theorem c_X4_layEnds (l : Launch) {D : va_G} {cy : Nat → ClassId} {ad : Nat → Nat} {A : Nat → Prop} (hD : ∀ σ, va_D A (mw cy ad σ)) (σ : MS) (x1 : Int32) (σ0 : MS) (h : f_X4_layEnds σ x1 = some σ0) : gMv l yX4_layEnds (wsM yX4_layEnds cX4_layEnds 6 none) ({ frames := 5, cells := 0, slots := 0, locals := 122 } : Room) D (mT cy) (mw cy ad) A [.ref (ad 0), .int x1] σ σ0 := by
  refine gMv.of (own := RX4) rfl (by decide) (Nat.le_of_ble_eq_true rfl) hD ?_
  intro p e s m below meth c ls C hx hb hr hlk hH hl
  have hl : lv_has ls 6 [(0, .ref (ad 0)), (1, .int x1)] := hl
  unfold f_X4_layEnds at h
  refine lv_aload_n hx hb dX4_layEnds_0 rfl (lv_at hl 0 rfl) ?_
  refine lv_iload_n hx hb dX4_layEnds_1 rfl (lv_at hl 1 rfl) ?_
  refine kl_X4_85 C hH h ⟨by decide, by decide⟩ ⟨by decide, by decide⟩ hl.1 (Nat.le_of_ble_eq_true rfl) dX4_layEnds_2 (fun σ1 H locs hH h => ?_)
  refine lv_iconst (v := 0) hx hb dX4_layEnds_5 (by decide) ?_
  refine lv_istore_n (lv' := [(2, .int (0)), (0, .ref (ad 0)), (1, .int x1)]) hx hb dX4_layEnds_6 rfl hl (by decide) rfl (fun ls hl => ?_)
  have L7 : ∀ (n : Nat) (y7_2 : Int32) (σ7 : MS) (H : Heap) (locs : List Loc) (ls : Array Slot), gH s D (mw cy ad) A σ7 H locs → lv_has ls 6 [(0, .ref (ad 0)), (2, .int y7_2)] → ∀ X, itr f_X4_layEnds_b7 n (y7_2, σ7) = some X → (∀ (σz7_0 : MS) (H : Heap) (locs : List Loc) (ls : Array Slot), gH s D (mw cy ad) A σz7_0 H locs → lv_has ls 6 [(0, .ref (ad 0))] → X = σz7_0 → W p l e ({ frames := 5, cells := 0, slots := 0, locals := 122 } : Room) s m [.ref (ad 0), .int x1].toArray below meth c H locs 0 0 (MQ below (gQv D (mw cy ad) A σ0) [.ref (ad 0), .int x1].toArray s 0 0 A) (F0 m 29 ls [])) → W p l e ({ frames := 5, cells := 0, slots := 0, locals := 122 } : Room) s m [.ref (ad 0), .int x1].toArray below meth c H locs 0 0 (MQ below (gQv D (mw cy ad) A σ0) [.ref (ad 0), .int x1].toArray s 0 0 A) (F0 m 7 ls []) := by
    intro n
    induction n with
    | zero =>
      intro y7_2 σ7 H locs ls hH hl X h K
      exact itr_0 h
    | succ n ih =>
      intro y7_2 σ7 H locs ls hH hl X h0 K
      obtain ⟨o, h, h2⟩ := itr_step h0
      unfold f_X4_layEnds_b7 at h
      refine lv_iload_n hx hb dX4_layEnds_7 rfl (lv_at hl 1 rfl) ?_
      refine lv_aload_n hx hb dX4_layEnds_8 rfl (lv_at hl 0 rfl) ?_
      refine kl_X4_36 C hH h ⟨by decide, by decide⟩ ⟨by decide, by decide⟩ hl.1 (Nat.le_of_ble_eq_true rfl) dX4_layEnds_9 (fun r2 H locs hH h => ?_)
      refine gb_icmp_ge (tgt := 29) hx hb dX4_layEnds_12 (by decide) h (fun h => ?_) (fun h => ?_)
      · exact K _ _ _ _ hH (lv_sub hl [0] rfl) (nxt_r h h2)
      · refine lv_aload_n hx hb dX4_layEnds_15 rfl (lv_at hl 0 rfl) ?_
        refine gf_X4_26 C hH dX4_layEnds_16 ?_
        refine lv_iload_n hx hb dX4_layEnds_19 rfl (lv_at hl 1 rfl) ?_
        refine lv_bipush (v := -6) hx hb dX4_layEnds_20 (by decide) ?_
        refine mas_en C hH h dX4_layEnds_22 (fun h H locs hH => ?_)
        refine lv_iinc (v := (y7_2 + (1 : Int32))) (lv' := [(2, .int (y7_2 + (1 : Int32))), (0, .ref (ad 0))]) hx hb dX4_layEnds_23 hl (k := 1) rfl rfl (by decide) rfl (fun ls hl => ?_)
        refine lv_goto (tgt := 7) hx hb dX4_layEnds_26 (by decide) ?_
        exact ih _ _ _ _ _ hH (lv_sub hl [1, 0] rfl) X (nxt_l h h2) K
  obtain ⟨X7, hX7, h⟩ := bnd h
  refine L7 FU ((0 : Int32)) σ1 _ _ _ hH (lv_sub hl [1, 0] rfl) X7 hX7 ?_
  intro σz7_0 H locs ls hH hl hE
  replace hE := hE.symm
  subst hE
  refine lv_iconst (v := 0) hx hb dX4_layEnds_29 (by decide) ?_
  refine lv_istore_n (lv' := [(2, .int (0)), (0, .ref (ad 0))]) hx hb dX4_layEnds_30 rfl hl (by decide) rfl (fun ls hl => ?_)
  have L31 : ∀ (n : Nat) (y31_2 : Int32) (σ31 : MS) (H : Heap) (locs : List Loc) (ls : Array Slot), gH s D (mw cy ad) A σ31 H locs → lv_has ls 6 [(0, .ref (ad 0)), (2, .int y31_2)] → ∀ X, itr f_X4_layEnds_b31 n (y31_2, σ31) = some X → (∀ (σz31_0 : MS) (H : Heap) (locs : List Loc) (ls : Array Slot), gH s D (mw cy ad) A σz31_0 H locs → lv_has ls 6 [(0, .ref (ad 0))] → X = σz31_0 → W p l e ({ frames := 5, cells := 0, slots := 0, locals := 122 } : Room) s m [.ref (ad 0), .int x1].toArray below meth c H locs 0 0 (MQ below (gQv D (mw cy ad) A σ0) [.ref (ad 0), .int x1].toArray s 0 0 A) (F0 m 133 ls [])) → W p l e ({ frames := 5, cells := 0, slots := 0, locals := 122 } : Room) s m [.ref (ad 0), .int x1].toArray below meth c H locs 0 0 (MQ below (gQv D (mw cy ad) A σ0) [.ref (ad 0), .int x1].toArray s 0 0 A) (F0 m 31 ls []) := by
    intro n
    induction n with
    | zero =>
      intro y31_2 σ31 H locs ls hH hl X h K
      exact itr_0 h
    | succ n ih =>
      intro y31_2 σ31 H locs ls hH hl X h0 K
      obtain ⟨o, h, h2⟩ := itr_step h0
      unfold f_X4_layEnds_b31 at h
      refine lv_iload_n hx hb dX4_layEnds_31 rfl (lv_at hl 1 rfl) ?_
      refine lv_aload_n hx hb dX4_layEnds_32 rfl (lv_at hl 0 rfl) ?_
      refine kl_X4_36 C hH h ⟨by decide, by decide⟩ ⟨by decide, by decide⟩ hl.1 (Nat.le_of_ble_eq_true rfl) dX4_layEnds_33 (fun r4 H locs hH h => ?_)
      refine gb_icmp_ge (tgt := 133) hx hb dX4_layEnds_36 (by decide) h (fun h => ?_) (fun h => ?_)
      · exact K _ _ _ _ hH (lv_sub hl [0] rfl) (nxt_r h h2)
      · refine lv_aload_n hx hb dX4_layEnds_39 rfl (lv_at hl 0 rfl) ?_
        refine lv_iload_n hx hb dX4_layEnds_40 rfl (lv_at hl 1 rfl) ?_
        refine kl_X4_82 C hH h ⟨by decide, by decide⟩ ⟨by decide, by decide⟩ hl.1 (Nat.le_of_ble_eq_true rfl) dX4_layEnds_41 (fun r5 H locs hH h => ?_)
        refine gb_if_eq (tgt := 127) hx hb dX4_layEnds_44 (by decide) h (fun h => ?_) (fun h => ?_)
        · refine lv_iinc (v := (y31_2 + (1 : Int32))) (lv' := [(2, .int (y31_2 + (1 : Int32))), (0, .ref (ad 0))]) hx hb dX4_layEnds_127 hl (k := 1) rfl rfl (by decide) rfl (fun ls hl => ?_)
          refine lv_goto (tgt := 31) hx hb dX4_layEnds_130 (by decide) ?_
          exact ih _ _ _ _ _ hH (lv_sub hl [1, 0] rfl) X (nxt_l h h2) K
        · refine lv_aload_n hx hb dX4_layEnds_47 rfl (lv_at hl 0 rfl) ?_
          refine lv_iload_n hx hb dX4_layEnds_48 rfl (lv_at hl 1 rfl) ?_
          refine kl_X4_89 C hH h ⟨by decide, by decide⟩ ⟨by decide, by decide⟩ hl.1 (Nat.le_of_ble_eq_true rfl) dX4_layEnds_49 (fun r6 H locs hH h => ?_)
          refine lv_istore_n (lv' := [(3, .int r6), (0, .ref (ad 0)), (2, .int y31_2)]) hx hb dX4_layEnds_52 rfl hl (by decide) rfl (fun ls hl => ?_)
          refine lv_aload_n hx hb dX4_layEnds_53 rfl (lv_at hl 1 rfl) ?_
          refine gf_X4_26 C hH dX4_layEnds_54 ?_
          refine lv_iload_n hx hb dX4_layEnds_57 rfl (lv_at hl 0 rfl) ?_
          refine mal_en C hH h dX4_layEnds_58 (fun h => ?_)
          refine gb_if_ge (tgt := 127) hx hb dX4_layEnds_59 (by decide) h (fun h => ?_) (fun h => ?_)
          · refine lv_iinc (v := (y31_2 + (1 : Int32))) (lv' := [(2, .int (y31_2 + (1 : Int32))), (3, .int r6), (0, .ref (ad 0))]) hx hb dX4_layEnds_127 hl (k := 2) rfl rfl (by decide) rfl (fun ls hl => ?_)
            refine lv_goto (tgt := 31) hx hb dX4_layEnds_130 (by decide) ?_
            exact ih _ _ _ _ _ hH (lv_sub hl [2, 0] rfl) X (nxt_l h h2) K
          · refine lv_aload_n hx hb dX4_layEnds_62 rfl (lv_at hl 1 rfl) ?_
            refine lv_iload_n hx hb dX4_layEnds_63 rfl (lv_at hl 0 rfl) ?_
            refine kl_X4_99 C hH h ⟨by decide, by decide⟩ ⟨by decide, by decide⟩ hl.1 (Nat.le_of_ble_eq_true rfl) dX4_layEnds_64 (fun r7 H locs hH h => ?_)
            refine lv_istore (lv' := [(4, .int r7), (3, .int r6), (0, .ref (ad 0)), (2, .int y31_2)]) hx hb dX4_layEnds_67 hl (by decide) rfl (fun ls hl => ?_)
            refine lv_aload_n hx hb dX4_layEnds_69 rfl (lv_at hl 2 rfl) ?_
            refine gf_X4_26 C hH dX4_layEnds_70 ?_
            refine lv_iload_n hx hb dX4_layEnds_73 rfl (lv_at hl 1 rfl) ?_
            refine lv_iload hx hb dX4_layEnds_74 (lv_at hl 0 rfl) ?_
            refine mas_en C hH h dX4_layEnds_76 (fun h H locs hH => ?_)
            refine lv_aload_n hx hb dX4_layEnds_77 rfl (lv_at hl 2 rfl) ?_
            refine gf_X4_29 C hH dX4_layEnds_78 ?_
            refine lv_iload_n hx hb dX4_layEnds_81 rfl (lv_at hl 1 rfl) ?_
            refine lv_iconst (v := 0) hx hb dX4_layEnds_82 (by decide) ?_
            refine mas_ta C hH h dX4_layEnds_83 (fun h H locs hH => ?_)
            refine lv_aload_n hx hb dX4_layEnds_84 rfl (lv_at hl 2 rfl) ?_
            refine gf_X4_23 C hH dX4_layEnds_85 ?_
            refine lv_iload_n hx hb dX4_layEnds_88 rfl (lv_at hl 1 rfl) ?_
            refine mal_be C hH h dX4_layEnds_89 (fun h => ?_)
            refine lv_istore (lv' := [(5, .int (mbe (mtta (mten σ31 r6 r7) r6 (0 : Int32)) (r6 : Int32).toNatClampNeg)), (4, .int r7), (3, .int r6), (0, .ref (ad 0)), (2, .int y31_2)]) hx hb dX4_layEnds_90 hl (by decide) rfl (fun ls hl => ?_)
            have L92 : ∀ (n : Nat) (y92_5 : Int32) (σ92 : MS) (H : Heap) (locs : List Loc) (ls : Array Slot), gH s D (mw cy ad) A σ92 H locs → lv_has ls 6 [(0, .ref (ad 0)), (2, .int y31_2), (3, .int r6), (4, .int r7), (5, .int y92_5)] → ∀ X, itr (f_X4_layEnds_b92 r6 r7) n (y92_5, σ92) = some X → (∀ (σz92_0 : MS) (H : Heap) (locs : List Loc) (ls : Array Slot), gH s D (mw cy ad) A σz92_0 H locs → lv_has ls 6 [(0, .ref (ad 0)), (2, .int y31_2)] → X = σz92_0 → W p l e ({ frames := 5, cells := 0, slots := 0, locals := 122 } : Room) s m [.ref (ad 0), .int x1].toArray below meth c H locs 0 0 (MQ below (gQv D (mw cy ad) A σ0) [.ref (ad 0), .int x1].toArray s 0 0 A) (F0 m 127 ls [])) → W p l e ({ frames := 5, cells := 0, slots := 0, locals := 122 } : Room) s m [.ref (ad 0), .int x1].toArray below meth c H locs 0 0 (MQ below (gQv D (mw cy ad) A σ0) [.ref (ad 0), .int x1].toArray s 0 0 A) (F0 m 92 ls []) := by
              intro n
              induction n with
              | zero =>
                intro y92_5 σ92 H locs ls hH hl X h K
                exact itr_0 h
              | succ n ih =>
                intro y92_5 σ92 H locs ls hH hl X h0 K
                obtain ⟨o, h, h2⟩ := itr_step h0
                unfold f_X4_layEnds_b92 at h
                refine lv_iload hx hb dX4_layEnds_92 (lv_at hl 4 rfl) ?_
                refine lv_iload_n hx hb dX4_layEnds_94 rfl (lv_at hl 2 rfl) ?_
                refine gb_icmp_eq (tgt := 127) hx hb dX4_layEnds_95 (by decide) h (fun h => ?_) (fun h => ?_)
                · exact K _ _ _ _ hH (lv_sub hl [0, 1] rfl) (nxt_r h h2)
                · refine lv_aload_n hx hb dX4_layEnds_98 rfl (lv_at hl 0 rfl) ?_
                  refine gf_X4_26 C hH dX4_layEnds_99 ?_
                  refine lv_iload hx hb dX4_layEnds_102 (lv_at hl 4 rfl) ?_
                  refine lv_iload hx hb dX4_layEnds_104 (lv_at hl 3 rfl) ?_
                  refine mas_en C hH h dX4_layEnds_106 (fun h H locs hH => ?_)
                  refine lv_aload_n hx hb dX4_layEnds_107 rfl (lv_at hl 0 rfl) ?_
                  refine gf_X4_29 C hH dX4_layEnds_108 ?_
                  refine lv_iload hx hb dX4_layEnds_111 (lv_at hl 4 rfl) ?_
                  refine lv_iconst (v := 0) hx hb dX4_layEnds_113 (by decide) ?_
                  refine mas_ta C hH h dX4_layEnds_114 (fun h H locs hH => ?_)
                  refine lv_aload_n hx hb dX4_layEnds_115 rfl (lv_at hl 0 rfl) ?_
                  refine gf_X4_23 C hH dX4_layEnds_116 ?_
                  refine lv_iload hx hb dX4_layEnds_119 (lv_at hl 4 rfl) ?_
                  refine mal_be C hH h dX4_layEnds_121 (fun h => ?_)
                  refine lv_istore (lv' := [(5, .int (mbe (mtta (mten σ92 y92_5 r7) y92_5 (0 : Int32)) (y92_5 : Int32).toNatClampNeg)), (0, .ref (ad 0)), (2, .int y31_2), (3, .int r6), (4, .int r7)]) hx hb dX4_layEnds_122 hl (by decide) rfl (fun ls hl => ?_)
                  refine lv_goto (tgt := 92) hx hb dX4_layEnds_124 (by decide) ?_
                  exact ih _ _ _ _ _ hH (lv_sub hl [1, 2, 3, 4, 0] rfl) X (nxt_l h h2) K
            obtain ⟨X92, hX92, h⟩ := bnd h
            refine L92 FU ((mbe (mtta (mten σ31 r6 r7) r6 (0 : Int32)) (r6 : Int32).toNatClampNeg)) ((mtta (mten σ31 r6 r7) r6 (0 : Int32))) _ _ _ hH (lv_sub hl [3, 4, 2, 1, 0] rfl) X92 hX92 ?_
            intro σz92_0 H locs ls hH hl hE
            replace hE := hE.symm
            subst hE
            refine lv_iinc (v := (y31_2 + (1 : Int32))) (lv' := [(2, .int (y31_2 + (1 : Int32))), (0, .ref (ad 0))]) hx hb dX4_layEnds_127 hl (k := 1) rfl rfl (by decide) rfl (fun ls hl => ?_)
            refine lv_goto (tgt := 31) hx hb dX4_layEnds_130 (by decide) ?_
            exact ih _ _ _ _ _ hH (lv_sub hl [1, 0] rfl) X (nxt_l h h2) K
  obtain ⟨X31, hX31, h⟩ := bnd h
  refine L31 FU ((0 : Int32)) σz7_0 _ _ _ hH (lv_sub hl [1, 0] rfl) X31 hX31 ?_
  intro σz31_0 H locs ls hH hl hE
  replace hE := hE.symm
  subst hE
  refine lv_iconst (v := 1) hx hb dX4_layEnds_133 (by decide) ?_
  refine lv_istore_n (lv' := [(2, .int (1)), (0, .ref (ad 0))]) hx hb dX4_layEnds_134 rfl hl (by decide) rfl (fun ls hl => ?_)
  have L135 : ∀ (n : Nat) (y135_2 : Int32) (σ135 : MS) (H : Heap) (locs : List Loc) (ls : Array Slot), gH s D (mw cy ad) A σ135 H locs → lv_has ls 6 [(0, .ref (ad 0)), (2, .int y135_2)] → ∀ X, itr f_X4_layEnds_b135 n (y135_2, σ135) = some X → (∀ (σz135_0 : MS) (H : Heap) (locs : List Loc) (ls : Array Slot), gH s D (mw cy ad) A σz135_0 H locs → lv_has ls 6 [] → X = σz135_0 → W p l e ({ frames := 5, cells := 0, slots := 0, locals := 122 } : Room) s m [.ref (ad 0), .int x1].toArray below meth c H locs 0 0 (MQ below (gQv D (mw cy ad) A σ0) [.ref (ad 0), .int x1].toArray s 0 0 A) (F0 m 229 ls [])) → W p l e ({ frames := 5, cells := 0, slots := 0, locals := 122 } : Room) s m [.ref (ad 0), .int x1].toArray below meth c H locs 0 0 (MQ below (gQv D (mw cy ad) A σ0) [.ref (ad 0), .int x1].toArray s 0 0 A) (F0 m 135 ls []) := by
    intro n
    induction n with
    | zero =>
      intro y135_2 σ135 H locs ls hH hl X h K
      exact itr_0 h
    | succ n ih =>
      intro y135_2 σ135 H locs ls hH hl X h0 K
      obtain ⟨o, h, h2⟩ := itr_step h0
      unfold f_X4_layEnds_b135 at h
      refine lv_iload_n hx hb dX4_layEnds_135 rfl (lv_at hl 1 rfl) ?_
      refine gb_if_eq (tgt := 229) hx hb dX4_layEnds_136 (by decide) h (fun h => ?_) (fun h => ?_)
      · exact K _ _ _ _ hH (lv_sub hl [] rfl) (nxt_r h h2)
      · refine lv_iconst (v := 0) hx hb dX4_layEnds_139 (by decide) ?_
        refine lv_istore_n (lv' := [(2, .int (0)), (0, .ref (ad 0))]) hx hb dX4_layEnds_140 rfl hl (by decide) rfl (fun ls hl => ?_)
        refine lv_iconst (v := 0) hx hb dX4_layEnds_141 (by decide) ?_
        refine lv_istore_n (lv' := [(3, .int (0)), (2, .int (0)), (0, .ref (ad 0))]) hx hb dX4_layEnds_142 rfl hl (by decide) rfl (fun ls hl => ?_)
        have L143 : ∀ (n : Nat) (y143_2 : Int32) (y143_3 : Int32) (σ143 : MS) (H : Heap) (locs : List Loc) (ls : Array Slot), gH s D (mw cy ad) A σ143 H locs → lv_has ls 6 [(0, .ref (ad 0)), (2, .int y143_2), (3, .int y143_3)] → ∀ X, itr f_X4_layEnds_b143 n (y143_2, y143_3, σ143) = some X → (∀ (z143_0_2 : Int32) (σz143_0 : MS) (H : Heap) (locs : List Loc) (ls : Array Slot), gH s D (mw cy ad) A σz143_0 H locs → lv_has ls 6 [(0, .ref (ad 0)), (2, .int z143_0_2)] → X = (z143_0_2, σz143_0) → W p l e ({ frames := 5, cells := 0, slots := 0, locals := 122 } : Room) s m [.ref (ad 0), .int x1].toArray below meth c H locs 0 0 (MQ below (gQv D (mw cy ad) A σ0) [.ref (ad 0), .int x1].toArray s 0 0 A) (F0 m 226 ls [])) → W p l e ({ frames := 5, cells := 0, slots := 0, locals := 122 } : Room) s m [.ref (ad 0), .int x1].toArray below meth c H locs 0 0 (MQ below (gQv D (mw cy ad) A σ0) [.ref (ad 0), .int x1].toArray s 0 0 A) (F0 m 143 ls []) := by
          intro n
          induction n with
          | zero =>
            intro y143_2 y143_3 σ143 H locs ls hH hl X h K
            exact itr_0 h
          | succ n ih =>
            intro y143_2 y143_3 σ143 H locs ls hH hl X h0 K
            obtain ⟨o, h, h2⟩ := itr_step h0
            unfold f_X4_layEnds_b143 at h
            refine lv_iload_n hx hb dX4_layEnds_143 rfl (lv_at hl 2 rfl) ?_
            refine lv_aload_n hx hb dX4_layEnds_144 rfl (lv_at hl 0 rfl) ?_
            refine kl_X4_36 C hH h ⟨by decide, by decide⟩ ⟨by decide, by decide⟩ hl.1 (Nat.le_of_ble_eq_true rfl) dX4_layEnds_145 (fun r10 H locs hH h => ?_)
            refine gb_icmp_ge (tgt := 226) hx hb dX4_layEnds_148 (by decide) h (fun h => ?_) (fun h => ?_)
            · exact K _ _ _ _ _ hH (lv_sub hl [0, 1] rfl) (nxt_r h h2)
            · refine lv_aload_n hx hb dX4_layEnds_151 rfl (lv_at hl 0 rfl) ?_
              refine lv_iload_n hx hb dX4_layEnds_152 rfl (lv_at hl 2 rfl) ?_
              refine kl_X4_82 C hH h ⟨by decide, by decide⟩ ⟨by decide, by decide⟩ hl.1 (Nat.le_of_ble_eq_true rfl) dX4_layEnds_153 (fun r11 H locs hH h => ?_)
              refine gb_if_eq (tgt := 220) hx hb dX4_layEnds_156 (by decide) h (fun h => ?_) (fun h => ?_)
              · refine lv_iinc (v := (y143_3 + (1 : Int32))) (lv' := [(3, .int (y143_3 + (1 : Int32))), (0, .ref (ad 0)), (2, .int y143_2)]) hx hb dX4_layEnds_220 hl (k := 2) rfl rfl (by decide) rfl (fun ls hl => ?_)
                refine lv_goto (tgt := 143) hx hb dX4_layEnds_223 (by decide) ?_
                exact ih _ _ _ _ _ _ hH (lv_sub hl [1, 2, 0] rfl) X (nxt_l h h2) K
              · refine lv_aload_n hx hb dX4_layEnds_159 rfl (lv_at hl 0 rfl) ?_
                refine gf_X4_26 C hH dX4_layEnds_160 ?_
                refine lv_iload_n hx hb dX4_layEnds_163 rfl (lv_at hl 2 rfl) ?_
                refine mal_en C hH h dX4_layEnds_164 (fun h => ?_)
                refine gb_if_ge (tgt := 220) hx hb dX4_layEnds_165 (by decide) h (fun h => ?_) (fun h => ?_)
                · refine lv_iinc (v := (y143_3 + (1 : Int32))) (lv' := [(3, .int (y143_3 + (1 : Int32))), (0, .ref (ad 0)), (2, .int y143_2)]) hx hb dX4_layEnds_220 hl (k := 2) rfl rfl (by decide) rfl (fun ls hl => ?_)
                  refine lv_goto (tgt := 143) hx hb dX4_layEnds_223 (by decide) ?_
                  exact ih _ _ _ _ _ _ hH (lv_sub hl [1, 2, 0] rfl) X (nxt_l h h2) K
                · refine lv_aload_n hx hb dX4_layEnds_168 rfl (lv_at hl 0 rfl) ?_
                  refine gf_X4_26 C hH dX4_layEnds_169 ?_
                  refine lv_aload_n hx hb dX4_layEnds_172 rfl (lv_at hl 0 rfl) ?_
                  refine gf_X4_23 C hH dX4_layEnds_173 ?_
                  refine lv_iload_n hx hb dX4_layEnds_176 rfl (lv_at hl 2 rfl) ?_
                  refine mal_be C hH h dX4_layEnds_177 (fun h => ?_)
                  refine mal_en C hH h dX4_layEnds_178 (fun h => ?_)
                  refine gb_if_lt (tgt := 220) hx hb dX4_layEnds_179 (by decide) h (fun h => ?_) (fun h => ?_)
                  · refine lv_iinc (v := (y143_3 + (1 : Int32))) (lv' := [(3, .int (y143_3 + (1 : Int32))), (0, .ref (ad 0)), (2, .int y143_2)]) hx hb dX4_layEnds_220 hl (k := 2) rfl rfl (by decide) rfl (fun ls hl => ?_)
                    refine lv_goto (tgt := 143) hx hb dX4_layEnds_223 (by decide) ?_
                    exact ih _ _ _ _ _ _ hH (lv_sub hl [1, 2, 0] rfl) X (nxt_l h h2) K
                  · refine lv_aload_n hx hb dX4_layEnds_182 rfl (lv_at hl 0 rfl) ?_
                    refine gf_X4_26 C hH dX4_layEnds_183 ?_
                    refine lv_iload_n hx hb dX4_layEnds_186 rfl (lv_at hl 2 rfl) ?_
                    refine lv_aload_n hx hb dX4_layEnds_187 rfl (lv_at hl 0 rfl) ?_
                    refine gf_X4_26 C hH dX4_layEnds_188 ?_
                    refine lv_aload_n hx hb dX4_layEnds_191 rfl (lv_at hl 0 rfl) ?_
                    refine gf_X4_23 C hH dX4_layEnds_192 ?_
                    refine lv_iload_n hx hb dX4_layEnds_195 rfl (lv_at hl 2 rfl) ?_
                    refine mal_be C hH h dX4_layEnds_196 (fun h => ?_)
                    refine mal_en C hH h dX4_layEnds_197 (fun h => ?_)
                    refine mas_en C hH h dX4_layEnds_198 (fun h H locs hH => ?_)
                    refine lv_aload_n hx hb dX4_layEnds_199 rfl (lv_at hl 0 rfl) ?_
                    refine gf_X4_29 C hH dX4_layEnds_200 ?_
                    refine lv_iload_n hx hb dX4_layEnds_203 rfl (lv_at hl 2 rfl) ?_
                    refine lv_aload_n hx hb dX4_layEnds_204 rfl (lv_at hl 0 rfl) ?_
                    refine gf_X4_29 C hH dX4_layEnds_205 ?_
                    refine lv_aload_n hx hb dX4_layEnds_208 rfl (lv_at hl 0 rfl) ?_
                    refine gf_X4_23 C hH dX4_layEnds_209 ?_
                    refine lv_iload_n hx hb dX4_layEnds_212 rfl (lv_at hl 2 rfl) ?_
                    refine mal_be C hH h dX4_layEnds_213 (fun h => ?_)
                    refine mal_ta C hH h dX4_layEnds_214 (fun h => ?_)
                    refine lv_iconst (v := 1) hx hb dX4_layEnds_215 (by decide) ?_
                    refine lv_iadd hx hb dX4_layEnds_216 ?_
                    refine mas_ta C hH h dX4_layEnds_217 (fun h H locs hH => ?_)
                    refine lv_iconst (v := 1) hx hb dX4_layEnds_218 (by decide) ?_
                    refine lv_istore_n (lv' := [(2, .int (1)), (0, .ref (ad 0)), (3, .int y143_3)]) hx hb dX4_layEnds_219 rfl hl (by decide) rfl (fun ls hl => ?_)
                    refine lv_iinc (v := (y143_3 + (1 : Int32))) (lv' := [(3, .int (y143_3 + (1 : Int32))), (2, .int (1)), (0, .ref (ad 0))]) hx hb dX4_layEnds_220 hl (k := 2) rfl rfl (by decide) rfl (fun ls hl => ?_)
                    refine lv_goto (tgt := 143) hx hb dX4_layEnds_223 (by decide) ?_
                    exact ih _ _ _ _ _ _ hH (lv_sub hl [2, 1, 0] rfl) X (nxt_l h h2) K
        obtain ⟨X143, hX143, h⟩ := bnd h
        refine L143 FU ((0 : Int32)) ((0 : Int32)) σ135 _ _ _ hH (lv_sub hl [2, 1, 0] rfl) X143 hX143 ?_
        intro z143_0_2 σz143_0 H locs ls hH hl hE
        replace hE := hE.symm
        subst hE
        refine lv_goto (tgt := 135) hx hb dX4_layEnds_226 (by decide) ?_
        exact ih _ _ _ _ _ hH (lv_sub hl [0, 1] rfl) X (nxt_l h h2) K
  obtain ⟨X135, hX135, h⟩ := bnd h
  refine L135 FU ((1 : Int32)) σz31_0 _ _ _ hH (lv_sub hl [1, 0] rfl) X135 hX135 ?_
  intro σz135_0 H locs ls hH hl hE
  replace hE := hE.symm
  subst hE
  exact g_vret hx hb hr hlk hH (Option.some.inj h) dX4_layEnds_229
theorem ok_X4_layEnds : okName yX4_layEnds 1 := ⟨by decide, by decide, by decide +kernel⟩
section KL
variable {p : Program} {l : Launch} {e : Env} {R : Room} {s : State} {m : MethodId} {args : Array Value} {below : List Frame} {meth : Method} {c : Code} {H : Heap} {locs : List Loc} {cells slots : Nat} {Q : State → Prop} {cc : ByteArray} {pc nL : Nat} {ls : Array Slot} {rest : List Value}
variable {A : Nat → Prop} {D : va_G} {cy : Nat → ClassId} {ad : Nat → Nat}
theorem kl_X4_102 (C : gC p m c cc nL s args RX4 D (mT cy) (mw cy ad) A) {σ : MS} (hH : gH s D (mw cy ad) A σ H locs) {x1 : Int32} {α : Type} {k : MS → Option α} {y : α} (h : (f_X4_layEnds σ x1).bind k = some y) (hR : 6 ≤ R.frames ∧ 147 ≤ R.locals) (hcs : cells ≤ R.cells ∧ slots ≤ R.slots) (hl : ls.size = nL) (hW : (rest.map fun v => v.category).sum ≤ 8) (hdg : decode cc pc = .ok (.invokevirtual 102, 3)) (kk : ∀ (σ1 : MS) (H1 : Heap) (locs1 : List Loc), gH s D (mw cy ad) A σ1 H1 locs1 → k σ1 = some y → W p l e R s m args below meth c H1 locs1 cells slots Q (F0 m (pc + 3) ls (rest))) : W p l e R s m args below meth c H locs cells slots Q (F0 m pc ls (.int x1 :: .ref (ad 0) :: rest)) := by
  obtain ⟨σ1, h1, h2⟩ := bnd h
  exact g_fv (g_rV (As := [.int x1]) C hH (c_X4_layEnds l C.2.2.2 σ x1 σ1 h1) (q0 := 0) mw_c_X4_layEnds mw_m_X4_102 mw_i_X4_layEnds mw_v_X4_layEnds mw_in_X4 ok_X4_layEnds ⟨rfl, rfl⟩ rfl rfl rfl hR hcs hl rfl hW hdg) hH.2 (fun H1 locs1 hH1 => kk σ1 H1 locs1 hH1 h2)
end KL
set_option maxHeartbeats 4000000 in
set_option maxRecDepth 100000 in
theorem c_X4_endAt (l : Launch) {D : va_G} {cy : Nat → ClassId} {ad : Nat → Nat} {A : Nat → Prop} (hD : ∀ σ, va_D A (mw cy ad σ)) (σ : MS) (x1 : Int32) (r0 : Int32) (h : f_X4_endAt σ x1 = some r0) : gMi l yX4_endAt (wsM yX4_endAt cX4_endAt 4 (some .int)) ({ frames := 1, cells := 0, slots := 0, locals := 20 } : Room) D (mT cy) (mw cy ad) A [.ref (ad 0), .int x1] σ σ r0 := by
  refine gMi.of (own := RX4) rfl (by decide) (Nat.le_of_ble_eq_true rfl) hD ?_
  intro p e s m below meth c ls C hx hb hr hlk hH hl
  have hl : lv_has ls 4 [(0, .ref (ad 0)), (1, .int x1)] := hl
  unfold f_X4_endAt at h
  refine lv_iconst (v := 0) hx hb dX4_endAt_0 (by decide) ?_
  refine lv_istore_n (lv' := [(2, .int (0)), (0, .ref (ad 0)), (1, .int x1)]) hx hb dX4_endAt_1 rfl hl (by decide) rfl (fun ls hl => ?_)
  refine lv_iconst (v := 0) hx hb dX4_endAt_2 (by decide) ?_
  refine lv_istore_n (lv' := [(3, .int (0)), (2, .int (0)), (0, .ref (ad 0)), (1, .int x1)]) hx hb dX4_endAt_3 rfl hl (by decide) rfl (fun ls hl => ?_)
  have L4 : ∀ (n : Nat) (y4_2 : Int32) (y4_3 : Int32) (H : Heap) (locs : List Loc) (ls : Array Slot), gH s D (mw cy ad) A σ H locs → lv_has ls 4 [(0, .ref (ad 0)), (1, .int x1), (2, .int y4_2), (3, .int y4_3)] → ∀ X, itr (f_X4_endAt_b4 σ x1) n (y4_2, y4_3) = some X → (∀ (z4_0_3 : Int32) (H : Heap) (locs : List Loc) (ls : Array Slot), gH s D (mw cy ad) A σ H locs → lv_has ls 4 [(3, .int z4_0_3)] → X = (Sum.inl z4_0_3) → W p l e ({ frames := 1, cells := 0, slots := 0, locals := 20 } : Room) s m [.ref (ad 0), .int x1].toArray below meth c H locs 0 0 (MQ below (gQi D (mw cy ad) A σ r0) [.ref (ad 0), .int x1].toArray s 0 0 A) (F0 m 27 ls [])) → (∀ (z4_1_2 : Int32) (H : Heap) (locs : List Loc) (ls : Array Slot), gH s D (mw cy ad) A σ H locs → lv_has ls 4 [(1, .int x1), (2, .int z4_1_2)] → X = (Sum.inr z4_1_2) → W p l e ({ frames := 1, cells := 0, slots := 0, locals := 20 } : Room) s m [.ref (ad 0), .int x1].toArray below meth c H locs 0 0 (MQ below (gQi D (mw cy ad) A σ r0) [.ref (ad 0), .int x1].toArray s 0 0 A) (F0 m 38 ls [])) → W p l e ({ frames := 1, cells := 0, slots := 0, locals := 20 } : Room) s m [.ref (ad 0), .int x1].toArray below meth c H locs 0 0 (MQ below (gQi D (mw cy ad) A σ r0) [.ref (ad 0), .int x1].toArray s 0 0 A) (F0 m 4 ls []) := by
    intro n
    induction n with
    | zero =>
      intro y4_2 y4_3 H locs ls hH hl X h K0 K1
      exact itr_0 h
    | succ n ih =>
      intro y4_2 y4_3 H locs ls hH hl X h0 K0 K1
      obtain ⟨o, h, h2⟩ := itr_step h0
      unfold f_X4_endAt_b4 at h
      refine lv_iload_n hx hb dX4_endAt_4 rfl (lv_at hl 3 rfl) ?_
      refine lv_aload_n hx hb dX4_endAt_5 rfl (lv_at hl 0 rfl) ?_
      refine kl_X4_36 C hH h ⟨by decide, by decide⟩ ⟨by decide, by decide⟩ hl.1 (Nat.le_of_ble_eq_true rfl) dX4_endAt_6 (fun r1 H locs hH h => ?_)
      refine gb_icmp_ge (tgt := 38) hx hb dX4_endAt_9 (by decide) h (fun h => ?_) (fun h => ?_)
      · exact K1 _ _ _ _ hH (lv_sub hl [1, 2] rfl) (nxt_r h h2)
      · refine lv_aload_n hx hb dX4_endAt_12 rfl (lv_at hl 0 rfl) ?_
        refine gf_X4_26 C hH dX4_endAt_13 ?_
        refine lv_iload_n hx hb dX4_endAt_16 rfl (lv_at hl 3 rfl) ?_
        refine mal_en C hH h dX4_endAt_17 (fun h => ?_)
        refine lv_iload_n hx hb dX4_endAt_18 rfl (lv_at hl 3 rfl) ?_
        refine gb_icmp_ne (tgt := 32) hx hb dX4_endAt_19 (by decide) h (fun h => ?_) (fun h => ?_)
        · refine lv_iinc (v := (y4_3 + (1 : Int32))) (lv' := [(3, .int (y4_3 + (1 : Int32))), (0, .ref (ad 0)), (1, .int x1), (2, .int y4_2)]) hx hb dX4_endAt_32 hl (k := 3) rfl rfl (by decide) rfl (fun ls hl => ?_)
          refine lv_goto (tgt := 4) hx hb dX4_endAt_35 (by decide) ?_
          exact ih _ _ _ _ _ hH (lv_sub hl [1, 2, 3, 0] rfl) X (nxt_l h h2) K0 K1
        · refine lv_iload_n hx hb dX4_endAt_22 rfl (lv_at hl 2 rfl) ?_
          refine lv_iload_n hx hb dX4_endAt_23 rfl (lv_at hl 1 rfl) ?_
          refine gb_icmp_ne (tgt := 29) hx hb dX4_endAt_24 (by decide) h (fun h => ?_) (fun h => ?_)
          · refine lv_iinc (v := (y4_2 + (1 : Int32))) (lv' := [(2, .int (y4_2 + (1 : Int32))), (0, .ref (ad 0)), (1, .int x1), (3, .int y4_3)]) hx hb dX4_endAt_29 hl (k := 2) rfl rfl (by decide) rfl (fun ls hl => ?_)
            refine lv_iinc (v := (y4_3 + (1 : Int32))) (lv' := [(3, .int (y4_3 + (1 : Int32))), (2, .int (y4_2 + (1 : Int32))), (0, .ref (ad 0)), (1, .int x1)]) hx hb dX4_endAt_32 hl (k := 3) rfl rfl (by decide) rfl (fun ls hl => ?_)
            refine lv_goto (tgt := 4) hx hb dX4_endAt_35 (by decide) ?_
            exact ih _ _ _ _ _ hH (lv_sub hl [2, 3, 1, 0] rfl) X (nxt_l h h2) K0 K1
          · exact K0 _ _ _ _ hH (lv_sub hl [3] rfl) (nxt_r h h2)
  obtain ⟨X4, hX4, h⟩ := bnd h
  refine L4 FU ((0 : Int32)) ((0 : Int32)) _ _ _ hH (lv_sub hl [2, 3, 1, 0] rfl) X4 hX4 ?_ ?_
  · intro z4_0_3 H locs ls hH hl hE
    replace hE := hE.symm
    subst hE
    refine lv_iload_n hx hb dX4_endAt_27 rfl (lv_at hl 0 rfl) ?_
    exact g_iret hx hb hr hlk hH ⟨Option.some.inj h, rfl⟩ dX4_endAt_28
  · intro z4_1_2 H locs ls hH hl hE
    replace hE := hE.symm
    subst hE
    refine lv_iload_n hx hb dX4_endAt_38 rfl (lv_at hl 0 rfl) ?_
    refine lv_iconst (v := -1) hx hb dX4_endAt_39 (by decide) ?_
    refine gb_icmp_ne (tgt := 47) hx hb dX4_endAt_40 (by decide) h (fun h => ?_) (fun h => ?_)
    · refine lv_bipush (v := -6) hx hb dX4_endAt_47 (by decide) ?_
      exact g_iret hx hb hr hlk hH ⟨Option.some.inj h, rfl⟩ dX4_endAt_49
    · refine lv_iload_n hx hb dX4_endAt_43 rfl (lv_at hl 1 rfl) ?_
      refine lv_goto (tgt := 49) hx hb dX4_endAt_44 (by decide) ?_
      exact g_iret hx hb hr hlk hH ⟨Option.some.inj h, rfl⟩ dX4_endAt_49
theorem ok_X4_endAt : okName yX4_endAt 1 := ⟨by decide, by decide, by decide +kernel⟩
section KL
variable {p : Program} {l : Launch} {e : Env} {R : Room} {s : State} {m : MethodId} {args : Array Value} {below : List Frame} {meth : Method} {c : Code} {H : Heap} {locs : List Loc} {cells slots : Nat} {Q : State → Prop} {cc : ByteArray} {pc nL : Nat} {ls : Array Slot} {rest : List Value}
variable {A : Nat → Prop} {D : va_G} {cy : Nat → ClassId} {ad : Nat → Nat}
theorem kl_X4_105 (C : gC p m c cc nL s args RX4 D (mT cy) (mw cy ad) A) {σ : MS} (hH : gH s D (mw cy ad) A σ H locs) {x1 : Int32} {α : Type} {k : Int32 → Option α} {y : α} (h : (f_X4_endAt σ x1).bind k = some y) (hR : 2 ≤ R.frames ∧ 43 ≤ R.locals) (hcs : cells ≤ R.cells ∧ slots ≤ R.slots) (hl : ls.size = nL) (hW : (rest.map fun v => v.category).sum ≤ 8) (hdg : decode cc pc = .ok (.invokevirtual 105, 3)) (kk : ∀ (r : Int32) (H1 : Heap) (locs1 : List Loc), gH s D (mw cy ad) A σ H1 locs1 → k r = some y → W p l e R s m args below meth c H1 locs1 cells slots Q (F0 m (pc + 3) ls (.int r :: rest))) : W p l e R s m args below meth c H locs cells slots Q (F0 m pc ls (.int x1 :: .ref (ad 0) :: rest)) := by
  obtain ⟨r, h1, h2⟩ := bnd h
  exact g_fi (g_rV (As := [.int x1]) C hH (c_X4_endAt l C.2.2.2 σ x1 r h1) (q0 := 0) mw_c_X4_endAt mw_m_X4_105 mw_i_X4_endAt mw_v_X4_endAt mw_in_X4 ok_X4_endAt ⟨rfl, rfl⟩ rfl rfl rfl hR hcs hl rfl hW hdg) hH.2 (fun H1 locs1 hH1 => kk r H1 locs1 hH1 h2)
end KL
set_option maxHeartbeats 4000000 in
set_option maxRecDepth 100000 in
theorem c_X4_end (l : Launch) {D : va_G} {cy : Nat → ClassId} {ad : Nat → Nat} {A : Nat → Prop} (hD : ∀ σ, va_D A (mw cy ad σ)) (σ : MS) (x1 x2 : Int32) (r0 : Int32) (σ0 : MS) (h : f_X4_end σ x1 x2 = some (r0, σ0)) : gMi l yX4_end (wsM yX4_end cX4_end 3 (some .int)) ({ frames := 6, cells := 0, slots := 0, locals := 147 } : Room) D (mT cy) (mw cy ad) A [.ref (ad 0), .int x1, .int x2] σ σ0 r0 := by
  refine gMi.of (own := RX4) rfl (by decide) (Nat.le_of_ble_eq_true rfl) hD ?_
  intro p e s m below meth c ls C hx hb hr hlk hH hl
  have hl : lv_has ls 3 [(0, .ref (ad 0)), (1, .int x1), (2, .int x2)] := hl
  unfold f_X4_end at h
  refine lv_iload_n hx hb dX4_end_0 rfl (lv_at hl 1 rfl) ?_
  refine kl_X4_76 C hH h ⟨by decide, by decide⟩ ⟨by decide, by decide⟩ hl.1 (Nat.le_of_ble_eq_true rfl) dX4_end_1 (fun r1 H locs hH h => ?_)
  refine gb_if_ne (tgt := 10) hx hb dX4_end_4 (by decide) h (fun h => ?_) (fun h => ?_)
  · refine lv_aload_n hx hb dX4_end_10 rfl (lv_at hl 0 rfl) ?_
    refine lv_iload_n hx hb dX4_end_11 rfl (lv_at hl 1 rfl) ?_
    refine kl_X4_102 C hH h ⟨by decide, by decide⟩ ⟨by decide, by decide⟩ hl.1 (Nat.le_of_ble_eq_true rfl) dX4_end_12 (fun σ2 H locs hH h => ?_)
    refine lv_aload_n hx hb dX4_end_15 rfl (lv_at hl 0 rfl) ?_
    refine lv_iload_n hx hb dX4_end_16 rfl (lv_at hl 2 rfl) ?_
    refine kl_X4_105 C hH h ⟨by decide, by decide⟩ ⟨by decide, by decide⟩ hl.1 (Nat.le_of_ble_eq_true rfl) dX4_end_17 (fun r3 H locs hH h => ?_)
    exact g_iret hx hb hr hlk hH (Prod.mk.inj (Option.some.inj h)) dX4_end_20
  · refine lv_bipush (v := -2) hx hb dX4_end_7 (by decide) ?_
    exact g_iret hx hb hr hlk hH (Prod.mk.inj (Option.some.inj h)) dX4_end_9
theorem ok_X4_end : okName yX4_end 2 := ⟨by decide, by decide, by decide +kernel⟩
set_option maxHeartbeats 4000000 in
set_option maxRecDepth 100000 in
theorem c_X4_basin (l : Launch) {D : va_G} {cy : Nat → ClassId} {ad : Nat → Nat} {A : Nat → Prop} (hD : ∀ σ, va_D A (mw cy ad σ)) (σ : MS) (x1 x2 x3 : Int32) (r0 : Int32) (σ0 : MS) (h : f_X4_basin σ x1 x2 x3 = some (r0, σ0)) : gMi l yX4_basin (wsM yX4_basin cX4_basin 8 (some .int)) ({ frames := 6, cells := 0, slots := 0, locals := 147 } : Room) D (mT cy) (mw cy ad) A [.ref (ad 0), .int x1, .int x2, .int x3] σ σ0 r0 := by
  refine gMi.of (own := RX4) rfl (by decide) (Nat.le_of_ble_eq_true rfl) hD ?_
  intro p e s m below meth c ls C hx hb hr hlk hH hl
  have hl : lv_has ls 8 [(0, .ref (ad 0)), (1, .int x1), (2, .int x2), (3, .int x3)] := hl
  unfold f_X4_basin at h
  have J38 : ∀ (j38_s0 : Int32) (σj38 : MS) (H : Heap) (locs : List Loc) (ls : Array Slot), gH s D (mw cy ad) A σj38 H locs → lv_has ls 8 [(0, .ref (ad 0)), (3, .int x3)] → f_X4_basin_j38 x3 j38_s0 σj38 = some (r0, σ0) → W p l e ({ frames := 6, cells := 0, slots := 0, locals := 147 } : Room) s m [.ref (ad 0), .int x1, .int x2, .int x3].toArray below meth c H locs 0 0 (MQ below (gQi D (mw cy ad) A σ0 r0) [.ref (ad 0), .int x1, .int x2, .int x3].toArray s 0 0 A) (F0 m 38 ls [.int j38_s0]) := by
    intro j38_s0 σj38 H locs ls hH hl h
    unfold f_X4_basin_j38 at h
    refine lv_istore (lv' := [(4, .int j38_s0), (0, .ref (ad 0)), (3, .int x3)]) hx hb dX4_basin_38 hl (by decide) rfl (fun ls hl => ?_)
    refine lv_iload hx hb dX4_basin_40 (lv_at hl 0 rfl) ?_
    refine gb_if_ge (tgt := 48) hx hb dX4_basin_42 (by decide) h (fun h => ?_) (fun h => ?_)
    · refine lv_iconst (v := 0) hx hb dX4_basin_48 (by decide) ?_
      refine lv_istore (lv' := [(5, .int (0)), (4, .int j38_s0), (0, .ref (ad 0)), (3, .int x3)]) hx hb dX4_basin_49 hl (by decide) rfl (fun ls hl => ?_)
      refine lv_iconst (v := 0) hx hb dX4_basin_51 (by decide) ?_
      refine lv_istore (lv' := [(6, .int (0)), (5, .int (0)), (4, .int j38_s0), (0, .ref (ad 0)), (3, .int x3)]) hx hb dX4_basin_52 hl (by decide) rfl (fun ls hl => ?_)
      refine lv_iconst (v := 0) hx hb dX4_basin_54 (by decide) ?_
      refine lv_istore (lv' := [(7, .int (0)), (6, .int (0)), (5, .int (0)), (4, .int j38_s0), (0, .ref (ad 0)), (3, .int x3)]) hx hb dX4_basin_55 hl (by decide) rfl (fun ls hl => ?_)
      have L57 : ∀ (n : Nat) (y57_5 : Int32) (y57_6 : Int32) (y57_7 : Int32) (H : Heap) (locs : List Loc) (ls : Array Slot), gH s D (mw cy ad) A σj38 H locs → lv_has ls 8 [(0, .ref (ad 0)), (3, .int x3), (4, .int j38_s0), (5, .int y57_5), (6, .int y57_6), (7, .int y57_7)] → ∀ X, itr (f_X4_basin_b57 σj38 j38_s0) n (y57_5, y57_6, y57_7) = some X → (∀ (z57_0_5 : Int32) (z57_0_6 : Int32) (H : Heap) (locs : List Loc) (ls : Array Slot), gH s D (mw cy ad) A σj38 H locs → lv_has ls 8 [(0, .ref (ad 0)), (3, .int x3), (4, .int j38_s0), (5, .int z57_0_5), (6, .int z57_0_6)] → X = (z57_0_5, z57_0_6) → W p l e ({ frames := 6, cells := 0, slots := 0, locals := 147 } : Room) s m [.ref (ad 0), .int x1, .int x2, .int x3].toArray below meth c H locs 0 0 (MQ below (gQi D (mw cy ad) A σ0 r0) [.ref (ad 0), .int x1, .int x2, .int x3].toArray s 0 0 A) (F0 m 113 ls [])) → W p l e ({ frames := 6, cells := 0, slots := 0, locals := 147 } : Room) s m [.ref (ad 0), .int x1, .int x2, .int x3].toArray below meth c H locs 0 0 (MQ below (gQi D (mw cy ad) A σ0 r0) [.ref (ad 0), .int x1, .int x2, .int x3].toArray s 0 0 A) (F0 m 57 ls []) := by
        intro n
        induction n with
        | zero =>
          intro y57_5 y57_6 y57_7 H locs ls hH hl X h K
          exact itr_0 h
        | succ n ih =>
          intro y57_5 y57_6 y57_7 H locs ls hH hl X h0 K
          obtain ⟨o, h, h2⟩ := itr_step h0
          unfold f_X4_basin_b57 at h
          refine lv_iload hx hb dX4_basin_57 (lv_at hl 5 rfl) ?_
          refine lv_aload_n hx hb dX4_basin_59 rfl (lv_at hl 0 rfl) ?_
          refine kl_X4_36 C hH h ⟨by decide, by decide⟩ ⟨by decide, by decide⟩ hl.1 (Nat.le_of_ble_eq_true rfl) dX4_basin_60 (fun r5 H locs hH h => ?_)
          refine gb_icmp_ge (tgt := 113) hx hb dX4_basin_63 (by decide) h (fun h => ?_) (fun h => ?_)
          · exact K _ _ _ _ _ hH (lv_sub hl [0, 1, 2, 3, 4] rfl) (nxt_r h h2)
          · refine lv_aload_n hx hb dX4_basin_66 rfl (lv_at hl 0 rfl) ?_
            refine gf_X4_26 C hH dX4_basin_67 ?_
            refine lv_iload hx hb dX4_basin_70 (lv_at hl 5 rfl) ?_
            refine mal_en C hH h dX4_basin_72 (fun h => ?_)
            refine lv_iload hx hb dX4_basin_73 (lv_at hl 2 rfl) ?_
            refine gb_icmp_ne (tgt := 107) hx hb dX4_basin_75 (by decide) h (fun h => ?_) (fun h => ?_)
            · refine lv_iinc (v := (y57_7 + (1 : Int32))) (lv' := [(7, .int (y57_7 + (1 : Int32))), (0, .ref (ad 0)), (3, .int x3), (4, .int j38_s0), (5, .int y57_5), (6, .int y57_6)]) hx hb dX4_basin_107 hl (k := 5) rfl rfl (by decide) rfl (fun ls hl => ?_)
              refine lv_goto (tgt := 57) hx hb dX4_basin_110 (by decide) ?_
              exact ih _ _ _ _ _ _ hH (lv_sub hl [1, 2, 3, 4, 5, 0] rfl) X (nxt_l h h2) K
            · refine lv_iinc (v := (y57_5 + (1 : Int32))) (lv' := [(5, .int (y57_5 + (1 : Int32))), (0, .ref (ad 0)), (3, .int x3), (4, .int j38_s0), (6, .int y57_6), (7, .int y57_7)]) hx hb dX4_basin_78 hl (k := 3) rfl rfl (by decide) rfl (fun ls hl => ?_)
              refine lv_aload_n hx hb dX4_basin_81 rfl (lv_at hl 1 rfl) ?_
              refine gf_X4_29 C hH dX4_basin_82 ?_
              refine lv_iload hx hb dX4_basin_85 (lv_at hl 5 rfl) ?_
              refine mal_ta C hH h dX4_basin_87 (fun h => ?_)
              refine lv_iload hx hb dX4_basin_88 (lv_at hl 4 rfl) ?_
              refine gb_icmp_le (tgt := 103) hx hb dX4_basin_90 (by decide) h (fun h => ?_) (fun h => ?_)
              · refine lv_iload hx hb dX4_basin_103 (lv_at hl 4 rfl) ?_
                refine lv_istore (lv' := [(6, .int y57_6), (5, .int (y57_5 + (1 : Int32))), (0, .ref (ad 0)), (3, .int x3), (4, .int j38_s0), (7, .int y57_7)]) hx hb dX4_basin_105 hl (by decide) rfl (fun ls hl => ?_)
                refine lv_iinc (v := (y57_7 + (1 : Int32))) (lv' := [(7, .int (y57_7 + (1 : Int32))), (6, .int y57_6), (5, .int (y57_5 + (1 : Int32))), (0, .ref (ad 0)), (3, .int x3), (4, .int j38_s0)]) hx hb dX4_basin_107 hl (k := 5) rfl rfl (by decide) rfl (fun ls hl => ?_)
                refine lv_goto (tgt := 57) hx hb dX4_basin_110 (by decide) ?_
                exact ih _ _ _ _ _ _ hH (lv_sub hl [3, 4, 5, 2, 1, 0] rfl) X (nxt_l h h2) K
              · refine lv_aload_n hx hb dX4_basin_93 rfl (lv_at hl 1 rfl) ?_
                refine gf_X4_29 C hH dX4_basin_94 ?_
                refine lv_iload hx hb dX4_basin_97 (lv_at hl 5 rfl) ?_
                refine mal_ta C hH h dX4_basin_99 (fun h => ?_)
                refine lv_goto (tgt := 105) hx hb dX4_basin_100 (by decide) ?_
                refine lv_istore (lv' := [(6, .int (mta σj38 (y57_7 : Int32).toNatClampNeg)), (5, .int (y57_5 + (1 : Int32))), (0, .ref (ad 0)), (3, .int x3), (4, .int j38_s0), (7, .int y57_7)]) hx hb dX4_basin_105 hl (by decide) rfl (fun ls hl => ?_)
                refine lv_iinc (v := (y57_7 + (1 : Int32))) (lv' := [(7, .int (y57_7 + (1 : Int32))), (6, .int (mta σj38 (y57_7 : Int32).toNatClampNeg)), (5, .int (y57_5 + (1 : Int32))), (0, .ref (ad 0)), (3, .int x3), (4, .int j38_s0)]) hx hb dX4_basin_107 hl (k := 5) rfl rfl (by decide) rfl (fun ls hl => ?_)
                refine lv_goto (tgt := 57) hx hb dX4_basin_110 (by decide) ?_
                exact ih _ _ _ _ _ _ hH (lv_sub hl [3, 4, 5, 2, 1, 0] rfl) X (nxt_l h h2) K
      obtain ⟨X57, hX57, h⟩ := bnd h
      refine L57 FU ((0 : Int32)) ((0 : Int32)) ((0 : Int32)) _ _ _ hH (lv_sub hl [4, 5, 3, 2, 1, 0] rfl) X57 hX57 ?_
      intro z57_0_5 z57_0_6 H locs ls hH hl hE
      replace hE := hE.symm
      subst hE
      refine lv_iload_n hx hb dX4_basin_113 rfl (lv_at hl 1 rfl) ?_
      refine gb_if_ne (tgt := 122) hx hb dX4_basin_114 (by decide) h (fun h => ?_) (fun h => ?_)
      · refine lv_iload_n hx hb dX4_basin_122 rfl (lv_at hl 1 rfl) ?_
        refine lv_iconst (v := 1) hx hb dX4_basin_123 (by decide) ?_
        refine gb_icmp_ne (tgt := 136) hx hb dX4_basin_124 (by decide) h (fun h => ?_) (fun h => ?_)
        · refine lv_iload hx hb dX4_basin_136 (lv_at hl 4 rfl) ?_
          exact g_iret hx hb hr hlk hH (Prod.mk.inj (Option.some.inj h)) dX4_basin_138
        · refine lv_aload_n hx hb dX4_basin_127 rfl (lv_at hl 0 rfl) ?_
          refine lv_iload hx hb dX4_basin_128 (lv_at hl 2 rfl) ?_
          refine kl_X4_96 C hH h ⟨by decide, by decide⟩ ⟨by decide, by decide⟩ hl.1 (Nat.le_of_ble_eq_true rfl) dX4_basin_130 (fun r7 H locs hH h => ?_)
          refine lv_goto (tgt := 138) hx hb dX4_basin_133 (by decide) ?_
          exact g_iret hx hb hr hlk hH (Prod.mk.inj (Option.some.inj h)) dX4_basin_138
      · refine lv_iload hx hb dX4_basin_117 (lv_at hl 3 rfl) ?_
        refine lv_goto (tgt := 138) hx hb dX4_basin_119 (by decide) ?_
        exact g_iret hx hb hr hlk hH (Prod.mk.inj (Option.some.inj h)) dX4_basin_138
    · refine lv_bipush (v := -6) hx hb dX4_basin_45 (by decide) ?_
      exact g_iret hx hb hr hlk hH (Prod.mk.inj (Option.some.inj h)) dX4_basin_47
  refine lv_iload_n hx hb dX4_basin_0 rfl (lv_at hl 1 rfl) ?_
  refine kl_X4_76 C hH h ⟨by decide, by decide⟩ ⟨by decide, by decide⟩ hl.1 (Nat.le_of_ble_eq_true rfl) dX4_basin_1 (fun r1 H locs hH h => ?_)
  refine gb_if_eq (tgt := 16) hx hb dX4_basin_4 (by decide) h (fun h => ?_) (fun h => ?_)
  · refine lv_bipush (v := -2) hx hb dX4_basin_16 (by decide) ?_
    exact g_iret hx hb hr hlk hH (Prod.mk.inj (Option.some.inj h)) dX4_basin_18
  · refine lv_iload_n hx hb dX4_basin_7 rfl (lv_at hl 3 rfl) ?_
    refine lv_iconst (v := 0) hx hb dX4_basin_8 (by decide) ?_
    refine lv_iconst (v := 2) hx hb dX4_basin_9 (by decide) ?_
    refine kl_X4_32 C hH h ⟨by decide, by decide⟩ ⟨by decide, by decide⟩ hl.1 (Nat.le_of_ble_eq_true rfl) dX4_basin_10 (fun r2 H locs hH h => ?_)
    refine gb_if_ne (tgt := 19) hx hb dX4_basin_13 (by decide) h (fun h => ?_) (fun h => ?_)
    · refine lv_aload_n hx hb dX4_basin_19 rfl (lv_at hl 0 rfl) ?_
      refine lv_iload_n hx hb dX4_basin_20 rfl (lv_at hl 1 rfl) ?_
      refine kl_X4_102 C hH h ⟨by decide, by decide⟩ ⟨by decide, by decide⟩ hl.1 (Nat.le_of_ble_eq_true rfl) dX4_basin_21 (fun σ3 H locs hH h => ?_)
      refine lv_iload_n hx hb dX4_basin_24 rfl (lv_at hl 2 rfl) ?_
      refine gb_if_ge (tgt := 33) hx hb dX4_basin_25 (by decide) h (fun h => ?_) (fun h => ?_)
      · refine lv_aload_n hx hb dX4_basin_33 rfl (lv_at hl 0 rfl) ?_
        refine lv_iload_n hx hb dX4_basin_34 rfl (lv_at hl 2 rfl) ?_
        refine kl_X4_105 C hH h ⟨by decide, by decide⟩ ⟨by decide, by decide⟩ hl.1 (Nat.le_of_ble_eq_true rfl) dX4_basin_35 (fun r4 H locs hH h => ?_)
        exact J38 r4 σ3 _ _ _ hH (lv_sub hl [0, 3] rfl) h
      · refine lv_bipush (v := -6) hx hb dX4_basin_28 (by decide) ?_
        refine lv_goto (tgt := 38) hx hb dX4_basin_30 (by decide) ?_
        exact J38 ((-6 : Int32)) σ3 _ _ _ hH (lv_sub hl [0, 3] rfl) h
    · refine lv_bipush (v := -2) hx hb dX4_basin_16 (by decide) ?_
      exact g_iret hx hb hr hlk hH (Prod.mk.inj (Option.some.inj h)) dX4_basin_18
theorem ok_X4_basin : okName yX4_basin 3 := ⟨by decide, by decide, by decide +kernel⟩
set_option maxHeartbeats 4000000 in
set_option maxRecDepth 100000 in
theorem c_X4_lone (l : Launch) {D : va_G} {cy : Nat → ClassId} {ad : Nat → Nat} {A : Nat → Prop} (hD : ∀ σ, va_D A (mw cy ad σ)) (σ : MS) (x1 : Int32) (r0 : Int32) (σ0 : MS) (h : f_X4_lone σ x1 = some (r0, σ0)) : gMi l yX4_lone (wsM yX4_lone cX4_lone 4 (some .int)) ({ frames := 5, cells := 0, slots := 0, locals := 122 } : Room) D (mT cy) (mw cy ad) A [.ref (ad 0), .int x1] σ σ0 r0 := by
  refine gMi.of (own := RX4) rfl (by decide) (Nat.le_of_ble_eq_true rfl) hD ?_
  intro p e s m below meth c ls C hx hb hr hlk hH hl
  have hl : lv_has ls 4 [(0, .ref (ad 0)), (1, .int x1)] := hl
  unfold f_X4_lone at h
  refine lv_iload_n hx hb dX4_lone_0 rfl (lv_at hl 1 rfl) ?_
  refine kl_X4_76 C hH h ⟨by decide, by decide⟩ ⟨by decide, by decide⟩ hl.1 (Nat.le_of_ble_eq_true rfl) dX4_lone_1 (fun r1 H locs hH h => ?_)
  refine gb_if_ne (tgt := 10) hx hb dX4_lone_4 (by decide) h (fun h => ?_) (fun h => ?_)
  · refine lv_aload_n hx hb dX4_lone_10 rfl (lv_at hl 0 rfl) ?_
    refine lv_iload_n hx hb dX4_lone_11 rfl (lv_at hl 1 rfl) ?_
    refine kl_X4_85 C hH h ⟨by decide, by decide⟩ ⟨by decide, by decide⟩ hl.1 (Nat.le_of_ble_eq_true rfl) dX4_lone_12 (fun σ2 H locs hH h => ?_)
    refine lv_iconst (v := 0) hx hb dX4_lone_15 (by decide) ?_
    refine lv_istore_n (lv' := [(2, .int (0)), (0, .ref (ad 0)), (1, .int x1)]) hx hb dX4_lone_16 rfl hl (by decide) rfl (fun ls hl => ?_)
    have L17 : ∀ (n : Nat) (y17_2 : Int32) (σ17 : MS) (H : Heap) (locs : List Loc) (ls : Array Slot), gH s D (mw cy ad) A σ17 H locs → lv_has ls 4 [(0, .ref (ad 0)), (2, .int y17_2)] → ∀ X, itr f_X4_lone_b17 n (y17_2, σ17) = some X → (∀ (σz17_0 : MS) (H : Heap) (locs : List Loc) (ls : Array Slot), gH s D (mw cy ad) A σz17_0 H locs → lv_has ls 4 [(0, .ref (ad 0))] → X = σz17_0 → W p l e ({ frames := 5, cells := 0, slots := 0, locals := 122 } : Room) s m [.ref (ad 0), .int x1].toArray below meth c H locs 0 0 (MQ below (gQi D (mw cy ad) A σ0 r0) [.ref (ad 0), .int x1].toArray s 0 0 A) (F0 m 38 ls [])) → W p l e ({ frames := 5, cells := 0, slots := 0, locals := 122 } : Room) s m [.ref (ad 0), .int x1].toArray below meth c H locs 0 0 (MQ below (gQi D (mw cy ad) A σ0 r0) [.ref (ad 0), .int x1].toArray s 0 0 A) (F0 m 17 ls []) := by
      intro n
      induction n with
      | zero =>
        intro y17_2 σ17 H locs ls hH hl X h K
        exact itr_0 h
      | succ n ih =>
        intro y17_2 σ17 H locs ls hH hl X h0 K
        obtain ⟨o, h, h2⟩ := itr_step h0
        unfold f_X4_lone_b17 at h
        refine lv_iload_n hx hb dX4_lone_17 rfl (lv_at hl 1 rfl) ?_
        refine lv_aload_n hx hb dX4_lone_18 rfl (lv_at hl 0 rfl) ?_
        refine kl_X4_36 C hH h ⟨by decide, by decide⟩ ⟨by decide, by decide⟩ hl.1 (Nat.le_of_ble_eq_true rfl) dX4_lone_19 (fun r3 H locs hH h => ?_)
        refine gb_icmp_ge (tgt := 38) hx hb dX4_lone_22 (by decide) h (fun h => ?_) (fun h => ?_)
        · exact K _ _ _ _ hH (lv_sub hl [0] rfl) (nxt_r h h2)
        · refine lv_aload_n hx hb dX4_lone_25 rfl (lv_at hl 0 rfl) ?_
          refine gf_X4_26 C hH dX4_lone_26 ?_
          refine lv_iload_n hx hb dX4_lone_29 rfl (lv_at hl 1 rfl) ?_
          refine lv_iconst (v := 0) hx hb dX4_lone_30 (by decide) ?_
          refine mas_en C hH h dX4_lone_31 (fun h H locs hH => ?_)
          refine lv_iinc (v := (y17_2 + (1 : Int32))) (lv' := [(2, .int (y17_2 + (1 : Int32))), (0, .ref (ad 0))]) hx hb dX4_lone_32 hl (k := 1) rfl rfl (by decide) rfl (fun ls hl => ?_)
          refine lv_goto (tgt := 17) hx hb dX4_lone_35 (by decide) ?_
          exact ih _ _ _ _ _ hH (lv_sub hl [1, 0] rfl) X (nxt_l h h2) K
    obtain ⟨X17, hX17, h⟩ := bnd h
    refine L17 FU ((0 : Int32)) σ2 _ _ _ hH (lv_sub hl [1, 0] rfl) X17 hX17 ?_
    intro σz17_0 H locs ls hH hl hE
    replace hE := hE.symm
    subst hE
    refine lv_iconst (v := 0) hx hb dX4_lone_38 (by decide) ?_
    refine lv_istore_n (lv' := [(2, .int (0)), (0, .ref (ad 0))]) hx hb dX4_lone_39 rfl hl (by decide) rfl (fun ls hl => ?_)
    have L40 : ∀ (n : Nat) (y40_2 : Int32) (σ40 : MS) (H : Heap) (locs : List Loc) (ls : Array Slot), gH s D (mw cy ad) A σ40 H locs → lv_has ls 4 [(0, .ref (ad 0)), (2, .int y40_2)] → ∀ X, itr f_X4_lone_b40 n (y40_2, σ40) = some X → (∀ (σz40_0 : MS) (H : Heap) (locs : List Loc) (ls : Array Slot), gH s D (mw cy ad) A σz40_0 H locs → lv_has ls 4 [(0, .ref (ad 0))] → X = σz40_0 → W p l e ({ frames := 5, cells := 0, slots := 0, locals := 122 } : Room) s m [.ref (ad 0), .int x1].toArray below meth c H locs 0 0 (MQ below (gQi D (mw cy ad) A σ0 r0) [.ref (ad 0), .int x1].toArray s 0 0 A) (F0 m 74 ls [])) → W p l e ({ frames := 5, cells := 0, slots := 0, locals := 122 } : Room) s m [.ref (ad 0), .int x1].toArray below meth c H locs 0 0 (MQ below (gQi D (mw cy ad) A σ0 r0) [.ref (ad 0), .int x1].toArray s 0 0 A) (F0 m 40 ls []) := by
      intro n
      induction n with
      | zero =>
        intro y40_2 σ40 H locs ls hH hl X h K
        exact itr_0 h
      | succ n ih =>
        intro y40_2 σ40 H locs ls hH hl X h0 K
        obtain ⟨o, h, h2⟩ := itr_step h0
        unfold f_X4_lone_b40 at h
        refine lv_iload_n hx hb dX4_lone_40 rfl (lv_at hl 1 rfl) ?_
        refine lv_aload_n hx hb dX4_lone_41 rfl (lv_at hl 0 rfl) ?_
        refine kl_X4_36 C hH h ⟨by decide, by decide⟩ ⟨by decide, by decide⟩ hl.1 (Nat.le_of_ble_eq_true rfl) dX4_lone_42 (fun r5 H locs hH h => ?_)
        refine gb_icmp_ge (tgt := 74) hx hb dX4_lone_45 (by decide) h (fun h => ?_) (fun h => ?_)
        · exact K _ _ _ _ hH (lv_sub hl [0] rfl) (nxt_r h h2)
        · refine lv_aload_n hx hb dX4_lone_48 rfl (lv_at hl 0 rfl) ?_
          refine lv_iload_n hx hb dX4_lone_49 rfl (lv_at hl 1 rfl) ?_
          refine kl_X4_82 C hH h ⟨by decide, by decide⟩ ⟨by decide, by decide⟩ hl.1 (Nat.le_of_ble_eq_true rfl) dX4_lone_50 (fun r6 H locs hH h => ?_)
          refine gb_if_eq (tgt := 68) hx hb dX4_lone_53 (by decide) h (fun h => ?_) (fun h => ?_)
          · refine lv_iinc (v := (y40_2 + (1 : Int32))) (lv' := [(2, .int (y40_2 + (1 : Int32))), (0, .ref (ad 0))]) hx hb dX4_lone_68 hl (k := 1) rfl rfl (by decide) rfl (fun ls hl => ?_)
            refine lv_goto (tgt := 40) hx hb dX4_lone_71 (by decide) ?_
            exact ih _ _ _ _ _ hH (lv_sub hl [1, 0] rfl) X (nxt_l h h2) K
          · refine lv_aload_n hx hb dX4_lone_56 rfl (lv_at hl 0 rfl) ?_
            refine gf_X4_26 C hH dX4_lone_57 ?_
            refine lv_aload_n hx hb dX4_lone_60 rfl (lv_at hl 0 rfl) ?_
            refine gf_X4_23 C hH dX4_lone_61 ?_
            refine lv_iload_n hx hb dX4_lone_64 rfl (lv_at hl 1 rfl) ?_
            refine mal_be C hH h dX4_lone_65 (fun h => ?_)
            refine lv_iconst (v := 1) hx hb dX4_lone_66 (by decide) ?_
            refine mas_en C hH h dX4_lone_67 (fun h H locs hH => ?_)
            refine lv_iinc (v := (y40_2 + (1 : Int32))) (lv' := [(2, .int (y40_2 + (1 : Int32))), (0, .ref (ad 0))]) hx hb dX4_lone_68 hl (k := 1) rfl rfl (by decide) rfl (fun ls hl => ?_)
            refine lv_goto (tgt := 40) hx hb dX4_lone_71 (by decide) ?_
            exact ih _ _ _ _ _ hH (lv_sub hl [1, 0] rfl) X (nxt_l h h2) K
    obtain ⟨X40, hX40, h⟩ := bnd h
    refine L40 FU ((0 : Int32)) σz17_0 _ _ _ hH (lv_sub hl [1, 0] rfl) X40 hX40 ?_
    intro σz40_0 H locs ls hH hl hE
    replace hE := hE.symm
    subst hE
    refine lv_iconst (v := 0) hx hb dX4_lone_74 (by decide) ?_
    refine lv_istore_n (lv' := [(2, .int (0)), (0, .ref (ad 0))]) hx hb dX4_lone_75 rfl hl (by decide) rfl (fun ls hl => ?_)
    refine lv_iconst (v := 0) hx hb dX4_lone_76 (by decide) ?_
    refine lv_istore_n (lv' := [(3, .int (0)), (2, .int (0)), (0, .ref (ad 0))]) hx hb dX4_lone_77 rfl hl (by decide) rfl (fun ls hl => ?_)
    have L78 : ∀ (n : Nat) (y78_2 : Int32) (y78_3 : Int32) (H : Heap) (locs : List Loc) (ls : Array Slot), gH s D (mw cy ad) A σz40_0 H locs → lv_has ls 4 [(0, .ref (ad 0)), (2, .int y78_2), (3, .int y78_3)] → ∀ X, itr (f_X4_lone_b78 σz40_0) n (y78_2, y78_3) = some X → (∀ (z78_0_2 : Int32) (H : Heap) (locs : List Loc) (ls : Array Slot), gH s D (mw cy ad) A σz40_0 H locs → lv_has ls 4 [(2, .int z78_0_2)] → X = z78_0_2 → W p l e ({ frames := 5, cells := 0, slots := 0, locals := 122 } : Room) s m [.ref (ad 0), .int x1].toArray below meth c H locs 0 0 (MQ below (gQi D (mw cy ad) A σ0 r0) [.ref (ad 0), .int x1].toArray s 0 0 A) (F0 m 117 ls [])) → W p l e ({ frames := 5, cells := 0, slots := 0, locals := 122 } : Room) s m [.ref (ad 0), .int x1].toArray below meth c H locs 0 0 (MQ below (gQi D (mw cy ad) A σ0 r0) [.ref (ad 0), .int x1].toArray s 0 0 A) (F0 m 78 ls []) := by
      intro n
      induction n with
      | zero =>
        intro y78_2 y78_3 H locs ls hH hl X h K
        exact itr_0 h
      | succ n ih =>
        intro y78_2 y78_3 H locs ls hH hl X h0 K
        obtain ⟨o, h, h2⟩ := itr_step h0
        unfold f_X4_lone_b78 at h
        refine lv_iload_n hx hb dX4_lone_78 rfl (lv_at hl 2 rfl) ?_
        refine lv_aload_n hx hb dX4_lone_79 rfl (lv_at hl 0 rfl) ?_
        refine kl_X4_36 C hH h ⟨by decide, by decide⟩ ⟨by decide, by decide⟩ hl.1 (Nat.le_of_ble_eq_true rfl) dX4_lone_80 (fun r8 H locs hH h => ?_)
        refine gb_icmp_ge (tgt := 117) hx hb dX4_lone_83 (by decide) h (fun h => ?_) (fun h => ?_)
        · exact K _ _ _ _ hH (lv_sub hl [1] rfl) (nxt_r h h2)
        · refine lv_iload_n hx hb dX4_lone_86 rfl (lv_at hl 1 rfl) ?_
          refine lv_aload_n hx hb dX4_lone_87 rfl (lv_at hl 0 rfl) ?_
          refine lv_iload_n hx hb dX4_lone_88 rfl (lv_at hl 2 rfl) ?_
          refine kl_X4_82 C hH h ⟨by decide, by decide⟩ ⟨by decide, by decide⟩ hl.1 (Nat.le_of_ble_eq_true rfl) dX4_lone_89 (fun r9 H locs hH h => ?_)
          refine gb_if_eq (tgt := 108) hx hb dX4_lone_92 (by decide) h (fun h => ?_) (fun h => ?_)
          · refine lv_iconst (v := 0) hx hb dX4_lone_108 (by decide) ?_
            refine lv_iadd hx hb dX4_lone_109 ?_
            refine lv_istore_n (lv' := [(2, .int (y78_2 + (0 : Int32))), (0, .ref (ad 0)), (3, .int y78_3)]) hx hb dX4_lone_110 rfl hl (by decide) rfl (fun ls hl => ?_)
            refine lv_iinc (v := (y78_3 + (1 : Int32))) (lv' := [(3, .int (y78_3 + (1 : Int32))), (2, .int (y78_2 + (0 : Int32))), (0, .ref (ad 0))]) hx hb dX4_lone_111 hl (k := 2) rfl rfl (by decide) rfl (fun ls hl => ?_)
            refine lv_goto (tgt := 78) hx hb dX4_lone_114 (by decide) ?_
            exact ih _ _ _ _ _ hH (lv_sub hl [2, 1, 0] rfl) X (nxt_l h h2) K
          · refine lv_aload_n hx hb dX4_lone_95 rfl (lv_at hl 0 rfl) ?_
            refine gf_X4_26 C hH dX4_lone_96 ?_
            refine lv_iload_n hx hb dX4_lone_99 rfl (lv_at hl 2 rfl) ?_
            refine mal_en C hH h dX4_lone_100 (fun h => ?_)
            refine gb_if_ne (tgt := 108) hx hb dX4_lone_101 (by decide) h (fun h => ?_) (fun h => ?_)
            · refine lv_iconst (v := 0) hx hb dX4_lone_108 (by decide) ?_
              refine lv_iadd hx hb dX4_lone_109 ?_
              refine lv_istore_n (lv' := [(2, .int (y78_2 + (0 : Int32))), (0, .ref (ad 0)), (3, .int y78_3)]) hx hb dX4_lone_110 rfl hl (by decide) rfl (fun ls hl => ?_)
              refine lv_iinc (v := (y78_3 + (1 : Int32))) (lv' := [(3, .int (y78_3 + (1 : Int32))), (2, .int (y78_2 + (0 : Int32))), (0, .ref (ad 0))]) hx hb dX4_lone_111 hl (k := 2) rfl rfl (by decide) rfl (fun ls hl => ?_)
              refine lv_goto (tgt := 78) hx hb dX4_lone_114 (by decide) ?_
              exact ih _ _ _ _ _ hH (lv_sub hl [2, 1, 0] rfl) X (nxt_l h h2) K
            · refine lv_iconst (v := 1) hx hb dX4_lone_104 (by decide) ?_
              refine lv_goto (tgt := 109) hx hb dX4_lone_105 (by decide) ?_
              refine lv_iadd hx hb dX4_lone_109 ?_
              refine lv_istore_n (lv' := [(2, .int (y78_2 + (1 : Int32))), (0, .ref (ad 0)), (3, .int y78_3)]) hx hb dX4_lone_110 rfl hl (by decide) rfl (fun ls hl => ?_)
              refine lv_iinc (v := (y78_3 + (1 : Int32))) (lv' := [(3, .int (y78_3 + (1 : Int32))), (2, .int (y78_2 + (1 : Int32))), (0, .ref (ad 0))]) hx hb dX4_lone_111 hl (k := 2) rfl rfl (by decide) rfl (fun ls hl => ?_)
              refine lv_goto (tgt := 78) hx hb dX4_lone_114 (by decide) ?_
              exact ih _ _ _ _ _ hH (lv_sub hl [2, 1, 0] rfl) X (nxt_l h h2) K
    obtain ⟨X78, hX78, h⟩ := bnd h
    refine L78 FU ((0 : Int32)) ((0 : Int32)) _ _ _ hH (lv_sub hl [2, 1, 0] rfl) X78 hX78 ?_
    intro z78_0_2 H locs ls hH hl hE
    replace hE := hE.symm
    subst hE
    refine lv_iload_n hx hb dX4_lone_117 rfl (lv_at hl 0 rfl) ?_
    exact g_iret hx hb hr hlk hH (Prod.mk.inj (Option.some.inj h)) dX4_lone_118
  · refine lv_bipush (v := -2) hx hb dX4_lone_7 (by decide) ?_
    exact g_iret hx hb hr hlk hH (Prod.mk.inj (Option.some.inj h)) dX4_lone_9
theorem ok_X4_lone : okName yX4_lone 1 := ⟨by decide, by decide, by decide +kernel⟩
set_option maxHeartbeats 4000000 in
set_option maxRecDepth 100000 in
theorem c_X4_before (l : Launch) {D : va_G} {cy : Nat → ClassId} {ad : Nat → Nat} {A : Nat → Prop} (hD : ∀ σ, va_D A (mw cy ad σ)) (σ : MS) (x1 x2 : Int32) (r0 : Int32) (h : f_X4_before σ x1 x2 = some r0) : gMi l yX4_before (wsM yX4_before cX4_before 5 (some .int)) ({ frames := 4, cells := 0, slots := 0, locals := 100 } : Room) D (mT cy) (mw cy ad) A [.ref (ad 0), .int x1, .int x2] σ σ r0 := by
  refine gMi.of (own := RX4) rfl (by decide) (Nat.le_of_ble_eq_true rfl) hD ?_
  intro p e s m below meth c ls C hx hb hr hlk hH hl
  have hl : lv_has ls 5 [(0, .ref (ad 0)), (1, .int x1), (2, .int x2)] := hl
  unfold f_X4_before at h
  refine lv_iload_n hx hb dX4_before_0 rfl (lv_at hl 1 rfl) ?_
  refine kl_X4_76 C hH h ⟨by decide, by decide⟩ ⟨by decide, by decide⟩ hl.1 (Nat.le_of_ble_eq_true rfl) dX4_before_1 (fun r1 H locs hH h => ?_)
  refine gb_if_ne (tgt := 10) hx hb dX4_before_4 (by decide) h (fun h => ?_) (fun h => ?_)
  · refine lv_iconst (v := 0) hx hb dX4_before_10 (by decide) ?_
    refine lv_istore_n (lv' := [(3, .int (0)), (0, .ref (ad 0)), (1, .int x1), (2, .int x2)]) hx hb dX4_before_11 rfl hl (by decide) rfl (fun ls hl => ?_)
    refine lv_iconst (v := 0) hx hb dX4_before_12 (by decide) ?_
    refine lv_istore (lv' := [(4, .int (0)), (3, .int (0)), (0, .ref (ad 0)), (1, .int x1), (2, .int x2)]) hx hb dX4_before_13 hl (by decide) rfl (fun ls hl => ?_)
    have L15 : ∀ (n : Nat) (y15_3 : Int32) (y15_4 : Int32) (H : Heap) (locs : List Loc) (ls : Array Slot), gH s D (mw cy ad) A σ H locs → lv_has ls 5 [(0, .ref (ad 0)), (1, .int x1), (2, .int x2), (3, .int y15_3), (4, .int y15_4)] → ∀ X, itr (f_X4_before_b15 σ x1 x2) n (y15_3, y15_4) = some X → (∀ (z15_0_4 : Int32) (H : Heap) (locs : List Loc) (ls : Array Slot), gH s D (mw cy ad) A σ H locs → lv_has ls 5 [(4, .int z15_0_4)] → X = (Sum.inl z15_0_4) → W p l e ({ frames := 4, cells := 0, slots := 0, locals := 100 } : Room) s m [.ref (ad 0), .int x1, .int x2].toArray below meth c H locs 0 0 (MQ below (gQi D (mw cy ad) A σ r0) [.ref (ad 0), .int x1, .int x2].toArray s 0 0 A) (F0 m 56 ls [])) → (∀ (z15_1_3 : Int32) (H : Heap) (locs : List Loc) (ls : Array Slot), gH s D (mw cy ad) A σ H locs → lv_has ls 5 [(2, .int x2), (3, .int z15_1_3)] → X = (Sum.inr z15_1_3) → W p l e ({ frames := 4, cells := 0, slots := 0, locals := 100 } : Room) s m [.ref (ad 0), .int x1, .int x2].toArray below meth c H locs 0 0 (MQ below (gQi D (mw cy ad) A σ r0) [.ref (ad 0), .int x1, .int x2].toArray s 0 0 A) (F0 m 68 ls [])) → W p l e ({ frames := 4, cells := 0, slots := 0, locals := 100 } : Room) s m [.ref (ad 0), .int x1, .int x2].toArray below meth c H locs 0 0 (MQ below (gQi D (mw cy ad) A σ r0) [.ref (ad 0), .int x1, .int x2].toArray s 0 0 A) (F0 m 15 ls []) := by
      intro n
      induction n with
      | zero =>
        intro y15_3 y15_4 H locs ls hH hl X h K0 K1
        exact itr_0 h
      | succ n ih =>
        intro y15_3 y15_4 H locs ls hH hl X h0 K0 K1
        obtain ⟨o, h, h2⟩ := itr_step h0
        unfold f_X4_before_b15 at h
        refine lv_iload hx hb dX4_before_15 (lv_at hl 4 rfl) ?_
        refine lv_aload_n hx hb dX4_before_17 rfl (lv_at hl 0 rfl) ?_
        refine kl_X4_36 C hH h ⟨by decide, by decide⟩ ⟨by decide, by decide⟩ hl.1 (Nat.le_of_ble_eq_true rfl) dX4_before_18 (fun r2 H locs hH h => ?_)
        refine gb_icmp_ge (tgt := 68) hx hb dX4_before_21 (by decide) h (fun h => ?_) (fun h => ?_)
        · exact K1 _ _ _ _ hH (lv_sub hl [2, 3] rfl) (nxt_r h h2)
        · refine lv_aload_n hx hb dX4_before_24 rfl (lv_at hl 0 rfl) ?_
          refine lv_iload hx hb dX4_before_25 (lv_at hl 4 rfl) ?_
          refine kl_X4_82 C hH h ⟨by decide, by decide⟩ ⟨by decide, by decide⟩ hl.1 (Nat.le_of_ble_eq_true rfl) dX4_before_27 (fun r3 H locs hH h => ?_)
          refine gb_if_eq (tgt := 62) hx hb dX4_before_30 (by decide) h (fun h => ?_) (fun h => ?_)
          · refine lv_iinc (v := (y15_4 + (1 : Int32))) (lv' := [(4, .int (y15_4 + (1 : Int32))), (0, .ref (ad 0)), (1, .int x1), (2, .int x2), (3, .int y15_3)]) hx hb dX4_before_62 hl (k := 4) rfl rfl (by decide) rfl (fun ls hl => ?_)
            refine lv_goto (tgt := 15) hx hb dX4_before_65 (by decide) ?_
            exact ih _ _ _ _ _ hH (lv_sub hl [1, 2, 3, 4, 0] rfl) X (nxt_l h h2) K0 K1
          · refine lv_aload_n hx hb dX4_before_33 rfl (lv_at hl 0 rfl) ?_
            refine lv_iload_n hx hb dX4_before_34 rfl (lv_at hl 1 rfl) ?_
            refine lv_iload hx hb dX4_before_35 (lv_at hl 4 rfl) ?_
            refine lv_aload_n hx hb dX4_before_37 rfl (lv_at hl 0 rfl) ?_
            refine gf_X4_40 C hH dX4_before_38 ?_
            refine kl_X4_79 C hH h ⟨by decide, by decide⟩ ⟨by decide, by decide⟩ hl.1 (Nat.le_of_ble_eq_true rfl) dX4_before_41 (fun r4 H locs hH h => ?_)
            refine lv_aload_n hx hb dX4_before_44 rfl (lv_at hl 0 rfl) ?_
            refine gf_X4_43 C hH dX4_before_45 ?_
            refine gb_icmp_ne (tgt := 62) hx hb dX4_before_48 (by decide) h (fun h => ?_) (fun h => ?_)
            · refine lv_iinc (v := (y15_4 + (1 : Int32))) (lv' := [(4, .int (y15_4 + (1 : Int32))), (0, .ref (ad 0)), (1, .int x1), (2, .int x2), (3, .int y15_3)]) hx hb dX4_before_62 hl (k := 4) rfl rfl (by decide) rfl (fun ls hl => ?_)
              refine lv_goto (tgt := 15) hx hb dX4_before_65 (by decide) ?_
              exact ih _ _ _ _ _ hH (lv_sub hl [1, 2, 3, 4, 0] rfl) X (nxt_l h h2) K0 K1
            · refine lv_iload_n hx hb dX4_before_51 rfl (lv_at hl 3 rfl) ?_
              refine lv_iload_n hx hb dX4_before_52 rfl (lv_at hl 2 rfl) ?_
              refine gb_icmp_ne (tgt := 59) hx hb dX4_before_53 (by decide) h (fun h => ?_) (fun h => ?_)
              · refine lv_iinc (v := (y15_3 + (1 : Int32))) (lv' := [(3, .int (y15_3 + (1 : Int32))), (0, .ref (ad 0)), (1, .int x1), (2, .int x2), (4, .int y15_4)]) hx hb dX4_before_59 hl (k := 3) rfl rfl (by decide) rfl (fun ls hl => ?_)
                refine lv_iinc (v := (y15_4 + (1 : Int32))) (lv' := [(4, .int (y15_4 + (1 : Int32))), (3, .int (y15_3 + (1 : Int32))), (0, .ref (ad 0)), (1, .int x1), (2, .int x2)]) hx hb dX4_before_62 hl (k := 4) rfl rfl (by decide) rfl (fun ls hl => ?_)
                refine lv_goto (tgt := 15) hx hb dX4_before_65 (by decide) ?_
                exact ih _ _ _ _ _ hH (lv_sub hl [2, 3, 4, 1, 0] rfl) X (nxt_l h h2) K0 K1
              · exact K0 _ _ _ _ hH (lv_sub hl [4] rfl) (nxt_r h h2)
    obtain ⟨X15, hX15, h⟩ := bnd h
    refine L15 FU ((0 : Int32)) ((0 : Int32)) _ _ _ hH (lv_sub hl [2, 3, 4, 1, 0] rfl) X15 hX15 ?_ ?_
    · intro z15_0_4 H locs ls hH hl hE
      replace hE := hE.symm
      subst hE
      refine lv_iload hx hb dX4_before_56 (lv_at hl 0 rfl) ?_
      exact g_iret hx hb hr hlk hH ⟨Option.some.inj h, rfl⟩ dX4_before_58
    · intro z15_1_3 H locs ls hH hl hE
      replace hE := hE.symm
      subst hE
      refine lv_iload_n hx hb dX4_before_68 rfl (lv_at hl 0 rfl) ?_
      refine lv_iconst (v := -1) hx hb dX4_before_69 (by decide) ?_
      refine gb_icmp_ne (tgt := 77) hx hb dX4_before_70 (by decide) h (fun h => ?_) (fun h => ?_)
      · refine lv_bipush (v := -6) hx hb dX4_before_77 (by decide) ?_
        exact g_iret hx hb hr hlk hH ⟨Option.some.inj h, rfl⟩ dX4_before_79
      · refine lv_iload_n hx hb dX4_before_73 rfl (lv_at hl 1 rfl) ?_
        refine lv_goto (tgt := 79) hx hb dX4_before_74 (by decide) ?_
        exact g_iret hx hb hr hlk hH ⟨Option.some.inj h, rfl⟩ dX4_before_79
  · refine lv_bipush (v := -2) hx hb dX4_before_7 (by decide) ?_
    exact g_iret hx hb hr hlk hH ⟨Option.some.inj h, rfl⟩ dX4_before_9
theorem ok_X4_before : okName yX4_before 2 := ⟨by decide, by decide, by decide +kernel⟩
set_option maxHeartbeats 4000000 in
set_option maxRecDepth 100000 in
theorem c_X4_riseOf (l : Launch) {D : va_G} {cy : Nat → ClassId} {ad : Nat → Nat} {A : Nat → Prop} (hD : ∀ σ, va_D A (mw cy ad σ)) (σ : MS) (x1 : Int32) (r0 : Int32) (h : f_X4_riseOf σ x1 = some r0) : gMi l yX4_riseOf (wsM yX4_riseOf cX4_riseOf 6 (some .int)) ({ frames := 0, cells := 0, slots := 0, locals := 0 } : Room) D (mT cy) (mw cy ad) A [.ref (ad 0), .int x1] σ σ r0 := by
  refine gMi.of (own := RX4) rfl (by decide) (Nat.le_of_ble_eq_true rfl) hD ?_
  intro p e s m below meth c ls C hx hb hr hlk hH hl
  have hl : lv_has ls 6 [(0, .ref (ad 0)), (1, .int x1)] := hl
  unfold f_X4_riseOf at h
  refine lv_iconst (v := 0) hx hb dX4_riseOf_0 (by decide) ?_
  refine lv_istore_n (lv' := [(2, .int (0)), (0, .ref (ad 0)), (1, .int x1)]) hx hb dX4_riseOf_1 rfl hl (by decide) rfl (fun ls hl => ?_)
  refine lv_iconst (v := 0) hx hb dX4_riseOf_2 (by decide) ?_
  refine lv_istore_n (lv' := [(3, .int (0)), (2, .int (0)), (0, .ref (ad 0)), (1, .int x1)]) hx hb dX4_riseOf_3 rfl hl (by decide) rfl (fun ls hl => ?_)
  have L4 : ∀ (n : Nat) (y4_2 : Int32) (y4_3 : Int32) (H : Heap) (locs : List Loc) (ls : Array Slot), gH s D (mw cy ad) A σ H locs → lv_has ls 6 [(0, .ref (ad 0)), (1, .int x1), (2, .int y4_2), (3, .int y4_3)] → ∀ X, itr (f_X4_riseOf_b4 σ x1) n (y4_2, y4_3) = some X → (∀ (z4_0_2 : Int32) (H : Heap) (locs : List Loc) (ls : Array Slot), gH s D (mw cy ad) A σ H locs → lv_has ls 6 [(2, .int z4_0_2)] → X = z4_0_2 → W p l e ({ frames := 0, cells := 0, slots := 0, locals := 0 } : Room) s m [.ref (ad 0), .int x1].toArray below meth c H locs 0 0 (MQ below (gQi D (mw cy ad) A σ r0) [.ref (ad 0), .int x1].toArray s 0 0 A) (F0 m 112 ls [])) → W p l e ({ frames := 0, cells := 0, slots := 0, locals := 0 } : Room) s m [.ref (ad 0), .int x1].toArray below meth c H locs 0 0 (MQ below (gQi D (mw cy ad) A σ r0) [.ref (ad 0), .int x1].toArray s 0 0 A) (F0 m 4 ls []) := by
    intro n
    induction n with
    | zero =>
      intro y4_2 y4_3 H locs ls hH hl X h K
      exact itr_0 h
    | succ n ih =>
      intro y4_2 y4_3 H locs ls hH hl X h0 K
      obtain ⟨o, h, h2⟩ := itr_step h0
      unfold f_X4_riseOf_b4 at h
      refine lv_iload_n hx hb dX4_riseOf_4 rfl (lv_at hl 3 rfl) ?_
      refine lv_aload_n hx hb dX4_riseOf_5 rfl (lv_at hl 0 rfl) ?_
      refine gf_X4_7 C hH dX4_riseOf_6 ?_
      refine gb_icmp_ge (tgt := 112) hx hb dX4_riseOf_9 (by decide) h (fun h => ?_) (fun h => ?_)
      · exact K _ _ _ _ hH (lv_sub hl [2] rfl) (nxt_r h h2)
      · refine lv_iload_n hx hb dX4_riseOf_12 rfl (lv_at hl 3 rfl) ?_
        refine lv_iconst (v := 1) hx hb dX4_riseOf_13 (by decide) ?_
        refine lv_iadd hx hb dX4_riseOf_14 ?_
        refine lv_istore (lv' := [(4, .int (y4_3 + (1 : Int32))), (0, .ref (ad 0)), (1, .int x1), (2, .int y4_2), (3, .int y4_3)]) hx hb dX4_riseOf_15 hl (by decide) rfl (fun ls hl => ?_)
        have L17 : ∀ (n : Nat) (y17_2 : Int32) (y17_4 : Int32) (H : Heap) (locs : List Loc) (ls : Array Slot), gH s D (mw cy ad) A σ H locs → lv_has ls 6 [(0, .ref (ad 0)), (1, .int x1), (2, .int y17_2), (3, .int y4_3), (4, .int y17_4)] → ∀ X, itr (f_X4_riseOf_b17 σ y4_3 x1) n (y17_2, y17_4) = some X → (∀ (z17_0_2 : Int32) (H : Heap) (locs : List Loc) (ls : Array Slot), gH s D (mw cy ad) A σ H locs → lv_has ls 6 [(0, .ref (ad 0)), (1, .int x1), (2, .int z17_0_2), (3, .int y4_3)] → X = z17_0_2 → W p l e ({ frames := 0, cells := 0, slots := 0, locals := 0 } : Room) s m [.ref (ad 0), .int x1].toArray below meth c H locs 0 0 (MQ below (gQi D (mw cy ad) A σ r0) [.ref (ad 0), .int x1].toArray s 0 0 A) (F0 m 106 ls [])) → W p l e ({ frames := 0, cells := 0, slots := 0, locals := 0 } : Room) s m [.ref (ad 0), .int x1].toArray below meth c H locs 0 0 (MQ below (gQi D (mw cy ad) A σ r0) [.ref (ad 0), .int x1].toArray s 0 0 A) (F0 m 17 ls []) := by
          intro n
          induction n with
          | zero =>
            intro y17_2 y17_4 H locs ls hH hl X h K
            exact itr_0 h
          | succ n ih =>
            intro y17_2 y17_4 H locs ls hH hl X h0 K
            obtain ⟨o, h, h2⟩ := itr_step h0
            unfold f_X4_riseOf_b17 at h
            refine lv_iload hx hb dX4_riseOf_17 (lv_at hl 4 rfl) ?_
            refine lv_aload_n hx hb dX4_riseOf_19 rfl (lv_at hl 0 rfl) ?_
            refine gf_X4_7 C hH dX4_riseOf_20 ?_
            refine gb_icmp_ge (tgt := 106) hx hb dX4_riseOf_23 (by decide) h (fun h => ?_) (fun h => ?_)
            · exact K _ _ _ _ hH (lv_sub hl [0, 1, 2, 3] rfl) (nxt_r h h2)
            · refine lv_iload_n hx hb dX4_riseOf_26 rfl (lv_at hl 1 rfl) ?_
              refine lv_iload_n hx hb dX4_riseOf_27 rfl (lv_at hl 3 rfl) ?_
              refine lv_ishr hx hb dX4_riseOf_28 ?_
              refine lv_iconst (v := 1) hx hb dX4_riseOf_29 (by decide) ?_
              refine lv_iand hx hb dX4_riseOf_30 ?_
              refine lv_iload_n hx hb dX4_riseOf_31 rfl (lv_at hl 1 rfl) ?_
              refine lv_iload hx hb dX4_riseOf_32 (lv_at hl 4 rfl) ?_
              refine lv_ishr hx hb dX4_riseOf_34 ?_
              refine lv_iconst (v := 1) hx hb dX4_riseOf_35 (by decide) ?_
              refine lv_iand hx hb dX4_riseOf_36 ?_
              refine lv_iadd hx hb dX4_riseOf_37 ?_
              refine lv_istore (lv' := [(5, .int (((x1 >>> (y4_3 &&& 31)) &&& (1 : Int32)) + ((x1 >>> (y17_4 &&& 31)) &&& (1 : Int32)))), (0, .ref (ad 0)), (1, .int x1), (2, .int y17_2), (3, .int y4_3), (4, .int y17_4)]) hx hb dX4_riseOf_38 hl (by decide) rfl (fun ls hl => ?_)
              refine lv_iload_n hx hb dX4_riseOf_40 rfl (lv_at hl 3 rfl) ?_
              refine lv_aload_n hx hb dX4_riseOf_41 rfl (lv_at hl 1 rfl) ?_
              refine gf_X4_13 C hH dX4_riseOf_42 ?_
              refine lv_bipush (v := 10) hx hb dX4_riseOf_45 (by decide) ?_
              refine lv_iload_n hx hb dX4_riseOf_47 rfl (lv_at hl 4 rfl) ?_
              refine lv_imul hx hb dX4_riseOf_48 ?_
              refine lv_iload hx hb dX4_riseOf_49 (lv_at hl 5 rfl) ?_
              refine lv_iadd hx hb dX4_riseOf_51 ?_
              refine mal_we C hH h dX4_riseOf_52 (fun h => ?_)
              refine lv_iload hx hb dX4_riseOf_53 (lv_at hl 0 rfl) ?_
              refine gb_if_ne (tgt := 74) hx hb dX4_riseOf_55 (by decide) h (fun h => ?_) (fun h => ?_)
              · refine lv_iload hx hb dX4_riseOf_74 (lv_at hl 0 rfl) ?_
                refine lv_iconst (v := 2) hx hb dX4_riseOf_76 (by decide) ?_
                refine gb_icmp_ne (tgt := 96) hx hb dX4_riseOf_77 (by decide) h (fun h => ?_) (fun h => ?_)
                · refine lv_iconst (v := 0) hx hb dX4_riseOf_96 (by decide) ?_
                  refine lv_imul hx hb dX4_riseOf_97 ?_
                  refine lv_iadd hx hb dX4_riseOf_98 ?_
                  refine lv_istore_n (lv' := [(2, .int (y17_2 + ((mwe σ ((((10 : Int32) * y4_3) + y17_4) : Int32).toNatClampNeg) * (0 : Int32)))), (5, .int (((x1 >>> (y4_3 &&& 31)) &&& (1 : Int32)) + ((x1 >>> (y17_4 &&& 31)) &&& (1 : Int32)))), (0, .ref (ad 0)), (1, .int x1), (3, .int y4_3), (4, .int y17_4)]) hx hb dX4_riseOf_99 rfl hl (by decide) rfl (fun ls hl => ?_)
                  refine lv_iinc (v := (y17_4 + (1 : Int32))) (lv' := [(4, .int (y17_4 + (1 : Int32))), (2, .int (y17_2 + ((mwe σ ((((10 : Int32) * y4_3) + y17_4) : Int32).toNatClampNeg) * (0 : Int32)))), (5, .int (((x1 >>> (y4_3 &&& 31)) &&& (1 : Int32)) + ((x1 >>> (y17_4 &&& 31)) &&& (1 : Int32)))), (0, .ref (ad 0)), (1, .int x1), (3, .int y4_3)]) hx hb dX4_riseOf_100 hl (k := 5) rfl rfl (by decide) rfl (fun ls hl => ?_)
                  refine lv_goto (tgt := 17) hx hb dX4_riseOf_103 (by decide) ?_
                  exact ih _ _ _ _ _ hH (lv_sub hl [3, 4, 1, 5, 0] rfl) X (nxt_l h h2) K
                · refine lv_aload_n hx hb dX4_riseOf_80 rfl (lv_at hl 1 rfl) ?_
                  refine gf_X4_17 C hH dX4_riseOf_81 ?_
                  refine lv_iconst (v := 3) hx hb dX4_riseOf_84 (by decide) ?_
                  refine mal_pa C hH h dX4_riseOf_85 (fun h => ?_)
                  refine lv_aload_n hx hb dX4_riseOf_86 rfl (lv_at hl 1 rfl) ?_
                  refine gf_X4_17 C hH dX4_riseOf_87 ?_
                  refine lv_iconst (v := 1) hx hb dX4_riseOf_90 (by decide) ?_
                  refine mal_pa C hH h dX4_riseOf_91 (fun h => ?_)
                  refine lv_isub hx hb dX4_riseOf_92 ?_
                  refine lv_goto (tgt := 97) hx hb dX4_riseOf_93 (by decide) ?_
                  refine lv_imul hx hb dX4_riseOf_97 ?_
                  refine lv_iadd hx hb dX4_riseOf_98 ?_
                  refine lv_istore_n (lv' := [(2, .int (y17_2 + ((mwe σ ((((10 : Int32) * y4_3) + y17_4) : Int32).toNatClampNeg) * ((mpa σ ((3 : Int32) : Int32).toNatClampNeg) - (mpa σ ((1 : Int32) : Int32).toNatClampNeg))))), (5, .int (((x1 >>> (y4_3 &&& 31)) &&& (1 : Int32)) + ((x1 >>> (y17_4 &&& 31)) &&& (1 : Int32)))), (0, .ref (ad 0)), (1, .int x1), (3, .int y4_3), (4, .int y17_4)]) hx hb dX4_riseOf_99 rfl hl (by decide) rfl (fun ls hl => ?_)
                  refine lv_iinc (v := (y17_4 + (1 : Int32))) (lv' := [(4, .int (y17_4 + (1 : Int32))), (2, .int (y17_2 + ((mwe σ ((((10 : Int32) * y4_3) + y17_4) : Int32).toNatClampNeg) * ((mpa σ ((3 : Int32) : Int32).toNatClampNeg) - (mpa σ ((1 : Int32) : Int32).toNatClampNeg))))), (5, .int (((x1 >>> (y4_3 &&& 31)) &&& (1 : Int32)) + ((x1 >>> (y17_4 &&& 31)) &&& (1 : Int32)))), (0, .ref (ad 0)), (1, .int x1), (3, .int y4_3)]) hx hb dX4_riseOf_100 hl (k := 5) rfl rfl (by decide) rfl (fun ls hl => ?_)
                  refine lv_goto (tgt := 17) hx hb dX4_riseOf_103 (by decide) ?_
                  exact ih _ _ _ _ _ hH (lv_sub hl [3, 4, 1, 5, 0] rfl) X (nxt_l h h2) K
              · refine lv_aload_n hx hb dX4_riseOf_58 rfl (lv_at hl 1 rfl) ?_
                refine gf_X4_17 C hH dX4_riseOf_59 ?_
                refine lv_iconst (v := 0) hx hb dX4_riseOf_62 (by decide) ?_
                refine mal_pa C hH h dX4_riseOf_63 (fun h => ?_)
                refine lv_aload_n hx hb dX4_riseOf_64 rfl (lv_at hl 1 rfl) ?_
                refine gf_X4_17 C hH dX4_riseOf_65 ?_
                refine lv_iconst (v := 2) hx hb dX4_riseOf_68 (by decide) ?_
                refine mal_pa C hH h dX4_riseOf_69 (fun h => ?_)
                refine lv_isub hx hb dX4_riseOf_70 ?_
                refine lv_goto (tgt := 97) hx hb dX4_riseOf_71 (by decide) ?_
                refine lv_imul hx hb dX4_riseOf_97 ?_
                refine lv_iadd hx hb dX4_riseOf_98 ?_
                refine lv_istore_n (lv' := [(2, .int (y17_2 + ((mwe σ ((((10 : Int32) * y4_3) + y17_4) : Int32).toNatClampNeg) * ((mpa σ ((0 : Int32) : Int32).toNatClampNeg) - (mpa σ ((2 : Int32) : Int32).toNatClampNeg))))), (5, .int (((x1 >>> (y4_3 &&& 31)) &&& (1 : Int32)) + ((x1 >>> (y17_4 &&& 31)) &&& (1 : Int32)))), (0, .ref (ad 0)), (1, .int x1), (3, .int y4_3), (4, .int y17_4)]) hx hb dX4_riseOf_99 rfl hl (by decide) rfl (fun ls hl => ?_)
                refine lv_iinc (v := (y17_4 + (1 : Int32))) (lv' := [(4, .int (y17_4 + (1 : Int32))), (2, .int (y17_2 + ((mwe σ ((((10 : Int32) * y4_3) + y17_4) : Int32).toNatClampNeg) * ((mpa σ ((0 : Int32) : Int32).toNatClampNeg) - (mpa σ ((2 : Int32) : Int32).toNatClampNeg))))), (5, .int (((x1 >>> (y4_3 &&& 31)) &&& (1 : Int32)) + ((x1 >>> (y17_4 &&& 31)) &&& (1 : Int32)))), (0, .ref (ad 0)), (1, .int x1), (3, .int y4_3)]) hx hb dX4_riseOf_100 hl (k := 5) rfl rfl (by decide) rfl (fun ls hl => ?_)
                refine lv_goto (tgt := 17) hx hb dX4_riseOf_103 (by decide) ?_
                exact ih _ _ _ _ _ hH (lv_sub hl [3, 4, 1, 5, 0] rfl) X (nxt_l h h2) K
        obtain ⟨X17, hX17, h⟩ := bnd h
        refine L17 FU y4_2 ((y4_3 + (1 : Int32))) _ _ _ hH (lv_sub hl [1, 2, 3, 4, 0] rfl) X17 hX17 ?_
        intro z17_0_2 H locs ls hH hl hE
        replace hE := hE.symm
        subst hE
        refine lv_iinc (v := (y4_3 + (1 : Int32))) (lv' := [(3, .int (y4_3 + (1 : Int32))), (0, .ref (ad 0)), (1, .int x1), (2, .int z17_0_2)]) hx hb dX4_riseOf_106 hl (k := 3) rfl rfl (by decide) rfl (fun ls hl => ?_)
        refine lv_goto (tgt := 4) hx hb dX4_riseOf_109 (by decide) ?_
        exact ih _ _ _ _ _ hH (lv_sub hl [1, 2, 3, 0] rfl) X (nxt_l h h2) K
  obtain ⟨X4, hX4, h⟩ := bnd h
  refine L4 FU ((0 : Int32)) ((0 : Int32)) _ _ _ hH (lv_sub hl [2, 3, 1, 0] rfl) X4 hX4 ?_
  intro z4_0_2 H locs ls hH hl hE
  replace hE := hE.symm
  subst hE
  refine lv_iload_n hx hb dX4_riseOf_112 rfl (lv_at hl 0 rfl) ?_
  exact g_iret hx hb hr hlk hH ⟨Option.some.inj h, rfl⟩ dX4_riseOf_113
theorem ok_X4_riseOf : okName yX4_riseOf 1 := ⟨by decide, by decide, by decide +kernel⟩
section KL
variable {p : Program} {l : Launch} {e : Env} {R : Room} {s : State} {m : MethodId} {args : Array Value} {below : List Frame} {meth : Method} {c : Code} {H : Heap} {locs : List Loc} {cells slots : Nat} {Q : State → Prop} {cc : ByteArray} {pc nL : Nat} {ls : Array Slot} {rest : List Value}
variable {A : Nat → Prop} {D : va_G} {cy : Nat → ClassId} {ad : Nat → Nat}
theorem kl_X4_108 (C : gC p m c cc nL s args RX4 D (mT cy) (mw cy ad) A) {σ : MS} (hH : gH s D (mw cy ad) A σ H locs) {x1 : Int32} {α : Type} {k : Int32 → Option α} {y : α} (h : (f_X4_riseOf σ x1).bind k = some y) (hR : 1 ≤ R.frames ∧ 25 ≤ R.locals) (hcs : cells ≤ R.cells ∧ slots ≤ R.slots) (hl : ls.size = nL) (hW : (rest.map fun v => v.category).sum ≤ 8) (hdg : decode cc pc = .ok (.invokevirtual 108, 3)) (kk : ∀ (r : Int32) (H1 : Heap) (locs1 : List Loc), gH s D (mw cy ad) A σ H1 locs1 → k r = some y → W p l e R s m args below meth c H1 locs1 cells slots Q (F0 m (pc + 3) ls (.int r :: rest))) : W p l e R s m args below meth c H locs cells slots Q (F0 m pc ls (.int x1 :: .ref (ad 0) :: rest)) := by
  obtain ⟨r, h1, h2⟩ := bnd h
  exact g_fi (g_rV (As := [.int x1]) C hH (c_X4_riseOf l C.2.2.2 σ x1 r h1) (q0 := 0) mw_c_X4_riseOf mw_m_X4_108 mw_i_X4_riseOf mw_v_X4_riseOf mw_in_X4 ok_X4_riseOf ⟨rfl, rfl⟩ rfl rfl rfl hR hcs hl rfl hW hdg) hH.2 (fun H1 locs1 hH1 => kk r H1 locs1 hH1 h2)
end KL
set_option maxHeartbeats 4000000 in
set_option maxRecDepth 100000 in
theorem c_X4_rise (l : Launch) {D : va_G} {cy : Nat → ClassId} {ad : Nat → Nat} {A : Nat → Prop} (hD : ∀ σ, va_D A (mw cy ad σ)) (σ : MS) (r0 : Int32) (h : f_X4_rise σ = some r0) : gMi l yX4_rise (wsM yX4_rise cX4_rise 1 (some .int)) ({ frames := 1, cells := 0, slots := 0, locals := 25 } : Room) D (mT cy) (mw cy ad) A [.ref (ad 0)] σ σ r0 := by
  refine gMi.of (own := RX4) rfl (by decide) (Nat.le_of_ble_eq_true rfl) hD ?_
  intro p e s m below meth c ls C hx hb hr hlk hH hl
  have hl : lv_has ls 1 [(0, .ref (ad 0))] := hl
  unfold f_X4_rise at h
  refine lv_aload_n hx hb dX4_rise_0 rfl (lv_at hl 0 rfl) ?_
  refine lv_aload_n hx hb dX4_rise_1 rfl (lv_at hl 0 rfl) ?_
  refine gf_X4_43 C hH dX4_rise_2 ?_
  refine kl_X4_108 C hH h ⟨by decide, by decide⟩ ⟨by decide, by decide⟩ hl.1 (Nat.le_of_ble_eq_true rfl) dX4_rise_5 (fun r1 H locs hH h => ?_)
  exact g_iret hx hb hr hlk hH ⟨Option.some.inj h, rfl⟩ dX4_rise_8
theorem ok_X4_rise : okName yX4_rise 0 := ⟨by decide, by decide, by decide +kernel⟩
set_option maxHeartbeats 4000000 in
set_option maxRecDepth 100000 in
theorem c_X4_highest (l : Launch) {D : va_G} {cy : Nat → ClassId} {ad : Nat → Nat} {A : Nat → Prop} (hD : ∀ σ, va_D A (mw cy ad σ)) (σ : MS) (r0 : Int32) (h : f_X4_highest σ = some r0) : gMi l yX4_highest (wsM yX4_highest cX4_highest 3 (some .int)) ({ frames := 1, cells := 0, slots := 0, locals := 25 } : Room) D (mT cy) (mw cy ad) A [.ref (ad 0)] σ σ r0 := by
  refine gMi.of (own := RX4) rfl (by decide) (Nat.le_of_ble_eq_true rfl) hD ?_
  intro p e s m below meth c ls C hx hb hr hlk hH hl
  have hl : lv_has ls 3 [(0, .ref (ad 0))] := hl
  unfold f_X4_highest at h
  refine lv_bipush (v := -6) hx hb dX4_highest_0 (by decide) ?_
  refine lv_istore_n (lv' := [(1, .int (-6)), (0, .ref (ad 0))]) hx hb dX4_highest_2 rfl hl (by decide) rfl (fun ls hl => ?_)
  refine lv_iconst (v := 0) hx hb dX4_highest_3 (by decide) ?_
  refine lv_istore_n (lv' := [(2, .int (0)), (1, .int (-6)), (0, .ref (ad 0))]) hx hb dX4_highest_4 rfl hl (by decide) rfl (fun ls hl => ?_)
  have L5 : ∀ (n : Nat) (y5_1 : Int32) (y5_2 : Int32) (H : Heap) (locs : List Loc) (ls : Array Slot), gH s D (mw cy ad) A σ H locs → lv_has ls 3 [(0, .ref (ad 0)), (1, .int y5_1), (2, .int y5_2)] → ∀ X, itr (f_X4_highest_b5 σ) n (y5_1, y5_2) = some X → (∀ (z5_0_1 : Int32) (H : Heap) (locs : List Loc) (ls : Array Slot), gH s D (mw cy ad) A σ H locs → lv_has ls 3 [(1, .int z5_0_1)] → X = z5_0_1 → W p l e ({ frames := 1, cells := 0, slots := 0, locals := 25 } : Room) s m [.ref (ad 0)].toArray below meth c H locs 0 0 (MQ below (gQi D (mw cy ad) A σ r0) [.ref (ad 0)].toArray s 0 0 A) (F0 m 50 ls [])) → W p l e ({ frames := 1, cells := 0, slots := 0, locals := 25 } : Room) s m [.ref (ad 0)].toArray below meth c H locs 0 0 (MQ below (gQi D (mw cy ad) A σ r0) [.ref (ad 0)].toArray s 0 0 A) (F0 m 5 ls []) := by
    intro n
    induction n with
    | zero =>
      intro y5_1 y5_2 H locs ls hH hl X h K
      exact itr_0 h
    | succ n ih =>
      intro y5_1 y5_2 H locs ls hH hl X h0 K
      obtain ⟨o, h, h2⟩ := itr_step h0
      unfold f_X4_highest_b5 at h
      refine lv_iload_n hx hb dX4_highest_5 rfl (lv_at hl 2 rfl) ?_
      refine lv_aload_n hx hb dX4_highest_6 rfl (lv_at hl 0 rfl) ?_
      refine kl_X4_36 C hH h ⟨by decide, by decide⟩ ⟨by decide, by decide⟩ hl.1 (Nat.le_of_ble_eq_true rfl) dX4_highest_7 (fun r1 H locs hH h => ?_)
      refine gb_icmp_ge (tgt := 50) hx hb dX4_highest_10 (by decide) h (fun h => ?_) (fun h => ?_)
      · exact K _ _ _ _ hH (lv_sub hl [1] rfl) (nxt_r h h2)
      · refine lv_aload_n hx hb dX4_highest_13 rfl (lv_at hl 0 rfl) ?_
        refine lv_iload_n hx hb dX4_highest_14 rfl (lv_at hl 2 rfl) ?_
        refine kl_X4_82 C hH h ⟨by decide, by decide⟩ ⟨by decide, by decide⟩ hl.1 (Nat.le_of_ble_eq_true rfl) dX4_highest_15 (fun r2 H locs hH h => ?_)
        refine gb_if_eq (tgt := 42) hx hb dX4_highest_18 (by decide) h (fun h => ?_) (fun h => ?_)
        · refine lv_iload_n hx hb dX4_highest_42 rfl (lv_at hl 1 rfl) ?_
          refine lv_istore_n (lv' := [(1, .int y5_1), (0, .ref (ad 0)), (2, .int y5_2)]) hx hb dX4_highest_43 rfl hl (by decide) rfl (fun ls hl => ?_)
          refine lv_iinc (v := (y5_2 + (1 : Int32))) (lv' := [(2, .int (y5_2 + (1 : Int32))), (1, .int y5_1), (0, .ref (ad 0))]) hx hb dX4_highest_44 hl (k := 2) rfl rfl (by decide) rfl (fun ls hl => ?_)
          refine lv_goto (tgt := 5) hx hb dX4_highest_47 (by decide) ?_
          exact ih _ _ _ _ _ hH (lv_sub hl [2, 1, 0] rfl) X (nxt_l h h2) K
        · refine lv_iload_n hx hb dX4_highest_21 rfl (lv_at hl 1 rfl) ?_
          refine gb_if_lt (tgt := 38) hx hb dX4_highest_22 (by decide) h (fun h => ?_) (fun h => ?_)
          · refine lv_iload_n hx hb dX4_highest_38 rfl (lv_at hl 2 rfl) ?_
            refine lv_goto (tgt := 43) hx hb dX4_highest_39 (by decide) ?_
            refine lv_istore_n (lv' := [(1, .int y5_2), (0, .ref (ad 0)), (2, .int y5_2)]) hx hb dX4_highest_43 rfl hl (by decide) rfl (fun ls hl => ?_)
            refine lv_iinc (v := (y5_2 + (1 : Int32))) (lv' := [(2, .int (y5_2 + (1 : Int32))), (1, .int y5_2), (0, .ref (ad 0))]) hx hb dX4_highest_44 hl (k := 2) rfl rfl (by decide) rfl (fun ls hl => ?_)
            refine lv_goto (tgt := 5) hx hb dX4_highest_47 (by decide) ?_
            exact ih _ _ _ _ _ hH (lv_sub hl [2, 1, 0] rfl) X (nxt_l h h2) K
          · refine lv_aload_n hx hb dX4_highest_25 rfl (lv_at hl 0 rfl) ?_
            refine lv_iload_n hx hb dX4_highest_26 rfl (lv_at hl 2 rfl) ?_
            refine kl_X4_108 C hH h ⟨by decide, by decide⟩ ⟨by decide, by decide⟩ hl.1 (Nat.le_of_ble_eq_true rfl) dX4_highest_27 (fun r3 H locs hH h => ?_)
            refine lv_aload_n hx hb dX4_highest_30 rfl (lv_at hl 0 rfl) ?_
            refine lv_iload_n hx hb dX4_highest_31 rfl (lv_at hl 1 rfl) ?_
            refine kl_X4_108 C hH h ⟨by decide, by decide⟩ ⟨by decide, by decide⟩ hl.1 (Nat.le_of_ble_eq_true rfl) dX4_highest_32 (fun r4 H locs hH h => ?_)
            refine gb_icmp_le (tgt := 42) hx hb dX4_highest_35 (by decide) h (fun h => ?_) (fun h => ?_)
            · refine lv_iload_n hx hb dX4_highest_42 rfl (lv_at hl 1 rfl) ?_
              refine lv_istore_n (lv' := [(1, .int y5_1), (0, .ref (ad 0)), (2, .int y5_2)]) hx hb dX4_highest_43 rfl hl (by decide) rfl (fun ls hl => ?_)
              refine lv_iinc (v := (y5_2 + (1 : Int32))) (lv' := [(2, .int (y5_2 + (1 : Int32))), (1, .int y5_1), (0, .ref (ad 0))]) hx hb dX4_highest_44 hl (k := 2) rfl rfl (by decide) rfl (fun ls hl => ?_)
              refine lv_goto (tgt := 5) hx hb dX4_highest_47 (by decide) ?_
              exact ih _ _ _ _ _ hH (lv_sub hl [2, 1, 0] rfl) X (nxt_l h h2) K
            · refine lv_iload_n hx hb dX4_highest_38 rfl (lv_at hl 2 rfl) ?_
              refine lv_goto (tgt := 43) hx hb dX4_highest_39 (by decide) ?_
              refine lv_istore_n (lv' := [(1, .int y5_2), (0, .ref (ad 0)), (2, .int y5_2)]) hx hb dX4_highest_43 rfl hl (by decide) rfl (fun ls hl => ?_)
              refine lv_iinc (v := (y5_2 + (1 : Int32))) (lv' := [(2, .int (y5_2 + (1 : Int32))), (1, .int y5_2), (0, .ref (ad 0))]) hx hb dX4_highest_44 hl (k := 2) rfl rfl (by decide) rfl (fun ls hl => ?_)
              refine lv_goto (tgt := 5) hx hb dX4_highest_47 (by decide) ?_
              exact ih _ _ _ _ _ hH (lv_sub hl [2, 1, 0] rfl) X (nxt_l h h2) K
  obtain ⟨X5, hX5, h⟩ := bnd h
  refine L5 FU ((-6 : Int32)) ((0 : Int32)) _ _ _ hH (lv_sub hl [2, 1, 0] rfl) X5 hX5 ?_
  intro z5_0_1 H locs ls hH hl hE
  replace hE := hE.symm
  subst hE
  refine lv_iload_n hx hb dX4_highest_50 rfl (lv_at hl 0 rfl) ?_
  exact g_iret hx hb hr hlk hH ⟨Option.some.inj h, rfl⟩ dX4_highest_51
theorem ok_X4_highest : okName yX4_highest 0 := ⟨by decide, by decide, by decide +kernel⟩
