set_option maxHeartbeats 4000000 in
set_option maxRecDepth 100000 in
theorem c_X2_isBeginning (l : Launch) {D : va_G} {cy : Nat → ClassId} {ad : Nat → Nat} {A : Nat → Prop} (hD : ∀ σ, va_D A (gw cy ad σ)) (σ : GS) (x1 : Int32) (r0 : Int32) (h : f_X2_isBeginning σ x1 = some r0) : gMi l yX2_isBeginning (wsM yX2_isBeginning cX2_isBeginning 2 (some .boolean)) ({ frames := 0, cells := 0, slots := 0, locals := 0 } : Room) D (gT cy) (gw cy ad) A [.ref (ad 9), .int x1] σ σ r0 := by
  refine gMi.of (own := RX2) rfl (by decide) (Nat.le_of_ble_eq_true rfl) hD ?_
  intro p e s m below meth c ls C hx hb hr hlk hH hl
  have hl : lv_has ls 2 [(0, .ref (ad 9)), (1, .int x1)] := hl
  unfold f_X2_isBeginning at h
  refine lv_iload_n hx hb dX2_isBeginning_0 rfl (lv_at hl 1 rfl) ?_
  refine lv_aload_n hx hb dX2_isBeginning_1 rfl (lv_at hl 0 rfl) ?_
  refine gf_X2_37 C hH dX2_isBeginning_2 ?_
  refine lv_iand hx hb dX2_isBeginning_5 ?_
  refine lv_aload_n hx hb dX2_isBeginning_6 rfl (lv_at hl 0 rfl) ?_
  refine gf_X2_40 C hH dX2_isBeginning_7 ?_
  refine gb_icmp_ne (tgt := 17) hx hb dX2_isBeginning_10 (by decide) h (fun h => ?_) (fun h => ?_)
  · refine lv_iconst (v := 0) hx hb dX2_isBeginning_17 (by decide) ?_
    exact g_zret hx hb hr hlk hH ⟨Option.some.inj h, rfl⟩ rfl dX2_isBeginning_18
  · refine lv_iconst (v := 1) hx hb dX2_isBeginning_13 (by decide) ?_
    refine lv_goto (tgt := 18) hx hb dX2_isBeginning_14 (by decide) ?_
    exact g_zret hx hb hr hlk hH ⟨Option.some.inj h, rfl⟩ rfl dX2_isBeginning_18
theorem ok_X2_isBeginning : okName yX2_isBeginning 1 := ⟨by decide, by decide, by decide +kernel⟩
section KL
variable {p : Program} {l : Launch} {e : Env} {R : Room} {s : State} {m : MethodId} {args : Array Value} {below : List Frame} {meth : Method} {c : Code} {H : Heap} {locs : List Loc} {cells slots : Nat} {Q : State → Prop} {cc : ByteArray} {pc nL : Nat} {ls : Array Slot} {rest : List Value}
variable {A : Nat → Prop} {D : va_G} {cy : Nat → ClassId} {ad : Nat → Nat}
theorem kl_X2_49 (C : gC p m c cc nL s args RX2 D (gT cy) (gw cy ad) A) {σ : GS} (hH : gH s D (gw cy ad) A σ H locs) {x1 : Int32} {α : Type} {k : Int32 → Option α} {y : α} (h : (f_X2_isBeginning σ x1).bind k = some y) (hR : 1 ≤ R.frames ∧ 21 ≤ R.locals) (hcs : cells ≤ R.cells ∧ slots ≤ R.slots) (hl : ls.size = nL) (hW : (rest.map fun v => v.category).sum ≤ 8) (hdg : decode cc pc = .ok (.invokevirtual 49, 3)) (kk : ∀ (r : Int32) (H1 : Heap) (locs1 : List Loc), gH s D (gw cy ad) A σ H1 locs1 → k r = some y → W p l e R s m args below meth c H1 locs1 cells slots Q (F0 m (pc + 3) ls (.int r :: rest))) : W p l e R s m args below meth c H locs cells slots Q (F0 m pc ls (.int x1 :: .ref (ad 9) :: rest)) := by
  obtain ⟨r, h1, h2⟩ := bnd h
  exact g_fi (g_rV (As := [.int x1]) C hH (c_X2_isBeginning l C.2.2.2 σ x1 r h1) (q0 := 9) mw_c_X2_isBeginning mw_m_X2_49 mw_i_X2_isBeginning mw_v_X2_isBeginning mw_in_X2 ok_X2_isBeginning ⟨rfl, rfl⟩ rfl rfl rfl hR hcs hl rfl hW hdg) hH.2 (fun H1 locs1 hH1 => kk r H1 locs1 hH1 h2)
end KL
set_option maxHeartbeats 4000000 in
set_option maxRecDepth 100000 in
theorem c_X2_closeRing (l : Launch) {D : va_G} {cy : Nat → ClassId} {ad : Nat → Nat} {A : Nat → Prop} (hD : ∀ σ, va_D A (gw cy ad σ)) (σ : GS) (x1 : Int32) (σ0 : GS) (h : f_X2_closeRing σ x1 = some σ0) : gMv l yX2_closeRing (wsM yX2_closeRing cX2_closeRing 5 none) ({ frames := 1, cells := 0, slots := 0, locals := 21 } : Room) D (gT cy) (gw cy ad) A [.ref (ad 9), .int x1] σ σ0 := by
  refine gMv.of (own := RX2) rfl (by decide) (Nat.le_of_ble_eq_true rfl) hD ?_
  intro p e s m below meth c ls C hx hb hr hlk hH hl
  have hl : lv_has ls 5 [(0, .ref (ad 9)), (1, .int x1)] := hl
  unfold f_X2_closeRing at h
  have J44 : ∀ (j44_2 : Int32) (j44_3 : Int32) (σj44 : GS) (H : Heap) (locs : List Loc) (ls : Array Slot), gH s D (gw cy ad) A σj44 H locs → lv_has ls 5 [(0, .ref (ad 9)), (2, .int j44_2), (3, .int j44_3)] → f_X2_closeRing_j44 j44_2 j44_3 σj44 = some σ0 → W p l e ({ frames := 1, cells := 0, slots := 0, locals := 21 } : Room) s m [.ref (ad 9), .int x1].toArray below meth c H locs 0 0 (MQ below (gQv D (gw cy ad) A σ0) [.ref (ad 9), .int x1].toArray s 0 0 A) (F0 m 44 ls []) := by
    intro j44_2 j44_3 σj44 H locs ls hH hl h
    unfold f_X2_closeRing_j44 at h
    refine lv_iconst (v := 0) hx hb dX2_closeRing_44 (by decide) ?_
    refine lv_istore (lv' := [(4, .int (0)), (0, .ref (ad 9)), (2, .int j44_2), (3, .int j44_3)]) hx hb dX2_closeRing_45 hl (by decide) rfl (fun ls hl => ?_)
    have L47 : ∀ (n : Nat) (y47_3 : Int32) (y47_4 : Int32) (σ47 : GS) (H : Heap) (locs : List Loc) (ls : Array Slot), gH s D (gw cy ad) A σ47 H locs → lv_has ls 5 [(0, .ref (ad 9)), (2, .int j44_2), (3, .int y47_3), (4, .int y47_4)] → ∀ X, itr (f_X2_closeRing_b47 j44_2) n (y47_3, y47_4, σ47) = some X → (∀ (σz47_0 : GS) (H : Heap) (locs : List Loc) (ls : Array Slot), gH s D (gw cy ad) A σz47_0 H locs → lv_has ls 5 [] → X = σz47_0 → W p l e ({ frames := 1, cells := 0, slots := 0, locals := 21 } : Room) s m [.ref (ad 9), .int x1].toArray below meth c H locs 0 0 (MQ below (gQv D (gw cy ad) A σ0) [.ref (ad 9), .int x1].toArray s 0 0 A) (F0 m 86 ls [])) → W p l e ({ frames := 1, cells := 0, slots := 0, locals := 21 } : Room) s m [.ref (ad 9), .int x1].toArray below meth c H locs 0 0 (MQ below (gQv D (gw cy ad) A σ0) [.ref (ad 9), .int x1].toArray s 0 0 A) (F0 m 47 ls []) := by
      intro n
      induction n with
      | zero =>
        intro y47_3 y47_4 σ47 H locs ls hH hl X h K
        exact itr_0 h
      | succ n ih =>
        intro y47_3 y47_4 σ47 H locs ls hH hl X h0 K
        obtain ⟨o, h, h2⟩ := itr_step h0
        unfold f_X2_closeRing_b47 at h
        refine lv_iload hx hb dX2_closeRing_47 (lv_at hl 3 rfl) ?_
        refine lv_sipush (v := 1024) hx hb dX2_closeRing_49 (by decide) ?_
        refine gb_icmp_ge (tgt := 86) hx hb dX2_closeRing_52 (by decide) h (fun h => ?_) (fun h => ?_)
        · exact K _ _ _ _ hH (lv_sub hl [] rfl) (nxt_r h h2)
        · refine lv_aload_n hx hb dX2_closeRing_55 rfl (lv_at hl 0 rfl) ?_
          refine gf_X2_23 C hH dX2_closeRing_56 ?_
          refine lv_iload_n hx hb dX2_closeRing_59 rfl (lv_at hl 2 rfl) ?_
          refine gal_en C hH h dX2_closeRing_60 (fun h => ?_)
          refine lv_bipush (v := -2) hx hb dX2_closeRing_61 (by decide) ?_
          refine gb_icmp_ne (tgt := 86) hx hb dX2_closeRing_63 (by decide) h (fun h => ?_) (fun h => ?_)
          · exact K _ _ _ _ hH (lv_sub hl [] rfl) (nxt_r h h2)
          · refine lv_aload_n hx hb dX2_closeRing_66 rfl (lv_at hl 0 rfl) ?_
            refine gf_X2_23 C hH dX2_closeRing_67 ?_
            refine lv_iload_n hx hb dX2_closeRing_70 rfl (lv_at hl 2 rfl) ?_
            refine lv_iload_n hx hb dX2_closeRing_71 rfl (lv_at hl 1 rfl) ?_
            refine gas_en C hH h dX2_closeRing_72 (fun h H locs hH => ?_)
            refine lv_aload_n hx hb dX2_closeRing_73 rfl (lv_at hl 0 rfl) ?_
            refine gf_X2_19 C hH dX2_closeRing_74 ?_
            refine lv_iload_n hx hb dX2_closeRing_77 rfl (lv_at hl 2 rfl) ?_
            refine gal_be C hH h dX2_closeRing_78 (fun h => ?_)
            refine lv_istore_n (lv' := [(3, .int (gbe (gten σ47 y47_3 j44_2) (y47_3 : Int32).toNatClampNeg)), (0, .ref (ad 9)), (2, .int j44_2), (4, .int y47_4)]) hx hb dX2_closeRing_79 rfl hl (by decide) rfl (fun ls hl => ?_)
            refine lv_iinc (v := (y47_4 + (1 : Int32))) (lv' := [(4, .int (y47_4 + (1 : Int32))), (3, .int (gbe (gten σ47 y47_3 j44_2) (y47_3 : Int32).toNatClampNeg)), (0, .ref (ad 9)), (2, .int j44_2)]) hx hb dX2_closeRing_80 hl (k := 3) rfl rfl (by decide) rfl (fun ls hl => ?_)
            refine lv_goto (tgt := 47) hx hb dX2_closeRing_83 (by decide) ?_
            exact ih _ _ _ _ _ _ hH (lv_sub hl [2, 3, 1, 0] rfl) X (nxt_l h h2) K
    obtain ⟨X47, hX47, h⟩ := bnd h
    refine L47 FU j44_3 ((0 : Int32)) σj44 _ _ _ hH (lv_sub hl [1, 2, 3, 0] rfl) X47 hX47 ?_
    intro σz47_0 H locs ls hH hl hE
    replace hE := hE.symm
    subst hE
    exact g_vret hx hb hr hlk hH (Option.some.inj h) dX2_closeRing_86
  refine lv_iload_n hx hb dX2_closeRing_0 rfl (lv_at hl 1 rfl) ?_
  refine lv_istore_n (lv' := [(2, .int x1), (0, .ref (ad 9)), (1, .int x1)]) hx hb dX2_closeRing_1 rfl hl (by decide) rfl (fun ls hl => ?_)
  refine lv_aload_n hx hb dX2_closeRing_2 rfl (lv_at hl 1 rfl) ?_
  refine gf_X2_19 C hH dX2_closeRing_3 ?_
  refine lv_iload_n hx hb dX2_closeRing_6 rfl (lv_at hl 2 rfl) ?_
  refine gal_be C hH h dX2_closeRing_7 (fun h => ?_)
  refine lv_istore_n (lv' := [(3, .int (gbe σ (x1 : Int32).toNatClampNeg)), (2, .int x1), (0, .ref (ad 9)), (1, .int x1)]) hx hb dX2_closeRing_8 rfl hl (by decide) rfl (fun ls hl => ?_)
  refine lv_iconst (v := 0) hx hb dX2_closeRing_9 (by decide) ?_
  refine lv_istore (lv' := [(4, .int (0)), (3, .int (gbe σ (x1 : Int32).toNatClampNeg)), (2, .int x1), (0, .ref (ad 9)), (1, .int x1)]) hx hb dX2_closeRing_10 hl (by decide) rfl (fun ls hl => ?_)
  have L12 : ∀ (n : Nat) (y12_2 : Int32) (y12_3 : Int32) (y12_4 : Int32) (H : Heap) (locs : List Loc) (ls : Array Slot), gH s D (gw cy ad) A σ H locs → lv_has ls 5 [(0, .ref (ad 9)), (1, .int x1), (2, .int y12_2), (3, .int y12_3), (4, .int y12_4)] → ∀ X, itr (f_X2_closeRing_b12 σ x1) n (y12_2, y12_3, y12_4) = some X → (∀ (z12_0_2 : Int32) (z12_0_3 : Int32) (H : Heap) (locs : List Loc) (ls : Array Slot), gH s D (gw cy ad) A σ H locs → lv_has ls 5 [(0, .ref (ad 9)), (2, .int z12_0_2), (3, .int z12_0_3)] → X = (z12_0_2, z12_0_3) → W p l e ({ frames := 1, cells := 0, slots := 0, locals := 21 } : Room) s m [.ref (ad 9), .int x1].toArray below meth c H locs 0 0 (MQ below (gQv D (gw cy ad) A σ0) [.ref (ad 9), .int x1].toArray s 0 0 A) (F0 m 44 ls [])) → W p l e ({ frames := 1, cells := 0, slots := 0, locals := 21 } : Room) s m [.ref (ad 9), .int x1].toArray below meth c H locs 0 0 (MQ below (gQv D (gw cy ad) A σ0) [.ref (ad 9), .int x1].toArray s 0 0 A) (F0 m 12 ls []) := by
    intro n
    induction n with
    | zero =>
      intro y12_2 y12_3 y12_4 H locs ls hH hl X h K
      exact itr_0 h
    | succ n ih =>
      intro y12_2 y12_3 y12_4 H locs ls hH hl X h0 K
      obtain ⟨o, h, h2⟩ := itr_step h0
      unfold f_X2_closeRing_b12 at h
      refine lv_iload hx hb dX2_closeRing_12 (lv_at hl 4 rfl) ?_
      refine lv_sipush (v := 1024) hx hb dX2_closeRing_14 (by decide) ?_
      refine gb_icmp_ge (tgt := 44) hx hb dX2_closeRing_17 (by decide) h (fun h => ?_) (fun h => ?_)
      · exact K _ _ _ _ _ hH (lv_sub hl [0, 2, 3] rfl) (nxt_r h h2)
      · refine lv_iload_n hx hb dX2_closeRing_20 rfl (lv_at hl 3 rfl) ?_
        refine lv_iload_n hx hb dX2_closeRing_21 rfl (lv_at hl 1 rfl) ?_
        refine gb_icmp_eq (tgt := 44) hx hb dX2_closeRing_22 (by decide) h (fun h => ?_) (fun h => ?_)
        · exact K _ _ _ _ _ hH (lv_sub hl [0, 2, 3] rfl) (nxt_r h h2)
        · refine lv_iload_n hx hb dX2_closeRing_25 rfl (lv_at hl 2 rfl) ?_
          refine lv_iload_n hx hb dX2_closeRing_26 rfl (lv_at hl 3 rfl) ?_
          refine g_min C hl.1 (by decide) (by decide) (by decide) (by decide) dX2_closeRing_27 ?_
          refine lv_istore_n (lv' := [(2, .int (if y12_3 < y12_2 then y12_3 else y12_2)), (0, .ref (ad 9)), (1, .int x1), (3, .int y12_3), (4, .int y12_4)]) hx hb dX2_closeRing_30 rfl hl (by decide) rfl (fun ls hl => ?_)
          refine lv_aload_n hx hb dX2_closeRing_31 rfl (lv_at hl 1 rfl) ?_
          refine gf_X2_19 C hH dX2_closeRing_32 ?_
          refine lv_iload_n hx hb dX2_closeRing_35 rfl (lv_at hl 3 rfl) ?_
          refine gal_be C hH h dX2_closeRing_36 (fun h => ?_)
          refine lv_istore_n (lv' := [(3, .int (gbe σ (y12_3 : Int32).toNatClampNeg)), (2, .int (if y12_3 < y12_2 then y12_3 else y12_2)), (0, .ref (ad 9)), (1, .int x1), (4, .int y12_4)]) hx hb dX2_closeRing_37 rfl hl (by decide) rfl (fun ls hl => ?_)
          refine lv_iinc (v := (y12_4 + (1 : Int32))) (lv' := [(4, .int (y12_4 + (1 : Int32))), (3, .int (gbe σ (y12_3 : Int32).toNatClampNeg)), (2, .int (if y12_3 < y12_2 then y12_3 else y12_2)), (0, .ref (ad 9)), (1, .int x1)]) hx hb dX2_closeRing_38 hl (k := 4) rfl rfl (by decide) rfl (fun ls hl => ?_)
          refine lv_goto (tgt := 12) hx hb dX2_closeRing_41 (by decide) ?_
          exact ih _ _ _ _ _ _ hH (lv_sub hl [3, 4, 2, 1, 0] rfl) X (nxt_l h h2) K
  obtain ⟨X12, hX12, h⟩ := bnd h
  refine L12 FU x1 ((gbe σ (x1 : Int32).toNatClampNeg)) ((0 : Int32)) _ _ _ hH (lv_sub hl [3, 4, 2, 1, 0] rfl) X12 hX12 ?_
  intro z12_0_2 z12_0_3 H locs ls hH hl hE
  replace hE := hE.symm
  subst hE
  exact J44 z12_0_2 z12_0_3 σ _ _ _ hH (lv_sub hl [0, 1, 2] rfl) h
theorem ok_X2_closeRing : okName yX2_closeRing 1 := ⟨by decide, by decide, by decide +kernel⟩
section KL
variable {p : Program} {l : Launch} {e : Env} {R : Room} {s : State} {m : MethodId} {args : Array Value} {below : List Frame} {meth : Method} {c : Code} {H : Heap} {locs : List Loc} {cells slots : Nat} {Q : State → Prop} {cc : ByteArray} {pc nL : Nat} {ls : Array Slot} {rest : List Value}
variable {A : Nat → Prop} {D : va_G} {cy : Nat → ClassId} {ad : Nat → Nat}
theorem kl_X2_63 (C : gC p m c cc nL s args RX2 D (gT cy) (gw cy ad) A) {σ : GS} (hH : gH s D (gw cy ad) A σ H locs) {x1 : Int32} {α : Type} {k : GS → Option α} {y : α} (h : (f_X2_closeRing σ x1).bind k = some y) (hR : 2 ≤ R.frames ∧ 45 ≤ R.locals) (hcs : cells ≤ R.cells ∧ slots ≤ R.slots) (hl : ls.size = nL) (hW : (rest.map fun v => v.category).sum ≤ 8) (hdg : decode cc pc = .ok (.invokevirtual 63, 3)) (kk : ∀ (σ1 : GS) (H1 : Heap) (locs1 : List Loc), gH s D (gw cy ad) A σ1 H1 locs1 → k σ1 = some y → W p l e R s m args below meth c H1 locs1 cells slots Q (F0 m (pc + 3) ls (rest))) : W p l e R s m args below meth c H locs cells slots Q (F0 m pc ls (.int x1 :: .ref (ad 9) :: rest)) := by
  obtain ⟨σ1, h1, h2⟩ := bnd h
  exact g_fv (g_rV (As := [.int x1]) C hH (c_X2_closeRing l C.2.2.2 σ x1 σ1 h1) (q0 := 9) mw_c_X2_closeRing mw_m_X2_63 mw_i_X2_closeRing mw_v_X2_closeRing mw_in_X2 ok_X2_closeRing ⟨rfl, rfl⟩ rfl rfl rfl hR hcs hl rfl hW hdg) hH.2 (fun H1 locs1 hH1 => kk σ1 H1 locs1 hH1 h2)
end KL
set_option maxHeartbeats 4000000 in
set_option maxRecDepth 100000 in
theorem c_X2_closeTail (l : Launch) {D : va_G} {cy : Nat → ClassId} {ad : Nat → Nat} {A : Nat → Prop} (hD : ∀ σ, va_D A (gw cy ad σ)) (σ : GS) (x1 : Int32) (σ0 : GS) (h : f_X2_closeTail σ x1 = some σ0) : gMv l yX2_closeTail (wsM yX2_closeTail cX2_closeTail 7 none) ({ frames := 0, cells := 0, slots := 0, locals := 0 } : Room) D (gT cy) (gw cy ad) A [.ref (ad 9), .int x1] σ σ0 := by
  refine gMv.of (own := RX2) rfl (by decide) (Nat.le_of_ble_eq_true rfl) hD ?_
  intro p e s m below meth c ls C hx hb hr hlk hH hl
  have hl : lv_has ls 7 [(0, .ref (ad 9)), (1, .int x1)] := hl
  unfold f_X2_closeTail at h
  have J35 : ∀ (j35_2 : Int32) (j35_3 : Int32) (σj35 : GS) (H : Heap) (locs : List Loc) (ls : Array Slot), gH s D (gw cy ad) A σj35 H locs → lv_has ls 7 [(0, .ref (ad 9)), (1, .int x1), (2, .int j35_2), (3, .int j35_3)] → f_X2_closeTail_j35 x1 j35_2 j35_3 σj35 = some σ0 → W p l e ({ frames := 0, cells := 0, slots := 0, locals := 0 } : Room) s m [.ref (ad 9), .int x1].toArray below meth c H locs 0 0 (MQ below (gQv D (gw cy ad) A σ0) [.ref (ad 9), .int x1].toArray s 0 0 A) (F0 m 35 ls []) := by
    intro j35_2 j35_3 σj35 H locs ls hH hl h
    unfold f_X2_closeTail_j35 at h
    refine lv_aload_n hx hb dX2_closeTail_35 rfl (lv_at hl 0 rfl) ?_
    refine gf_X2_23 C hH dX2_closeTail_36 ?_
    refine lv_iload_n hx hb dX2_closeTail_39 rfl (lv_at hl 3 rfl) ?_
    refine gal_en C hH h dX2_closeTail_40 (fun h => ?_)
    refine lv_istore (lv' := [(4, .int (gen σj35 (j35_3 : Int32).toNatClampNeg)), (0, .ref (ad 9)), (1, .int x1), (2, .int j35_2), (3, .int j35_3)]) hx hb dX2_closeTail_41 hl (by decide) rfl (fun ls hl => ?_)
    refine lv_aload_n hx hb dX2_closeTail_43 rfl (lv_at hl 1 rfl) ?_
    refine gf_X2_26 C hH dX2_closeTail_44 ?_
    refine lv_iload_n hx hb dX2_closeTail_47 rfl (lv_at hl 4 rfl) ?_
    refine gal_ta C hH h dX2_closeTail_48 (fun h => ?_)
    refine lv_iload_n hx hb dX2_closeTail_49 rfl (lv_at hl 3 rfl) ?_
    refine lv_iadd hx hb dX2_closeTail_50 ?_
    refine lv_istore (lv' := [(5, .int ((gta σj35 (j35_3 : Int32).toNatClampNeg) + j35_2)), (4, .int (gen σj35 (j35_3 : Int32).toNatClampNeg)), (0, .ref (ad 9)), (1, .int x1), (2, .int j35_2), (3, .int j35_3)]) hx hb dX2_closeTail_51 hl (by decide) rfl (fun ls hl => ?_)
    refine lv_iload_n hx hb dX2_closeTail_53 rfl (lv_at hl 3 rfl) ?_
    refine lv_istore_n (lv' := [(3, .int x1), (5, .int ((gta σj35 (j35_3 : Int32).toNatClampNeg) + j35_2)), (4, .int (gen σj35 (j35_3 : Int32).toNatClampNeg)), (0, .ref (ad 9)), (1, .int x1), (2, .int j35_2)]) hx hb dX2_closeTail_54 rfl hl (by decide) rfl (fun ls hl => ?_)
    refine lv_iconst (v := 0) hx hb dX2_closeTail_55 (by decide) ?_
    refine lv_istore (lv' := [(6, .int (0)), (3, .int x1), (5, .int ((gta σj35 (j35_3 : Int32).toNatClampNeg) + j35_2)), (4, .int (gen σj35 (j35_3 : Int32).toNatClampNeg)), (0, .ref (ad 9)), (1, .int x1), (2, .int j35_2)]) hx hb dX2_closeTail_56 hl (by decide) rfl (fun ls hl => ?_)
    have L58 : ∀ (n : Nat) (y58_3 : Int32) (y58_6 : Int32) (σ58 : GS) (H : Heap) (locs : List Loc) (ls : Array Slot), gH s D (gw cy ad) A σ58 H locs → lv_has ls 7 [(0, .ref (ad 9)), (2, .int j35_2), (3, .int y58_3), (4, .int (gen σj35 (j35_3 : Int32).toNatClampNeg)), (5, .int ((gta σj35 (j35_3 : Int32).toNatClampNeg) + j35_2)), (6, .int y58_6)] → ∀ X, itr (f_X2_closeTail_b58 σj35 j35_2 j35_3) n (y58_3, y58_6, σ58) = some X → (∀ (σz58_0 : GS) (H : Heap) (locs : List Loc) (ls : Array Slot), gH s D (gw cy ad) A σz58_0 H locs → lv_has ls 7 [] → X = σz58_0 → W p l e ({ frames := 0, cells := 0, slots := 0, locals := 0 } : Room) s m [.ref (ad 9), .int x1].toArray below meth c H locs 0 0 (MQ below (gQv D (gw cy ad) A σ0) [.ref (ad 9), .int x1].toArray s 0 0 A) (F0 m 96 ls [])) → W p l e ({ frames := 0, cells := 0, slots := 0, locals := 0 } : Room) s m [.ref (ad 9), .int x1].toArray below meth c H locs 0 0 (MQ below (gQv D (gw cy ad) A σ0) [.ref (ad 9), .int x1].toArray s 0 0 A) (F0 m 58 ls []) := by
      intro n
      induction n with
      | zero =>
        intro y58_3 y58_6 σ58 H locs ls hH hl X h K
        exact itr_0 h
      | succ n ih =>
        intro y58_3 y58_6 σ58 H locs ls hH hl X h0 K
        obtain ⟨o, h, h2⟩ := itr_step h0
        unfold f_X2_closeTail_b58 at h
        refine lv_iload hx hb dX2_closeTail_58 (lv_at hl 5 rfl) ?_
        refine lv_iload_n hx hb dX2_closeTail_60 rfl (lv_at hl 1 rfl) ?_
        refine gb_icmp_ge (tgt := 96) hx hb dX2_closeTail_61 (by decide) h (fun h => ?_) (fun h => ?_)
        · exact K _ _ _ _ hH (lv_sub hl [] rfl) (nxt_r h h2)
        · refine lv_aload_n hx hb dX2_closeTail_64 rfl (lv_at hl 0 rfl) ?_
          refine gf_X2_23 C hH dX2_closeTail_65 ?_
          refine lv_iload_n hx hb dX2_closeTail_68 rfl (lv_at hl 2 rfl) ?_
          refine lv_iload hx hb dX2_closeTail_69 (lv_at hl 3 rfl) ?_
          refine gas_en C hH h dX2_closeTail_71 (fun h H locs hH => ?_)
          refine lv_aload_n hx hb dX2_closeTail_72 rfl (lv_at hl 0 rfl) ?_
          refine gf_X2_26 C hH dX2_closeTail_73 ?_
          refine lv_iload_n hx hb dX2_closeTail_76 rfl (lv_at hl 2 rfl) ?_
          refine lv_iload hx hb dX2_closeTail_77 (lv_at hl 4 rfl) ?_
          refine lv_iload hx hb dX2_closeTail_79 (lv_at hl 5 rfl) ?_
          refine lv_isub hx hb dX2_closeTail_81 ?_
          refine gas_ta C hH h dX2_closeTail_82 (fun h H locs hH => ?_)
          refine lv_aload_n hx hb dX2_closeTail_83 rfl (lv_at hl 0 rfl) ?_
          refine gf_X2_19 C hH dX2_closeTail_84 ?_
          refine lv_iload_n hx hb dX2_closeTail_87 rfl (lv_at hl 2 rfl) ?_
          refine gal_be C hH h dX2_closeTail_88 (fun h => ?_)
          refine lv_istore_n (lv' := [(3, .int (gbe (gtta (gten σ58 y58_3 (gen σj35 (j35_3 : Int32).toNatClampNeg)) y58_3 (((gta σj35 (j35_3 : Int32).toNatClampNeg) + j35_2) - y58_6)) (y58_3 : Int32).toNatClampNeg)), (0, .ref (ad 9)), (2, .int j35_2), (4, .int (gen σj35 (j35_3 : Int32).toNatClampNeg)), (5, .int ((gta σj35 (j35_3 : Int32).toNatClampNeg) + j35_2)), (6, .int y58_6)]) hx hb dX2_closeTail_89 rfl hl (by decide) rfl (fun ls hl => ?_)
          refine lv_iinc (v := (y58_6 + (1 : Int32))) (lv' := [(6, .int (y58_6 + (1 : Int32))), (3, .int (gbe (gtta (gten σ58 y58_3 (gen σj35 (j35_3 : Int32).toNatClampNeg)) y58_3 (((gta σj35 (j35_3 : Int32).toNatClampNeg) + j35_2) - y58_6)) (y58_3 : Int32).toNatClampNeg)), (0, .ref (ad 9)), (2, .int j35_2), (4, .int (gen σj35 (j35_3 : Int32).toNatClampNeg)), (5, .int ((gta σj35 (j35_3 : Int32).toNatClampNeg) + j35_2))]) hx hb dX2_closeTail_90 hl (k := 5) rfl rfl (by decide) rfl (fun ls hl => ?_)
          refine lv_goto (tgt := 58) hx hb dX2_closeTail_93 (by decide) ?_
          exact ih _ _ _ _ _ _ hH (lv_sub hl [2, 3, 1, 4, 5, 0] rfl) X (nxt_l h h2) K
    obtain ⟨X58, hX58, h⟩ := bnd h
    refine L58 FU x1 ((0 : Int32)) σj35 _ _ _ hH (lv_sub hl [4, 6, 1, 3, 2, 0] rfl) X58 hX58 ?_
    intro σz58_0 H locs ls hH hl hE
    replace hE := hE.symm
    subst hE
    exact g_vret hx hb hr hlk hH (Option.some.inj h) dX2_closeTail_96
  refine lv_iconst (v := 0) hx hb dX2_closeTail_0 (by decide) ?_
  refine lv_istore_n (lv' := [(2, .int (0)), (0, .ref (ad 9)), (1, .int x1)]) hx hb dX2_closeTail_1 rfl hl (by decide) rfl (fun ls hl => ?_)
  refine lv_iload_n hx hb dX2_closeTail_2 rfl (lv_at hl 2 rfl) ?_
  refine lv_istore_n (lv' := [(3, .int x1), (2, .int (0)), (0, .ref (ad 9)), (1, .int x1)]) hx hb dX2_closeTail_3 rfl hl (by decide) rfl (fun ls hl => ?_)
  have L4 : ∀ (n : Nat) (y4_2 : Int32) (y4_3 : Int32) (H : Heap) (locs : List Loc) (ls : Array Slot), gH s D (gw cy ad) A σ H locs → lv_has ls 7 [(0, .ref (ad 9)), (1, .int x1), (2, .int y4_2), (3, .int y4_3)] → ∀ X, itr (f_X2_closeTail_b4 σ) n (y4_2, y4_3) = some X → (∀ (z4_0_2 : Int32) (z4_0_3 : Int32) (H : Heap) (locs : List Loc) (ls : Array Slot), gH s D (gw cy ad) A σ H locs → lv_has ls 7 [(0, .ref (ad 9)), (1, .int x1), (2, .int z4_0_2), (3, .int z4_0_3)] → X = (z4_0_2, z4_0_3) → W p l e ({ frames := 0, cells := 0, slots := 0, locals := 0 } : Room) s m [.ref (ad 9), .int x1].toArray below meth c H locs 0 0 (MQ below (gQv D (gw cy ad) A σ0) [.ref (ad 9), .int x1].toArray s 0 0 A) (F0 m 35 ls [])) → W p l e ({ frames := 0, cells := 0, slots := 0, locals := 0 } : Room) s m [.ref (ad 9), .int x1].toArray below meth c H locs 0 0 (MQ below (gQv D (gw cy ad) A σ0) [.ref (ad 9), .int x1].toArray s 0 0 A) (F0 m 4 ls []) := by
    intro n
    induction n with
    | zero =>
      intro y4_2 y4_3 H locs ls hH hl X h K
      exact itr_0 h
    | succ n ih =>
      intro y4_2 y4_3 H locs ls hH hl X h0 K
      obtain ⟨o, h, h2⟩ := itr_step h0
      unfold f_X2_closeTail_b4 at h
      refine lv_iload_n hx hb dX2_closeTail_4 rfl (lv_at hl 2 rfl) ?_
      refine lv_sipush (v := 1024) hx hb dX2_closeTail_5 (by decide) ?_
      refine gb_icmp_ge (tgt := 35) hx hb dX2_closeTail_8 (by decide) h (fun h => ?_) (fun h => ?_)
      · exact K _ _ _ _ _ hH (lv_sub hl [0, 1, 2, 3] rfl) (nxt_r h h2)
      · refine lv_aload_n hx hb dX2_closeTail_11 rfl (lv_at hl 0 rfl) ?_
        refine gf_X2_23 C hH dX2_closeTail_12 ?_
        refine lv_iload_n hx hb dX2_closeTail_15 rfl (lv_at hl 3 rfl) ?_
        refine gal_en C hH h dX2_closeTail_16 (fun h => ?_)
        refine lv_bipush (v := -2) hx hb dX2_closeTail_17 (by decide) ?_
        refine gb_icmp_ne (tgt := 35) hx hb dX2_closeTail_19 (by decide) h (fun h => ?_) (fun h => ?_)
        · exact K _ _ _ _ _ hH (lv_sub hl [0, 1, 2, 3] rfl) (nxt_r h h2)
        · refine lv_aload_n hx hb dX2_closeTail_22 rfl (lv_at hl 0 rfl) ?_
          refine gf_X2_19 C hH dX2_closeTail_23 ?_
          refine lv_iload_n hx hb dX2_closeTail_26 rfl (lv_at hl 3 rfl) ?_
          refine gal_be C hH h dX2_closeTail_27 (fun h => ?_)
          refine lv_istore_n (lv' := [(3, .int (gbe σ (y4_3 : Int32).toNatClampNeg)), (0, .ref (ad 9)), (1, .int x1), (2, .int y4_2)]) hx hb dX2_closeTail_28 rfl hl (by decide) rfl (fun ls hl => ?_)
          refine lv_iinc (v := (y4_2 + (1 : Int32))) (lv' := [(2, .int (y4_2 + (1 : Int32))), (3, .int (gbe σ (y4_3 : Int32).toNatClampNeg)), (0, .ref (ad 9)), (1, .int x1)]) hx hb dX2_closeTail_29 hl (k := 3) rfl rfl (by decide) rfl (fun ls hl => ?_)
          refine lv_goto (tgt := 4) hx hb dX2_closeTail_32 (by decide) ?_
          exact ih _ _ _ _ _ hH (lv_sub hl [2, 3, 0, 1] rfl) X (nxt_l h h2) K
  obtain ⟨X4, hX4, h⟩ := bnd h
  refine L4 FU ((0 : Int32)) x1 _ _ _ hH (lv_sub hl [2, 3, 1, 0] rfl) X4 hX4 ?_
  intro z4_0_2 z4_0_3 H locs ls hH hl hE
  replace hE := hE.symm
  subst hE
  exact J35 z4_0_2 z4_0_3 σ _ _ _ hH (lv_sub hl [0, 1, 2, 3] rfl) h
theorem ok_X2_closeTail : okName yX2_closeTail 1 := ⟨by decide, by decide, by decide +kernel⟩
section KL
variable {p : Program} {l : Launch} {e : Env} {R : Room} {s : State} {m : MethodId} {args : Array Value} {below : List Frame} {meth : Method} {c : Code} {H : Heap} {locs : List Loc} {cells slots : Nat} {Q : State → Prop} {cc : ByteArray} {pc nL : Nat} {ls : Array Slot} {rest : List Value}
variable {A : Nat → Prop} {D : va_G} {cy : Nat → ClassId} {ad : Nat → Nat}
theorem kl_X2_66 (C : gC p m c cc nL s args RX2 D (gT cy) (gw cy ad) A) {σ : GS} (hH : gH s D (gw cy ad) A σ H locs) {x1 : Int32} {α : Type} {k : GS → Option α} {y : α} (h : (f_X2_closeTail σ x1).bind k = some y) (hR : 1 ≤ R.frames ∧ 26 ≤ R.locals) (hcs : cells ≤ R.cells ∧ slots ≤ R.slots) (hl : ls.size = nL) (hW : (rest.map fun v => v.category).sum ≤ 8) (hdg : decode cc pc = .ok (.invokevirtual 66, 3)) (kk : ∀ (σ1 : GS) (H1 : Heap) (locs1 : List Loc), gH s D (gw cy ad) A σ1 H1 locs1 → k σ1 = some y → W p l e R s m args below meth c H1 locs1 cells slots Q (F0 m (pc + 3) ls (rest))) : W p l e R s m args below meth c H locs cells slots Q (F0 m pc ls (.int x1 :: .ref (ad 9) :: rest)) := by
  obtain ⟨σ1, h1, h2⟩ := bnd h
  exact g_fv (g_rV (As := [.int x1]) C hH (c_X2_closeTail l C.2.2.2 σ x1 σ1 h1) (q0 := 9) mw_c_X2_closeTail mw_m_X2_66 mw_i_X2_closeTail mw_v_X2_closeTail mw_in_X2 ok_X2_closeTail ⟨rfl, rfl⟩ rfl rfl rfl hR hcs hl rfl hW hdg) hH.2 (fun H1 locs1 hH1 => kk σ1 H1 locs1 hH1 h2)
end KL
set_option maxHeartbeats 4000000 in
set_option maxRecDepth 100000 in
theorem c_X2_follow (l : Launch) {D : va_G} {cy : Nat → ClassId} {ad : Nat → Nat} {A : Nat → Prop} (hD : ∀ σ, va_D A (gw cy ad σ)) (σ : GS) (x1 : Int32) (σ0 : GS) (h : f_X2_follow σ x1 = some σ0) : gMv l yX2_follow (wsM yX2_follow cX2_follow 4 none) ({ frames := 2, cells := 0, slots := 0, locals := 45 } : Room) D (gT cy) (gw cy ad) A [.ref (ad 9), .int x1] σ σ0 := by
  refine gMv.of (own := RX2) rfl (by decide) (Nat.le_of_ble_eq_true rfl) hD ?_
  intro p e s m below meth c ls C hx hb hr hlk hH hl
  have hl : lv_has ls 4 [(0, .ref (ad 9)), (1, .int x1)] := hl
  unfold f_X2_follow at h
  refine lv_iload_n hx hb dX2_follow_0 rfl (lv_at hl 1 rfl) ?_
  refine lv_istore_n (lv' := [(2, .int x1), (0, .ref (ad 9)), (1, .int x1)]) hx hb dX2_follow_1 rfl hl (by decide) rfl (fun ls hl => ?_)
  refine lv_iconst (v := 0) hx hb dX2_follow_2 (by decide) ?_
  refine lv_istore_n (lv' := [(3, .int (0)), (2, .int x1), (0, .ref (ad 9)), (1, .int x1)]) hx hb dX2_follow_3 rfl hl (by decide) rfl (fun ls hl => ?_)
  have L4 : ∀ (n : Nat) (y4_2 : Int32) (y4_3 : Int32) (σ4 : GS) (H : Heap) (locs : List Loc) (ls : Array Slot), gH s D (gw cy ad) A σ4 H locs → lv_has ls 4 [(0, .ref (ad 9)), (1, .int x1), (2, .int y4_2), (3, .int y4_3)] → ∀ X, itr f_X2_follow_b4 n (y4_2, y4_3, σ4) = some X → (∀ (z4_0_2 : Int32) (σz4_0 : GS) (H : Heap) (locs : List Loc) (ls : Array Slot), gH s D (gw cy ad) A σz4_0 H locs → lv_has ls 4 [(0, .ref (ad 9)), (1, .int x1), (2, .int z4_0_2)] → X = (z4_0_2, σz4_0) → W p l e ({ frames := 2, cells := 0, slots := 0, locals := 45 } : Room) s m [.ref (ad 9), .int x1].toArray below meth c H locs 0 0 (MQ below (gQv D (gw cy ad) A σ0) [.ref (ad 9), .int x1].toArray s 0 0 A) (F0 m 42 ls [])) → W p l e ({ frames := 2, cells := 0, slots := 0, locals := 45 } : Room) s m [.ref (ad 9), .int x1].toArray below meth c H locs 0 0 (MQ below (gQv D (gw cy ad) A σ0) [.ref (ad 9), .int x1].toArray s 0 0 A) (F0 m 4 ls []) := by
    intro n
    induction n with
    | zero =>
      intro y4_2 y4_3 σ4 H locs ls hH hl X h K
      exact itr_0 h
    | succ n ih =>
      intro y4_2 y4_3 σ4 H locs ls hH hl X h0 K
      obtain ⟨o, h, h2⟩ := itr_step h0
      unfold f_X2_follow_b4 at h
      refine lv_iload_n hx hb dX2_follow_4 rfl (lv_at hl 3 rfl) ?_
      refine lv_sipush (v := 1024) hx hb dX2_follow_5 (by decide) ?_
      refine gb_icmp_ge (tgt := 42) hx hb dX2_follow_8 (by decide) h (fun h => ?_) (fun h => ?_)
      · exact K _ _ _ _ _ hH (lv_sub hl [0, 1, 2] rfl) (nxt_r h h2)
      · refine lv_aload_n hx hb dX2_follow_11 rfl (lv_at hl 0 rfl) ?_
        refine gf_X2_23 C hH dX2_follow_12 ?_
        refine lv_iload_n hx hb dX2_follow_15 rfl (lv_at hl 2 rfl) ?_
        refine gal_en C hH h dX2_follow_16 (fun h => ?_)
        refine lv_iconst (v := -1) hx hb dX2_follow_17 (by decide) ?_
        refine gb_icmp_ne (tgt := 42) hx hb dX2_follow_18 (by decide) h (fun h => ?_) (fun h => ?_)
        · exact K _ _ _ _ _ hH (lv_sub hl [0, 1, 2] rfl) (nxt_r h h2)
        · refine lv_aload_n hx hb dX2_follow_21 rfl (lv_at hl 0 rfl) ?_
          refine gf_X2_23 C hH dX2_follow_22 ?_
          refine lv_iload_n hx hb dX2_follow_25 rfl (lv_at hl 2 rfl) ?_
          refine lv_bipush (v := -2) hx hb dX2_follow_26 (by decide) ?_
          refine gas_en C hH h dX2_follow_28 (fun h H locs hH => ?_)
          refine lv_aload_n hx hb dX2_follow_29 rfl (lv_at hl 0 rfl) ?_
          refine gf_X2_19 C hH dX2_follow_30 ?_
          refine lv_iload_n hx hb dX2_follow_33 rfl (lv_at hl 2 rfl) ?_
          refine gal_be C hH h dX2_follow_34 (fun h => ?_)
          refine lv_istore_n (lv' := [(2, .int (gbe (gten σ4 y4_2 (-2 : Int32)) (y4_2 : Int32).toNatClampNeg)), (0, .ref (ad 9)), (1, .int x1), (3, .int y4_3)]) hx hb dX2_follow_35 rfl hl (by decide) rfl (fun ls hl => ?_)
          refine lv_iinc (v := (y4_3 + (1 : Int32))) (lv' := [(3, .int (y4_3 + (1 : Int32))), (2, .int (gbe (gten σ4 y4_2 (-2 : Int32)) (y4_2 : Int32).toNatClampNeg)), (0, .ref (ad 9)), (1, .int x1)]) hx hb dX2_follow_36 hl (k := 3) rfl rfl (by decide) rfl (fun ls hl => ?_)
          refine lv_goto (tgt := 4) hx hb dX2_follow_39 (by decide) ?_
          exact ih _ _ _ _ _ _ hH (lv_sub hl [2, 3, 1, 0] rfl) X (nxt_l h h2) K
  obtain ⟨X4, hX4, h⟩ := bnd h
  refine L4 FU x1 ((0 : Int32)) σ _ _ _ hH (lv_sub hl [2, 3, 1, 0] rfl) X4 hX4 ?_
  intro z4_0_2 σz4_0 H locs ls hH hl hE
  replace hE := hE.symm
  subst hE
  refine lv_aload_n hx hb dX2_follow_42 rfl (lv_at hl 0 rfl) ?_
  refine gf_X2_23 C hH dX2_follow_43 ?_
  refine lv_iload_n hx hb dX2_follow_46 rfl (lv_at hl 2 rfl) ?_
  refine gal_en C hH h dX2_follow_47 (fun h => ?_)
  refine lv_bipush (v := -2) hx hb dX2_follow_48 (by decide) ?_
  refine gb_icmp_ne (tgt := 58) hx hb dX2_follow_50 (by decide) h (fun h => ?_) (fun h => ?_)
  · refine lv_aload_n hx hb dX2_follow_58 rfl (lv_at hl 0 rfl) ?_
    refine lv_iload_n hx hb dX2_follow_59 rfl (lv_at hl 1 rfl) ?_
    refine kl_X2_66 C hH h ⟨by decide, by decide⟩ ⟨by decide, by decide⟩ hl.1 (Nat.le_of_ble_eq_true rfl) dX2_follow_60 (fun σ2 H locs hH h => ?_)
    exact g_vret hx hb hr hlk hH (Option.some.inj h) dX2_follow_63
  · refine lv_aload_n hx hb dX2_follow_53 rfl (lv_at hl 0 rfl) ?_
    refine lv_iload_n hx hb dX2_follow_54 rfl (lv_at hl 2 rfl) ?_
    refine kl_X2_63 C hH h ⟨by decide, by decide⟩ ⟨by decide, by decide⟩ hl.1 (Nat.le_of_ble_eq_true rfl) dX2_follow_55 (fun σ3 H locs hH h => ?_)
    refine lv_aload_n hx hb dX2_follow_58 rfl (lv_at hl 0 rfl) ?_
    refine lv_iload_n hx hb dX2_follow_59 rfl (lv_at hl 1 rfl) ?_
    refine kl_X2_66 C hH h ⟨by decide, by decide⟩ ⟨by decide, by decide⟩ hl.1 (Nat.le_of_ble_eq_true rfl) dX2_follow_60 (fun σ4 H locs hH h => ?_)
    exact g_vret hx hb hr hlk hH (Option.some.inj h) dX2_follow_63
theorem ok_X2_follow : okName yX2_follow 1 := ⟨by decide, by decide, by decide +kernel⟩
section KL
variable {p : Program} {l : Launch} {e : Env} {R : Room} {s : State} {m : MethodId} {args : Array Value} {below : List Frame} {meth : Method} {c : Code} {H : Heap} {locs : List Loc} {cells slots : Nat} {Q : State → Prop} {cc : ByteArray} {pc nL : Nat} {ls : Array Slot} {rest : List Value}
variable {A : Nat → Prop} {D : va_G} {cy : Nat → ClassId} {ad : Nat → Nat}
theorem kl_X2_59 (C : gC p m c cc nL s args RX2 D (gT cy) (gw cy ad) A) {σ : GS} (hH : gH s D (gw cy ad) A σ H locs) {x1 : Int32} {α : Type} {k : GS → Option α} {y : α} (h : (f_X2_follow σ x1).bind k = some y) (hR : 3 ≤ R.frames ∧ 68 ≤ R.locals) (hcs : cells ≤ R.cells ∧ slots ≤ R.slots) (hl : ls.size = nL) (hW : (rest.map fun v => v.category).sum ≤ 8) (hdg : decode cc pc = .ok (.invokevirtual 59, 3)) (kk : ∀ (σ1 : GS) (H1 : Heap) (locs1 : List Loc), gH s D (gw cy ad) A σ1 H1 locs1 → k σ1 = some y → W p l e R s m args below meth c H1 locs1 cells slots Q (F0 m (pc + 3) ls (rest))) : W p l e R s m args below meth c H locs cells slots Q (F0 m pc ls (.int x1 :: .ref (ad 9) :: rest)) := by
  obtain ⟨σ1, h1, h2⟩ := bnd h
  exact g_fv (g_rV (As := [.int x1]) C hH (c_X2_follow l C.2.2.2 σ x1 σ1 h1) (q0 := 9) mw_c_X2_follow mw_m_X2_59 mw_i_X2_follow mw_v_X2_follow mw_in_X2 ok_X2_follow ⟨rfl, rfl⟩ rfl rfl rfl hR hcs hl rfl hW hdg) hH.2 (fun H1 locs1 hH1 => kk σ1 H1 locs1 hH1 h2)
end KL
set_option maxHeartbeats 4000000 in
set_option maxRecDepth 100000 in
theorem c_X2_goThrough (l : Launch) {D : va_G} {cy : Nat → ClassId} {ad : Nat → Nat} {A : Nat → Prop} (hD : ∀ σ, va_D A (gw cy ad σ)) (σ : GS) (x1 x2 x3 : Int32) (σ0 : GS) (h : f_X2_goThrough σ x1 x2 x3 = some σ0) : gMv l yX2_goThrough (wsM yX2_goThrough cX2_goThrough 5 none) ({ frames := 5, cells := 0, slots := 0, locals := 123 } : Room) D (gT cy) (gw cy ad) A [.ref (ad 9), .int x1, .int x2, .int x3] σ σ0 := by
  refine gMv.of (own := RX2) rfl (by decide) (Nat.le_of_ble_eq_true rfl) hD ?_
  intro p e s m below meth c ls C hx hb hr hlk hH hl
  have hl : lv_has ls 5 [(0, .ref (ad 9)), (1, .int x1), (2, .int x2), (3, .int x3)] := hl
  unfold f_X2_goThrough at h
  have J34 : ∀ (σj34 : GS) (H : Heap) (locs : List Loc) (ls : Array Slot), gH s D (gw cy ad) A σj34 H locs → lv_has ls 5 [(0, .ref (ad 9)), (1, .int x1), (2, .int x2), (3, .int x3)] → f_X2_goThrough_j34 x1 x2 x3 σj34 = some σ0 → W p l e ({ frames := 5, cells := 0, slots := 0, locals := 123 } : Room) s m [.ref (ad 9), .int x1, .int x2, .int x3].toArray below meth c H locs 0 0 (MQ below (gQv D (gw cy ad) A σ0) [.ref (ad 9), .int x1, .int x2, .int x3].toArray s 0 0 A) (F0 m 34 ls []) := by
    intro σj34 H locs ls hH hl h
    unfold f_X2_goThrough_j34 at h
    refine lv_aload_n hx hb dX2_goThrough_34 rfl (lv_at hl 0 rfl) ?_
    refine lv_iload_n hx hb dX2_goThrough_35 rfl (lv_at hl 1 rfl) ?_
    refine pf_X2_33 C hH dX2_goThrough_36 (fun H locs hH => ?_)
    refine lv_aload_n hx hb dX2_goThrough_39 rfl (lv_at hl 0 rfl) ?_
    refine lv_iload_n hx hb dX2_goThrough_40 rfl (lv_at hl 2 rfl) ?_
    refine pf_X2_37 C hH dX2_goThrough_41 (fun H locs hH => ?_)
    refine lv_aload_n hx hb dX2_goThrough_44 rfl (lv_at hl 0 rfl) ?_
    refine lv_iload_n hx hb dX2_goThrough_45 rfl (lv_at hl 3 rfl) ?_
    refine lv_iload_n hx hb dX2_goThrough_46 rfl (lv_at hl 2 rfl) ?_
    refine lv_iand hx hb dX2_goThrough_47 ?_
    refine pf_X2_40 C hH dX2_goThrough_48 (fun H locs hH => ?_)
    refine lv_iconst (v := 0) hx hb dX2_goThrough_51 (by decide) ?_
    refine lv_istore (lv' := [(4, .int (0)), (0, .ref (ad 9)), (1, .int x1), (2, .int x2), (3, .int x3)]) hx hb dX2_goThrough_52 hl (by decide) rfl (fun ls hl => ?_)
    have L54 : ∀ (n : Nat) (y54_4 : Int32) (σ54 : GS) (H : Heap) (locs : List Loc) (ls : Array Slot), gH s D (gw cy ad) A σ54 H locs → lv_has ls 5 [(0, .ref (ad 9)), (4, .int y54_4)] → ∀ X, itr f_X2_goThrough_b54 n (y54_4, σ54) = some X → (∀ (σz54_0 : GS) (H : Heap) (locs : List Loc) (ls : Array Slot), gH s D (gw cy ad) A σz54_0 H locs → lv_has ls 5 [(0, .ref (ad 9))] → X = σz54_0 → W p l e ({ frames := 5, cells := 0, slots := 0, locals := 123 } : Room) s m [.ref (ad 9), .int x1, .int x2, .int x3].toArray below meth c H locs 0 0 (MQ below (gQv D (gw cy ad) A σ0) [.ref (ad 9), .int x1, .int x2, .int x3].toArray s 0 0 A) (F0 m 126 ls [])) → W p l e ({ frames := 5, cells := 0, slots := 0, locals := 123 } : Room) s m [.ref (ad 9), .int x1, .int x2, .int x3].toArray below meth c H locs 0 0 (MQ below (gQv D (gw cy ad) A σ0) [.ref (ad 9), .int x1, .int x2, .int x3].toArray s 0 0 A) (F0 m 54 ls []) := by
      intro n
      induction n with
      | zero =>
        intro y54_4 σ54 H locs ls hH hl X h K
        exact itr_0 h
      | succ n ih =>
        intro y54_4 σ54 H locs ls hH hl X h0 K
        obtain ⟨o, h, h2⟩ := itr_step h0
        unfold f_X2_goThrough_b54 at h
        refine lv_iload hx hb dX2_goThrough_54 (lv_at hl 1 rfl) ?_
        refine lv_aload_n hx hb dX2_goThrough_56 rfl (lv_at hl 0 rfl) ?_
        refine gf_X2_9 C hH dX2_goThrough_57 ?_
        refine kl_X2_43 C hH h ⟨by decide, by decide⟩ ⟨by decide, by decide⟩ hl.1 (Nat.le_of_ble_eq_true rfl) dX2_goThrough_60 (fun r1 H locs hH h => ?_)
        refine gb_icmp_ge (tgt := 126) hx hb dX2_goThrough_63 (by decide) h (fun h => ?_) (fun h => ?_)
        · exact K _ _ _ _ hH (lv_sub hl [0] rfl) (nxt_r h h2)
        · refine lv_aload_n hx hb dX2_goThrough_66 rfl (lv_at hl 0 rfl) ?_
          refine gf_X2_19 C hH dX2_goThrough_67 ?_
          refine lv_iload hx hb dX2_goThrough_70 (lv_at hl 1 rfl) ?_
          refine lv_aload_n hx hb dX2_goThrough_72 rfl (lv_at hl 0 rfl) ?_
          refine lv_iload hx hb dX2_goThrough_73 (lv_at hl 1 rfl) ?_
          refine kl_X2_49 C hH h ⟨by decide, by decide⟩ ⟨by decide, by decide⟩ hl.1 (Nat.le_of_ble_eq_true rfl) dX2_goThrough_75 (fun r2 H locs hH h => ?_)
          refine gb_if_eq (tgt := 101) hx hb dX2_goThrough_78 (by decide) h (fun h => ?_) (fun h => ?_)
          · refine lv_iload hx hb dX2_goThrough_101 (lv_at hl 1 rfl) ?_
            refine gas_be C hH h dX2_goThrough_103 (fun h H locs hH => ?_)
            refine lv_aload_n hx hb dX2_goThrough_104 rfl (lv_at hl 0 rfl) ?_
            refine gf_X2_23 C hH dX2_goThrough_105 ?_
            refine lv_iload hx hb dX2_goThrough_108 (lv_at hl 1 rfl) ?_
            refine lv_iconst (v := -1) hx hb dX2_goThrough_110 (by decide) ?_
            refine gas_en C hH h dX2_goThrough_111 (fun h H locs hH => ?_)
            refine lv_aload_n hx hb dX2_goThrough_112 rfl (lv_at hl 0 rfl) ?_
            refine gf_X2_26 C hH dX2_goThrough_113 ?_
            refine lv_iload hx hb dX2_goThrough_116 (lv_at hl 1 rfl) ?_
            refine lv_iconst (v := 0) hx hb dX2_goThrough_118 (by decide) ?_
            refine gas_ta C hH h dX2_goThrough_119 (fun h H locs hH => ?_)
            refine lv_iinc (v := (y54_4 + (1 : Int32))) (lv' := [(4, .int (y54_4 + (1 : Int32))), (0, .ref (ad 9))]) hx hb dX2_goThrough_120 hl (k := 1) rfl rfl (by decide) rfl (fun ls hl => ?_)
            refine lv_goto (tgt := 54) hx hb dX2_goThrough_123 (by decide) ?_
            exact ih _ _ _ _ _ hH (lv_sub hl [1, 0] rfl) X (nxt_l h h2) K
          · refine lv_aload_n hx hb dX2_goThrough_81 rfl (lv_at hl 0 rfl) ?_
            refine gf_X2_15 C hH dX2_goThrough_82 ?_
            refine lv_aload_n hx hb dX2_goThrough_85 rfl (lv_at hl 0 rfl) ?_
            refine gf_X2_33 C hH dX2_goThrough_86 ?_
            refine lv_aload_n hx hb dX2_goThrough_89 rfl (lv_at hl 0 rfl) ?_
            refine gf_X2_37 C hH dX2_goThrough_90 ?_
            refine lv_iload hx hb dX2_goThrough_93 (lv_at hl 1 rfl) ?_
            refine kl_X2_53 C hH h ⟨by decide, by decide⟩ ⟨by decide, by decide⟩ hl.1 (Nat.le_of_ble_eq_true rfl) dX2_goThrough_95 (fun r3 σ3 H locs hH h => ?_)
            refine lv_goto (tgt := 103) hx hb dX2_goThrough_98 (by decide) ?_
            refine gas_be C hH h dX2_goThrough_103 (fun h H locs hH => ?_)
            refine lv_aload_n hx hb dX2_goThrough_104 rfl (lv_at hl 0 rfl) ?_
            refine gf_X2_23 C hH dX2_goThrough_105 ?_
            refine lv_iload hx hb dX2_goThrough_108 (lv_at hl 1 rfl) ?_
            refine lv_iconst (v := -1) hx hb dX2_goThrough_110 (by decide) ?_
            refine gas_en C hH h dX2_goThrough_111 (fun h H locs hH => ?_)
            refine lv_aload_n hx hb dX2_goThrough_112 rfl (lv_at hl 0 rfl) ?_
            refine gf_X2_26 C hH dX2_goThrough_113 ?_
            refine lv_iload hx hb dX2_goThrough_116 (lv_at hl 1 rfl) ?_
            refine lv_iconst (v := 0) hx hb dX2_goThrough_118 (by decide) ?_
            refine gas_ta C hH h dX2_goThrough_119 (fun h H locs hH => ?_)
            refine lv_iinc (v := (y54_4 + (1 : Int32))) (lv' := [(4, .int (y54_4 + (1 : Int32))), (0, .ref (ad 9))]) hx hb dX2_goThrough_120 hl (k := 1) rfl rfl (by decide) rfl (fun ls hl => ?_)
            refine lv_goto (tgt := 54) hx hb dX2_goThrough_123 (by decide) ?_
            exact ih _ _ _ _ _ hH (lv_sub hl [1, 0] rfl) X (nxt_l h h2) K
    obtain ⟨X54, hX54, h⟩ := bnd h
    refine L54 FU ((0 : Int32)) ((gssw (gssh (gsru σj34 x1) x2) (x3 &&& x2))) _ _ _ hH (lv_sub hl [1, 0] rfl) X54 hX54 ?_
    intro σz54_0 H locs ls hH hl hE
    replace hE := hE.symm
    subst hE
    refine lv_iconst (v := 0) hx hb dX2_goThrough_126 (by decide) ?_
    refine lv_istore (lv' := [(4, .int (0)), (0, .ref (ad 9))]) hx hb dX2_goThrough_127 hl (by decide) rfl (fun ls hl => ?_)
    have L129 : ∀ (n : Nat) (y129_4 : Int32) (σ129 : GS) (H : Heap) (locs : List Loc) (ls : Array Slot), gH s D (gw cy ad) A σ129 H locs → lv_has ls 5 [(0, .ref (ad 9)), (4, .int y129_4)] → ∀ X, itr f_X2_goThrough_b129 n (y129_4, σ129) = some X → (∀ (σz129_0 : GS) (H : Heap) (locs : List Loc) (ls : Array Slot), gH s D (gw cy ad) A σz129_0 H locs → lv_has ls 5 [(0, .ref (ad 9))] → X = σz129_0 → W p l e ({ frames := 5, cells := 0, slots := 0, locals := 123 } : Room) s m [.ref (ad 9), .int x1, .int x2, .int x3].toArray below meth c H locs 0 0 (MQ below (gQv D (gw cy ad) A σ0) [.ref (ad 9), .int x1, .int x2, .int x3].toArray s 0 0 A) (F0 m 162 ls [])) → W p l e ({ frames := 5, cells := 0, slots := 0, locals := 123 } : Room) s m [.ref (ad 9), .int x1, .int x2, .int x3].toArray below meth c H locs 0 0 (MQ below (gQv D (gw cy ad) A σ0) [.ref (ad 9), .int x1, .int x2, .int x3].toArray s 0 0 A) (F0 m 129 ls []) := by
      intro n
      induction n with
      | zero =>
        intro y129_4 σ129 H locs ls hH hl X h K
        exact itr_0 h
      | succ n ih =>
        intro y129_4 σ129 H locs ls hH hl X h0 K
        obtain ⟨o, h, h2⟩ := itr_step h0
        unfold f_X2_goThrough_b129 at h
        refine lv_iload hx hb dX2_goThrough_129 (lv_at hl 1 rfl) ?_
        refine lv_aload_n hx hb dX2_goThrough_131 rfl (lv_at hl 0 rfl) ?_
        refine gf_X2_9 C hH dX2_goThrough_132 ?_
        refine kl_X2_43 C hH h ⟨by decide, by decide⟩ ⟨by decide, by decide⟩ hl.1 (Nat.le_of_ble_eq_true rfl) dX2_goThrough_135 (fun r5 H locs hH h => ?_)
        refine gb_icmp_ge (tgt := 162) hx hb dX2_goThrough_138 (by decide) h (fun h => ?_) (fun h => ?_)
        · exact K _ _ _ _ hH (lv_sub hl [0] rfl) (nxt_r h h2)
        · refine lv_aload_n hx hb dX2_goThrough_141 rfl (lv_at hl 0 rfl) ?_
          refine lv_iload hx hb dX2_goThrough_142 (lv_at hl 1 rfl) ?_
          refine kl_X2_49 C hH h ⟨by decide, by decide⟩ ⟨by decide, by decide⟩ hl.1 (Nat.le_of_ble_eq_true rfl) dX2_goThrough_144 (fun r6 H locs hH h => ?_)
          refine gb_if_eq (tgt := 156) hx hb dX2_goThrough_147 (by decide) h (fun h => ?_) (fun h => ?_)
          · refine lv_iinc (v := (y129_4 + (1 : Int32))) (lv' := [(4, .int (y129_4 + (1 : Int32))), (0, .ref (ad 9))]) hx hb dX2_goThrough_156 hl (k := 1) rfl rfl (by decide) rfl (fun ls hl => ?_)
            refine lv_goto (tgt := 129) hx hb dX2_goThrough_159 (by decide) ?_
            exact ih _ _ _ _ _ hH (lv_sub hl [1, 0] rfl) X (nxt_l h h2) K
          · refine lv_aload_n hx hb dX2_goThrough_150 rfl (lv_at hl 0 rfl) ?_
            refine lv_iload hx hb dX2_goThrough_151 (lv_at hl 1 rfl) ?_
            refine kl_X2_59 C hH h ⟨by decide, by decide⟩ ⟨by decide, by decide⟩ hl.1 (Nat.le_of_ble_eq_true rfl) dX2_goThrough_153 (fun σ7 H locs hH h => ?_)
            refine lv_iinc (v := (y129_4 + (1 : Int32))) (lv' := [(4, .int (y129_4 + (1 : Int32))), (0, .ref (ad 9))]) hx hb dX2_goThrough_156 hl (k := 1) rfl rfl (by decide) rfl (fun ls hl => ?_)
            refine lv_goto (tgt := 129) hx hb dX2_goThrough_159 (by decide) ?_
            exact ih _ _ _ _ _ hH (lv_sub hl [1, 0] rfl) X (nxt_l h h2) K
    obtain ⟨X129, hX129, h⟩ := bnd h
    refine L129 FU ((0 : Int32)) σz54_0 _ _ _ hH (lv_sub hl [1, 0] rfl) X129 hX129 ?_
    intro σz129_0 H locs ls hH hl hE
    replace hE := hE.symm
    subst hE
    refine lv_aload_n hx hb dX2_goThrough_162 rfl (lv_at hl 0 rfl) ?_
    refine lv_iconst (v := 1) hx hb dX2_goThrough_163 (by decide) ?_
    refine pf_X2_29 C hH rfl rfl dX2_goThrough_164 (fun H locs hH => ?_)
    exact g_vret hx hb hr hlk hH (Option.some.inj h) dX2_goThrough_167
  refine lv_aload_n hx hb dX2_goThrough_0 rfl (lv_at hl 0 rfl) ?_
  refine gf_X2_29 C hH dX2_goThrough_1 ?_
  refine gb_if_eq (tgt := 34) hx hb dX2_goThrough_4 (by decide) h (fun h => ?_) (fun h => ?_)
  · exact J34 σ _ _ _ hH (lv_sub hl [0, 1, 2, 3] rfl) h
  · refine lv_aload_n hx hb dX2_goThrough_7 rfl (lv_at hl 0 rfl) ?_
    refine gf_X2_33 C hH dX2_goThrough_8 ?_
    refine lv_iload_n hx hb dX2_goThrough_11 rfl (lv_at hl 1 rfl) ?_
    refine gb_icmp_ne (tgt := 34) hx hb dX2_goThrough_12 (by decide) h (fun h => ?_) (fun h => ?_)
    · exact J34 σ _ _ _ hH (lv_sub hl [0, 1, 2, 3] rfl) h
    · refine lv_aload_n hx hb dX2_goThrough_15 rfl (lv_at hl 0 rfl) ?_
      refine gf_X2_37 C hH dX2_goThrough_16 ?_
      refine lv_iload_n hx hb dX2_goThrough_19 rfl (lv_at hl 2 rfl) ?_
      refine gb_icmp_ne (tgt := 34) hx hb dX2_goThrough_20 (by decide) h (fun h => ?_) (fun h => ?_)
      · exact J34 σ _ _ _ hH (lv_sub hl [0, 1, 2, 3] rfl) h
      · refine lv_aload_n hx hb dX2_goThrough_23 rfl (lv_at hl 0 rfl) ?_
        refine gf_X2_40 C hH dX2_goThrough_24 ?_
        refine lv_iload_n hx hb dX2_goThrough_27 rfl (lv_at hl 3 rfl) ?_
        refine lv_iload_n hx hb dX2_goThrough_28 rfl (lv_at hl 2 rfl) ?_
        refine lv_iand hx hb dX2_goThrough_29 ?_
        refine gb_icmp_ne (tgt := 34) hx hb dX2_goThrough_30 (by decide) h (fun h => ?_) (fun h => ?_)
        · exact J34 σ _ _ _ hH (lv_sub hl [0, 1, 2, 3] rfl) h
        · exact g_vret hx hb hr hlk hH (Option.some.inj h) dX2_goThrough_33
theorem ok_X2_goThrough : okName yX2_goThrough 3 := ⟨by decide, by decide, by decide +kernel⟩
section KL
variable {p : Program} {l : Launch} {e : Env} {R : Room} {s : State} {m : MethodId} {args : Array Value} {below : List Frame} {meth : Method} {c : Code} {H : Heap} {locs : List Loc} {cells slots : Nat} {Q : State → Prop} {cc : ByteArray} {pc nL : Nat} {ls : Array Slot} {rest : List Value}
variable {A : Nat → Prop} {D : va_G} {cy : Nat → ClassId} {ad : Nat → Nat}
theorem kl_X3_101 (C : gC p m c cc nL s args RX3 D (gT cy) (gw cy ad) A) {σ : GS} (hH : gH s D (gw cy ad) A σ H locs) {x1 x2 x3 : Int32} {α : Type} {k : GS → Option α} {y : α} (h : (f_X2_goThrough σ x1 x2 x3).bind k = some y) (hR : 6 ≤ R.frames ∧ 147 ≤ R.locals) (hcs : cells ≤ R.cells ∧ slots ≤ R.slots) (hl : ls.size = nL) (hW : (rest.map fun v => v.category).sum ≤ 8) (hdg : decode cc pc = .ok (.invokevirtual 101, 3)) (kk : ∀ (σ1 : GS) (H1 : Heap) (locs1 : List Loc), gH s D (gw cy ad) A σ1 H1 locs1 → k σ1 = some y → W p l e R s m args below meth c H1 locs1 cells slots Q (F0 m (pc + 3) ls (rest))) : W p l e R s m args below meth c H locs cells slots Q (F0 m pc ls (.int x3 :: .int x2 :: .int x1 :: .ref (ad 9) :: rest)) := by
  obtain ⟨σ1, h1, h2⟩ := bnd h
  exact g_fv (g_rVN (As := [.int x1, .int x2, .int x3]) C hH (c_X2_goThrough l C.2.2.2 σ x1 x2 x3 σ1 h1) (q0 := 9) mw_c_X2_goThrough mw_m_X3_101 mw_i_X2_goThrough mw_v_X2_goThrough mw_in_X2 ok_X2_goThrough ⟨rfl, rfl⟩ rfl rfl rfl hR hcs hl rfl hW hdg) hH.2 (fun H1 locs1 hH1 => kk σ1 H1 locs1 hH1 h2)
end KL
set_option maxHeartbeats 4000000 in
set_option maxRecDepth 100000 in
theorem c_X2_howManyEnds (l : Launch) {D : va_G} {cy : Nat → ClassId} {ad : Nat → Nat} {A : Nat → Prop} (hD : ∀ σ, va_D A (gw cy ad σ)) (σ : GS) (r0 : Int32) (h : f_X2_howManyEnds σ = some r0) : gMi l yX2_howManyEnds (wsM yX2_howManyEnds cX2_howManyEnds 3 (some .int)) ({ frames := 1, cells := 0, slots := 0, locals := 20 } : Room) D (gT cy) (gw cy ad) A [.ref (ad 9)] σ σ r0 := by
  refine gMi.of (own := RX2) rfl (by decide) (Nat.le_of_ble_eq_true rfl) hD ?_
  intro p e s m below meth c ls C hx hb hr hlk hH hl
  have hl : lv_has ls 3 [(0, .ref (ad 9))] := hl
  unfold f_X2_howManyEnds at h
  refine lv_iconst (v := 0) hx hb dX2_howManyEnds_0 (by decide) ?_
  refine lv_istore_n (lv' := [(1, .int (0)), (0, .ref (ad 9))]) hx hb dX2_howManyEnds_1 rfl hl (by decide) rfl (fun ls hl => ?_)
  refine lv_iconst (v := 0) hx hb dX2_howManyEnds_2 (by decide) ?_
  refine lv_istore_n (lv' := [(2, .int (0)), (1, .int (0)), (0, .ref (ad 9))]) hx hb dX2_howManyEnds_3 rfl hl (by decide) rfl (fun ls hl => ?_)
  have L4 : ∀ (n : Nat) (y4_1 : Int32) (y4_2 : Int32) (H : Heap) (locs : List Loc) (ls : Array Slot), gH s D (gw cy ad) A σ H locs → lv_has ls 3 [(0, .ref (ad 9)), (1, .int y4_1), (2, .int y4_2)] → ∀ X, itr (f_X2_howManyEnds_b4 σ) n (y4_1, y4_2) = some X → (∀ (z4_0_1 : Int32) (H : Heap) (locs : List Loc) (ls : Array Slot), gH s D (gw cy ad) A σ H locs → lv_has ls 3 [(1, .int z4_0_1)] → X = z4_0_1 → W p l e ({ frames := 1, cells := 0, slots := 0, locals := 20 } : Room) s m [.ref (ad 9)].toArray below meth c H locs 0 0 (MQ below (gQi D (gw cy ad) A σ r0) [.ref (ad 9)].toArray s 0 0 A) (F0 m 34 ls [])) → W p l e ({ frames := 1, cells := 0, slots := 0, locals := 20 } : Room) s m [.ref (ad 9)].toArray below meth c H locs 0 0 (MQ below (gQi D (gw cy ad) A σ r0) [.ref (ad 9)].toArray s 0 0 A) (F0 m 4 ls []) := by
    intro n
    induction n with
    | zero =>
      intro y4_1 y4_2 H locs ls hH hl X h K
      exact itr_0 h
    | succ n ih =>
      intro y4_1 y4_2 H locs ls hH hl X h0 K
      obtain ⟨o, h, h2⟩ := itr_step h0
      unfold f_X2_howManyEnds_b4 at h
      refine lv_iload_n hx hb dX2_howManyEnds_4 rfl (lv_at hl 2 rfl) ?_
      refine lv_aload_n hx hb dX2_howManyEnds_5 rfl (lv_at hl 0 rfl) ?_
      refine gf_X2_9 C hH dX2_howManyEnds_6 ?_
      refine kl_X2_43 C hH h ⟨by decide, by decide⟩ ⟨by decide, by decide⟩ hl.1 (Nat.le_of_ble_eq_true rfl) dX2_howManyEnds_9 (fun r1 H locs hH h => ?_)
      refine gb_icmp_ge (tgt := 34) hx hb dX2_howManyEnds_12 (by decide) h (fun h => ?_) (fun h => ?_)
      · exact K _ _ _ _ hH (lv_sub hl [1] rfl) (nxt_r h h2)
      · refine lv_aload_n hx hb dX2_howManyEnds_15 rfl (lv_at hl 0 rfl) ?_
        refine gf_X2_23 C hH dX2_howManyEnds_16 ?_
        refine lv_iload_n hx hb dX2_howManyEnds_19 rfl (lv_at hl 2 rfl) ?_
        refine gal_en C hH h dX2_howManyEnds_20 (fun h => ?_)
        refine lv_iload_n hx hb dX2_howManyEnds_21 rfl (lv_at hl 2 rfl) ?_
        refine gb_icmp_ne (tgt := 28) hx hb dX2_howManyEnds_22 (by decide) h (fun h => ?_) (fun h => ?_)
        · refine lv_iinc (v := (y4_2 + (1 : Int32))) (lv' := [(2, .int (y4_2 + (1 : Int32))), (0, .ref (ad 9)), (1, .int y4_1)]) hx hb dX2_howManyEnds_28 hl (k := 2) rfl rfl (by decide) rfl (fun ls hl => ?_)
          refine lv_goto (tgt := 4) hx hb dX2_howManyEnds_31 (by decide) ?_
          exact ih _ _ _ _ _ hH (lv_sub hl [1, 2, 0] rfl) X (nxt_l h h2) K
        · refine lv_iinc (v := (y4_1 + (1 : Int32))) (lv' := [(1, .int (y4_1 + (1 : Int32))), (0, .ref (ad 9)), (2, .int y4_2)]) hx hb dX2_howManyEnds_25 hl (k := 1) rfl rfl (by decide) rfl (fun ls hl => ?_)
          refine lv_iinc (v := (y4_2 + (1 : Int32))) (lv' := [(2, .int (y4_2 + (1 : Int32))), (1, .int (y4_1 + (1 : Int32))), (0, .ref (ad 9))]) hx hb dX2_howManyEnds_28 hl (k := 2) rfl rfl (by decide) rfl (fun ls hl => ?_)
          refine lv_goto (tgt := 4) hx hb dX2_howManyEnds_31 (by decide) ?_
          exact ih _ _ _ _ _ hH (lv_sub hl [2, 1, 0] rfl) X (nxt_l h h2) K
  obtain ⟨X4, hX4, h⟩ := bnd h
  refine L4 FU ((0 : Int32)) ((0 : Int32)) _ _ _ hH (lv_sub hl [2, 1, 0] rfl) X4 hX4 ?_
  intro z4_0_1 H locs ls hH hl hE
  replace hE := hE.symm
  subst hE
  refine lv_iload_n hx hb dX2_howManyEnds_34 rfl (lv_at hl 0 rfl) ?_
  exact g_iret hx hb hr hlk hH ⟨Option.some.inj h, rfl⟩ dX2_howManyEnds_35
theorem ok_X2_howManyEnds : okName yX2_howManyEnds 0 := ⟨by decide, by decide, by decide +kernel⟩
section KL
variable {p : Program} {l : Launch} {e : Env} {R : Room} {s : State} {m : MethodId} {args : Array Value} {below : List Frame} {meth : Method} {c : Code} {H : Heap} {locs : List Loc} {cells slots : Nat} {Q : State → Prop} {cc : ByteArray} {pc nL : Nat} {ls : Array Slot} {rest : List Value}
variable {A : Nat → Prop} {D : va_G} {cy : Nat → ClassId} {ad : Nat → Nat}
theorem kl_X3_117 (C : gC p m c cc nL s args RX3 D (gT cy) (gw cy ad) A) {σ : GS} (hH : gH s D (gw cy ad) A σ H locs) {α : Type} {k : Int32 → Option α} {y : α} (h : (f_X2_howManyEnds σ).bind k = some y) (hR : 2 ≤ R.frames ∧ 42 ≤ R.locals) (hcs : cells ≤ R.cells ∧ slots ≤ R.slots) (hl : ls.size = nL) (hW : (rest.map fun v => v.category).sum ≤ 8) (hdg : decode cc pc = .ok (.invokevirtual 117, 3)) (kk : ∀ (r : Int32) (H1 : Heap) (locs1 : List Loc), gH s D (gw cy ad) A σ H1 locs1 → k r = some y → W p l e R s m args below meth c H1 locs1 cells slots Q (F0 m (pc + 3) ls (.int r :: rest))) : W p l e R s m args below meth c H locs cells slots Q (F0 m pc ls (.ref (ad 9) :: rest)) := by
  obtain ⟨r, h1, h2⟩ := bnd h
  exact g_fi (g_rVN (As := []) C hH (c_X2_howManyEnds l C.2.2.2 σ r h1) (q0 := 9) mw_c_X2_howManyEnds mw_m_X3_117 mw_i_X2_howManyEnds mw_v_X2_howManyEnds mw_in_X2 ok_X2_howManyEnds ⟨rfl, rfl⟩ rfl rfl rfl hR hcs hl rfl hW hdg) hH.2 (fun H1 locs1 hH1 => kk r H1 locs1 hH1 h2)
end KL
set_option maxHeartbeats 4000000 in
set_option maxRecDepth 100000 in
theorem c_X2_endAt (l : Launch) {D : va_G} {cy : Nat → ClassId} {ad : Nat → Nat} {A : Nat → Prop} (hD : ∀ σ, va_D A (gw cy ad σ)) (σ : GS) (x1 : Int32) (r0 : Int32) (h : f_X2_endAt σ x1 = some r0) : gMi l yX2_endAt (wsM yX2_endAt cX2_endAt 4 (some .int)) ({ frames := 1, cells := 0, slots := 0, locals := 20 } : Room) D (gT cy) (gw cy ad) A [.ref (ad 9), .int x1] σ σ r0 := by
  refine gMi.of (own := RX2) rfl (by decide) (Nat.le_of_ble_eq_true rfl) hD ?_
  intro p e s m below meth c ls C hx hb hr hlk hH hl
  have hl : lv_has ls 4 [(0, .ref (ad 9)), (1, .int x1)] := hl
  unfold f_X2_endAt at h
  refine lv_iconst (v := 0) hx hb dX2_endAt_0 (by decide) ?_
  refine lv_istore_n (lv' := [(2, .int (0)), (0, .ref (ad 9)), (1, .int x1)]) hx hb dX2_endAt_1 rfl hl (by decide) rfl (fun ls hl => ?_)
  refine lv_iconst (v := 0) hx hb dX2_endAt_2 (by decide) ?_
  refine lv_istore_n (lv' := [(3, .int (0)), (2, .int (0)), (0, .ref (ad 9)), (1, .int x1)]) hx hb dX2_endAt_3 rfl hl (by decide) rfl (fun ls hl => ?_)
  have L4 : ∀ (n : Nat) (y4_2 : Int32) (y4_3 : Int32) (H : Heap) (locs : List Loc) (ls : Array Slot), gH s D (gw cy ad) A σ H locs → lv_has ls 4 [(0, .ref (ad 9)), (1, .int x1), (2, .int y4_2), (3, .int y4_3)] → ∀ X, itr (f_X2_endAt_b4 σ x1) n (y4_2, y4_3) = some X → (∀ (z4_0_3 : Int32) (H : Heap) (locs : List Loc) (ls : Array Slot), gH s D (gw cy ad) A σ H locs → lv_has ls 4 [(3, .int z4_0_3)] → X = (Sum.inl z4_0_3) → W p l e ({ frames := 1, cells := 0, slots := 0, locals := 20 } : Room) s m [.ref (ad 9), .int x1].toArray below meth c H locs 0 0 (MQ below (gQi D (gw cy ad) A σ r0) [.ref (ad 9), .int x1].toArray s 0 0 A) (F0 m 30 ls [])) → (∀ (H : Heap) (locs : List Loc) (ls : Array Slot), gH s D (gw cy ad) A σ H locs → lv_has ls 4 [] → X = (Sum.inr ()) → W p l e ({ frames := 1, cells := 0, slots := 0, locals := 20 } : Room) s m [.ref (ad 9), .int x1].toArray below meth c H locs 0 0 (MQ below (gQi D (gw cy ad) A σ r0) [.ref (ad 9), .int x1].toArray s 0 0 A) (F0 m 41 ls [])) → W p l e ({ frames := 1, cells := 0, slots := 0, locals := 20 } : Room) s m [.ref (ad 9), .int x1].toArray below meth c H locs 0 0 (MQ below (gQi D (gw cy ad) A σ r0) [.ref (ad 9), .int x1].toArray s 0 0 A) (F0 m 4 ls []) := by
    intro n
    induction n with
    | zero =>
      intro y4_2 y4_3 H locs ls hH hl X h K0 K1
      exact itr_0 h
    | succ n ih =>
      intro y4_2 y4_3 H locs ls hH hl X h0 K0 K1
      obtain ⟨o, h, h2⟩ := itr_step h0
      unfold f_X2_endAt_b4 at h
      refine lv_iload_n hx hb dX2_endAt_4 rfl (lv_at hl 3 rfl) ?_
      refine lv_aload_n hx hb dX2_endAt_5 rfl (lv_at hl 0 rfl) ?_
      refine gf_X2_9 C hH dX2_endAt_6 ?_
      refine kl_X2_43 C hH h ⟨by decide, by decide⟩ ⟨by decide, by decide⟩ hl.1 (Nat.le_of_ble_eq_true rfl) dX2_endAt_9 (fun r1 H locs hH h => ?_)
      refine gb_icmp_ge (tgt := 41) hx hb dX2_endAt_12 (by decide) h (fun h => ?_) (fun h => ?_)
      · exact K1 _ _ _ hH (lv_sub hl [] rfl) (nxt_r h h2)
      · refine lv_aload_n hx hb dX2_endAt_15 rfl (lv_at hl 0 rfl) ?_
        refine gf_X2_23 C hH dX2_endAt_16 ?_
        refine lv_iload_n hx hb dX2_endAt_19 rfl (lv_at hl 3 rfl) ?_
        refine gal_en C hH h dX2_endAt_20 (fun h => ?_)
        refine lv_iload_n hx hb dX2_endAt_21 rfl (lv_at hl 3 rfl) ?_
        refine gb_icmp_ne (tgt := 35) hx hb dX2_endAt_22 (by decide) h (fun h => ?_) (fun h => ?_)
        · refine lv_iinc (v := (y4_3 + (1 : Int32))) (lv' := [(3, .int (y4_3 + (1 : Int32))), (0, .ref (ad 9)), (1, .int x1), (2, .int y4_2)]) hx hb dX2_endAt_35 hl (k := 3) rfl rfl (by decide) rfl (fun ls hl => ?_)
          refine lv_goto (tgt := 4) hx hb dX2_endAt_38 (by decide) ?_
          exact ih _ _ _ _ _ hH (lv_sub hl [1, 2, 3, 0] rfl) X (nxt_l h h2) K0 K1
        · refine lv_iload_n hx hb dX2_endAt_25 rfl (lv_at hl 2 rfl) ?_
          refine lv_iload_n hx hb dX2_endAt_26 rfl (lv_at hl 1 rfl) ?_
          refine gb_icmp_ne (tgt := 32) hx hb dX2_endAt_27 (by decide) h (fun h => ?_) (fun h => ?_)
          · refine lv_iinc (v := (y4_2 + (1 : Int32))) (lv' := [(2, .int (y4_2 + (1 : Int32))), (0, .ref (ad 9)), (1, .int x1), (3, .int y4_3)]) hx hb dX2_endAt_32 hl (k := 2) rfl rfl (by decide) rfl (fun ls hl => ?_)
            refine lv_iinc (v := (y4_3 + (1 : Int32))) (lv' := [(3, .int (y4_3 + (1 : Int32))), (2, .int (y4_2 + (1 : Int32))), (0, .ref (ad 9)), (1, .int x1)]) hx hb dX2_endAt_35 hl (k := 3) rfl rfl (by decide) rfl (fun ls hl => ?_)
            refine lv_goto (tgt := 4) hx hb dX2_endAt_38 (by decide) ?_
            exact ih _ _ _ _ _ hH (lv_sub hl [2, 3, 1, 0] rfl) X (nxt_l h h2) K0 K1
          · exact K0 _ _ _ _ hH (lv_sub hl [3] rfl) (nxt_r h h2)
  obtain ⟨X4, hX4, h⟩ := bnd h
  refine L4 FU ((0 : Int32)) ((0 : Int32)) _ _ _ hH (lv_sub hl [2, 3, 1, 0] rfl) X4 hX4 ?_ ?_
  · intro z4_0_3 H locs ls hH hl hE
    replace hE := hE.symm
    subst hE
    refine lv_iload_n hx hb dX2_endAt_30 rfl (lv_at hl 0 rfl) ?_
    exact g_iret hx hb hr hlk hH ⟨Option.some.inj h, rfl⟩ dX2_endAt_31
  · intro H locs ls hH hl hE
    replace hE := hE.symm
    subst hE
    refine lv_bipush (v := -6) hx hb dX2_endAt_41 (by decide) ?_
    exact g_iret hx hb hr hlk hH ⟨Option.some.inj h, rfl⟩ dX2_endAt_43
theorem ok_X2_endAt : okName yX2_endAt 1 := ⟨by decide, by decide, by decide +kernel⟩
section KL
variable {p : Program} {l : Launch} {e : Env} {R : Room} {s : State} {m : MethodId} {args : Array Value} {below : List Frame} {meth : Method} {c : Code} {H : Heap} {locs : List Loc} {cells slots : Nat} {Q : State → Prop} {cc : ByteArray} {pc nL : Nat} {ls : Array Slot} {rest : List Value}
variable {A : Nat → Prop} {D : va_G} {cy : Nat → ClassId} {ad : Nat → Nat}
theorem kl_X3_121 (C : gC p m c cc nL s args RX3 D (gT cy) (gw cy ad) A) {σ : GS} (hH : gH s D (gw cy ad) A σ H locs) {x1 : Int32} {α : Type} {k : Int32 → Option α} {y : α} (h : (f_X2_endAt σ x1).bind k = some y) (hR : 2 ≤ R.frames ∧ 43 ≤ R.locals) (hcs : cells ≤ R.cells ∧ slots ≤ R.slots) (hl : ls.size = nL) (hW : (rest.map fun v => v.category).sum ≤ 8) (hdg : decode cc pc = .ok (.invokevirtual 121, 3)) (kk : ∀ (r : Int32) (H1 : Heap) (locs1 : List Loc), gH s D (gw cy ad) A σ H1 locs1 → k r = some y → W p l e R s m args below meth c H1 locs1 cells slots Q (F0 m (pc + 3) ls (.int r :: rest))) : W p l e R s m args below meth c H locs cells slots Q (F0 m pc ls (.int x1 :: .ref (ad 9) :: rest)) := by
  obtain ⟨r, h1, h2⟩ := bnd h
  exact g_fi (g_rVN (As := [.int x1]) C hH (c_X2_endAt l C.2.2.2 σ x1 r h1) (q0 := 9) mw_c_X2_endAt mw_m_X3_121 mw_i_X2_endAt mw_v_X2_endAt mw_in_X2 ok_X2_endAt ⟨rfl, rfl⟩ rfl rfl rfl hR hcs hl rfl hW hdg) hH.2 (fun H1 locs1 hH1 => kk r H1 locs1 hH1 h2)
end KL
set_option maxHeartbeats 4000000 in
set_option maxRecDepth 100000 in
theorem c_X2_howManyComeTo (l : Launch) {D : va_G} {cy : Nat → ClassId} {ad : Nat → Nat} {A : Nat → Prop} (hD : ∀ σ, va_D A (gw cy ad σ)) (σ : GS) (x1 : Int32) (r0 : Int32) (h : f_X2_howManyComeTo σ x1 = some r0) : gMi l yX2_howManyComeTo (wsM yX2_howManyComeTo cX2_howManyComeTo 4 (some .int)) ({ frames := 1, cells := 0, slots := 0, locals := 20 } : Room) D (gT cy) (gw cy ad) A [.ref (ad 9), .int x1] σ σ r0 := by
  refine gMi.of (own := RX2) rfl (by decide) (Nat.le_of_ble_eq_true rfl) hD ?_
  intro p e s m below meth c ls C hx hb hr hlk hH hl
  have hl : lv_has ls 4 [(0, .ref (ad 9)), (1, .int x1)] := hl
  unfold f_X2_howManyComeTo at h
  refine lv_iconst (v := 0) hx hb dX2_howManyComeTo_0 (by decide) ?_
  refine lv_istore_n (lv' := [(2, .int (0)), (0, .ref (ad 9)), (1, .int x1)]) hx hb dX2_howManyComeTo_1 rfl hl (by decide) rfl (fun ls hl => ?_)
  refine lv_iconst (v := 0) hx hb dX2_howManyComeTo_2 (by decide) ?_
  refine lv_istore_n (lv' := [(3, .int (0)), (2, .int (0)), (0, .ref (ad 9)), (1, .int x1)]) hx hb dX2_howManyComeTo_3 rfl hl (by decide) rfl (fun ls hl => ?_)
  have L4 : ∀ (n : Nat) (y4_2 : Int32) (y4_3 : Int32) (H : Heap) (locs : List Loc) (ls : Array Slot), gH s D (gw cy ad) A σ H locs → lv_has ls 4 [(0, .ref (ad 9)), (1, .int x1), (2, .int y4_2), (3, .int y4_3)] → ∀ X, itr (f_X2_howManyComeTo_b4 σ x1) n (y4_2, y4_3) = some X → (∀ (z4_0_2 : Int32) (H : Heap) (locs : List Loc) (ls : Array Slot), gH s D (gw cy ad) A σ H locs → lv_has ls 4 [(2, .int z4_0_2)] → X = z4_0_2 → W p l e ({ frames := 1, cells := 0, slots := 0, locals := 20 } : Room) s m [.ref (ad 9), .int x1].toArray below meth c H locs 0 0 (MQ below (gQi D (gw cy ad) A σ r0) [.ref (ad 9), .int x1].toArray s 0 0 A) (F0 m 34 ls [])) → W p l e ({ frames := 1, cells := 0, slots := 0, locals := 20 } : Room) s m [.ref (ad 9), .int x1].toArray below meth c H locs 0 0 (MQ below (gQi D (gw cy ad) A σ r0) [.ref (ad 9), .int x1].toArray s 0 0 A) (F0 m 4 ls []) := by
    intro n
    induction n with
    | zero =>
      intro y4_2 y4_3 H locs ls hH hl X h K
      exact itr_0 h
    | succ n ih =>
      intro y4_2 y4_3 H locs ls hH hl X h0 K
      obtain ⟨o, h, h2⟩ := itr_step h0
      unfold f_X2_howManyComeTo_b4 at h
      refine lv_iload_n hx hb dX2_howManyComeTo_4 rfl (lv_at hl 3 rfl) ?_
      refine lv_aload_n hx hb dX2_howManyComeTo_5 rfl (lv_at hl 0 rfl) ?_
      refine gf_X2_9 C hH dX2_howManyComeTo_6 ?_
      refine kl_X2_43 C hH h ⟨by decide, by decide⟩ ⟨by decide, by decide⟩ hl.1 (Nat.le_of_ble_eq_true rfl) dX2_howManyComeTo_9 (fun r1 H locs hH h => ?_)
      refine gb_icmp_ge (tgt := 34) hx hb dX2_howManyComeTo_12 (by decide) h (fun h => ?_) (fun h => ?_)
      · exact K _ _ _ _ hH (lv_sub hl [2] rfl) (nxt_r h h2)
      · refine lv_aload_n hx hb dX2_howManyComeTo_15 rfl (lv_at hl 0 rfl) ?_
        refine gf_X2_23 C hH dX2_howManyComeTo_16 ?_
        refine lv_iload_n hx hb dX2_howManyComeTo_19 rfl (lv_at hl 3 rfl) ?_
        refine gal_en C hH h dX2_howManyComeTo_20 (fun h => ?_)
        refine lv_iload_n hx hb dX2_howManyComeTo_21 rfl (lv_at hl 1 rfl) ?_
        refine gb_icmp_ne (tgt := 28) hx hb dX2_howManyComeTo_22 (by decide) h (fun h => ?_) (fun h => ?_)
        · refine lv_iinc (v := (y4_3 + (1 : Int32))) (lv' := [(3, .int (y4_3 + (1 : Int32))), (0, .ref (ad 9)), (1, .int x1), (2, .int y4_2)]) hx hb dX2_howManyComeTo_28 hl (k := 3) rfl rfl (by decide) rfl (fun ls hl => ?_)
          refine lv_goto (tgt := 4) hx hb dX2_howManyComeTo_31 (by decide) ?_
          exact ih _ _ _ _ _ hH (lv_sub hl [1, 2, 3, 0] rfl) X (nxt_l h h2) K
        · refine lv_iinc (v := (y4_2 + (1 : Int32))) (lv' := [(2, .int (y4_2 + (1 : Int32))), (0, .ref (ad 9)), (1, .int x1), (3, .int y4_3)]) hx hb dX2_howManyComeTo_25 hl (k := 2) rfl rfl (by decide) rfl (fun ls hl => ?_)
          refine lv_iinc (v := (y4_3 + (1 : Int32))) (lv' := [(3, .int (y4_3 + (1 : Int32))), (2, .int (y4_2 + (1 : Int32))), (0, .ref (ad 9)), (1, .int x1)]) hx hb dX2_howManyComeTo_28 hl (k := 3) rfl rfl (by decide) rfl (fun ls hl => ?_)
          refine lv_goto (tgt := 4) hx hb dX2_howManyComeTo_31 (by decide) ?_
          exact ih _ _ _ _ _ hH (lv_sub hl [2, 3, 1, 0] rfl) X (nxt_l h h2) K
  obtain ⟨X4, hX4, h⟩ := bnd h
  refine L4 FU ((0 : Int32)) ((0 : Int32)) _ _ _ hH (lv_sub hl [2, 3, 1, 0] rfl) X4 hX4 ?_
  intro z4_0_2 H locs ls hH hl hE
  replace hE := hE.symm
  subst hE
  refine lv_iload_n hx hb dX2_howManyComeTo_34 rfl (lv_at hl 0 rfl) ?_
  exact g_iret hx hb hr hlk hH ⟨Option.some.inj h, rfl⟩ dX2_howManyComeTo_35
theorem ok_X2_howManyComeTo : okName yX2_howManyComeTo 1 := ⟨by decide, by decide, by decide +kernel⟩
section KL
variable {p : Program} {l : Launch} {e : Env} {R : Room} {s : State} {m : MethodId} {args : Array Value} {below : List Frame} {meth : Method} {c : Code} {H : Heap} {locs : List Loc} {cells slots : Nat} {Q : State → Prop} {cc : ByteArray} {pc nL : Nat} {ls : Array Slot} {rest : List Value}
variable {A : Nat → Prop} {D : va_G} {cy : Nat → ClassId} {ad : Nat → Nat}
theorem kl_X3_124 (C : gC p m c cc nL s args RX3 D (gT cy) (gw cy ad) A) {σ : GS} (hH : gH s D (gw cy ad) A σ H locs) {x1 : Int32} {α : Type} {k : Int32 → Option α} {y : α} (h : (f_X2_howManyComeTo σ x1).bind k = some y) (hR : 2 ≤ R.frames ∧ 43 ≤ R.locals) (hcs : cells ≤ R.cells ∧ slots ≤ R.slots) (hl : ls.size = nL) (hW : (rest.map fun v => v.category).sum ≤ 8) (hdg : decode cc pc = .ok (.invokevirtual 124, 3)) (kk : ∀ (r : Int32) (H1 : Heap) (locs1 : List Loc), gH s D (gw cy ad) A σ H1 locs1 → k r = some y → W p l e R s m args below meth c H1 locs1 cells slots Q (F0 m (pc + 3) ls (.int r :: rest))) : W p l e R s m args below meth c H locs cells slots Q (F0 m pc ls (.int x1 :: .ref (ad 9) :: rest)) := by
  obtain ⟨r, h1, h2⟩ := bnd h
  exact g_fi (g_rVN (As := [.int x1]) C hH (c_X2_howManyComeTo l C.2.2.2 σ x1 r h1) (q0 := 9) mw_c_X2_howManyComeTo mw_m_X3_124 mw_i_X2_howManyComeTo mw_v_X2_howManyComeTo mw_in_X2 ok_X2_howManyComeTo ⟨rfl, rfl⟩ rfl rfl rfl hR hcs hl rfl hW hdg) hH.2 (fun H1 locs1 hH1 => kk r H1 locs1 hH1 h2)
end KL
set_option maxHeartbeats 4000000 in
set_option maxRecDepth 100000 in
theorem c_X2_ringLength (l : Launch) {D : va_G} {cy : Nat → ClassId} {ad : Nat → Nat} {A : Nat → Prop} (hD : ∀ σ, va_D A (gw cy ad σ)) (σ : GS) (x1 : Int32) (r0 : Int32) (h : f_X2_ringLength σ x1 = some r0) : gMi l yX2_ringLength (wsM yX2_ringLength cX2_ringLength 4 (some .int)) ({ frames := 1, cells := 0, slots := 0, locals := 20 } : Room) D (gT cy) (gw cy ad) A [.ref (ad 9), .int x1] σ σ r0 := by
  refine gMi.of (own := RX2) rfl (by decide) (Nat.le_of_ble_eq_true rfl) hD ?_
  intro p e s m below meth c ls C hx hb hr hlk hH hl
  have hl : lv_has ls 4 [(0, .ref (ad 9)), (1, .int x1)] := hl
  unfold f_X2_ringLength at h
  refine lv_iconst (v := 0) hx hb dX2_ringLength_0 (by decide) ?_
  refine lv_istore_n (lv' := [(2, .int (0)), (0, .ref (ad 9)), (1, .int x1)]) hx hb dX2_ringLength_1 rfl hl (by decide) rfl (fun ls hl => ?_)
  refine lv_iconst (v := 0) hx hb dX2_ringLength_2 (by decide) ?_
  refine lv_istore_n (lv' := [(3, .int (0)), (2, .int (0)), (0, .ref (ad 9)), (1, .int x1)]) hx hb dX2_ringLength_3 rfl hl (by decide) rfl (fun ls hl => ?_)
  have L4 : ∀ (n : Nat) (y4_2 : Int32) (y4_3 : Int32) (H : Heap) (locs : List Loc) (ls : Array Slot), gH s D (gw cy ad) A σ H locs → lv_has ls 4 [(0, .ref (ad 9)), (1, .int x1), (2, .int y4_2), (3, .int y4_3)] → ∀ X, itr (f_X2_ringLength_b4 σ x1) n (y4_2, y4_3) = some X → (∀ (z4_0_2 : Int32) (H : Heap) (locs : List Loc) (ls : Array Slot), gH s D (gw cy ad) A σ H locs → lv_has ls 4 [(2, .int z4_0_2)] → X = z4_0_2 → W p l e ({ frames := 1, cells := 0, slots := 0, locals := 20 } : Room) s m [.ref (ad 9), .int x1].toArray below meth c H locs 0 0 (MQ below (gQi D (gw cy ad) A σ r0) [.ref (ad 9), .int x1].toArray s 0 0 A) (F0 m 43 ls [])) → W p l e ({ frames := 1, cells := 0, slots := 0, locals := 20 } : Room) s m [.ref (ad 9), .int x1].toArray below meth c H locs 0 0 (MQ below (gQi D (gw cy ad) A σ r0) [.ref (ad 9), .int x1].toArray s 0 0 A) (F0 m 4 ls []) := by
    intro n
    induction n with
    | zero =>
      intro y4_2 y4_3 H locs ls hH hl X h K
      exact itr_0 h
    | succ n ih =>
      intro y4_2 y4_3 H locs ls hH hl X h0 K
      obtain ⟨o, h, h2⟩ := itr_step h0
      unfold f_X2_ringLength_b4 at h
      refine lv_iload_n hx hb dX2_ringLength_4 rfl (lv_at hl 3 rfl) ?_
      refine lv_aload_n hx hb dX2_ringLength_5 rfl (lv_at hl 0 rfl) ?_
      refine gf_X2_9 C hH dX2_ringLength_6 ?_
      refine kl_X2_43 C hH h ⟨by decide, by decide⟩ ⟨by decide, by decide⟩ hl.1 (Nat.le_of_ble_eq_true rfl) dX2_ringLength_9 (fun r1 H locs hH h => ?_)
      refine gb_icmp_ge (tgt := 43) hx hb dX2_ringLength_12 (by decide) h (fun h => ?_) (fun h => ?_)
      · exact K _ _ _ _ hH (lv_sub hl [2] rfl) (nxt_r h h2)
      · refine lv_aload_n hx hb dX2_ringLength_15 rfl (lv_at hl 0 rfl) ?_
        refine gf_X2_23 C hH dX2_ringLength_16 ?_
        refine lv_iload_n hx hb dX2_ringLength_19 rfl (lv_at hl 3 rfl) ?_
        refine gal_en C hH h dX2_ringLength_20 (fun h => ?_)
        refine lv_iload_n hx hb dX2_ringLength_21 rfl (lv_at hl 1 rfl) ?_
        refine gb_icmp_ne (tgt := 37) hx hb dX2_ringLength_22 (by decide) h (fun h => ?_) (fun h => ?_)
        · refine lv_iinc (v := (y4_3 + (1 : Int32))) (lv' := [(3, .int (y4_3 + (1 : Int32))), (0, .ref (ad 9)), (1, .int x1), (2, .int y4_2)]) hx hb dX2_ringLength_37 hl (k := 3) rfl rfl (by decide) rfl (fun ls hl => ?_)
          refine lv_goto (tgt := 4) hx hb dX2_ringLength_40 (by decide) ?_
          exact ih _ _ _ _ _ hH (lv_sub hl [1, 2, 3, 0] rfl) X (nxt_l h h2) K
        · refine lv_aload_n hx hb dX2_ringLength_25 rfl (lv_at hl 0 rfl) ?_
          refine gf_X2_26 C hH dX2_ringLength_26 ?_
          refine lv_iload_n hx hb dX2_ringLength_29 rfl (lv_at hl 3 rfl) ?_
          refine gal_ta C hH h dX2_ringLength_30 (fun h => ?_)
          refine gb_if_ne (tgt := 37) hx hb dX2_ringLength_31 (by decide) h (fun h => ?_) (fun h => ?_)
          · refine lv_iinc (v := (y4_3 + (1 : Int32))) (lv' := [(3, .int (y4_3 + (1 : Int32))), (0, .ref (ad 9)), (1, .int x1), (2, .int y4_2)]) hx hb dX2_ringLength_37 hl (k := 3) rfl rfl (by decide) rfl (fun ls hl => ?_)
            refine lv_goto (tgt := 4) hx hb dX2_ringLength_40 (by decide) ?_
            exact ih _ _ _ _ _ hH (lv_sub hl [1, 2, 3, 0] rfl) X (nxt_l h h2) K
          · refine lv_iinc (v := (y4_2 + (1 : Int32))) (lv' := [(2, .int (y4_2 + (1 : Int32))), (0, .ref (ad 9)), (1, .int x1), (3, .int y4_3)]) hx hb dX2_ringLength_34 hl (k := 2) rfl rfl (by decide) rfl (fun ls hl => ?_)
            refine lv_iinc (v := (y4_3 + (1 : Int32))) (lv' := [(3, .int (y4_3 + (1 : Int32))), (2, .int (y4_2 + (1 : Int32))), (0, .ref (ad 9)), (1, .int x1)]) hx hb dX2_ringLength_37 hl (k := 3) rfl rfl (by decide) rfl (fun ls hl => ?_)
            refine lv_goto (tgt := 4) hx hb dX2_ringLength_40 (by decide) ?_
            exact ih _ _ _ _ _ hH (lv_sub hl [2, 3, 1, 0] rfl) X (nxt_l h h2) K
  obtain ⟨X4, hX4, h⟩ := bnd h
  refine L4 FU ((0 : Int32)) ((0 : Int32)) _ _ _ hH (lv_sub hl [2, 3, 1, 0] rfl) X4 hX4 ?_
  intro z4_0_2 H locs ls hH hl hE
  replace hE := hE.symm
  subst hE
  refine lv_iload_n hx hb dX2_ringLength_43 rfl (lv_at hl 0 rfl) ?_
  exact g_iret hx hb hr hlk hH ⟨Option.some.inj h, rfl⟩ dX2_ringLength_44
theorem ok_X2_ringLength : okName yX2_ringLength 1 := ⟨by decide, by decide, by decide +kernel⟩
section KL
variable {p : Program} {l : Launch} {e : Env} {R : Room} {s : State} {m : MethodId} {args : Array Value} {below : List Frame} {meth : Method} {c : Code} {H : Heap} {locs : List Loc} {cells slots : Nat} {Q : State → Prop} {cc : ByteArray} {pc nL : Nat} {ls : Array Slot} {rest : List Value}
variable {A : Nat → Prop} {D : va_G} {cy : Nat → ClassId} {ad : Nat → Nat}
theorem kl_X3_110 (C : gC p m c cc nL s args RX3 D (gT cy) (gw cy ad) A) {σ : GS} (hH : gH s D (gw cy ad) A σ H locs) {x1 : Int32} {α : Type} {k : Int32 → Option α} {y : α} (h : (f_X2_ringLength σ x1).bind k = some y) (hR : 2 ≤ R.frames ∧ 43 ≤ R.locals) (hcs : cells ≤ R.cells ∧ slots ≤ R.slots) (hl : ls.size = nL) (hW : (rest.map fun v => v.category).sum ≤ 8) (hdg : decode cc pc = .ok (.invokevirtual 110, 3)) (kk : ∀ (r : Int32) (H1 : Heap) (locs1 : List Loc), gH s D (gw cy ad) A σ H1 locs1 → k r = some y → W p l e R s m args below meth c H1 locs1 cells slots Q (F0 m (pc + 3) ls (.int r :: rest))) : W p l e R s m args below meth c H locs cells slots Q (F0 m pc ls (.int x1 :: .ref (ad 9) :: rest)) := by
  obtain ⟨r, h1, h2⟩ := bnd h
  exact g_fi (g_rVN (As := [.int x1]) C hH (c_X2_ringLength l C.2.2.2 σ x1 r h1) (q0 := 9) mw_c_X2_ringLength mw_m_X3_110 mw_i_X2_ringLength mw_v_X2_ringLength mw_in_X2 ok_X2_ringLength ⟨rfl, rfl⟩ rfl rfl rfl hR hcs hl rfl hW hdg) hH.2 (fun H1 locs1 hH1 => kk r H1 locs1 hH1 h2)
end KL
set_option maxHeartbeats 4000000 in
set_option maxRecDepth 100000 in
theorem c_X2_greatestTail (l : Launch) {D : va_G} {cy : Nat → ClassId} {ad : Nat → Nat} {A : Nat → Prop} (hD : ∀ σ, va_D A (gw cy ad σ)) (σ : GS) (x1 : Int32) (r0 : Int32) (h : f_X2_greatestTail σ x1 = some r0) : gMi l yX2_greatestTail (wsM yX2_greatestTail cX2_greatestTail 4 (some .int)) ({ frames := 1, cells := 0, slots := 0, locals := 21 } : Room) D (gT cy) (gw cy ad) A [.ref (ad 9), .int x1] σ σ r0 := by
  refine gMi.of (own := RX2) rfl (by decide) (Nat.le_of_ble_eq_true rfl) hD ?_
  intro p e s m below meth c ls C hx hb hr hlk hH hl
  have hl : lv_has ls 4 [(0, .ref (ad 9)), (1, .int x1)] := hl
  unfold f_X2_greatestTail at h
  refine lv_iconst (v := 0) hx hb dX2_greatestTail_0 (by decide) ?_
  refine lv_istore_n (lv' := [(2, .int (0)), (0, .ref (ad 9)), (1, .int x1)]) hx hb dX2_greatestTail_1 rfl hl (by decide) rfl (fun ls hl => ?_)
  refine lv_iconst (v := 0) hx hb dX2_greatestTail_2 (by decide) ?_
  refine lv_istore_n (lv' := [(3, .int (0)), (2, .int (0)), (0, .ref (ad 9)), (1, .int x1)]) hx hb dX2_greatestTail_3 rfl hl (by decide) rfl (fun ls hl => ?_)
  have L4 : ∀ (n : Nat) (y4_2 : Int32) (y4_3 : Int32) (H : Heap) (locs : List Loc) (ls : Array Slot), gH s D (gw cy ad) A σ H locs → lv_has ls 4 [(0, .ref (ad 9)), (1, .int x1), (2, .int y4_2), (3, .int y4_3)] → ∀ X, itr (f_X2_greatestTail_b4 σ x1) n (y4_2, y4_3) = some X → (∀ (z4_0_2 : Int32) (H : Heap) (locs : List Loc) (ls : Array Slot), gH s D (gw cy ad) A σ H locs → lv_has ls 4 [(2, .int z4_0_2)] → X = z4_0_2 → W p l e ({ frames := 1, cells := 0, slots := 0, locals := 21 } : Room) s m [.ref (ad 9), .int x1].toArray below meth c H locs 0 0 (MQ below (gQi D (gw cy ad) A σ r0) [.ref (ad 9), .int x1].toArray s 0 0 A) (F0 m 42 ls [])) → W p l e ({ frames := 1, cells := 0, slots := 0, locals := 21 } : Room) s m [.ref (ad 9), .int x1].toArray below meth c H locs 0 0 (MQ below (gQi D (gw cy ad) A σ r0) [.ref (ad 9), .int x1].toArray s 0 0 A) (F0 m 4 ls []) := by
    intro n
    induction n with
    | zero =>
      intro y4_2 y4_3 H locs ls hH hl X h K
      exact itr_0 h
    | succ n ih =>
      intro y4_2 y4_3 H locs ls hH hl X h0 K
      obtain ⟨o, h, h2⟩ := itr_step h0
      unfold f_X2_greatestTail_b4 at h
      refine lv_iload_n hx hb dX2_greatestTail_4 rfl (lv_at hl 3 rfl) ?_
      refine lv_aload_n hx hb dX2_greatestTail_5 rfl (lv_at hl 0 rfl) ?_
      refine gf_X2_9 C hH dX2_greatestTail_6 ?_
      refine kl_X2_43 C hH h ⟨by decide, by decide⟩ ⟨by decide, by decide⟩ hl.1 (Nat.le_of_ble_eq_true rfl) dX2_greatestTail_9 (fun r1 H locs hH h => ?_)
      refine gb_icmp_ge (tgt := 42) hx hb dX2_greatestTail_12 (by decide) h (fun h => ?_) (fun h => ?_)
      · exact K _ _ _ _ hH (lv_sub hl [2] rfl) (nxt_r h h2)
      · refine lv_aload_n hx hb dX2_greatestTail_15 rfl (lv_at hl 0 rfl) ?_
        refine gf_X2_23 C hH dX2_greatestTail_16 ?_
        refine lv_iload_n hx hb dX2_greatestTail_19 rfl (lv_at hl 3 rfl) ?_
        refine gal_en C hH h dX2_greatestTail_20 (fun h => ?_)
        refine lv_iload_n hx hb dX2_greatestTail_21 rfl (lv_at hl 1 rfl) ?_
        refine gb_icmp_ne (tgt := 36) hx hb dX2_greatestTail_22 (by decide) h (fun h => ?_) (fun h => ?_)
        · refine lv_iinc (v := (y4_3 + (1 : Int32))) (lv' := [(3, .int (y4_3 + (1 : Int32))), (0, .ref (ad 9)), (1, .int x1), (2, .int y4_2)]) hx hb dX2_greatestTail_36 hl (k := 3) rfl rfl (by decide) rfl (fun ls hl => ?_)
          refine lv_goto (tgt := 4) hx hb dX2_greatestTail_39 (by decide) ?_
          exact ih _ _ _ _ _ hH (lv_sub hl [1, 2, 3, 0] rfl) X (nxt_l h h2) K
        · refine lv_iload_n hx hb dX2_greatestTail_25 rfl (lv_at hl 2 rfl) ?_
          refine lv_aload_n hx hb dX2_greatestTail_26 rfl (lv_at hl 0 rfl) ?_
          refine gf_X2_26 C hH dX2_greatestTail_27 ?_
          refine lv_iload_n hx hb dX2_greatestTail_30 rfl (lv_at hl 3 rfl) ?_
          refine gal_ta C hH h dX2_greatestTail_31 (fun h => ?_)
          refine g_max C hl.1 (by decide) (by decide) (by decide) (by decide) dX2_greatestTail_32 ?_
          refine lv_istore_n (lv' := [(2, .int (if y4_2 < (gta σ (y4_3 : Int32).toNatClampNeg) then (gta σ (y4_3 : Int32).toNatClampNeg) else y4_2)), (0, .ref (ad 9)), (1, .int x1), (3, .int y4_3)]) hx hb dX2_greatestTail_35 rfl hl (by decide) rfl (fun ls hl => ?_)
          refine lv_iinc (v := (y4_3 + (1 : Int32))) (lv' := [(3, .int (y4_3 + (1 : Int32))), (2, .int (if y4_2 < (gta σ (y4_3 : Int32).toNatClampNeg) then (gta σ (y4_3 : Int32).toNatClampNeg) else y4_2)), (0, .ref (ad 9)), (1, .int x1)]) hx hb dX2_greatestTail_36 hl (k := 3) rfl rfl (by decide) rfl (fun ls hl => ?_)
          refine lv_goto (tgt := 4) hx hb dX2_greatestTail_39 (by decide) ?_
          exact ih _ _ _ _ _ hH (lv_sub hl [2, 3, 1, 0] rfl) X (nxt_l h h2) K
  obtain ⟨X4, hX4, h⟩ := bnd h
  refine L4 FU ((0 : Int32)) ((0 : Int32)) _ _ _ hH (lv_sub hl [2, 3, 1, 0] rfl) X4 hX4 ?_
  intro z4_0_2 H locs ls hH hl hE
  replace hE := hE.symm
  subst hE
  refine lv_iload_n hx hb dX2_greatestTail_42 rfl (lv_at hl 0 rfl) ?_
  exact g_iret hx hb hr hlk hH ⟨Option.some.inj h, rfl⟩ dX2_greatestTail_43
theorem ok_X2_greatestTail : okName yX2_greatestTail 1 := ⟨by decide, by decide, by decide +kernel⟩
section KL
variable {p : Program} {l : Launch} {e : Env} {R : Room} {s : State} {m : MethodId} {args : Array Value} {below : List Frame} {meth : Method} {c : Code} {H : Heap} {locs : List Loc} {cells slots : Nat} {Q : State → Prop} {cc : ByteArray} {pc nL : Nat} {ls : Array Slot} {rest : List Value}
variable {A : Nat → Prop} {D : va_G} {cy : Nat → ClassId} {ad : Nat → Nat}
theorem kl_X3_127 (C : gC p m c cc nL s args RX3 D (gT cy) (gw cy ad) A) {σ : GS} (hH : gH s D (gw cy ad) A σ H locs) {x1 : Int32} {α : Type} {k : Int32 → Option α} {y : α} (h : (f_X2_greatestTail σ x1).bind k = some y) (hR : 2 ≤ R.frames ∧ 44 ≤ R.locals) (hcs : cells ≤ R.cells ∧ slots ≤ R.slots) (hl : ls.size = nL) (hW : (rest.map fun v => v.category).sum ≤ 8) (hdg : decode cc pc = .ok (.invokevirtual 127, 3)) (kk : ∀ (r : Int32) (H1 : Heap) (locs1 : List Loc), gH s D (gw cy ad) A σ H1 locs1 → k r = some y → W p l e R s m args below meth c H1 locs1 cells slots Q (F0 m (pc + 3) ls (.int r :: rest))) : W p l e R s m args below meth c H locs cells slots Q (F0 m pc ls (.int x1 :: .ref (ad 9) :: rest)) := by
  obtain ⟨r, h1, h2⟩ := bnd h
  exact g_fi (g_rVN (As := [.int x1]) C hH (c_X2_greatestTail l C.2.2.2 σ x1 r h1) (q0 := 9) mw_c_X2_greatestTail mw_m_X3_127 mw_i_X2_greatestTail mw_v_X2_greatestTail mw_in_X2 ok_X2_greatestTail ⟨rfl, rfl⟩ rfl rfl rfl hR hcs hl rfl hW hdg) hH.2 (fun H1 locs1 hH1 => kk r H1 locs1 hH1 h2)
end KL
set_option maxHeartbeats 4000000 in
set_option maxRecDepth 100000 in
theorem c_X2_firstOfRing (l : Launch) {D : va_G} {cy : Nat → ClassId} {ad : Nat → Nat} {A : Nat → Prop} (hD : ∀ σ, va_D A (gw cy ad σ)) (σ : GS) (x1 : Int32) (r0 : Int32) (h : f_X2_firstOfRing σ x1 = some r0) : gMi l yX2_firstOfRing (wsM yX2_firstOfRing cX2_firstOfRing 5 (some .int)) ({ frames := 0, cells := 0, slots := 0, locals := 0 } : Room) D (gT cy) (gw cy ad) A [.ref (ad 9), .int x1] σ σ r0 := by
  refine gMi.of (own := RX2) rfl (by decide) (Nat.le_of_ble_eq_true rfl) hD ?_
  intro p e s m below meth c ls C hx hb hr hlk hH hl
  have hl : lv_has ls 5 [(0, .ref (ad 9)), (1, .int x1)] := hl
  unfold f_X2_firstOfRing at h
  refine lv_aload_n hx hb dX2_firstOfRing_0 rfl (lv_at hl 0 rfl) ?_
  refine gf_X2_26 C hH dX2_firstOfRing_1 ?_
  refine lv_iload_n hx hb dX2_firstOfRing_4 rfl (lv_at hl 1 rfl) ?_
  refine gal_ta C hH h dX2_firstOfRing_5 (fun h => ?_)
  refine lv_istore_n (lv' := [(2, .int (gta σ (x1 : Int32).toNatClampNeg)), (0, .ref (ad 9)), (1, .int x1)]) hx hb dX2_firstOfRing_6 rfl hl (by decide) rfl (fun ls hl => ?_)
  refine lv_iload_n hx hb dX2_firstOfRing_7 rfl (lv_at hl 2 rfl) ?_
  refine lv_istore_n (lv' := [(3, .int x1), (2, .int (gta σ (x1 : Int32).toNatClampNeg)), (0, .ref (ad 9)), (1, .int x1)]) hx hb dX2_firstOfRing_8 rfl hl (by decide) rfl (fun ls hl => ?_)
  refine lv_iconst (v := 0) hx hb dX2_firstOfRing_9 (by decide) ?_
  refine lv_istore (lv' := [(4, .int (0)), (3, .int x1), (2, .int (gta σ (x1 : Int32).toNatClampNeg)), (0, .ref (ad 9)), (1, .int x1)]) hx hb dX2_firstOfRing_10 hl (by decide) rfl (fun ls hl => ?_)
  have L12 : ∀ (n : Nat) (y12_3 : Int32) (y12_4 : Int32) (H : Heap) (locs : List Loc) (ls : Array Slot), gH s D (gw cy ad) A σ H locs → lv_has ls 5 [(0, .ref (ad 9)), (2, .int (gta σ (x1 : Int32).toNatClampNeg)), (3, .int y12_3), (4, .int y12_4)] → ∀ X, itr (f_X2_firstOfRing_b12 σ x1) n (y12_3, y12_4) = some X → (∀ (z12_0_3 : Int32) (H : Heap) (locs : List Loc) (ls : Array Slot), gH s D (gw cy ad) A σ H locs → lv_has ls 5 [(3, .int z12_0_3)] → X = z12_0_3 → W p l e ({ frames := 0, cells := 0, slots := 0, locals := 0 } : Room) s m [.ref (ad 9), .int x1].toArray below meth c H locs 0 0 (MQ below (gQi D (gw cy ad) A σ r0) [.ref (ad 9), .int x1].toArray s 0 0 A) (F0 m 31 ls [])) → W p l e ({ frames := 0, cells := 0, slots := 0, locals := 0 } : Room) s m [.ref (ad 9), .int x1].toArray below meth c H locs 0 0 (MQ below (gQi D (gw cy ad) A σ r0) [.ref (ad 9), .int x1].toArray s 0 0 A) (F0 m 12 ls []) := by
    intro n
    induction n with
    | zero =>
      intro y12_3 y12_4 H locs ls hH hl X h K
      exact itr_0 h
    | succ n ih =>
      intro y12_3 y12_4 H locs ls hH hl X h0 K
      obtain ⟨o, h, h2⟩ := itr_step h0
      unfold f_X2_firstOfRing_b12 at h
      refine lv_iload hx hb dX2_firstOfRing_12 (lv_at hl 3 rfl) ?_
      refine lv_iload_n hx hb dX2_firstOfRing_14 rfl (lv_at hl 1 rfl) ?_
      refine gb_icmp_ge (tgt := 31) hx hb dX2_firstOfRing_15 (by decide) h (fun h => ?_) (fun h => ?_)
      · exact K _ _ _ _ hH (lv_sub hl [2] rfl) (nxt_r h h2)
      · refine lv_aload_n hx hb dX2_firstOfRing_18 rfl (lv_at hl 0 rfl) ?_
        refine gf_X2_19 C hH dX2_firstOfRing_19 ?_
        refine lv_iload_n hx hb dX2_firstOfRing_22 rfl (lv_at hl 2 rfl) ?_
        refine gal_be C hH h dX2_firstOfRing_23 (fun h => ?_)
        refine lv_istore_n (lv' := [(3, .int (gbe σ (y12_3 : Int32).toNatClampNeg)), (0, .ref (ad 9)), (2, .int (gta σ (x1 : Int32).toNatClampNeg)), (4, .int y12_4)]) hx hb dX2_firstOfRing_24 rfl hl (by decide) rfl (fun ls hl => ?_)
        refine lv_iinc (v := (y12_4 + (1 : Int32))) (lv' := [(4, .int (y12_4 + (1 : Int32))), (3, .int (gbe σ (y12_3 : Int32).toNatClampNeg)), (0, .ref (ad 9)), (2, .int (gta σ (x1 : Int32).toNatClampNeg))]) hx hb dX2_firstOfRing_25 hl (k := 3) rfl rfl (by decide) rfl (fun ls hl => ?_)
        refine lv_goto (tgt := 12) hx hb dX2_firstOfRing_28 (by decide) ?_
        exact ih _ _ _ _ _ hH (lv_sub hl [2, 3, 1, 0] rfl) X (nxt_l h h2) K
  obtain ⟨X12, hX12, h⟩ := bnd h
  refine L12 FU x1 ((0 : Int32)) _ _ _ hH (lv_sub hl [3, 2, 1, 0] rfl) X12 hX12 ?_
  intro z12_0_3 H locs ls hH hl hE
  replace hE := hE.symm
  subst hE
  refine lv_iload_n hx hb dX2_firstOfRing_31 rfl (lv_at hl 0 rfl) ?_
  exact g_iret hx hb hr hlk hH ⟨Option.some.inj h, rfl⟩ dX2_firstOfRing_32
theorem ok_X2_firstOfRing : okName yX2_firstOfRing 1 := ⟨by decide, by decide, by decide +kernel⟩
section KL
variable {p : Program} {l : Launch} {e : Env} {R : Room} {s : State} {m : MethodId} {args : Array Value} {below : List Frame} {meth : Method} {c : Code} {H : Heap} {locs : List Loc} {cells slots : Nat} {Q : State → Prop} {cc : ByteArray} {pc nL : Nat} {ls : Array Slot} {rest : List Value}
variable {A : Nat → Prop} {D : va_G} {cy : Nat → ClassId} {ad : Nat → Nat}
theorem kl_X3_114 (C : gC p m c cc nL s args RX3 D (gT cy) (gw cy ad) A) {σ : GS} (hH : gH s D (gw cy ad) A σ H locs) {x1 : Int32} {α : Type} {k : Int32 → Option α} {y : α} (h : (f_X2_firstOfRing σ x1).bind k = some y) (hR : 1 ≤ R.frames ∧ 24 ≤ R.locals) (hcs : cells ≤ R.cells ∧ slots ≤ R.slots) (hl : ls.size = nL) (hW : (rest.map fun v => v.category).sum ≤ 8) (hdg : decode cc pc = .ok (.invokevirtual 114, 3)) (kk : ∀ (r : Int32) (H1 : Heap) (locs1 : List Loc), gH s D (gw cy ad) A σ H1 locs1 → k r = some y → W p l e R s m args below meth c H1 locs1 cells slots Q (F0 m (pc + 3) ls (.int r :: rest))) : W p l e R s m args below meth c H locs cells slots Q (F0 m pc ls (.int x1 :: .ref (ad 9) :: rest)) := by
  obtain ⟨r, h1, h2⟩ := bnd h
  exact g_fi (g_rVN (As := [.int x1]) C hH (c_X2_firstOfRing l C.2.2.2 σ x1 r h1) (q0 := 9) mw_c_X2_firstOfRing mw_m_X3_114 mw_i_X2_firstOfRing mw_v_X2_firstOfRing mw_in_X2 ok_X2_firstOfRing ⟨rfl, rfl⟩ rfl rfl rfl hR hcs hl rfl hW hdg) hH.2 (fun H1 locs1 hH1 => kk r H1 locs1 hH1 h2)
end KL
set_option maxHeartbeats 4000000 in
set_option maxRecDepth 100000 in
theorem c_X3_forgetMoves (l : Launch) {D : va_G} {cy : Nat → ClassId} {ad : Nat → Nat} {A : Nat → Prop} (hD : ∀ σ, va_D A (gw cy ad σ)) (σ : GS) (σ0 : GS) (h : f_X3_forgetMoves σ = some σ0) : gMv l yX3_forgetMoves (wsM yX3_forgetMoves cX3_forgetMoves 1 none) ({ frames := 1, cells := 0, slots := 0, locals := 21 } : Room) D (gT cy) (gw cy ad) A [.ref (ad 0)] σ σ0 := by
  refine gMv.of (own := RX3) rfl (by decide) (Nat.le_of_ble_eq_true rfl) hD ?_
  intro p e s m below meth c ls C hx hb hr hlk hH hl
  have hl : lv_has ls 1 [(0, .ref (ad 0))] := hl
  unfold f_X3_forgetMoves at h
  refine lv_aload_n hx hb dX3_forgetMoves_0 rfl (lv_at hl 0 rfl) ?_
  refine gf_X3_21 C hH dX3_forgetMoves_1 ?_
  refine kl_X3_172 C hH h ⟨by decide, by decide⟩ ⟨by decide, by decide⟩ hl.1 (Nat.le_of_ble_eq_true rfl) dX3_forgetMoves_4 (fun σ1 H locs hH h => ?_)
  refine lv_aload_n hx hb dX3_forgetMoves_7 rfl (lv_at hl 0 rfl) ?_
  refine gf_X3_30 C hH dX3_forgetMoves_8 ?_
  refine kl_X3_175 C hH h ⟨by decide, by decide⟩ ⟨by decide, by decide⟩ hl.1 (Nat.le_of_ble_eq_true rfl) dX3_forgetMoves_11 (fun σ2 H locs hH h => ?_)
  exact g_vret hx hb hr hlk hH (Option.some.inj h) dX3_forgetMoves_14
theorem ok_X3_forgetMoves : okName yX3_forgetMoves 0 := ⟨by decide, by decide, by decide +kernel⟩
section KL
variable {p : Program} {l : Launch} {e : Env} {R : Room} {s : State} {m : MethodId} {args : Array Value} {below : List Frame} {meth : Method} {c : Code} {H : Heap} {locs : List Loc} {cells slots : Nat} {Q : State → Prop} {cc : ByteArray} {pc nL : Nat} {ls : Array Slot} {rest : List Value}
variable {A : Nat → Prop} {D : va_G} {cy : Nat → ClassId} {ad : Nat → Nat}
theorem kl_X3_52 (C : gC p m c cc nL s args RX3 D (gT cy) (gw cy ad) A) {σ : GS} (hH : gH s D (gw cy ad) A σ H locs) {α : Type} {k : GS → Option α} {y : α} (h : (f_X3_forgetMoves σ).bind k = some y) (hR : 2 ≤ R.frames ∧ 41 ≤ R.locals) (hcs : cells ≤ R.cells ∧ slots ≤ R.slots) (hl : ls.size = nL) (hW : (rest.map fun v => v.category).sum ≤ 8) (hdg : decode cc pc = .ok (.invokevirtual 52, 3)) (kk : ∀ (σ1 : GS) (H1 : Heap) (locs1 : List Loc), gH s D (gw cy ad) A σ1 H1 locs1 → k σ1 = some y → W p l e R s m args below meth c H1 locs1 cells slots Q (F0 m (pc + 3) ls (rest))) : W p l e R s m args below meth c H locs cells slots Q (F0 m pc ls (.ref (ad 0) :: rest)) := by
  obtain ⟨σ1, h1, h2⟩ := bnd h
  exact g_fv (g_rV (As := []) C hH (c_X3_forgetMoves l C.2.2.2 σ σ1 h1) (q0 := 0) mw_c_X3_forgetMoves mw_m_X3_52 mw_i_X3_forgetMoves mw_v_X3_forgetMoves mw_in_X3 ok_X3_forgetMoves ⟨rfl, rfl⟩ rfl rfl rfl hR hcs hl rfl hW hdg) hH.2 (fun H1 locs1 hH1 => kk σ1 H1 locs1 hH1 h2)
end KL
set_option maxHeartbeats 4000000 in
set_option maxRecDepth 100000 in
theorem c_X3_players (l : Launch) {D : va_G} {cy : Nat → ClassId} {ad : Nat → Nat} {A : Nat → Prop} (hD : ∀ σ, va_D A (gw cy ad σ)) (σ : GS) (x1 : Int32) (r0 : Int32) (σ0 : GS) (h : f_X3_players σ x1 = some (r0, σ0)) : gMi l yX3_players (wsM yX3_players cX3_players 3 (some .int)) ({ frames := 2, cells := 0, slots := 0, locals := 41 } : Room) D (gT cy) (gw cy ad) A [.ref (ad 0), .int x1] σ σ0 r0 := by
  refine gMi.of (own := RX3) rfl (by decide) (Nat.le_of_ble_eq_true rfl) hD ?_
  intro p e s m below meth c ls C hx hb hr hlk hH hl
  have hl : lv_has ls 3 [(0, .ref (ad 0)), (1, .int x1)] := hl
  unfold f_X3_players at h
  refine lv_iload_n hx hb dX3_players_0 rfl (lv_at hl 1 rfl) ?_
  refine lv_iconst (v := 2) hx hb dX3_players_1 (by decide) ?_
  refine gb_icmp_lt (tgt := 11) hx hb dX3_players_2 (by decide) h (fun h => ?_) (fun h => ?_)
  · refine lv_bipush (v := -2) hx hb dX3_players_11 (by decide) ?_
    exact g_iret hx hb hr hlk hH (Prod.mk.inj (Option.some.inj h)) dX3_players_13
  · refine lv_iload_n hx hb dX3_players_5 rfl (lv_at hl 1 rfl) ?_
    refine lv_bipush (v := 10) hx hb dX3_players_6 (by decide) ?_
    refine gb_icmp_le (tgt := 14) hx hb dX3_players_8 (by decide) h (fun h => ?_) (fun h => ?_)
    · refine lv_aload_n hx hb dX3_players_14 rfl (lv_at hl 0 rfl) ?_
      refine gf_X3_10 C hH dX3_players_15 ?_
      refine gf_X3_45 C hH dX3_players_18 ?_
      refine lv_istore_n (lv' := [(2, .int (gpl σ)), (0, .ref (ad 0)), (1, .int x1)]) hx hb dX3_players_21 rfl hl (by decide) rfl (fun ls hl => ?_)
      refine lv_aload_n hx hb dX3_players_22 rfl (lv_at hl 1 rfl) ?_
      refine gf_X3_10 C hH dX3_players_23 ?_
      refine lv_iload_n hx hb dX3_players_26 rfl (lv_at hl 2 rfl) ?_
      refine kl_X3_48 C hH h ⟨by decide, by decide⟩ ⟨by decide, by decide⟩ hl.1 (Nat.le_of_ble_eq_true rfl) dX3_players_27 (fun σ1 H locs hH h => ?_)
      refine lv_aload_n hx hb dX3_players_30 rfl (lv_at hl 1 rfl) ?_
      refine lv_iconst (v := 0) hx hb dX3_players_31 (by decide) ?_
      refine pf_X3_38 C hH dX3_players_32 (fun H locs hH => ?_)
      refine lv_aload_n hx hb dX3_players_35 rfl (lv_at hl 1 rfl) ?_
      refine lv_iconst (v := 0) hx hb dX3_players_36 (by decide) ?_
      refine pf_X3_42 C hH dX3_players_37 (fun H locs hH => ?_)
      refine lv_aload_n hx hb dX3_players_40 rfl (lv_at hl 1 rfl) ?_
      refine kl_X3_52 C hH h ⟨by decide, by decide⟩ ⟨by decide, by decide⟩ hl.1 (Nat.le_of_ble_eq_true rfl) dX3_players_41 (fun σ2 H locs hH h => ?_)
      refine lv_iload_n hx hb dX3_players_44 rfl (lv_at hl 0 rfl) ?_
      exact g_iret hx hb hr hlk hH (Prod.mk.inj (Option.some.inj h)) dX3_players_45
    · refine lv_bipush (v := -2) hx hb dX3_players_11 (by decide) ?_
      exact g_iret hx hb hr hlk hH (Prod.mk.inj (Option.some.inj h)) dX3_players_13
theorem ok_X3_players : okName yX3_players 1 := ⟨by decide, by decide, by decide +kernel⟩
set_option maxHeartbeats 4000000 in
set_option maxRecDepth 100000 in
theorem c_X3_line (l : Launch) {D : va_G} {cy : Nat → ClassId} {ad : Nat → Nat} {A : Nat → Prop} (hD : ∀ σ, va_D A (gw cy ad σ)) (σ : GS) (x1 x2 x3 : Int32) (r0 : Int32) (σ0 : GS) (h : f_X3_line σ x1 x2 x3 = some (r0, σ0)) : gMi l yX3_line (wsM yX3_line cX3_line 5 (some .int)) ({ frames := 2, cells := 0, slots := 0, locals := 46 } : Room) D (gT cy) (gw cy ad) A [.ref (ad 0), .int x1, .int x2, .int x3] σ σ0 r0 := by
  refine gMi.of (own := RX3) rfl (by decide) (Nat.le_of_ble_eq_true rfl) hD ?_
  intro p e s m below meth c ls C hx hb hr hlk hH hl
  have hl : lv_has ls 5 [(0, .ref (ad 0)), (1, .int x1), (2, .int x2), (3, .int x3)] := hl
  unfold f_X3_line at h
  refine lv_aload_n hx hb dX3_line_0 rfl (lv_at hl 0 rfl) ?_
  refine gf_X3_10 C hH dX3_line_1 ?_
  refine lv_iload_n hx hb dX3_line_4 rfl (lv_at hl 1 rfl) ?_
  refine lv_iload_n hx hb dX3_line_5 rfl (lv_at hl 2 rfl) ?_
  refine kl_X3_55 C hH h ⟨by decide, by decide⟩ ⟨by decide, by decide⟩ hl.1 (Nat.le_of_ble_eq_true rfl) dX3_line_6 (fun r1 H locs hH h => ?_)
  refine gb_if_ne (tgt := 14) hx hb dX3_line_9 (by decide) h (fun h => ?_) (fun h => ?_)
  · refine lv_iload_n hx hb dX3_line_14 rfl (lv_at hl 3 rfl) ?_
    refine gb_if_lt (tgt := 24) hx hb dX3_line_15 (by decide) h (fun h => ?_) (fun h => ?_)
    · refine lv_bipush (v := -2) hx hb dX3_line_24 (by decide) ?_
      exact g_iret hx hb hr hlk hH (Prod.mk.inj (Option.some.inj h)) dX3_line_26
    · refine lv_iload_n hx hb dX3_line_18 rfl (lv_at hl 3 rfl) ?_
      refine lv_bipush (v := 9) hx hb dX3_line_19 (by decide) ?_
      refine gb_icmp_le (tgt := 27) hx hb dX3_line_21 (by decide) h (fun h => ?_) (fun h => ?_)
      · refine lv_aload_n hx hb dX3_line_27 rfl (lv_at hl 0 rfl) ?_
        refine gf_X3_10 C hH dX3_line_28 ?_
        refine lv_iload_n hx hb dX3_line_31 rfl (lv_at hl 1 rfl) ?_
        refine lv_iload_n hx hb dX3_line_32 rfl (lv_at hl 2 rfl) ?_
        refine kl_X3_59 C hH h ⟨by decide, by decide⟩ ⟨by decide, by decide⟩ hl.1 (Nat.le_of_ble_eq_true rfl) dX3_line_33 (fun r2 H locs hH h => ?_)
        refine lv_istore (lv' := [(4, .int r2), (0, .ref (ad 0)), (1, .int x1), (2, .int x2), (3, .int x3)]) hx hb dX3_line_36 hl (by decide) rfl (fun ls hl => ?_)
        refine lv_aload_n hx hb dX3_line_38 rfl (lv_at hl 1 rfl) ?_
        refine gf_X3_10 C hH dX3_line_39 ?_
        refine lv_iload_n hx hb dX3_line_42 rfl (lv_at hl 2 rfl) ?_
        refine lv_iload_n hx hb dX3_line_43 rfl (lv_at hl 3 rfl) ?_
        refine lv_iload_n hx hb dX3_line_44 rfl (lv_at hl 4 rfl) ?_
        refine kl_X3_63 C hH h ⟨by decide, by decide⟩ ⟨by decide, by decide⟩ hl.1 (Nat.le_of_ble_eq_true rfl) dX3_line_45 (fun σ3 H locs hH h => ?_)
        refine lv_aload_n hx hb dX3_line_48 rfl (lv_at hl 1 rfl) ?_
        refine kl_X3_52 C hH h ⟨by decide, by decide⟩ ⟨by decide, by decide⟩ hl.1 (Nat.le_of_ble_eq_true rfl) dX3_line_49 (fun σ4 H locs hH h => ?_)
        refine lv_iload hx hb dX3_line_52 (lv_at hl 0 rfl) ?_
        exact g_iret hx hb hr hlk hH (Prod.mk.inj (Option.some.inj h)) dX3_line_54
      · refine lv_bipush (v := -2) hx hb dX3_line_24 (by decide) ?_
        exact g_iret hx hb hr hlk hH (Prod.mk.inj (Option.some.inj h)) dX3_line_26
  · refine lv_iconst (v := -1) hx hb dX3_line_12 (by decide) ?_
    exact g_iret hx hb hr hlk hH (Prod.mk.inj (Option.some.inj h)) dX3_line_13
theorem ok_X3_line : okName yX3_line 3 := ⟨by decide, by decide, by decide +kernel⟩
set_option maxHeartbeats 4000000 in
set_option maxRecDepth 100000 in
theorem c_X3_weight (l : Launch) {D : va_G} {cy : Nat → ClassId} {ad : Nat → Nat} {A : Nat → Prop} (hD : ∀ σ, va_D A (gw cy ad σ)) (σ : GS) (x1 x2 : Int32) (r0 : Int32) (h : f_X3_weight σ x1 x2 = some r0) : gMi l yX3_weight (wsM yX3_weight cX3_weight 3 (some .int)) ({ frames := 2, cells := 0, slots := 0, locals := 43 } : Room) D (gT cy) (gw cy ad) A [.ref (ad 0), .int x1, .int x2] σ σ r0 := by
  refine gMi.of (own := RX3) rfl (by decide) (Nat.le_of_ble_eq_true rfl) hD ?_
  intro p e s m below meth c ls C hx hb hr hlk hH hl
  have hl : lv_has ls 3 [(0, .ref (ad 0)), (1, .int x1), (2, .int x2)] := hl
  unfold f_X3_weight at h
  refine lv_aload_n hx hb dX3_weight_0 rfl (lv_at hl 0 rfl) ?_
  refine gf_X3_10 C hH dX3_weight_1 ?_
  refine lv_iload_n hx hb dX3_weight_4 rfl (lv_at hl 1 rfl) ?_
  refine lv_iload_n hx hb dX3_weight_5 rfl (lv_at hl 2 rfl) ?_
  refine kl_X3_55 C hH h ⟨by decide, by decide⟩ ⟨by decide, by decide⟩ hl.1 (Nat.le_of_ble_eq_true rfl) dX3_weight_6 (fun r1 H locs hH h => ?_)
  refine gb_if_eq (tgt := 24) hx hb dX3_weight_9 (by decide) h (fun h => ?_) (fun h => ?_)
  · refine lv_iconst (v := -1) hx hb dX3_weight_24 (by decide) ?_
    exact g_iret hx hb hr hlk hH ⟨Option.some.inj h, rfl⟩ dX3_weight_25
  · refine lv_aload_n hx hb dX3_weight_12 rfl (lv_at hl 0 rfl) ?_
    refine gf_X3_10 C hH dX3_weight_13 ?_
    refine lv_iload_n hx hb dX3_weight_16 rfl (lv_at hl 1 rfl) ?_
    refine lv_iload_n hx hb dX3_weight_17 rfl (lv_at hl 2 rfl) ?_
    refine kl_X3_59 C hH h ⟨by decide, by decide⟩ ⟨by decide, by decide⟩ hl.1 (Nat.le_of_ble_eq_true rfl) dX3_weight_18 (fun r2 H locs hH h => ?_)
    refine lv_goto (tgt := 25) hx hb dX3_weight_21 (by decide) ?_
    exact g_iret hx hb hr hlk hH ⟨Option.some.inj h, rfl⟩ dX3_weight_25
theorem ok_X3_weight : okName yX3_weight 2 := ⟨by decide, by decide, by decide +kernel⟩
set_option maxHeartbeats 4000000 in
set_option maxRecDepth 100000 in
theorem c_X3_isWay (l : Launch) {D : va_G} {cy : Nat → ClassId} {ad : Nat → Nat} {A : Nat → Prop} (hD : ∀ σ, va_D A (gw cy ad σ)) (σ : GS) (x0 : Int32) (r0 : Int32) (h : f_X3_isWay x0 = some r0) : gMi l yX3_isWay (wsM yX3_isWay cX3_isWay 1 (some .boolean)) ({ frames := 0, cells := 0, slots := 0, locals := 0 } : Room) D (gT cy) (gw cy ad) A [.int x0] σ σ r0 := by
  refine gMi.of (own := RX3) rfl (by decide) (Nat.le_of_ble_eq_true rfl) hD ?_
  intro p e s m below meth c ls C hx hb hr hlk hH hl
  have hl : lv_has ls 1 [(0, .int x0)] := hl
  unfold f_X3_isWay at h
  refine lv_iload_n hx hb dX3_isWay_0 rfl (lv_at hl 0 rfl) ?_
  refine gb_if_eq (tgt := 9) hx hb dX3_isWay_1 (by decide) h (fun h => ?_) (fun h => ?_)
  · refine lv_iconst (v := 1) hx hb dX3_isWay_9 (by decide) ?_
    refine lv_goto (tgt := 14) hx hb dX3_isWay_10 (by decide) ?_
    exact g_zret hx hb hr hlk hH ⟨Option.some.inj h, rfl⟩ rfl dX3_isWay_14
  · refine lv_iload_n hx hb dX3_isWay_4 rfl (lv_at hl 0 rfl) ?_
    refine lv_iconst (v := 1) hx hb dX3_isWay_5 (by decide) ?_
    refine gb_icmp_ne (tgt := 13) hx hb dX3_isWay_6 (by decide) h (fun h => ?_) (fun h => ?_)
    · refine lv_iconst (v := 0) hx hb dX3_isWay_13 (by decide) ?_
      exact g_zret hx hb hr hlk hH ⟨Option.some.inj h, rfl⟩ rfl dX3_isWay_14
    · refine lv_iconst (v := 1) hx hb dX3_isWay_9 (by decide) ?_
      refine lv_goto (tgt := 14) hx hb dX3_isWay_10 (by decide) ?_
      exact g_zret hx hb hr hlk hH ⟨Option.some.inj h, rfl⟩ rfl dX3_isWay_14
theorem ok_X3_isWay : okName yX3_isWay 1 := ⟨by decide, by decide, by decide +kernel⟩
section KL
variable {p : Program} {l : Launch} {e : Env} {R : Room} {s : State} {m : MethodId} {args : Array Value} {below : List Frame} {meth : Method} {c : Code} {H : Heap} {locs : List Loc} {cells slots : Nat} {Q : State → Prop} {cc : ByteArray} {pc nL : Nat} {ls : Array Slot} {rest : List Value}
variable {A : Nat → Prop} {D : va_G} {cy : Nat → ClassId} {ad : Nat → Nat}
theorem kl_X3_67 (C : gC p m c cc nL s args RX3 D (gT cy) (gw cy ad) A) {σ : GS} (hH : gH s D (gw cy ad) A σ H locs) {x1 : Int32} {α : Type} {k : Int32 → Option α} {y : α} (h : (f_X3_isWay x1).bind k = some y) (hR : 1 ≤ R.frames ∧ 20 ≤ R.locals) (hcs : cells ≤ R.cells ∧ slots ≤ R.slots) (hl : ls.size = nL) (hW : (rest.map fun v => v.category).sum ≤ 8) (hdg : decode cc pc = .ok (.invokestatic 67, 3)) (kk : ∀ (r : Int32) (H1 : Heap) (locs1 : List Loc), gH s D (gw cy ad) A σ H1 locs1 → k r = some y → W p l e R s m args below meth c H1 locs1 cells slots Q (F0 m (pc + 3) ls (.int r :: rest))) : W p l e R s m args below meth c H locs cells slots Q (F0 m pc ls (.int x1 :: rest)) := by
  obtain ⟨r, h1, h2⟩ := bnd h
  exact g_fi (g_rS (As := [.int x1]) C hH (c_X3_isWay l C.2.2.2 σ x1 r h1) mw_c_X3_isWay mw_m_X3_67 mw_s_X3_isWay mw_in_X3 ok_X3_isWay ⟨rfl, rfl⟩ rfl hR hcs hl rfl hW hdg) hH.2 (fun H1 locs1 hH1 => kk r H1 locs1 hH1 h2)
end KL
set_option maxHeartbeats 4000000 in
set_option maxRecDepth 100000 in
theorem c_X3_pay (l : Launch) {D : va_G} {cy : Nat → ClassId} {ad : Nat → Nat} {A : Nat → Prop} (hD : ∀ σ, va_D A (gw cy ad σ)) (σ : GS) (x1 x2 x3 : Int32) (r0 : Int32) (σ0 : GS) (h : f_X3_pay σ x1 x2 x3 = some (r0, σ0)) : gMi l yX3_pay (wsM yX3_pay cX3_pay 5 (some .int)) ({ frames := 2, cells := 0, slots := 0, locals := 41 } : Room) D (gT cy) (gw cy ad) A [.ref (ad 0), .int x1, .int x2, .int x3] σ σ0 r0 := by
  refine gMi.of (own := RX3) rfl (by decide) (Nat.le_of_ble_eq_true rfl) hD ?_
  intro p e s m below meth c ls C hx hb hr hlk hH hl
  have hl : lv_has ls 5 [(0, .ref (ad 0)), (1, .int x1), (2, .int x2), (3, .int x3)] := hl
  unfold f_X3_pay at h
  refine lv_iload_n hx hb dX3_pay_0 rfl (lv_at hl 1 rfl) ?_
  refine kl_X3_67 C hH h ⟨by decide, by decide⟩ ⟨by decide, by decide⟩ hl.1 (Nat.le_of_ble_eq_true rfl) dX3_pay_1 (fun r1 H locs hH h => ?_)
  refine gb_if_eq (tgt := 26) hx hb dX3_pay_4 (by decide) h (fun h => ?_) (fun h => ?_)
  · refine lv_ldc (v := -100002) hx hb C.1.2.2.2.1 (C.1.2.2.2.2 _ mw_k_X3_71) dX3_pay_26 ?_
    exact g_iret hx hb hr hlk hH (Prod.mk.inj (Option.some.inj h)) dX3_pay_28
  · refine lv_iload_n hx hb dX3_pay_7 rfl (lv_at hl 2 rfl) ?_
    refine kl_X3_67 C hH h ⟨by decide, by decide⟩ ⟨by decide, by decide⟩ hl.1 (Nat.le_of_ble_eq_true rfl) dX3_pay_8 (fun r2 H locs hH h => ?_)
    refine gb_if_eq (tgt := 26) hx hb dX3_pay_11 (by decide) h (fun h => ?_) (fun h => ?_)
    · refine lv_ldc (v := -100002) hx hb C.1.2.2.2.1 (C.1.2.2.2.2 _ mw_k_X3_71) dX3_pay_26 ?_
      exact g_iret hx hb hr hlk hH (Prod.mk.inj (Option.some.inj h)) dX3_pay_28
    · refine lv_iload_n hx hb dX3_pay_14 rfl (lv_at hl 3 rfl) ?_
      refine lv_bipush (v := -9) hx hb dX3_pay_15 (by decide) ?_
      refine gb_icmp_lt (tgt := 26) hx hb dX3_pay_17 (by decide) h (fun h => ?_) (fun h => ?_)
      · refine lv_ldc (v := -100002) hx hb C.1.2.2.2.1 (C.1.2.2.2.2 _ mw_k_X3_71) dX3_pay_26 ?_
        exact g_iret hx hb hr hlk hH (Prod.mk.inj (Option.some.inj h)) dX3_pay_28
      · refine lv_iload_n hx hb dX3_pay_20 rfl (lv_at hl 3 rfl) ?_
        refine lv_bipush (v := 9) hx hb dX3_pay_21 (by decide) ?_
        refine gb_icmp_le (tgt := 29) hx hb dX3_pay_23 (by decide) h (fun h => ?_) (fun h => ?_)
        · refine lv_aload_n hx hb dX3_pay_29 rfl (lv_at hl 0 rfl) ?_
          refine gf_X3_10 C hH dX3_pay_30 ?_
          refine lv_iload_n hx hb dX3_pay_33 rfl (lv_at hl 1 rfl) ?_
          refine lv_iload_n hx hb dX3_pay_34 rfl (lv_at hl 2 rfl) ?_
          refine kl_X3_72 C hH h ⟨by decide, by decide⟩ ⟨by decide, by decide⟩ hl.1 (Nat.le_of_ble_eq_true rfl) dX3_pay_35 (fun r3 H locs hH h => ?_)
          refine lv_istore (lv' := [(4, .int r3), (0, .ref (ad 0)), (1, .int x1), (2, .int x2), (3, .int x3)]) hx hb dX3_pay_38 hl (by decide) rfl (fun ls hl => ?_)
          refine lv_aload_n hx hb dX3_pay_40 rfl (lv_at hl 1 rfl) ?_
          refine gf_X3_10 C hH dX3_pay_41 ?_
          refine lv_iload_n hx hb dX3_pay_44 rfl (lv_at hl 2 rfl) ?_
          refine lv_iload_n hx hb dX3_pay_45 rfl (lv_at hl 3 rfl) ?_
          refine lv_iload_n hx hb dX3_pay_46 rfl (lv_at hl 4 rfl) ?_
          refine kl_X3_75 C hH h ⟨by decide, by decide⟩ ⟨by decide, by decide⟩ hl.1 (Nat.le_of_ble_eq_true rfl) dX3_pay_47 (fun σ4 H locs hH h => ?_)
          refine lv_aload_n hx hb dX3_pay_50 rfl (lv_at hl 1 rfl) ?_
          refine kl_X3_52 C hH h ⟨by decide, by decide⟩ ⟨by decide, by decide⟩ hl.1 (Nat.le_of_ble_eq_true rfl) dX3_pay_51 (fun σ5 H locs hH h => ?_)
          refine lv_iload hx hb dX3_pay_54 (lv_at hl 0 rfl) ?_
          exact g_iret hx hb hr hlk hH (Prod.mk.inj (Option.some.inj h)) dX3_pay_56
        · refine lv_ldc (v := -100002) hx hb C.1.2.2.2.1 (C.1.2.2.2.2 _ mw_k_X3_71) dX3_pay_26 ?_
          exact g_iret hx hb hr hlk hH (Prod.mk.inj (Option.some.inj h)) dX3_pay_28
theorem ok_X3_pay : okName yX3_pay 3 := ⟨by decide, by decide, by decide +kernel⟩
set_option maxHeartbeats 4000000 in
set_option maxRecDepth 100000 in
theorem c_X3_bar (l : Launch) {D : va_G} {cy : Nat → ClassId} {ad : Nat → Nat} {A : Nat → Prop} (hD : ∀ σ, va_D A (gw cy ad σ)) (σ : GS) (x1 : Int32) (r0 : Int32) (σ0 : GS) (h : f_X3_bar σ x1 = some (r0, σ0)) : gMi l yX3_bar (wsM yX3_bar cX3_bar 3 (some .int)) ({ frames := 2, cells := 0, slots := 0, locals := 41 } : Room) D (gT cy) (gw cy ad) A [.ref (ad 0), .int x1] σ σ0 r0 := by
  refine gMi.of (own := RX3) rfl (by decide) (Nat.le_of_ble_eq_true rfl) hD ?_
  intro p e s m below meth c ls C hx hb hr hlk hH hl
  have hl : lv_has ls 3 [(0, .ref (ad 0)), (1, .int x1)] := hl
  unfold f_X3_bar at h
  refine lv_iload_n hx hb dX3_bar_0 rfl (lv_at hl 1 rfl) ?_
  refine gb_if_lt (tgt := 10) hx hb dX3_bar_1 (by decide) h (fun h => ?_) (fun h => ?_)
  · refine lv_bipush (v := -2) hx hb dX3_bar_10 (by decide) ?_
    exact g_iret hx hb hr hlk hH (Prod.mk.inj (Option.some.inj h)) dX3_bar_12
  · refine lv_iload_n hx hb dX3_bar_4 rfl (lv_at hl 1 rfl) ?_
    refine lv_bipush (v := 100) hx hb dX3_bar_5 (by decide) ?_
    refine gb_icmp_le (tgt := 13) hx hb dX3_bar_7 (by decide) h (fun h => ?_) (fun h => ?_)
    · refine lv_aload_n hx hb dX3_bar_13 rfl (lv_at hl 0 rfl) ?_
      refine gf_X3_10 C hH dX3_bar_14 ?_
      refine gf_X3_78 C hH dX3_bar_17 ?_
      refine lv_istore_n (lv' := [(2, .int (gbr σ)), (0, .ref (ad 0)), (1, .int x1)]) hx hb dX3_bar_20 rfl hl (by decide) rfl (fun ls hl => ?_)
      refine lv_aload_n hx hb dX3_bar_21 rfl (lv_at hl 1 rfl) ?_
      refine gf_X3_10 C hH dX3_bar_22 ?_
      refine lv_iload_n hx hb dX3_bar_25 rfl (lv_at hl 2 rfl) ?_
      refine pf_X3_78 C hH dX3_bar_26 (fun H locs hH => ?_)
      refine lv_aload_n hx hb dX3_bar_29 rfl (lv_at hl 1 rfl) ?_
      refine kl_X3_52 C hH h ⟨by decide, by decide⟩ ⟨by decide, by decide⟩ hl.1 (Nat.le_of_ble_eq_true rfl) dX3_bar_30 (fun σ1 H locs hH h => ?_)
      refine lv_iload_n hx hb dX3_bar_33 rfl (lv_at hl 0 rfl) ?_
      exact g_iret hx hb hr hlk hH (Prod.mk.inj (Option.some.inj h)) dX3_bar_34
    · refine lv_bipush (v := -2) hx hb dX3_bar_10 (by decide) ?_
      exact g_iret hx hb hr hlk hH (Prod.mk.inj (Option.some.inj h)) dX3_bar_12
theorem ok_X3_bar : okName yX3_bar 1 := ⟨by decide, by decide, by decide +kernel⟩
set_option maxHeartbeats 4000000 in
set_option maxRecDepth 100000 in
theorem c_X3_hold (l : Launch) {D : va_G} {cy : Nat → ClassId} {ad : Nat → Nat} {A : Nat → Prop} (hD : ∀ σ, va_D A (gw cy ad σ)) (σ : GS) (x1 x2 : Int32) (r0 : Int32) (σ0 : GS) (h : f_X3_hold σ x1 x2 = some (r0, σ0)) : gMi l yX3_hold (wsM yX3_hold cX3_hold 4 (some .int)) ({ frames := 1, cells := 0, slots := 0, locals := 21 } : Room) D (gT cy) (gw cy ad) A [.ref (ad 0), .int x1, .int x2] σ σ0 r0 := by
  refine gMi.of (own := RX3) rfl (by decide) (Nat.le_of_ble_eq_true rfl) hD ?_
  intro p e s m below meth c ls C hx hb hr hlk hH hl
  have hl : lv_has ls 4 [(0, .ref (ad 0)), (1, .int x1), (2, .int x2)] := hl
  unfold f_X3_hold at h
  refine lv_aload_n hx hb dX3_hold_0 rfl (lv_at hl 0 rfl) ?_
  refine gf_X3_10 C hH dX3_hold_1 ?_
  refine lv_iload_n hx hb dX3_hold_4 rfl (lv_at hl 1 rfl) ?_
  refine kl_X3_81 C hH h ⟨by decide, by decide⟩ ⟨by decide, by decide⟩ hl.1 (Nat.le_of_ble_eq_true rfl) dX3_hold_5 (fun r1 H locs hH h => ?_)
  refine gb_if_ne (tgt := 13) hx hb dX3_hold_8 (by decide) h (fun h => ?_) (fun h => ?_)
  · refine lv_iload_n hx hb dX3_hold_13 rfl (lv_at hl 1 rfl) ?_
    refine lv_aload_n hx hb dX3_hold_14 rfl (lv_at hl 0 rfl) ?_
    refine gf_X3_38 C hH dX3_hold_15 ?_
    refine kl_X3_84 C hH h ⟨by decide, by decide⟩ ⟨by decide, by decide⟩ hl.1 (Nat.le_of_ble_eq_true rfl) dX3_hold_18 (fun r2 H locs hH h => ?_)
    refine lv_istore_n (lv' := [(3, .int r2), (0, .ref (ad 0)), (1, .int x1), (2, .int x2)]) hx hb dX3_hold_21 rfl hl (by decide) rfl (fun ls hl => ?_)
    refine lv_aload_n hx hb dX3_hold_22 rfl (lv_at hl 1 rfl) ?_
    refine lv_iload_n hx hb dX3_hold_23 rfl (lv_at hl 3 rfl) ?_
    refine gb_if_eq (tgt := 38) hx hb dX3_hold_24 (by decide) h (fun h => ?_) (fun h => ?_)
    · refine lv_aload_n hx hb dX3_hold_38 rfl (lv_at hl 1 rfl) ?_
      refine gf_X3_38 C hH dX3_hold_39 ?_
      refine lv_iconst (v := 1) hx hb dX3_hold_42 (by decide) ?_
      refine lv_iload_n hx hb dX3_hold_43 rfl (lv_at hl 2 rfl) ?_
      refine lv_ishl hx hb dX3_hold_44 ?_
      refine lv_iconst (v := -1) hx hb dX3_hold_45 (by decide) ?_
      refine lv_ixor hx hb dX3_hold_46 ?_
      refine lv_iand hx hb dX3_hold_47 ?_
      refine pf_X3_38 C hH dX3_hold_48 (fun H locs hH => ?_)
      refine lv_iload_n hx hb dX3_hold_51 rfl (lv_at hl 0 rfl) ?_
      exact g_iret hx hb hr hlk hH (Prod.mk.inj (Option.some.inj h)) dX3_hold_52
    · refine lv_aload_n hx hb dX3_hold_27 rfl (lv_at hl 1 rfl) ?_
      refine gf_X3_38 C hH dX3_hold_28 ?_
      refine lv_iconst (v := 1) hx hb dX3_hold_31 (by decide) ?_
      refine lv_iload_n hx hb dX3_hold_32 rfl (lv_at hl 2 rfl) ?_
      refine lv_ishl hx hb dX3_hold_33 ?_
      refine lv_ior hx hb dX3_hold_34 ?_
      refine lv_goto (tgt := 48) hx hb dX3_hold_35 (by decide) ?_
      refine pf_X3_38 C hH dX3_hold_48 (fun H locs hH => ?_)
      refine lv_iload_n hx hb dX3_hold_51 rfl (lv_at hl 0 rfl) ?_
      exact g_iret hx hb hr hlk hH (Prod.mk.inj (Option.some.inj h)) dX3_hold_52
  · refine lv_iconst (v := -1) hx hb dX3_hold_11 (by decide) ?_
    exact g_iret hx hb hr hlk hH (Prod.mk.inj (Option.some.inj h)) dX3_hold_12
theorem ok_X3_hold : okName yX3_hold 2 := ⟨by decide, by decide, by decide +kernel⟩
set_option maxHeartbeats 4000000 in
set_option maxRecDepth 100000 in
theorem c_X3_state (l : Launch) {D : va_G} {cy : Nat → ClassId} {ad : Nat → Nat} {A : Nat → Prop} (hD : ∀ σ, va_D A (gw cy ad σ)) (σ : GS) (x1 : Int32) (r0 : Int32) (σ0 : GS) (h : f_X3_state σ x1 = some (r0, σ0)) : gMi l yX3_state (wsM yX3_state cX3_state 3 (some .int)) ({ frames := 2, cells := 0, slots := 0, locals := 41 } : Room) D (gT cy) (gw cy ad) A [.ref (ad 0), .int x1] σ σ0 r0 := by
  refine gMi.of (own := RX3) rfl (by decide) (Nat.le_of_ble_eq_true rfl) hD ?_
  intro p e s m below meth c ls C hx hb hr hlk hH hl
  have hl : lv_has ls 3 [(0, .ref (ad 0)), (1, .int x1)] := hl
  unfold f_X3_state at h
  refine lv_aload_n hx hb dX3_state_0 rfl (lv_at hl 0 rfl) ?_
  refine gf_X3_10 C hH dX3_state_1 ?_
  refine lv_iload_n hx hb dX3_state_4 rfl (lv_at hl 1 rfl) ?_
  refine kl_X3_87 C hH h ⟨by decide, by decide⟩ ⟨by decide, by decide⟩ hl.1 (Nat.le_of_ble_eq_true rfl) dX3_state_5 (fun r1 H locs hH h => ?_)
  refine gb_if_ne (tgt := 14) hx hb dX3_state_8 (by decide) h (fun h => ?_) (fun h => ?_)
  · refine lv_aload_n hx hb dX3_state_14 rfl (lv_at hl 0 rfl) ?_
    refine gf_X3_42 C hH dX3_state_15 ?_
    refine lv_istore_n (lv' := [(2, .int (gnw σ)), (0, .ref (ad 0)), (1, .int x1)]) hx hb dX3_state_18 rfl hl (by decide) rfl (fun ls hl => ?_)
    refine lv_aload_n hx hb dX3_state_19 rfl (lv_at hl 1 rfl) ?_
    refine lv_iload_n hx hb dX3_state_20 rfl (lv_at hl 2 rfl) ?_
    refine pf_X3_42 C hH dX3_state_21 (fun H locs hH => ?_)
    refine lv_iload_n hx hb dX3_state_24 rfl (lv_at hl 0 rfl) ?_
    exact g_iret hx hb hr hlk hH (Prod.mk.inj (Option.some.inj h)) dX3_state_25
  · refine lv_bipush (v := -2) hx hb dX3_state_11 (by decide) ?_
    exact g_iret hx hb hr hlk hH (Prod.mk.inj (Option.some.inj h)) dX3_state_13
theorem ok_X3_state : okName yX3_state 1 := ⟨by decide, by decide, by decide +kernel⟩
set_option maxHeartbeats 4000000 in
set_option maxRecDepth 100000 in
theorem c_X3_wage (l : Launch) {D : va_G} {cy : Nat → ClassId} {ad : Nat → Nat} {A : Nat → Prop} (hD : ∀ σ, va_D A (gw cy ad σ)) (σ : GS) (x1 x2 : Int32) (r0 : Int32) (h : f_X3_wage σ x1 x2 = some r0) : gMi l yX3_wage (wsM yX3_wage cX3_wage 3 (some .int)) ({ frames := 2, cells := 0, slots := 0, locals := 49 } : Room) D (gT cy) (gw cy ad) A [.ref (ad 0), .int x1, .int x2] σ σ r0 := by
  refine gMi.of (own := RX3) rfl (by decide) (Nat.le_of_ble_eq_true rfl) hD ?_
  intro p e s m below meth c ls C hx hb hr hlk hH hl
  have hl : lv_has ls 3 [(0, .ref (ad 0)), (1, .int x1), (2, .int x2)] := hl
  unfold f_X3_wage at h
  refine lv_aload_n hx hb dX3_wage_0 rfl (lv_at hl 0 rfl) ?_
  refine gf_X3_10 C hH dX3_wage_1 ?_
  refine lv_iload_n hx hb dX3_wage_4 rfl (lv_at hl 1 rfl) ?_
  refine kl_X3_81 C hH h ⟨by decide, by decide⟩ ⟨by decide, by decide⟩ hl.1 (Nat.le_of_ble_eq_true rfl) dX3_wage_5 (fun r1 H locs hH h => ?_)
  refine gb_if_ne (tgt := 14) hx hb dX3_wage_8 (by decide) h (fun h => ?_) (fun h => ?_)
  · refine lv_iload_n hx hb dX3_wage_14 rfl (lv_at hl 2 rfl) ?_
    refine gb_if_eq (tgt := 26) hx hb dX3_wage_15 (by decide) h (fun h => ?_) (fun h => ?_)
    · refine lv_aload_n hx hb dX3_wage_26 rfl (lv_at hl 0 rfl) ?_
      refine gf_X3_10 C hH dX3_wage_27 ?_
      refine lv_iload_n hx hb dX3_wage_30 rfl (lv_at hl 1 rfl) ?_
      refine lv_iload_n hx hb dX3_wage_31 rfl (lv_at hl 1 rfl) ?_
      refine lv_aload_n hx hb dX3_wage_32 rfl (lv_at hl 0 rfl) ?_
      refine gf_X3_42 C hH dX3_wage_33 ?_
      refine kl_X3_84 C hH h ⟨by decide, by decide⟩ ⟨by decide, by decide⟩ hl.1 (Nat.le_of_ble_eq_true rfl) dX3_wage_36 (fun r2 H locs hH h => ?_)
      refine lv_iload_n hx hb dX3_wage_39 rfl (lv_at hl 2 rfl) ?_
      refine lv_ixor hx hb dX3_wage_40 ?_
      refine lv_aload_n hx hb dX3_wage_41 rfl (lv_at hl 0 rfl) ?_
      refine gf_X3_42 C hH dX3_wage_42 ?_
      refine kl_X3_91 C hH h ⟨by decide, by decide⟩ ⟨by decide, by decide⟩ hl.1 (Nat.le_of_ble_eq_true rfl) dX3_wage_45 (fun r3 H locs hH h => ?_)
      exact g_iret hx hb hr hlk hH ⟨Option.some.inj h, rfl⟩ dX3_wage_48
    · refine lv_iload_n hx hb dX3_wage_18 rfl (lv_at hl 2 rfl) ?_
      refine lv_iconst (v := 1) hx hb dX3_wage_19 (by decide) ?_
      refine gb_icmp_eq (tgt := 26) hx hb dX3_wage_20 (by decide) h (fun h => ?_) (fun h => ?_)
      · refine lv_aload_n hx hb dX3_wage_26 rfl (lv_at hl 0 rfl) ?_
        refine gf_X3_10 C hH dX3_wage_27 ?_
        refine lv_iload_n hx hb dX3_wage_30 rfl (lv_at hl 1 rfl) ?_
        refine lv_iload_n hx hb dX3_wage_31 rfl (lv_at hl 1 rfl) ?_
        refine lv_aload_n hx hb dX3_wage_32 rfl (lv_at hl 0 rfl) ?_
        refine gf_X3_42 C hH dX3_wage_33 ?_
        refine kl_X3_84 C hH h ⟨by decide, by decide⟩ ⟨by decide, by decide⟩ hl.1 (Nat.le_of_ble_eq_true rfl) dX3_wage_36 (fun r4 H locs hH h => ?_)
        refine lv_iload_n hx hb dX3_wage_39 rfl (lv_at hl 2 rfl) ?_
        refine lv_ixor hx hb dX3_wage_40 ?_
        refine lv_aload_n hx hb dX3_wage_41 rfl (lv_at hl 0 rfl) ?_
        refine gf_X3_42 C hH dX3_wage_42 ?_
        refine kl_X3_91 C hH h ⟨by decide, by decide⟩ ⟨by decide, by decide⟩ hl.1 (Nat.le_of_ble_eq_true rfl) dX3_wage_45 (fun r5 H locs hH h => ?_)
        exact g_iret hx hb hr hlk hH ⟨Option.some.inj h, rfl⟩ dX3_wage_48
      · refine lv_ldc (v := -100002) hx hb C.1.2.2.2.1 (C.1.2.2.2.2 _ mw_k_X3_71) dX3_wage_23 ?_
        exact g_iret hx hb hr hlk hH ⟨Option.some.inj h, rfl⟩ dX3_wage_25
  · refine lv_ldc (v := -100001) hx hb C.1.2.2.2.1 (C.1.2.2.2.2 _ mw_k_X3_90) dX3_wage_11 ?_
    exact g_iret hx hb hr hlk hH ⟨Option.some.inj h, rfl⟩ dX3_wage_13
theorem ok_X3_wage : okName yX3_wage 2 := ⟨by decide, by decide, by decide +kernel⟩
set_option maxHeartbeats 4000000 in
set_option maxRecDepth 100000 in
theorem c_X3_sum (l : Launch) {D : va_G} {cy : Nat → ClassId} {ad : Nat → Nat} {A : Nat → Prop} (hD : ∀ σ, va_D A (gw cy ad σ)) (σ : GS) (r0 : Int32) (h : f_X3_sum σ = some r0) : gMi l yX3_sum (wsM yX3_sum cX3_sum 3 (some .int)) ({ frames := 2, cells := 0, slots := 0, locals := 49 } : Room) D (gT cy) (gw cy ad) A [.ref (ad 0)] σ σ r0 := by
  refine gMi.of (own := RX3) rfl (by decide) (Nat.le_of_ble_eq_true rfl) hD ?_
  intro p e s m below meth c ls C hx hb hr hlk hH hl
  have hl : lv_has ls 3 [(0, .ref (ad 0))] := hl
  unfold f_X3_sum at h
  refine lv_iconst (v := 0) hx hb dX3_sum_0 (by decide) ?_
  refine lv_istore_n (lv' := [(1, .int (0)), (0, .ref (ad 0))]) hx hb dX3_sum_1 rfl hl (by decide) rfl (fun ls hl => ?_)
  refine lv_iconst (v := 0) hx hb dX3_sum_2 (by decide) ?_
  refine lv_istore_n (lv' := [(2, .int (0)), (1, .int (0)), (0, .ref (ad 0))]) hx hb dX3_sum_3 rfl hl (by decide) rfl (fun ls hl => ?_)
  have L4 : ∀ (n : Nat) (y4_1 : Int32) (y4_2 : Int32) (H : Heap) (locs : List Loc) (ls : Array Slot), gH s D (gw cy ad) A σ H locs → lv_has ls 3 [(0, .ref (ad 0)), (1, .int y4_1), (2, .int y4_2)] → ∀ X, itr (f_X3_sum_b4 σ) n (y4_1, y4_2) = some X → (∀ (z4_0_1 : Int32) (H : Heap) (locs : List Loc) (ls : Array Slot), gH s D (gw cy ad) A σ H locs → lv_has ls 3 [(1, .int z4_0_1)] → X = z4_0_1 → W p l e ({ frames := 2, cells := 0, slots := 0, locals := 49 } : Room) s m [.ref (ad 0)].toArray below meth c H locs 0 0 (MQ below (gQi D (gw cy ad) A σ r0) [.ref (ad 0)].toArray s 0 0 A) (F0 m 44 ls [])) → W p l e ({ frames := 2, cells := 0, slots := 0, locals := 49 } : Room) s m [.ref (ad 0)].toArray below meth c H locs 0 0 (MQ below (gQi D (gw cy ad) A σ r0) [.ref (ad 0)].toArray s 0 0 A) (F0 m 4 ls []) := by
    intro n
    induction n with
    | zero =>
      intro y4_1 y4_2 H locs ls hH hl X h K
      exact itr_0 h
    | succ n ih =>
      intro y4_1 y4_2 H locs ls hH hl X h0 K
      obtain ⟨o, h, h2⟩ := itr_step h0
      unfold f_X3_sum_b4 at h
      refine lv_iload_n hx hb dX3_sum_4 rfl (lv_at hl 2 rfl) ?_
      refine lv_aload_n hx hb dX3_sum_5 rfl (lv_at hl 0 rfl) ?_
      refine gf_X3_10 C hH dX3_sum_6 ?_
      refine gf_X3_45 C hH dX3_sum_9 ?_
      refine gb_icmp_ge (tgt := 44) hx hb dX3_sum_12 (by decide) h (fun h => ?_) (fun h => ?_)
      · exact K _ _ _ _ hH (lv_sub hl [1] rfl) (nxt_r h h2)
      · refine lv_iload_n hx hb dX3_sum_15 rfl (lv_at hl 1 rfl) ?_
        refine lv_aload_n hx hb dX3_sum_16 rfl (lv_at hl 0 rfl) ?_
        refine gf_X3_10 C hH dX3_sum_17 ?_
        refine lv_iload_n hx hb dX3_sum_20 rfl (lv_at hl 2 rfl) ?_
        refine lv_iload_n hx hb dX3_sum_21 rfl (lv_at hl 2 rfl) ?_
        refine lv_aload_n hx hb dX3_sum_22 rfl (lv_at hl 0 rfl) ?_
        refine gf_X3_42 C hH dX3_sum_23 ?_
        refine kl_X3_84 C hH h ⟨by decide, by decide⟩ ⟨by decide, by decide⟩ hl.1 (Nat.le_of_ble_eq_true rfl) dX3_sum_26 (fun r1 H locs hH h => ?_)
        refine lv_aload_n hx hb dX3_sum_29 rfl (lv_at hl 0 rfl) ?_
        refine gf_X3_42 C hH dX3_sum_30 ?_
        refine kl_X3_91 C hH h ⟨by decide, by decide⟩ ⟨by decide, by decide⟩ hl.1 (Nat.le_of_ble_eq_true rfl) dX3_sum_33 (fun r2 H locs hH h => ?_)
        refine lv_iadd hx hb dX3_sum_36 ?_
        refine lv_istore_n (lv' := [(1, .int (y4_1 + r2)), (0, .ref (ad 0)), (2, .int y4_2)]) hx hb dX3_sum_37 rfl hl (by decide) rfl (fun ls hl => ?_)
        refine lv_iinc (v := (y4_2 + (1 : Int32))) (lv' := [(2, .int (y4_2 + (1 : Int32))), (1, .int (y4_1 + r2)), (0, .ref (ad 0))]) hx hb dX3_sum_38 hl (k := 2) rfl rfl (by decide) rfl (fun ls hl => ?_)
        refine lv_goto (tgt := 4) hx hb dX3_sum_41 (by decide) ?_
        exact ih _ _ _ _ _ hH (lv_sub hl [2, 1, 0] rfl) X (nxt_l h h2) K
  obtain ⟨X4, hX4, h⟩ := bnd h
  refine L4 FU ((0 : Int32)) ((0 : Int32)) _ _ _ hH (lv_sub hl [2, 1, 0] rfl) X4 hX4 ?_
  intro z4_0_1 H locs ls hH hl hE
  replace hE := hE.symm
  subst hE
  refine lv_iload_n hx hb dX3_sum_44 rfl (lv_at hl 0 rfl) ?_
  exact g_iret hx hb hr hlk hH ⟨Option.some.inj h, rfl⟩ dX3_sum_45
theorem ok_X3_sum : okName yX3_sum 0 := ⟨by decide, by decide, by decide +kernel⟩
set_option maxHeartbeats 4000000 in
set_option maxRecDepth 100000 in
theorem c_X3_isRule (l : Launch) {D : va_G} {cy : Nat → ClassId} {ad : Nat → Nat} {A : Nat → Prop} (hD : ∀ σ, va_D A (gw cy ad σ)) (σ : GS) (x0 : Int32) (r0 : Int32) (h : f_X3_isRule x0 = some r0) : gMi l yX3_isRule (wsM yX3_isRule cX3_isRule 1 (some .boolean)) ({ frames := 0, cells := 0, slots := 0, locals := 0 } : Room) D (gT cy) (gw cy ad) A [.int x0] σ σ r0 := by
  refine gMi.of (own := RX3) rfl (by decide) (Nat.le_of_ble_eq_true rfl) hD ?_
  intro p e s m below meth c ls C hx hb hr hlk hH hl
  have hl : lv_has ls 1 [(0, .int x0)] := hl
  unfold f_X3_isRule at h
  refine lv_iload_n hx hb dX3_isRule_0 rfl (lv_at hl 0 rfl) ?_
  refine gb_if_lt (tgt := 13) hx hb dX3_isRule_1 (by decide) h (fun h => ?_) (fun h => ?_)
  · refine lv_iconst (v := 0) hx hb dX3_isRule_13 (by decide) ?_
    exact g_zret hx hb hr hlk hH ⟨Option.some.inj h, rfl⟩ rfl dX3_isRule_14
  · refine lv_iload_n hx hb dX3_isRule_4 rfl (lv_at hl 0 rfl) ?_
    refine lv_iconst (v := 3) hx hb dX3_isRule_5 (by decide) ?_
    refine gb_icmp_gt (tgt := 13) hx hb dX3_isRule_6 (by decide) h (fun h => ?_) (fun h => ?_)
    · refine lv_iconst (v := 0) hx hb dX3_isRule_13 (by decide) ?_
      exact g_zret hx hb hr hlk hH ⟨Option.some.inj h, rfl⟩ rfl dX3_isRule_14
    · refine lv_iconst (v := 1) hx hb dX3_isRule_9 (by decide) ?_
      refine lv_goto (tgt := 14) hx hb dX3_isRule_10 (by decide) ?_
      exact g_zret hx hb hr hlk hH ⟨Option.some.inj h, rfl⟩ rfl dX3_isRule_14
theorem ok_X3_isRule : okName yX3_isRule 1 := ⟨by decide, by decide, by decide +kernel⟩
section KL
variable {p : Program} {l : Launch} {e : Env} {R : Room} {s : State} {m : MethodId} {args : Array Value} {below : List Frame} {meth : Method} {c : Code} {H : Heap} {locs : List Loc} {cells slots : Nat} {Q : State → Prop} {cc : ByteArray} {pc nL : Nat} {ls : Array Slot} {rest : List Value}
variable {A : Nat → Prop} {D : va_G} {cy : Nat → ClassId} {ad : Nat → Nat}
theorem kl_X3_95 (C : gC p m c cc nL s args RX3 D (gT cy) (gw cy ad) A) {σ : GS} (hH : gH s D (gw cy ad) A σ H locs) {x1 : Int32} {α : Type} {k : Int32 → Option α} {y : α} (h : (f_X3_isRule x1).bind k = some y) (hR : 1 ≤ R.frames ∧ 20 ≤ R.locals) (hcs : cells ≤ R.cells ∧ slots ≤ R.slots) (hl : ls.size = nL) (hW : (rest.map fun v => v.category).sum ≤ 8) (hdg : decode cc pc = .ok (.invokestatic 95, 3)) (kk : ∀ (r : Int32) (H1 : Heap) (locs1 : List Loc), gH s D (gw cy ad) A σ H1 locs1 → k r = some y → W p l e R s m args below meth c H1 locs1 cells slots Q (F0 m (pc + 3) ls (.int r :: rest))) : W p l e R s m args below meth c H locs cells slots Q (F0 m pc ls (.int x1 :: rest)) := by
  obtain ⟨r, h1, h2⟩ := bnd h
  exact g_fi (g_rS (As := [.int x1]) C hH (c_X3_isRule l C.2.2.2 σ x1 r h1) mw_c_X3_isRule mw_m_X3_95 mw_s_X3_isRule mw_in_X3 ok_X3_isRule ⟨rfl, rfl⟩ rfl hR hcs hl rfl hW hdg) hH.2 (fun H1 locs1 hH1 => kk r H1 locs1 hH1 h2)
end KL
set_option maxHeartbeats 4000000 in
set_option maxRecDepth 100000 in
theorem c_X3_step (l : Launch) {D : va_G} {cy : Nat → ClassId} {ad : Nat → Nat} {A : Nat → Prop} (hD : ∀ σ, va_D A (gw cy ad σ)) (σ : GS) (x1 x2 : Int32) (r0 : Int32) (σ0 : GS) (h : f_X3_step σ x1 x2 = some (r0, σ0)) : gMi l yX3_step (wsM yX3_step cX3_step 4 (some .int)) ({ frames := 5, cells := 0, slots := 0, locals := 123 } : Room) D (gT cy) (gw cy ad) A [.ref (ad 0), .int x1, .int x2] σ σ0 r0 := by
  refine gMi.of (own := RX3) rfl (by decide) (Nat.le_of_ble_eq_true rfl) hD ?_
  intro p e s m below meth c ls C hx hb hr hlk hH hl
  have hl : lv_has ls 4 [(0, .ref (ad 0)), (1, .int x1), (2, .int x2)] := hl
  unfold f_X3_step at h
  refine lv_iload_n hx hb dX3_step_0 rfl (lv_at hl 1 rfl) ?_
  refine kl_X3_95 C hH h ⟨by decide, by decide⟩ ⟨by decide, by decide⟩ hl.1 (Nat.le_of_ble_eq_true rfl) dX3_step_1 (fun r1 H locs hH h => ?_)
  refine gb_if_eq (tgt := 18) hx hb dX3_step_4 (by decide) h (fun h => ?_) (fun h => ?_)
  · refine lv_bipush (v := -2) hx hb dX3_step_18 (by decide) ?_
    exact g_iret hx hb hr hlk hH (Prod.mk.inj (Option.some.inj h)) dX3_step_20
  · refine lv_iload_n hx hb dX3_step_7 rfl (lv_at hl 2 rfl) ?_
    refine lv_iconst (v := 1) hx hb dX3_step_8 (by decide) ?_
    refine gb_icmp_lt (tgt := 18) hx hb dX3_step_9 (by decide) h (fun h => ?_) (fun h => ?_)
    · refine lv_bipush (v := -2) hx hb dX3_step_18 (by decide) ?_
      exact g_iret hx hb hr hlk hH (Prod.mk.inj (Option.some.inj h)) dX3_step_20
    · refine lv_iload_n hx hb dX3_step_12 rfl (lv_at hl 2 rfl) ?_
      refine lv_bipush (v := 100) hx hb dX3_step_13 (by decide) ?_
      refine gb_icmp_le (tgt := 21) hx hb dX3_step_15 (by decide) h (fun h => ?_) (fun h => ?_)
      · refine lv_iconst (v := 0) hx hb dX3_step_21 (by decide) ?_
        refine lv_istore_n (lv' := [(3, .int (0)), (0, .ref (ad 0)), (1, .int x1), (2, .int x2)]) hx hb dX3_step_22 rfl hl (by decide) rfl (fun ls hl => ?_)
        have L23 : ∀ (n : Nat) (y23_3 : Int32) (σ23 : GS) (H : Heap) (locs : List Loc) (ls : Array Slot), gH s D (gw cy ad) A σ23 H locs → lv_has ls 4 [(0, .ref (ad 0)), (1, .int x1), (2, .int x2), (3, .int y23_3)] → ∀ X, itr (f_X3_step_b23 x2 x1) n (y23_3, σ23) = some X → (∀ (σz23_0 : GS) (H : Heap) (locs : List Loc) (ls : Array Slot), gH s D (gw cy ad) A σz23_0 H locs → lv_has ls 4 [(0, .ref (ad 0))] → X = σz23_0 → W p l e ({ frames := 5, cells := 0, slots := 0, locals := 123 } : Room) s m [.ref (ad 0), .int x1, .int x2].toArray below meth c H locs 0 0 (MQ below (gQi D (gw cy ad) A σ0 r0) [.ref (ad 0), .int x1, .int x2].toArray s 0 0 A) (F0 m 54 ls [])) → W p l e ({ frames := 5, cells := 0, slots := 0, locals := 123 } : Room) s m [.ref (ad 0), .int x1, .int x2].toArray below meth c H locs 0 0 (MQ below (gQi D (gw cy ad) A σ0 r0) [.ref (ad 0), .int x1, .int x2].toArray s 0 0 A) (F0 m 23 ls []) := by
          intro n
          induction n with
          | zero =>
            intro y23_3 σ23 H locs ls hH hl X h K
            exact itr_0 h
          | succ n ih =>
            intro y23_3 σ23 H locs ls hH hl X h0 K
            obtain ⟨o, h, h2⟩ := itr_step h0
            unfold f_X3_step_b23 at h
            refine lv_iload_n hx hb dX3_step_23 rfl (lv_at hl 3 rfl) ?_
            refine lv_iload_n hx hb dX3_step_24 rfl (lv_at hl 2 rfl) ?_
            refine gb_icmp_ge (tgt := 54) hx hb dX3_step_25 (by decide) h (fun h => ?_) (fun h => ?_)
            · exact K _ _ _ _ hH (lv_sub hl [0] rfl) (nxt_r h h2)
            · refine lv_aload_n hx hb dX3_step_28 rfl (lv_at hl 0 rfl) ?_
              refine lv_aload_n hx hb dX3_step_29 rfl (lv_at hl 0 rfl) ?_
              refine gf_X3_21 C hH dX3_step_30 ?_
              refine lv_iload_n hx hb dX3_step_33 rfl (lv_at hl 1 rfl) ?_
              refine lv_aload_n hx hb dX3_step_34 rfl (lv_at hl 0 rfl) ?_
              refine gf_X3_38 C hH dX3_step_35 ?_
              refine lv_aload_n hx hb dX3_step_38 rfl (lv_at hl 0 rfl) ?_
              refine gf_X3_42 C hH dX3_step_39 ?_
              refine kl_X3_98 C hH h ⟨by decide, by decide⟩ ⟨by decide, by decide⟩ hl.1 (Nat.le_of_ble_eq_true rfl) dX3_step_42 (fun r2 σ2 H locs hH h => ?_)
              refine pf_X3_42 C hH dX3_step_45 (fun H locs hH => ?_)
              refine lv_iinc (v := (y23_3 + (1 : Int32))) (lv' := [(3, .int (y23_3 + (1 : Int32))), (0, .ref (ad 0)), (1, .int x1), (2, .int x2)]) hx hb dX3_step_48 hl (k := 3) rfl rfl (by decide) rfl (fun ls hl => ?_)
              refine lv_goto (tgt := 23) hx hb dX3_step_51 (by decide) ?_
              exact ih _ _ _ _ _ hH (lv_sub hl [1, 2, 3, 0] rfl) X (nxt_l h h2) K
        obtain ⟨X23, hX23, h⟩ := bnd h
        refine L23 FU ((0 : Int32)) σ _ _ _ hH (lv_sub hl [1, 2, 3, 0] rfl) X23 hX23 ?_
        intro σz23_0 H locs ls hH hl hE
        replace hE := hE.symm
        subst hE
        refine lv_aload_n hx hb dX3_step_54 rfl (lv_at hl 0 rfl) ?_
        refine gf_X3_42 C hH dX3_step_55 ?_
        exact g_iret hx hb hr hlk hH (Prod.mk.inj (Option.some.inj h)) dX3_step_58
      · refine lv_bipush (v := -2) hx hb dX3_step_18 (by decide) ?_
        exact g_iret hx hb hr hlk hH (Prod.mk.inj (Option.some.inj h)) dX3_step_20
theorem ok_X3_step : okName yX3_step 2 := ⟨by decide, by decide, by decide +kernel⟩
set_option maxHeartbeats 4000000 in
set_option maxRecDepth 100000 in
theorem c_X3_after (l : Launch) {D : va_G} {cy : Nat → ClassId} {ad : Nat → Nat} {A : Nat → Prop} (hD : ∀ σ, va_D A (gw cy ad σ)) (σ : GS) (x1 x2 : Int32) (r0 : Int32) (σ0 : GS) (h : f_X3_after σ x1 x2 = some (r0, σ0)) : gMi l yX3_after (wsM yX3_after cX3_after 3 (some .int)) ({ frames := 5, cells := 0, slots := 0, locals := 123 } : Room) D (gT cy) (gw cy ad) A [.ref (ad 0), .int x1, .int x2] σ σ0 r0 := by
  refine gMi.of (own := RX3) rfl (by decide) (Nat.le_of_ble_eq_true rfl) hD ?_
  intro p e s m below meth c ls C hx hb hr hlk hH hl
  have hl : lv_has ls 3 [(0, .ref (ad 0)), (1, .int x1), (2, .int x2)] := hl
  unfold f_X3_after at h
  refine lv_iload_n hx hb dX3_after_0 rfl (lv_at hl 1 rfl) ?_
  refine kl_X3_95 C hH h ⟨by decide, by decide⟩ ⟨by decide, by decide⟩ hl.1 (Nat.le_of_ble_eq_true rfl) dX3_after_1 (fun r1 H locs hH h => ?_)
  refine gb_if_eq (tgt := 34) hx hb dX3_after_4 (by decide) h (fun h => ?_) (fun h => ?_)
  · refine lv_bipush (v := -2) hx hb dX3_after_34 (by decide) ?_
    exact g_iret hx hb hr hlk hH (Prod.mk.inj (Option.some.inj h)) dX3_after_36
  · refine lv_aload_n hx hb dX3_after_7 rfl (lv_at hl 0 rfl) ?_
    refine gf_X3_10 C hH dX3_after_8 ?_
    refine lv_iload_n hx hb dX3_after_11 rfl (lv_at hl 2 rfl) ?_
    refine kl_X3_87 C hH h ⟨by decide, by decide⟩ ⟨by decide, by decide⟩ hl.1 (Nat.le_of_ble_eq_true rfl) dX3_after_12 (fun r2 H locs hH h => ?_)
    refine gb_if_eq (tgt := 34) hx hb dX3_after_15 (by decide) h (fun h => ?_) (fun h => ?_)
    · refine lv_bipush (v := -2) hx hb dX3_after_34 (by decide) ?_
      exact g_iret hx hb hr hlk hH (Prod.mk.inj (Option.some.inj h)) dX3_after_36
    · refine lv_aload_n hx hb dX3_after_18 rfl (lv_at hl 0 rfl) ?_
      refine gf_X3_21 C hH dX3_after_19 ?_
      refine lv_iload_n hx hb dX3_after_22 rfl (lv_at hl 1 rfl) ?_
      refine lv_aload_n hx hb dX3_after_23 rfl (lv_at hl 0 rfl) ?_
      refine gf_X3_38 C hH dX3_after_24 ?_
      refine lv_iload_n hx hb dX3_after_27 rfl (lv_at hl 2 rfl) ?_
      refine kl_X3_98 C hH h ⟨by decide, by decide⟩ ⟨by decide, by decide⟩ hl.1 (Nat.le_of_ble_eq_true rfl) dX3_after_28 (fun r3 σ3 H locs hH h => ?_)
      refine lv_goto (tgt := 36) hx hb dX3_after_31 (by decide) ?_
      exact g_iret hx hb hr hlk hH (Prod.mk.inj (Option.some.inj h)) dX3_after_36
theorem ok_X3_after : okName yX3_after 2 := ⟨by decide, by decide, by decide +kernel⟩
set_option maxHeartbeats 4000000 in
set_option maxRecDepth 100000 in
theorem c_X3_goes (l : Launch) {D : va_G} {cy : Nat → ClassId} {ad : Nat → Nat} {A : Nat → Prop} (hD : ∀ σ, va_D A (gw cy ad σ)) (σ : GS) (x1 x2 : Int32) (r0 : Int32) (σ0 : GS) (h : f_X3_goes σ x1 x2 = some (r0, σ0)) : gMi l yX3_goes (wsM yX3_goes cX3_goes 3 (some .int)) ({ frames := 6, cells := 0, slots := 0, locals := 147 } : Room) D (gT cy) (gw cy ad) A [.ref (ad 0), .int x1, .int x2] σ σ0 r0 := by
  refine gMi.of (own := RX3) rfl (by decide) (Nat.le_of_ble_eq_true rfl) hD ?_
  intro p e s m below meth c ls C hx hb hr hlk hH hl
  have hl : lv_has ls 3 [(0, .ref (ad 0)), (1, .int x1), (2, .int x2)] := hl
  unfold f_X3_goes at h
  refine lv_iload_n hx hb dX3_goes_0 rfl (lv_at hl 1 rfl) ?_
  refine kl_X3_95 C hH h ⟨by decide, by decide⟩ ⟨by decide, by decide⟩ hl.1 (Nat.le_of_ble_eq_true rfl) dX3_goes_1 (fun r1 H locs hH h => ?_)
  refine gb_if_eq (tgt := 16) hx hb dX3_goes_4 (by decide) h (fun h => ?_) (fun h => ?_)
  · refine lv_bipush (v := -2) hx hb dX3_goes_16 (by decide) ?_
    exact g_iret hx hb hr hlk hH (Prod.mk.inj (Option.some.inj h)) dX3_goes_18
  · refine lv_iload_n hx hb dX3_goes_7 rfl (lv_at hl 2 rfl) ?_
    refine gb_if_lt (tgt := 16) hx hb dX3_goes_8 (by decide) h (fun h => ?_) (fun h => ?_)
    · refine lv_bipush (v := -2) hx hb dX3_goes_16 (by decide) ?_
      exact g_iret hx hb hr hlk hH (Prod.mk.inj (Option.some.inj h)) dX3_goes_18
    · refine lv_iload_n hx hb dX3_goes_11 rfl (lv_at hl 2 rfl) ?_
      refine lv_iconst (v := 3) hx hb dX3_goes_12 (by decide) ?_
      refine gb_icmp_le (tgt := 19) hx hb dX3_goes_13 (by decide) h (fun h => ?_) (fun h => ?_)
      · refine lv_aload_n hx hb dX3_goes_19 rfl (lv_at hl 0 rfl) ?_
        refine gf_X3_30 C hH dX3_goes_20 ?_
        refine lv_iload_n hx hb dX3_goes_23 rfl (lv_at hl 1 rfl) ?_
        refine lv_aload_n hx hb dX3_goes_24 rfl (lv_at hl 0 rfl) ?_
        refine gf_X3_38 C hH dX3_goes_25 ?_
        refine lv_aload_n hx hb dX3_goes_28 rfl (lv_at hl 0 rfl) ?_
        refine gf_X3_42 C hH dX3_goes_29 ?_
        refine kl_X3_101 C hH h ⟨by decide, by decide⟩ ⟨by decide, by decide⟩ hl.1 (Nat.le_of_ble_eq_true rfl) dX3_goes_32 (fun σ2 H locs hH h => ?_)
        refine lv_iload_n hx hb dX3_goes_35 rfl (lv_at hl 2 rfl) ?_
        refine gb_sw h (fun c0 h => ?_) (fun c0 h => ?_)
        · refine lv_tableIn (tgt := 64) (off := 28) hx hb dX3_goes_36 (by rw [c0]; decide) (by rw [c0]; decide) (by rw [c0]; rfl) (by decide) ?_
          refine lv_aload_n hx hb dX3_goes_64 rfl (lv_at hl 0 rfl) ?_
          refine gf_X3_30 C hH dX3_goes_65 ?_
          refine gf_X3_104 C hH dX3_goes_68 ?_
          refine lv_aload_n hx hb dX3_goes_71 rfl (lv_at hl 0 rfl) ?_
          refine gf_X3_42 C hH dX3_goes_72 ?_
          refine gal_ta C hH h dX3_goes_75 (fun h => ?_)
          exact g_iret hx hb hr hlk hH (Prod.mk.inj (Option.some.inj h)) dX3_goes_76
        · refine gb_sw h (fun c1 h => ?_) (fun c1 h => ?_)
          · refine lv_tableIn (tgt := 77) (off := 41) hx hb dX3_goes_36 (by rw [c1]; decide) (by rw [c1]; decide) (by rw [c1]; rfl) (by decide) ?_
            refine lv_aload_n hx hb dX3_goes_77 rfl (lv_at hl 0 rfl) ?_
            refine gf_X3_30 C hH dX3_goes_78 ?_
            refine lv_aload_n hx hb dX3_goes_81 rfl (lv_at hl 0 rfl) ?_
            refine gf_X3_30 C hH dX3_goes_82 ?_
            refine gf_X3_107 C hH dX3_goes_85 ?_
            refine lv_aload_n hx hb dX3_goes_88 rfl (lv_at hl 0 rfl) ?_
            refine gf_X3_42 C hH dX3_goes_89 ?_
            refine gal_en C hH h dX3_goes_92 (fun h => ?_)
            refine kl_X3_110 C hH h ⟨by decide, by decide⟩ ⟨by decide, by decide⟩ hl.1 (Nat.le_of_ble_eq_true rfl) dX3_goes_93 (fun r3 H locs hH h => ?_)
            exact g_iret hx hb hr hlk hH (Prod.mk.inj (Option.some.inj h)) dX3_goes_96
          · refine gb_sw h (fun c2 h => ?_) (fun c2 h => ?_)
            · refine lv_tableIn (tgt := 97) (off := 61) hx hb dX3_goes_36 (by rw [c2]; decide) (by rw [c2]; decide) (by rw [c2]; rfl) (by decide) ?_
              refine lv_aload_n hx hb dX3_goes_97 rfl (lv_at hl 0 rfl) ?_
              refine gf_X3_30 C hH dX3_goes_98 ?_
              refine gf_X3_107 C hH dX3_goes_101 ?_
              refine lv_aload_n hx hb dX3_goes_104 rfl (lv_at hl 0 rfl) ?_
              refine gf_X3_42 C hH dX3_goes_105 ?_
              refine gal_en C hH h dX3_goes_108 (fun h => ?_)
              exact g_iret hx hb hr hlk hH (Prod.mk.inj (Option.some.inj h)) dX3_goes_109
            · refine lv_tableOut (tgt := 110) hx hb dX3_goes_36 (by have q0 := lv_neT c0 (a := 0) (by decide); have q1 := lv_neT c1 (a := 1) (by decide); have q2 := lv_neT c2 (a := 2) (by decide); omega) (by decide) ?_
              refine lv_aload_n hx hb dX3_goes_110 rfl (lv_at hl 0 rfl) ?_
              refine gf_X3_30 C hH dX3_goes_111 ?_
              refine lv_aload_n hx hb dX3_goes_114 rfl (lv_at hl 0 rfl) ?_
              refine gf_X3_42 C hH dX3_goes_115 ?_
              refine kl_X3_114 C hH h ⟨by decide, by decide⟩ ⟨by decide, by decide⟩ hl.1 (Nat.le_of_ble_eq_true rfl) dX3_goes_118 (fun r4 H locs hH h => ?_)
              exact g_iret hx hb hr hlk hH (Prod.mk.inj (Option.some.inj h)) dX3_goes_121
      · refine lv_bipush (v := -2) hx hb dX3_goes_16 (by decide) ?_
        exact g_iret hx hb hr hlk hH (Prod.mk.inj (Option.some.inj h)) dX3_goes_18
theorem ok_X3_goes : okName yX3_goes 2 := ⟨by decide, by decide, by decide +kernel⟩
set_option maxHeartbeats 4000000 in
set_option maxRecDepth 100000 in
theorem c_X3_end (l : Launch) {D : va_G} {cy : Nat → ClassId} {ad : Nat → Nat} {A : Nat → Prop} (hD : ∀ σ, va_D A (gw cy ad σ)) (σ : GS) (x1 x2 : Int32) (r0 : Int32) (σ0 : GS) (h : f_X3_end σ x1 x2 = some (r0, σ0)) : gMi l yX3_end (wsM yX3_end cX3_end 3 (some .int)) ({ frames := 6, cells := 0, slots := 0, locals := 147 } : Room) D (gT cy) (gw cy ad) A [.ref (ad 0), .int x1, .int x2] σ σ0 r0 := by
  refine gMi.of (own := RX3) rfl (by decide) (Nat.le_of_ble_eq_true rfl) hD ?_
  intro p e s m below meth c ls C hx hb hr hlk hH hl
  have hl : lv_has ls 3 [(0, .ref (ad 0)), (1, .int x1), (2, .int x2)] := hl
  unfold f_X3_end at h
  refine lv_iload_n hx hb dX3_end_0 rfl (lv_at hl 1 rfl) ?_
  refine kl_X3_95 C hH h ⟨by decide, by decide⟩ ⟨by decide, by decide⟩ hl.1 (Nat.le_of_ble_eq_true rfl) dX3_end_1 (fun r1 H locs hH h => ?_)
  refine gb_if_ne (tgt := 10) hx hb dX3_end_4 (by decide) h (fun h => ?_) (fun h => ?_)
  · refine lv_aload_n hx hb dX3_end_10 rfl (lv_at hl 0 rfl) ?_
    refine gf_X3_30 C hH dX3_end_11 ?_
    refine lv_iload_n hx hb dX3_end_14 rfl (lv_at hl 1 rfl) ?_
    refine lv_aload_n hx hb dX3_end_15 rfl (lv_at hl 0 rfl) ?_
    refine gf_X3_38 C hH dX3_end_16 ?_
    refine lv_aload_n hx hb dX3_end_19 rfl (lv_at hl 0 rfl) ?_
    refine gf_X3_42 C hH dX3_end_20 ?_
    refine kl_X3_101 C hH h ⟨by decide, by decide⟩ ⟨by decide, by decide⟩ hl.1 (Nat.le_of_ble_eq_true rfl) dX3_end_23 (fun σ2 H locs hH h => ?_)
    refine lv_iload_n hx hb dX3_end_26 rfl (lv_at hl 2 rfl) ?_
    refine lv_iconst (v := -1) hx hb dX3_end_27 (by decide) ?_
    refine gb_icmp_ne (tgt := 41) hx hb dX3_end_28 (by decide) h (fun h => ?_) (fun h => ?_)
    · refine lv_aload_n hx hb dX3_end_41 rfl (lv_at hl 0 rfl) ?_
      refine gf_X3_30 C hH dX3_end_42 ?_
      refine lv_iload_n hx hb dX3_end_45 rfl (lv_at hl 2 rfl) ?_
      refine kl_X3_121 C hH h ⟨by decide, by decide⟩ ⟨by decide, by decide⟩ hl.1 (Nat.le_of_ble_eq_true rfl) dX3_end_46 (fun r3 H locs hH h => ?_)
      exact g_iret hx hb hr hlk hH (Prod.mk.inj (Option.some.inj h)) dX3_end_49
    · refine lv_aload_n hx hb dX3_end_31 rfl (lv_at hl 0 rfl) ?_
      refine gf_X3_30 C hH dX3_end_32 ?_
      refine kl_X3_117 C hH h ⟨by decide, by decide⟩ ⟨by decide, by decide⟩ hl.1 (Nat.le_of_ble_eq_true rfl) dX3_end_35 (fun r4 H locs hH h => ?_)
      refine lv_goto (tgt := 49) hx hb dX3_end_38 (by decide) ?_
      exact g_iret hx hb hr hlk hH (Prod.mk.inj (Option.some.inj h)) dX3_end_49
  · refine lv_bipush (v := -2) hx hb dX3_end_7 (by decide) ?_
    exact g_iret hx hb hr hlk hH (Prod.mk.inj (Option.some.inj h)) dX3_end_9
theorem ok_X3_end : okName yX3_end 2 := ⟨by decide, by decide, by decide +kernel⟩
set_option maxHeartbeats 4000000 in
set_option maxRecDepth 100000 in
theorem c_X3_basin (l : Launch) {D : va_G} {cy : Nat → ClassId} {ad : Nat → Nat} {A : Nat → Prop} (hD : ∀ σ, va_D A (gw cy ad σ)) (σ : GS) (x1 x2 x3 : Int32) (r0 : Int32) (σ0 : GS) (h : f_X3_basin σ x1 x2 x3 = some (r0, σ0)) : gMi l yX3_basin (wsM yX3_basin cX3_basin 5 (some .int)) ({ frames := 6, cells := 0, slots := 0, locals := 147 } : Room) D (gT cy) (gw cy ad) A [.ref (ad 0), .int x1, .int x2, .int x3] σ σ0 r0 := by
  refine gMi.of (own := RX3) rfl (by decide) (Nat.le_of_ble_eq_true rfl) hD ?_
  intro p e s m below meth c ls C hx hb hr hlk hH hl
  have hl : lv_has ls 5 [(0, .ref (ad 0)), (1, .int x1), (2, .int x2), (3, .int x3)] := hl
  unfold f_X3_basin at h
  refine lv_iload_n hx hb dX3_basin_0 rfl (lv_at hl 1 rfl) ?_
  refine kl_X3_95 C hH h ⟨by decide, by decide⟩ ⟨by decide, by decide⟩ hl.1 (Nat.le_of_ble_eq_true rfl) dX3_basin_1 (fun r1 H locs hH h => ?_)
  refine gb_if_eq (tgt := 16) hx hb dX3_basin_4 (by decide) h (fun h => ?_) (fun h => ?_)
  · refine lv_bipush (v := -2) hx hb dX3_basin_16 (by decide) ?_
    exact g_iret hx hb hr hlk hH (Prod.mk.inj (Option.some.inj h)) dX3_basin_18
  · refine lv_iload_n hx hb dX3_basin_7 rfl (lv_at hl 3 rfl) ?_
    refine gb_if_lt (tgt := 16) hx hb dX3_basin_8 (by decide) h (fun h => ?_) (fun h => ?_)
    · refine lv_bipush (v := -2) hx hb dX3_basin_16 (by decide) ?_
      exact g_iret hx hb hr hlk hH (Prod.mk.inj (Option.some.inj h)) dX3_basin_18
    · refine lv_iload_n hx hb dX3_basin_11 rfl (lv_at hl 3 rfl) ?_
      refine lv_iconst (v := 2) hx hb dX3_basin_12 (by decide) ?_
      refine gb_icmp_le (tgt := 19) hx hb dX3_basin_13 (by decide) h (fun h => ?_) (fun h => ?_)
      · refine lv_aload_n hx hb dX3_basin_19 rfl (lv_at hl 0 rfl) ?_
        refine gf_X3_30 C hH dX3_basin_20 ?_
        refine lv_iload_n hx hb dX3_basin_23 rfl (lv_at hl 1 rfl) ?_
        refine lv_aload_n hx hb dX3_basin_24 rfl (lv_at hl 0 rfl) ?_
        refine gf_X3_38 C hH dX3_basin_25 ?_
        refine lv_aload_n hx hb dX3_basin_28 rfl (lv_at hl 0 rfl) ?_
        refine gf_X3_42 C hH dX3_basin_29 ?_
        refine kl_X3_101 C hH h ⟨by decide, by decide⟩ ⟨by decide, by decide⟩ hl.1 (Nat.le_of_ble_eq_true rfl) dX3_basin_32 (fun σ2 H locs hH h => ?_)
        refine lv_aload_n hx hb dX3_basin_35 rfl (lv_at hl 0 rfl) ?_
        refine gf_X3_30 C hH dX3_basin_36 ?_
        refine lv_iload_n hx hb dX3_basin_39 rfl (lv_at hl 2 rfl) ?_
        refine kl_X3_121 C hH h ⟨by decide, by decide⟩ ⟨by decide, by decide⟩ hl.1 (Nat.le_of_ble_eq_true rfl) dX3_basin_40 (fun r3 H locs hH h => ?_)
        refine lv_istore (lv' := [(4, .int r3), (0, .ref (ad 0)), (1, .int x1), (2, .int x2), (3, .int x3)]) hx hb dX3_basin_43 hl (by decide) rfl (fun ls hl => ?_)
        refine lv_iload hx hb dX3_basin_45 (lv_at hl 0 rfl) ?_
        refine lv_bipush (v := -6) hx hb dX3_basin_47 (by decide) ?_
        refine gb_icmp_ne (tgt := 55) hx hb dX3_basin_49 (by decide) h (fun h => ?_) (fun h => ?_)
        · refine lv_iload_n hx hb dX3_basin_55 rfl (lv_at hl 4 rfl) ?_
          refine gb_sw h (fun c0 h => ?_) (fun c0 h => ?_)
          · refine lv_lookup (tgt := 84) (off := 28) hx hb dX3_basin_56 (by decide) (by rw [c0]; rfl) (by decide) ?_
            refine lv_aload_n hx hb dX3_basin_84 rfl (lv_at hl 1 rfl) ?_
            refine gf_X3_30 C hH dX3_basin_85 ?_
            refine lv_iload hx hb dX3_basin_88 (lv_at hl 0 rfl) ?_
            refine kl_X3_124 C hH h ⟨by decide, by decide⟩ ⟨by decide, by decide⟩ hl.1 (Nat.le_of_ble_eq_true rfl) dX3_basin_90 (fun r4 H locs hH h => ?_)
            exact g_iret hx hb hr hlk hH (Prod.mk.inj (Option.some.inj h)) dX3_basin_93
          · refine gb_sw h (fun c1 h => ?_) (fun c1 h => ?_)
            · refine lv_lookup (tgt := 94) (off := 38) hx hb dX3_basin_56 (by decide) (by rw [c1]; rfl) (by decide) ?_
              refine lv_aload_n hx hb dX3_basin_94 rfl (lv_at hl 1 rfl) ?_
              refine gf_X3_30 C hH dX3_basin_95 ?_
              refine lv_iload hx hb dX3_basin_98 (lv_at hl 0 rfl) ?_
              refine kl_X3_110 C hH h ⟨by decide, by decide⟩ ⟨by decide, by decide⟩ hl.1 (Nat.le_of_ble_eq_true rfl) dX3_basin_100 (fun r5 H locs hH h => ?_)
              exact g_iret hx hb hr hlk hH (Prod.mk.inj (Option.some.inj h)) dX3_basin_103
            · refine lv_lookup (tgt := 104) (off := 48) hx hb dX3_basin_56 (by decide) (by rw [lv_osw c0 (by decide)]; rw [lv_osw c1 (by decide)]; try rfl) (by decide) ?_
              refine lv_aload_n hx hb dX3_basin_104 rfl (lv_at hl 1 rfl) ?_
              refine gf_X3_30 C hH dX3_basin_105 ?_
              refine lv_iload hx hb dX3_basin_108 (lv_at hl 0 rfl) ?_
              refine kl_X3_127 C hH h ⟨by decide, by decide⟩ ⟨by decide, by decide⟩ hl.1 (Nat.le_of_ble_eq_true rfl) dX3_basin_110 (fun r6 H locs hH h => ?_)
              exact g_iret hx hb hr hlk hH (Prod.mk.inj (Option.some.inj h)) dX3_basin_113
        · refine lv_bipush (v := -6) hx hb dX3_basin_52 (by decide) ?_
          exact g_iret hx hb hr hlk hH (Prod.mk.inj (Option.some.inj h)) dX3_basin_54
      · refine lv_bipush (v := -2) hx hb dX3_basin_16 (by decide) ?_
        exact g_iret hx hb hr hlk hH (Prod.mk.inj (Option.some.inj h)) dX3_basin_18
theorem ok_X3_basin : okName yX3_basin 3 := ⟨by decide, by decide, by decide +kernel⟩
set_option maxHeartbeats 4000000 in
set_option maxRecDepth 100000 in
theorem c_X3_clearMarks (l : Launch) {D : va_G} {cy : Nat → ClassId} {ad : Nat → Nat} {A : Nat → Prop} (hD : ∀ σ, va_D A (gw cy ad σ)) (σ : GS) (σ0 : GS) (h : f_X3_clearMarks σ = some σ0) : gMv l yX3_clearMarks (wsM yX3_clearMarks cX3_clearMarks 2 none) ({ frames := 1, cells := 0, slots := 0, locals := 20 } : Room) D (gT cy) (gw cy ad) A [.ref (ad 0)] σ σ0 := by
  refine gMv.of (own := RX3) rfl (by decide) (Nat.le_of_ble_eq_true rfl) hD ?_
  intro p e s m below meth c ls C hx hb hr hlk hH hl
  have hl : lv_has ls 2 [(0, .ref (ad 0))] := hl
  unfold f_X3_clearMarks at h
  refine lv_iconst (v := 0) hx hb dX3_clearMarks_0 (by decide) ?_
  refine lv_istore_n (lv' := [(1, .int (0)), (0, .ref (ad 0))]) hx hb dX3_clearMarks_1 rfl hl (by decide) rfl (fun ls hl => ?_)
  have L2 : ∀ (n : Nat) (y2_1 : Int32) (σ2 : GS) (H : Heap) (locs : List Loc) (ls : Array Slot), gH s D (gw cy ad) A σ2 H locs → lv_has ls 2 [(0, .ref (ad 0)), (1, .int y2_1)] → ∀ X, itr f_X3_clearMarks_b2 n (y2_1, σ2) = some X → (∀ (σz2_0 : GS) (H : Heap) (locs : List Loc) (ls : Array Slot), gH s D (gw cy ad) A σz2_0 H locs → lv_has ls 2 [] → X = σz2_0 → W p l e ({ frames := 1, cells := 0, slots := 0, locals := 20 } : Room) s m [.ref (ad 0)].toArray below meth c H locs 0 0 (MQ below (gQv D (gw cy ad) A σ0) [.ref (ad 0)].toArray s 0 0 A) (F0 m 26 ls [])) → W p l e ({ frames := 1, cells := 0, slots := 0, locals := 20 } : Room) s m [.ref (ad 0)].toArray below meth c H locs 0 0 (MQ below (gQv D (gw cy ad) A σ0) [.ref (ad 0)].toArray s 0 0 A) (F0 m 2 ls []) := by
    intro n
    induction n with
    | zero =>
      intro y2_1 σ2 H locs ls hH hl X h K
      exact itr_0 h
    | succ n ih =>
      intro y2_1 σ2 H locs ls hH hl X h0 K
      obtain ⟨o, h, h2⟩ := itr_step h0
      unfold f_X3_clearMarks_b2 at h
      refine lv_iload_n hx hb dX3_clearMarks_2 rfl (lv_at hl 1 rfl) ?_
      refine lv_aload_n hx hb dX3_clearMarks_3 rfl (lv_at hl 0 rfl) ?_
      refine gf_X3_10 C hH dX3_clearMarks_4 ?_
      refine kl_X3_133 C hH h ⟨by decide, by decide⟩ ⟨by decide, by decide⟩ hl.1 (Nat.le_of_ble_eq_true rfl) dX3_clearMarks_7 (fun r1 H locs hH h => ?_)
      refine gb_icmp_ge (tgt := 26) hx hb dX3_clearMarks_10 (by decide) h (fun h => ?_) (fun h => ?_)
      · exact K _ _ _ _ hH (lv_sub hl [] rfl) (nxt_r h h2)
      · refine lv_aload_n hx hb dX3_clearMarks_13 rfl (lv_at hl 0 rfl) ?_
        refine gf_X3_34 C hH dX3_clearMarks_14 ?_
        refine lv_iload_n hx hb dX3_clearMarks_17 rfl (lv_at hl 1 rfl) ?_
        refine lv_iconst (v := -1) hx hb dX3_clearMarks_18 (by decide) ?_
        refine gas_ma C hH h dX3_clearMarks_19 (fun h H locs hH => ?_)
        refine lv_iinc (v := (y2_1 + (1 : Int32))) (lv' := [(1, .int (y2_1 + (1 : Int32))), (0, .ref (ad 0))]) hx hb dX3_clearMarks_20 hl (k := 1) rfl rfl (by decide) rfl (fun ls hl => ?_)
        refine lv_goto (tgt := 2) hx hb dX3_clearMarks_23 (by decide) ?_
        exact ih _ _ _ _ _ hH (lv_sub hl [1, 0] rfl) X (nxt_l h h2) K
  obtain ⟨X2, hX2, h⟩ := bnd h
  refine L2 FU ((0 : Int32)) σ _ _ _ hH (lv_sub hl [1, 0] rfl) X2 hX2 ?_
  intro σz2_0 H locs ls hH hl hE
  replace hE := hE.symm
  subst hE
  exact g_vret hx hb hr hlk hH (Option.some.inj h) dX3_clearMarks_26
theorem ok_X3_clearMarks : okName yX3_clearMarks 0 := ⟨by decide, by decide, by decide +kernel⟩
section KL
variable {p : Program} {l : Launch} {e : Env} {R : Room} {s : State} {m : MethodId} {args : Array Value} {below : List Frame} {meth : Method} {c : Code} {H : Heap} {locs : List Loc} {cells slots : Nat} {Q : State → Prop} {cc : ByteArray} {pc nL : Nat} {ls : Array Slot} {rest : List Value}
variable {A : Nat → Prop} {D : va_G} {cy : Nat → ClassId} {ad : Nat → Nat}
theorem kl_X3_130 (C : gC p m c cc nL s args RX3 D (gT cy) (gw cy ad) A) {σ : GS} (hH : gH s D (gw cy ad) A σ H locs) {α : Type} {k : GS → Option α} {y : α} (h : (f_X3_clearMarks σ).bind k = some y) (hR : 2 ≤ R.frames ∧ 41 ≤ R.locals) (hcs : cells ≤ R.cells ∧ slots ≤ R.slots) (hl : ls.size = nL) (hW : (rest.map fun v => v.category).sum ≤ 8) (hdg : decode cc pc = .ok (.invokevirtual 130, 3)) (kk : ∀ (σ1 : GS) (H1 : Heap) (locs1 : List Loc), gH s D (gw cy ad) A σ1 H1 locs1 → k σ1 = some y → W p l e R s m args below meth c H1 locs1 cells slots Q (F0 m (pc + 3) ls (rest))) : W p l e R s m args below meth c H locs cells slots Q (F0 m pc ls (.ref (ad 0) :: rest)) := by
  obtain ⟨σ1, h1, h2⟩ := bnd h
  exact g_fv (g_rV (As := []) C hH (c_X3_clearMarks l C.2.2.2 σ σ1 h1) (q0 := 0) mw_c_X3_clearMarks mw_m_X3_130 mw_i_X3_clearMarks mw_v_X3_clearMarks mw_in_X3 ok_X3_clearMarks ⟨rfl, rfl⟩ rfl rfl rfl hR hcs hl rfl hW hdg) hH.2 (fun H1 locs1 hH1 => kk σ1 H1 locs1 hH1 h2)
end KL
set_option maxHeartbeats 4000000 in
set_option maxRecDepth 100000 in
theorem c_X3_isBeginning (l : Launch) {D : va_G} {cy : Nat → ClassId} {ad : Nat → Nat} {A : Nat → Prop} (hD : ∀ σ, va_D A (gw cy ad σ)) (σ : GS) (x1 : Int32) (r0 : Int32) (h : f_X3_isBeginning σ x1 = some r0) : gMi l yX3_isBeginning (wsM yX3_isBeginning cX3_isBeginning 2 (some .boolean)) ({ frames := 0, cells := 0, slots := 0, locals := 0 } : Room) D (gT cy) (gw cy ad) A [.ref (ad 0), .int x1] σ σ r0 := by
  refine gMi.of (own := RX3) rfl (by decide) (Nat.le_of_ble_eq_true rfl) hD ?_
  intro p e s m below meth c ls C hx hb hr hlk hH hl
  have hl : lv_has ls 2 [(0, .ref (ad 0)), (1, .int x1)] := hl
  unfold f_X3_isBeginning at h
  refine lv_iload_n hx hb dX3_isBeginning_0 rfl (lv_at hl 1 rfl) ?_
  refine lv_aload_n hx hb dX3_isBeginning_1 rfl (lv_at hl 0 rfl) ?_
  refine gf_X3_42 C hH dX3_isBeginning_2 ?_
  refine lv_ixor hx hb dX3_isBeginning_5 ?_
  refine lv_aload_n hx hb dX3_isBeginning_6 rfl (lv_at hl 0 rfl) ?_
  refine gf_X3_38 C hH dX3_isBeginning_7 ?_
  refine lv_iand hx hb dX3_isBeginning_10 ?_
  refine gb_if_ne (tgt := 18) hx hb dX3_isBeginning_11 (by decide) h (fun h => ?_) (fun h => ?_)
  · refine lv_iconst (v := 0) hx hb dX3_isBeginning_18 (by decide) ?_
    exact g_zret hx hb hr hlk hH ⟨Option.some.inj h, rfl⟩ rfl dX3_isBeginning_19
  · refine lv_iconst (v := 1) hx hb dX3_isBeginning_14 (by decide) ?_
    refine lv_goto (tgt := 19) hx hb dX3_isBeginning_15 (by decide) ?_
    exact g_zret hx hb hr hlk hH ⟨Option.some.inj h, rfl⟩ rfl dX3_isBeginning_19
theorem ok_X3_isBeginning : okName yX3_isBeginning 1 := ⟨by decide, by decide, by decide +kernel⟩
section KL
variable {p : Program} {l : Launch} {e : Env} {R : Room} {s : State} {m : MethodId} {args : Array Value} {below : List Frame} {meth : Method} {c : Code} {H : Heap} {locs : List Loc} {cells slots : Nat} {Q : State → Prop} {cc : ByteArray} {pc nL : Nat} {ls : Array Slot} {rest : List Value}
variable {A : Nat → Prop} {D : va_G} {cy : Nat → ClassId} {ad : Nat → Nat}
theorem kl_X3_136 (C : gC p m c cc nL s args RX3 D (gT cy) (gw cy ad) A) {σ : GS} (hH : gH s D (gw cy ad) A σ H locs) {x1 : Int32} {α : Type} {k : Int32 → Option α} {y : α} (h : (f_X3_isBeginning σ x1).bind k = some y) (hR : 1 ≤ R.frames ∧ 21 ≤ R.locals) (hcs : cells ≤ R.cells ∧ slots ≤ R.slots) (hl : ls.size = nL) (hW : (rest.map fun v => v.category).sum ≤ 8) (hdg : decode cc pc = .ok (.invokevirtual 136, 3)) (kk : ∀ (r : Int32) (H1 : Heap) (locs1 : List Loc), gH s D (gw cy ad) A σ H1 locs1 → k r = some y → W p l e R s m args below meth c H1 locs1 cells slots Q (F0 m (pc + 3) ls (.int r :: rest))) : W p l e R s m args below meth c H locs cells slots Q (F0 m pc ls (.int x1 :: .ref (ad 0) :: rest)) := by
  obtain ⟨r, h1, h2⟩ := bnd h
  exact g_fi (g_rV (As := [.int x1]) C hH (c_X3_isBeginning l C.2.2.2 σ x1 r h1) (q0 := 0) mw_c_X3_isBeginning mw_m_X3_136 mw_i_X3_isBeginning mw_v_X3_isBeginning mw_in_X3 ok_X3_isBeginning ⟨rfl, rfl⟩ rfl rfl rfl hR hcs hl rfl hW hdg) hH.2 (fun H1 locs1 hH1 => kk r H1 locs1 hH1 h2)
end KL
set_option maxHeartbeats 4000000 in
set_option maxRecDepth 100000 in
theorem c_X3_lone (l : Launch) {D : va_G} {cy : Nat → ClassId} {ad : Nat → Nat} {A : Nat → Prop} (hD : ∀ σ, va_D A (gw cy ad σ)) (σ : GS) (x1 : Int32) (r0 : Int32) (σ0 : GS) (h : f_X3_lone σ x1 = some (r0, σ0)) : gMi l yX3_lone (wsM yX3_lone cX3_lone 4 (some .int)) ({ frames := 5, cells := 0, slots := 0, locals := 123 } : Room) D (gT cy) (gw cy ad) A [.ref (ad 0), .int x1] σ σ0 r0 := by
  refine gMi.of (own := RX3) rfl (by decide) (Nat.le_of_ble_eq_true rfl) hD ?_
  intro p e s m below meth c ls C hx hb hr hlk hH hl
  have hl : lv_has ls 4 [(0, .ref (ad 0)), (1, .int x1)] := hl
  unfold f_X3_lone at h
  refine lv_iload_n hx hb dX3_lone_0 rfl (lv_at hl 1 rfl) ?_
  refine kl_X3_95 C hH h ⟨by decide, by decide⟩ ⟨by decide, by decide⟩ hl.1 (Nat.le_of_ble_eq_true rfl) dX3_lone_1 (fun r1 H locs hH h => ?_)
  refine gb_if_ne (tgt := 10) hx hb dX3_lone_4 (by decide) h (fun h => ?_) (fun h => ?_)
  · refine lv_aload_n hx hb dX3_lone_10 rfl (lv_at hl 0 rfl) ?_
    refine kl_X3_130 C hH h ⟨by decide, by decide⟩ ⟨by decide, by decide⟩ hl.1 (Nat.le_of_ble_eq_true rfl) dX3_lone_11 (fun σ2 H locs hH h => ?_)
    refine lv_iconst (v := 0) hx hb dX3_lone_14 (by decide) ?_
    refine lv_istore_n (lv' := [(2, .int (0)), (0, .ref (ad 0)), (1, .int x1)]) hx hb dX3_lone_15 rfl hl (by decide) rfl (fun ls hl => ?_)
    have L16 : ∀ (n : Nat) (y16_2 : Int32) (σ16 : GS) (H : Heap) (locs : List Loc) (ls : Array Slot), gH s D (gw cy ad) A σ16 H locs → lv_has ls 4 [(0, .ref (ad 0)), (1, .int x1), (2, .int y16_2)] → ∀ X, itr (f_X3_lone_b16 x1) n (y16_2, σ16) = some X → (∀ (σz16_0 : GS) (H : Heap) (locs : List Loc) (ls : Array Slot), gH s D (gw cy ad) A σz16_0 H locs → lv_has ls 4 [(0, .ref (ad 0))] → X = σz16_0 → W p l e ({ frames := 5, cells := 0, slots := 0, locals := 123 } : Room) s m [.ref (ad 0), .int x1].toArray below meth c H locs 0 0 (MQ below (gQi D (gw cy ad) A σ0 r0) [.ref (ad 0), .int x1].toArray s 0 0 A) (F0 m 60 ls [])) → W p l e ({ frames := 5, cells := 0, slots := 0, locals := 123 } : Room) s m [.ref (ad 0), .int x1].toArray below meth c H locs 0 0 (MQ below (gQi D (gw cy ad) A σ0 r0) [.ref (ad 0), .int x1].toArray s 0 0 A) (F0 m 16 ls []) := by
      intro n
      induction n with
      | zero =>
        intro y16_2 σ16 H locs ls hH hl X h K
        exact itr_0 h
      | succ n ih =>
        intro y16_2 σ16 H locs ls hH hl X h0 K
        obtain ⟨o, h, h2⟩ := itr_step h0
        unfold f_X3_lone_b16 at h
        refine lv_iload_n hx hb dX3_lone_16 rfl (lv_at hl 2 rfl) ?_
        refine lv_aload_n hx hb dX3_lone_17 rfl (lv_at hl 0 rfl) ?_
        refine gf_X3_10 C hH dX3_lone_18 ?_
        refine kl_X3_133 C hH h ⟨by decide, by decide⟩ ⟨by decide, by decide⟩ hl.1 (Nat.le_of_ble_eq_true rfl) dX3_lone_21 (fun r3 H locs hH h => ?_)
        refine gb_icmp_ge (tgt := 60) hx hb dX3_lone_24 (by decide) h (fun h => ?_) (fun h => ?_)
        · exact K _ _ _ _ hH (lv_sub hl [0] rfl) (nxt_r h h2)
        · refine lv_aload_n hx hb dX3_lone_27 rfl (lv_at hl 0 rfl) ?_
          refine lv_iload_n hx hb dX3_lone_28 rfl (lv_at hl 2 rfl) ?_
          refine kl_X3_136 C hH h ⟨by decide, by decide⟩ ⟨by decide, by decide⟩ hl.1 (Nat.le_of_ble_eq_true rfl) dX3_lone_29 (fun r4 H locs hH h => ?_)
          refine gb_if_eq (tgt := 54) hx hb dX3_lone_32 (by decide) h (fun h => ?_) (fun h => ?_)
          · refine lv_iinc (v := (y16_2 + (1 : Int32))) (lv' := [(2, .int (y16_2 + (1 : Int32))), (0, .ref (ad 0)), (1, .int x1)]) hx hb dX3_lone_54 hl (k := 2) rfl rfl (by decide) rfl (fun ls hl => ?_)
            refine lv_goto (tgt := 16) hx hb dX3_lone_57 (by decide) ?_
            exact ih _ _ _ _ _ hH (lv_sub hl [1, 2, 0] rfl) X (nxt_l h h2) K
          · refine lv_aload_n hx hb dX3_lone_35 rfl (lv_at hl 0 rfl) ?_
            refine gf_X3_34 C hH dX3_lone_36 ?_
            refine lv_aload_n hx hb dX3_lone_39 rfl (lv_at hl 0 rfl) ?_
            refine gf_X3_21 C hH dX3_lone_40 ?_
            refine lv_iload_n hx hb dX3_lone_43 rfl (lv_at hl 1 rfl) ?_
            refine lv_aload_n hx hb dX3_lone_44 rfl (lv_at hl 0 rfl) ?_
            refine gf_X3_38 C hH dX3_lone_45 ?_
            refine lv_iload_n hx hb dX3_lone_48 rfl (lv_at hl 2 rfl) ?_
            refine kl_X3_98 C hH h ⟨by decide, by decide⟩ ⟨by decide, by decide⟩ hl.1 (Nat.le_of_ble_eq_true rfl) dX3_lone_49 (fun r5 σ5 H locs hH h => ?_)
            refine lv_iload_n hx hb dX3_lone_52 rfl (lv_at hl 2 rfl) ?_
            refine gas_ma C hH h dX3_lone_53 (fun h H locs hH => ?_)
            refine lv_iinc (v := (y16_2 + (1 : Int32))) (lv' := [(2, .int (y16_2 + (1 : Int32))), (0, .ref (ad 0)), (1, .int x1)]) hx hb dX3_lone_54 hl (k := 2) rfl rfl (by decide) rfl (fun ls hl => ?_)
            refine lv_goto (tgt := 16) hx hb dX3_lone_57 (by decide) ?_
            exact ih _ _ _ _ _ hH (lv_sub hl [1, 2, 0] rfl) X (nxt_l h h2) K
    obtain ⟨X16, hX16, h⟩ := bnd h
    refine L16 FU ((0 : Int32)) σ2 _ _ _ hH (lv_sub hl [1, 2, 0] rfl) X16 hX16 ?_
    intro σz16_0 H locs ls hH hl hE
    replace hE := hE.symm
    subst hE
    refine lv_iconst (v := 0) hx hb dX3_lone_60 (by decide) ?_
    refine lv_istore_n (lv' := [(2, .int (0)), (0, .ref (ad 0))]) hx hb dX3_lone_61 rfl hl (by decide) rfl (fun ls hl => ?_)
    refine lv_iconst (v := 0) hx hb dX3_lone_62 (by decide) ?_
    refine lv_istore_n (lv' := [(3, .int (0)), (2, .int (0)), (0, .ref (ad 0))]) hx hb dX3_lone_63 rfl hl (by decide) rfl (fun ls hl => ?_)
    have L64 : ∀ (n : Nat) (y64_2 : Int32) (y64_3 : Int32) (H : Heap) (locs : List Loc) (ls : Array Slot), gH s D (gw cy ad) A σz16_0 H locs → lv_has ls 4 [(0, .ref (ad 0)), (2, .int y64_2), (3, .int y64_3)] → ∀ X, itr (f_X3_lone_b64 σz16_0) n (y64_2, y64_3) = some X → (∀ (z64_0_2 : Int32) (H : Heap) (locs : List Loc) (ls : Array Slot), gH s D (gw cy ad) A σz16_0 H locs → lv_has ls 4 [(2, .int z64_0_2)] → X = z64_0_2 → W p l e ({ frames := 5, cells := 0, slots := 0, locals := 123 } : Room) s m [.ref (ad 0), .int x1].toArray below meth c H locs 0 0 (MQ below (gQi D (gw cy ad) A σ0 r0) [.ref (ad 0), .int x1].toArray s 0 0 A) (F0 m 102 ls [])) → W p l e ({ frames := 5, cells := 0, slots := 0, locals := 123 } : Room) s m [.ref (ad 0), .int x1].toArray below meth c H locs 0 0 (MQ below (gQi D (gw cy ad) A σ0 r0) [.ref (ad 0), .int x1].toArray s 0 0 A) (F0 m 64 ls []) := by
      intro n
      induction n with
      | zero =>
        intro y64_2 y64_3 H locs ls hH hl X h K
        exact itr_0 h
      | succ n ih =>
        intro y64_2 y64_3 H locs ls hH hl X h0 K
        obtain ⟨o, h, h2⟩ := itr_step h0
        unfold f_X3_lone_b64 at h
        refine lv_iload_n hx hb dX3_lone_64 rfl (lv_at hl 2 rfl) ?_
        refine lv_aload_n hx hb dX3_lone_65 rfl (lv_at hl 0 rfl) ?_
        refine gf_X3_10 C hH dX3_lone_66 ?_
        refine kl_X3_133 C hH h ⟨by decide, by decide⟩ ⟨by decide, by decide⟩ hl.1 (Nat.le_of_ble_eq_true rfl) dX3_lone_69 (fun r7 H locs hH h => ?_)
        refine gb_icmp_ge (tgt := 102) hx hb dX3_lone_72 (by decide) h (fun h => ?_) (fun h => ?_)
        · exact K _ _ _ _ hH (lv_sub hl [1] rfl) (nxt_r h h2)
        · refine lv_aload_n hx hb dX3_lone_75 rfl (lv_at hl 0 rfl) ?_
          refine lv_iload_n hx hb dX3_lone_76 rfl (lv_at hl 2 rfl) ?_
          refine kl_X3_136 C hH h ⟨by decide, by decide⟩ ⟨by decide, by decide⟩ hl.1 (Nat.le_of_ble_eq_true rfl) dX3_lone_77 (fun r8 H locs hH h => ?_)
          refine gb_if_eq (tgt := 96) hx hb dX3_lone_80 (by decide) h (fun h => ?_) (fun h => ?_)
          · refine lv_iinc (v := (y64_3 + (1 : Int32))) (lv' := [(3, .int (y64_3 + (1 : Int32))), (0, .ref (ad 0)), (2, .int y64_2)]) hx hb dX3_lone_96 hl (k := 2) rfl rfl (by decide) rfl (fun ls hl => ?_)
            refine lv_goto (tgt := 64) hx hb dX3_lone_99 (by decide) ?_
            exact ih _ _ _ _ _ hH (lv_sub hl [1, 2, 0] rfl) X (nxt_l h h2) K
          · refine lv_aload_n hx hb dX3_lone_83 rfl (lv_at hl 0 rfl) ?_
            refine gf_X3_34 C hH dX3_lone_84 ?_
            refine lv_iload_n hx hb dX3_lone_87 rfl (lv_at hl 2 rfl) ?_
            refine gal_ma C hH h dX3_lone_88 (fun h => ?_)
            refine lv_iconst (v := -1) hx hb dX3_lone_89 (by decide) ?_
            refine gb_icmp_ne (tgt := 96) hx hb dX3_lone_90 (by decide) h (fun h => ?_) (fun h => ?_)
            · refine lv_iinc (v := (y64_3 + (1 : Int32))) (lv' := [(3, .int (y64_3 + (1 : Int32))), (0, .ref (ad 0)), (2, .int y64_2)]) hx hb dX3_lone_96 hl (k := 2) rfl rfl (by decide) rfl (fun ls hl => ?_)
              refine lv_goto (tgt := 64) hx hb dX3_lone_99 (by decide) ?_
              exact ih _ _ _ _ _ hH (lv_sub hl [1, 2, 0] rfl) X (nxt_l h h2) K
            · refine lv_iinc (v := (y64_2 + (1 : Int32))) (lv' := [(2, .int (y64_2 + (1 : Int32))), (0, .ref (ad 0)), (3, .int y64_3)]) hx hb dX3_lone_93 hl (k := 1) rfl rfl (by decide) rfl (fun ls hl => ?_)
              refine lv_iinc (v := (y64_3 + (1 : Int32))) (lv' := [(3, .int (y64_3 + (1 : Int32))), (2, .int (y64_2 + (1 : Int32))), (0, .ref (ad 0))]) hx hb dX3_lone_96 hl (k := 2) rfl rfl (by decide) rfl (fun ls hl => ?_)
              refine lv_goto (tgt := 64) hx hb dX3_lone_99 (by decide) ?_
              exact ih _ _ _ _ _ hH (lv_sub hl [2, 1, 0] rfl) X (nxt_l h h2) K
    obtain ⟨X64, hX64, h⟩ := bnd h
    refine L64 FU ((0 : Int32)) ((0 : Int32)) _ _ _ hH (lv_sub hl [2, 1, 0] rfl) X64 hX64 ?_
    intro z64_0_2 H locs ls hH hl hE
    replace hE := hE.symm
    subst hE
    refine lv_iload_n hx hb dX3_lone_102 rfl (lv_at hl 0 rfl) ?_
    exact g_iret hx hb hr hlk hH (Prod.mk.inj (Option.some.inj h)) dX3_lone_103
  · refine lv_bipush (v := -2) hx hb dX3_lone_7 (by decide) ?_
    exact g_iret hx hb hr hlk hH (Prod.mk.inj (Option.some.inj h)) dX3_lone_9
theorem ok_X3_lone : okName yX3_lone 1 := ⟨by decide, by decide, by decide +kernel⟩
