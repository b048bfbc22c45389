def cPc (D : va_G) (As : List Value) (ws : va_W) (sz : Nat) : Array Value → State → Prop := va_Pc As (fun U => U.heap.size = sz ∧ va_P D vwCl ws U.heap ∧ va_K D vwCl [] U ∧ va_D (fun _ => True) ws ∧ Nst U)
def cQv (D : va_G) {S : Type} (wf : S → va_W) (tf : S → List (ClassId × FieldType)) (A : Nat → Prop) : Array Value → State → Outcome → State → Prop := va_Qv (fun (_ : S) => True) (fun u t => va_P D vwCl (wf u) t.heap ∧ va_K D vwCl (tf u) t ∧ va_D A (wf u)) A
theorem c_blind {D : va_G} {As : List Value} {ws : va_W} {sz : Nat} : FrameBlind (cPc D As ws sz) := by
  intro a U g mk q
  obtain ⟨q0, q1, qP, qK, qD, qN⟩ := q
  exact ⟨q0, q1, qP, va_K.moved (u := U) (U := U.calling g mk a) (Vm.Alike.refl U.vm) qK, qD, Nst.same (u := U) (U := U.calling g mk a) rfl qN⟩
theorem va_D.same {A : Nat → Prop} {w w' : va_W} (h : w.map Prod.fst = w'.map Prod.fst) (hD : va_D A w) : va_D A w' := by
  have key : ∀ (k : Nat) (q : Nat × va_E), w'[k]? = some q → ∃ q0, w[k]? = some q0 ∧ q0.1 = q.1 := by
    intro k q hk
    have h1 : (w'.map Prod.fst)[k]? = some q.1 := by rw [List.getElem?_map, hk]; rfl
    rw [← h, List.getElem?_map] at h1
    cases hw : w[k]? with
    | none => rw [hw] at h1; cases h1
    | some q0 => rw [hw] at h1; exact ⟨q0, rfl, Option.some.inj h1⟩
  refine ⟨fun i j x y hi hj hxy => ?_, fun k q hk => ?_⟩
  · obtain ⟨x0, h1, h2⟩ := key i x hi
    obtain ⟨y0, h3, h4⟩ := key j y hj
    exact hD.1 i j x0 y0 h1 h3 (h2.trans (hxy.trans h4.symm))
  · obtain ⟨q0, h1, h2⟩ := key k q hk
    rw [← h2]
    exact hD.2 k q0 h1
def nw1 (h0 : Nat) (u : Nat × Nat × Nat × ClassId × ClassId × ClassId) : va_W := [(h0, .inr (1, [.ref u.1, .ref u.2.1, .ref u.2.2.1, .int 4, .int 50])), (u.1, .inl (u.2.2.2.1, 100, .inl (fun _ => 0))), (u.2.1, .inl (u.2.2.2.2.1, 10, .inl (fun _ => 0))), (u.2.2.1, .inl (u.2.2.2.2.2, 4, .inl (upd (upd (upd (upd (fun _ => 0) (0 : Int32).toNatClampNeg 1) (1 : Int32).toNatClampNeg 0) (2 : Int32).toNatClampNeg 0) (3 : Int32).toNatClampNeg 1)))]
def nt1 (u : Nat × Nat × Nat × ClassId × ClassId × ClassId) : List (ClassId × FieldType) := [(u.2.2.2.1, .int), (u.2.2.2.2.1, .int), (u.2.2.2.2.2, .int)]
set_option maxHeartbeats 4000000 in
set_option maxRecDepth 100000 in
theorem k_X1_init (l : Launch) (D : va_G) (h0 : Nat) (sz : Nat) : Met l yX1_init (wsM yX1_init cX1_init 1 none) ({ frames := 1, cells := 3, slots := 114, locals := 20 } : Room) (cPc D [.ref h0] [(h0, .inr (1, [.null, .null, .null, .int 0, .int 0]))] sz) (cQv D (nw1 h0) nt1 (va_A [(h0, .inr (1, [.null, .null, .null, .int 0, .int 0]))] sz)) 3 114 (va_A [(h0, .inr (1, [.null, .null, .null, .int 0, .int 0]))] sz) := by
  refine Met.ofW (cc := cX1_init) (maxL := 1) (ret := none) (by decide) rfl ?_
  intro p e s m args below meth c s₁ B hml hv
  obtain ⟨rfl, hsz, hP, hK, hD0, hN⟩ := hv
  have hx := B.exec
  have hb := B.bytes
  have hr := B.returns
  have hlk := B.notSynchronized
  have hts : ∀ w ∈ bigW, w.before ([.ref h0] : List Value).toArray s = true := fun w hw => atoms_spec (ws := wsM yX1_init cX1_init 1 none) B.pre w (List.mem_cons_of_mem _ hw)
  have hown : s.vm.findClass RX1 = some m.cls := findClass_of_methodNamed B.named
  have hin : meth.name = "<init>" := (name_of_methodNamed B.named B.method).1
  subst hsz
  have hD := hD0.self (sz := s.heap.size)
  generalize hAe : va_A [(h0, .inr (1, [.null, .null, .null, .int 0, .int 0]))] s.heap.size = A at hD ⊢
  have hA : ∀ q : Nat, s.heap.size ≤ q → A q := fun q h => by rw [← hAe]; exact Or.inr h
  have hS : va_S A s.heap s.heap [] := va_S.rf
  have hl := lv_entry ([.ref h0]) (n := 1) (Nat.le_of_ble_eq_true rfl)
  rw [lg_entry_eq]
  generalize (lg_sl ([.ref h0]) ++ List.replicate (1 - (lg_sl ([.ref h0])).length) Slot.unset).toArray = ls at hl ⊢
  have hl : lv_has ls 1 [(0, .ref h0)] := hl
  refine lv_aload_n hx hb dX1_init_0 rfl (lv_at hl 0 rfl) ?_
  refine W.objInit hx hb hown (hts _ mw_m_X1_3) (hts _ mw_i_obj) (hts _ mw_c_obj) rfl (by rw [hml]; exact hl.1) rfl dX1_init_1 (Nat.le_of_ble_eq_true rfl) (Nat.le_of_ble_eq_true rfl) ?_
  refine W.eq (g2 := F0 m 4 ls []) rfl ?_
  refine lv_aload_n hx hb dX1_init_4 rfl (lv_at hl 0 rfl) ?_
  refine lv_bipush (v := 100) hx hb dX1_init_5 (by decide) ?_
  refine va_newa (atype := .int) (a0 := (100, .inl (fun _ => 0))) (N' := 100) (ty := .int) hx hb (hts _ mw_ar_int) rfl hK hP hD hS hA (fun cA => rfl) (by decide) (by decide) (by decide) (Nat.le_of_ble_eq_true rfl) (Nat.le_of_ble_eq_true rfl) dX1_init_7 (fun q7 c7 H hK hP hD hS => ?_)
  have hP : va_P D vwCl [(h0, .inr (1, [.null, .null, .null, .int 0, .int 0])), (q7, .inl (c7, 100, .inl (fun _ => 0)))] H := hP
  have hD : va_D A [(h0, .inr (1, [.null, .null, .null, .int 0, .int 0])), (q7, .inl (c7, 100, .inl (fun _ => 0)))] := hD
  have hK : va_K D vwCl [(c7, .int)] s := hK
  refine W.widen (k := 1) (n := 100) (Nat.le_of_ble_eq_true rfl) (Nat.le_of_ble_eq_true rfl) ?_
  refine va_putF (D := D) (ci := 1) (v := .ref q7) (ty := .array .int) (C := RX1) (T := TX1) (N := 5) hx hb hts iwX1 tyX1 tyX1_ok nmX1 hown hK hP hD hS 0 rfl rfl 0 (by decide) (hts _ mw_f_X1_9) (fun _ h9 => h9) rfl hin rfl (by decide +kernel) rfl rfl (Nat.le_of_ble_eq_true rfl) dX1_init_9 (fun H locs hP hD hS => ?_)
  have hP : va_P D vwCl [(h0, .inr (1, [.ref q7, .null, .null, .int 0, .int 0])), (q7, .inl (c7, 100, .inl (fun _ => 0)))] H := hP
  have hD : va_D A [(h0, .inr (1, [.ref q7, .null, .null, .int 0, .int 0])), (q7, .inl (c7, 100, .inl (fun _ => 0)))] := hD
  refine lv_aload_n hx hb dX1_init_12 rfl (lv_at hl 0 rfl) ?_
  refine lv_bipush (v := 10) hx hb dX1_init_13 (by decide) ?_
  refine va_newa (atype := .int) (a0 := (10, .inl (fun _ => 0))) (N' := 10) (ty := .int) hx hb (hts _ mw_ar_int) rfl hK hP hD hS hA (fun cA => rfl) (by decide) (by decide) (by decide) (Nat.le_of_ble_eq_true rfl) (Nat.le_of_ble_eq_true rfl) dX1_init_15 (fun q15 c15 H hK hP hD hS => ?_)
  have hP : va_P D vwCl [(h0, .inr (1, [.ref q7, .null, .null, .int 0, .int 0])), (q7, .inl (c7, 100, .inl (fun _ => 0))), (q15, .inl (c15, 10, .inl (fun _ => 0)))] H := hP
  have hD : va_D A [(h0, .inr (1, [.ref q7, .null, .null, .int 0, .int 0])), (q7, .inl (c7, 100, .inl (fun _ => 0))), (q15, .inl (c15, 10, .inl (fun _ => 0)))] := hD
  have hK : va_K D vwCl [(c7, .int), (c15, .int)] s := hK
  refine W.widen (k := 2) (n := 110) (Nat.le_of_ble_eq_true rfl) (Nat.le_of_ble_eq_true rfl) ?_
  refine va_putF (D := D) (ci := 1) (v := .ref q15) (ty := .array .int) (C := RX1) (T := TX1) (N := 5) hx hb hts iwX1 tyX1 tyX1_ok nmX1 hown hK hP hD hS 0 rfl rfl 1 (by decide) (hts _ mw_f_X1_15) (fun _ h9 => h9) rfl hin rfl (by decide +kernel) rfl rfl (Nat.le_of_ble_eq_true rfl) dX1_init_17 (fun H locs hP hD hS => ?_)
  have hP : va_P D vwCl [(h0, .inr (1, [.ref q7, .ref q15, .null, .int 0, .int 0])), (q7, .inl (c7, 100, .inl (fun _ => 0))), (q15, .inl (c15, 10, .inl (fun _ => 0)))] H := hP
  have hD : va_D A [(h0, .inr (1, [.ref q7, .ref q15, .null, .int 0, .int 0])), (q7, .inl (c7, 100, .inl (fun _ => 0))), (q15, .inl (c15, 10, .inl (fun _ => 0)))] := hD
  refine lv_aload_n hx hb dX1_init_20 rfl (lv_at hl 0 rfl) ?_
  refine lv_iconst (v := 4) hx hb dX1_init_21 (by decide) ?_
  refine va_newa (atype := .int) (a0 := (4, .inl (fun _ => 0))) (N' := 4) (ty := .int) hx hb (hts _ mw_ar_int) rfl hK hP hD hS hA (fun cA => rfl) (by decide) (by decide) (by decide) (Nat.le_of_ble_eq_true rfl) (Nat.le_of_ble_eq_true rfl) dX1_init_22 (fun q22 c22 H hK hP hD hS => ?_)
  have hP : va_P D vwCl [(h0, .inr (1, [.ref q7, .ref q15, .null, .int 0, .int 0])), (q7, .inl (c7, 100, .inl (fun _ => 0))), (q15, .inl (c15, 10, .inl (fun _ => 0))), (q22, .inl (c22, 4, .inl (fun _ => 0)))] H := hP
  have hD : va_D A [(h0, .inr (1, [.ref q7, .ref q15, .null, .int 0, .int 0])), (q7, .inl (c7, 100, .inl (fun _ => 0))), (q15, .inl (c15, 10, .inl (fun _ => 0))), (q22, .inl (c22, 4, .inl (fun _ => 0)))] := hD
  have hK : va_K D vwCl [(c7, .int), (c15, .int), (c22, .int)] s := hK
  refine W.widen (k := 3) (n := 114) (Nat.le_of_ble_eq_true rfl) (Nat.le_of_ble_eq_true rfl) ?_
  refine lv_dup hx hb dX1_init_24 rfl ?_
  refine lv_iconst (v := 0) hx hb dX1_init_25 (by decide) ?_
  refine lv_iconst (v := 1) hx hb dX1_init_26 (by decide) ?_
  refine va_iast hx hb hK hP hD hS 3 2 rfl rfl (by unfold vp_in; decide) dX1_init_27 (fun H locs hP hD hS => ?_)
  have hP : va_P D vwCl [(h0, .inr (1, [.ref q7, .ref q15, .null, .int 0, .int 0])), (q7, .inl (c7, 100, .inl (fun _ => 0))), (q15, .inl (c15, 10, .inl (fun _ => 0))), (q22, .inl (c22, 4, .inl (upd (fun _ => 0) (0 : Int32).toNatClampNeg 1)))] H := hP
  have hD : va_D A [(h0, .inr (1, [.ref q7, .ref q15, .null, .int 0, .int 0])), (q7, .inl (c7, 100, .inl (fun _ => 0))), (q15, .inl (c15, 10, .inl (fun _ => 0))), (q22, .inl (c22, 4, .inl (upd (fun _ => 0) (0 : Int32).toNatClampNeg 1)))] := hD
  refine lv_dup hx hb dX1_init_28 rfl ?_
  refine lv_iconst (v := 1) hx hb dX1_init_29 (by decide) ?_
  refine lv_iconst (v := 0) hx hb dX1_init_30 (by decide) ?_
  refine va_iast hx hb hK hP hD hS 3 2 rfl rfl (by unfold vp_in; decide) dX1_init_31 (fun H locs hP hD hS => ?_)
  have hP : va_P D vwCl [(h0, .inr (1, [.ref q7, .ref q15, .null, .int 0, .int 0])), (q7, .inl (c7, 100, .inl (fun _ => 0))), (q15, .inl (c15, 10, .inl (fun _ => 0))), (q22, .inl (c22, 4, .inl (upd (upd (fun _ => 0) (0 : Int32).toNatClampNeg 1) (1 : Int32).toNatClampNeg 0)))] H := hP
  have hD : va_D A [(h0, .inr (1, [.ref q7, .ref q15, .null, .int 0, .int 0])), (q7, .inl (c7, 100, .inl (fun _ => 0))), (q15, .inl (c15, 10, .inl (fun _ => 0))), (q22, .inl (c22, 4, .inl (upd (upd (fun _ => 0) (0 : Int32).toNatClampNeg 1) (1 : Int32).toNatClampNeg 0)))] := hD
  refine lv_dup hx hb dX1_init_32 rfl ?_
  refine lv_iconst (v := 2) hx hb dX1_init_33 (by decide) ?_
  refine lv_iconst (v := 0) hx hb dX1_init_34 (by decide) ?_
  refine va_iast hx hb hK hP hD hS 3 2 rfl rfl (by unfold vp_in; decide) dX1_init_35 (fun H locs hP hD hS => ?_)
  have hP : va_P D vwCl [(h0, .inr (1, [.ref q7, .ref q15, .null, .int 0, .int 0])), (q7, .inl (c7, 100, .inl (fun _ => 0))), (q15, .inl (c15, 10, .inl (fun _ => 0))), (q22, .inl (c22, 4, .inl (upd (upd (upd (fun _ => 0) (0 : Int32).toNatClampNeg 1) (1 : Int32).toNatClampNeg 0) (2 : Int32).toNatClampNeg 0)))] H := hP
  have hD : va_D A [(h0, .inr (1, [.ref q7, .ref q15, .null, .int 0, .int 0])), (q7, .inl (c7, 100, .inl (fun _ => 0))), (q15, .inl (c15, 10, .inl (fun _ => 0))), (q22, .inl (c22, 4, .inl (upd (upd (upd (fun _ => 0) (0 : Int32).toNatClampNeg 1) (1 : Int32).toNatClampNeg 0) (2 : Int32).toNatClampNeg 0)))] := hD
  refine lv_dup hx hb dX1_init_36 rfl ?_
  refine lv_iconst (v := 3) hx hb dX1_init_37 (by decide) ?_
  refine lv_iconst (v := 1) hx hb dX1_init_38 (by decide) ?_
  refine va_iast hx hb hK hP hD hS 3 2 rfl rfl (by unfold vp_in; decide) dX1_init_39 (fun H locs hP hD hS => ?_)
  have hP : va_P D vwCl [(h0, .inr (1, [.ref q7, .ref q15, .null, .int 0, .int 0])), (q7, .inl (c7, 100, .inl (fun _ => 0))), (q15, .inl (c15, 10, .inl (fun _ => 0))), (q22, .inl (c22, 4, .inl (upd (upd (upd (upd (fun _ => 0) (0 : Int32).toNatClampNeg 1) (1 : Int32).toNatClampNeg 0) (2 : Int32).toNatClampNeg 0) (3 : Int32).toNatClampNeg 1)))] H := hP
  have hD : va_D A [(h0, .inr (1, [.ref q7, .ref q15, .null, .int 0, .int 0])), (q7, .inl (c7, 100, .inl (fun _ => 0))), (q15, .inl (c15, 10, .inl (fun _ => 0))), (q22, .inl (c22, 4, .inl (upd (upd (upd (upd (fun _ => 0) (0 : Int32).toNatClampNeg 1) (1 : Int32).toNatClampNeg 0) (2 : Int32).toNatClampNeg 0) (3 : Int32).toNatClampNeg 1)))] := hD
  refine va_putF (D := D) (ci := 1) (v := .ref q22) (ty := .array .int) (C := RX1) (T := TX1) (N := 5) hx hb hts iwX1 tyX1 tyX1_ok nmX1 hown hK hP hD hS 0 rfl rfl 2 (by decide) (hts _ mw_f_X1_18) (fun _ h9 => h9) rfl hin rfl (by decide +kernel) rfl rfl (Nat.le_of_ble_eq_true rfl) dX1_init_40 (fun H locs hP hD hS => ?_)
  have hP : va_P D vwCl [(h0, .inr (1, [.ref q7, .ref q15, .ref q22, .int 0, .int 0])), (q7, .inl (c7, 100, .inl (fun _ => 0))), (q15, .inl (c15, 10, .inl (fun _ => 0))), (q22, .inl (c22, 4, .inl (upd (upd (upd (upd (fun _ => 0) (0 : Int32).toNatClampNeg 1) (1 : Int32).toNatClampNeg 0) (2 : Int32).toNatClampNeg 0) (3 : Int32).toNatClampNeg 1)))] H := hP
  have hD : va_D A [(h0, .inr (1, [.ref q7, .ref q15, .ref q22, .int 0, .int 0])), (q7, .inl (c7, 100, .inl (fun _ => 0))), (q15, .inl (c15, 10, .inl (fun _ => 0))), (q22, .inl (c22, 4, .inl (upd (upd (upd (upd (fun _ => 0) (0 : Int32).toNatClampNeg 1) (1 : Int32).toNatClampNeg 0) (2 : Int32).toNatClampNeg 0) (3 : Int32).toNatClampNeg 1)))] := hD
  refine lv_aload_n hx hb dX1_init_43 rfl (lv_at hl 0 rfl) ?_
  refine lv_iconst (v := 4) hx hb dX1_init_44 (by decide) ?_
  refine va_put (D := D) (ci := 1) (v := .int 4) (ty := .int) (C := RX1) (T := TX1) (N := 5) hx hb hts iwX1 tyX1 tyX1_ok nmX1 hown hK hP hD hS 0 rfl rfl 3 (by decide) (hts _ mw_f_X1_21) (fun _ h9 => h9) rfl (by decide +kernel) rfl rfl (Nat.le_of_ble_eq_true rfl) dX1_init_45 (fun H locs hP hD hS => ?_)
  have hP : va_P D vwCl [(h0, .inr (1, [.ref q7, .ref q15, .ref q22, .int 4, .int 0])), (q7, .inl (c7, 100, .inl (fun _ => 0))), (q15, .inl (c15, 10, .inl (fun _ => 0))), (q22, .inl (c22, 4, .inl (upd (upd (upd (upd (fun _ => 0) (0 : Int32).toNatClampNeg 1) (1 : Int32).toNatClampNeg 0) (2 : Int32).toNatClampNeg 0) (3 : Int32).toNatClampNeg 1)))] H := hP
  have hD : va_D A [(h0, .inr (1, [.ref q7, .ref q15, .ref q22, .int 4, .int 0])), (q7, .inl (c7, 100, .inl (fun _ => 0))), (q15, .inl (c15, 10, .inl (fun _ => 0))), (q22, .inl (c22, 4, .inl (upd (upd (upd (upd (fun _ => 0) (0 : Int32).toNatClampNeg 1) (1 : Int32).toNatClampNeg 0) (2 : Int32).toNatClampNeg 0) (3 : Int32).toNatClampNeg 1)))] := hD
  refine lv_aload_n hx hb dX1_init_48 rfl (lv_at hl 0 rfl) ?_
  refine lv_bipush (v := 50) hx hb dX1_init_49 (by decide) ?_
  refine va_put (D := D) (ci := 1) (v := .int 50) (ty := .int) (C := RX1) (T := TX1) (N := 5) hx hb hts iwX1 tyX1 tyX1_ok nmX1 hown hK hP hD hS 0 rfl rfl 4 (by decide) (hts _ mw_f_X1_25) (fun _ h9 => h9) rfl (by decide +kernel) rfl rfl (Nat.le_of_ble_eq_true rfl) dX1_init_51 (fun H locs hP hD hS => ?_)
  have hP : va_P D vwCl [(h0, .inr (1, [.ref q7, .ref q15, .ref q22, .int 4, .int 50])), (q7, .inl (c7, 100, .inl (fun _ => 0))), (q15, .inl (c15, 10, .inl (fun _ => 0))), (q22, .inl (c22, 4, .inl (upd (upd (upd (upd (fun _ => 0) (0 : Int32).toNatClampNeg 1) (1 : Int32).toNatClampNeg 0) (2 : Int32).toNatClampNeg 0) (3 : Int32).toNatClampNeg 1)))] H := hP
  have hD : va_D A [(h0, .inr (1, [.ref q7, .ref q15, .ref q22, .int 4, .int 50])), (q7, .inl (c7, 100, .inl (fun _ => 0))), (q15, .inl (c15, 10, .inl (fun _ => 0))), (q22, .inl (c22, 4, .inl (upd (upd (upd (upd (fun _ => 0) (0 : Int32).toNatClampNeg 1) (1 : Int32).toNatClampNeg 0) (2 : Int32).toNatClampNeg 0) (3 : Int32).toNatClampNeg 1)))] := hD
  exact W.vret hx hb hr (fun t ht hW => ⟨⟨(q7, q15, q22, c7, c15, c22), rfl, trivial, by rw [ht]; exact hP, va_K.moved hW.alike hK, hD⟩, hS.F ht⟩) hS.2.2 dX1_init_54 hlk
def nw0 (h0 : Nat) (n0 : Nat) (u : Nat × Nat × Nat × ClassId × ClassId × ClassId) : va_W := [(h0, .inr (0, [.ref n0, .ref u.1, .ref u.2.1, .ref u.2.2.1])), (u.1, .inl (u.2.2.2.1, 3072, .inl (fun _ => 0))), (u.2.1, .inl (u.2.2.2.2.1, 3, .inl (fun _ => 0))), (u.2.2.1, .inl (u.2.2.2.2.2, 10, .inl (fun _ => 0)))]
def nt0 (u : Nat × Nat × Nat × ClassId × ClassId × ClassId) : List (ClassId × FieldType) := [(u.2.2.2.1, .int), (u.2.2.2.2.1, .boolean), (u.2.2.2.2.2, .int)]
set_option maxHeartbeats 4000000 in
set_option maxRecDepth 100000 in
theorem k_X0_init (l : Launch) (D : va_G) (h0 : Nat) (n0 : Nat) (sz : Nat) : Met l yX0_init (wsM yX0_init cX0_init 2 none) ({ frames := 1, cells := 3, slots := 3085, locals := 20 } : Room) (cPc D [.ref h0, .ref n0] [(h0, .inr (0, [.null, .null, .null, .null]))] sz) (cQv D (nw0 h0 n0) nt0 (va_A [(h0, .inr (0, [.null, .null, .null, .null]))] sz)) 3 3085 (va_A [(h0, .inr (0, [.null, .null, .null, .null]))] sz) := by
  refine Met.ofW (cc := cX0_init) (maxL := 2) (ret := none) (by decide) rfl ?_
  intro p e s m args below meth c s₁ B hml hv
  obtain ⟨rfl, hsz, hP, hK, hD0, hN⟩ := hv
  have hx := B.exec
  have hb := B.bytes
  have hr := B.returns
  have hlk := B.notSynchronized
  have hts : ∀ w ∈ bigW, w.before ([.ref h0, .ref n0] : List Value).toArray s = true := fun w hw => atoms_spec (ws := wsM yX0_init cX0_init 2 none) B.pre w (List.mem_cons_of_mem _ hw)
  have hown : s.vm.findClass RX0 = some m.cls := findClass_of_methodNamed B.named
  have hin : meth.name = "<init>" := (name_of_methodNamed B.named B.method).1
  subst hsz
  have hD := hD0.self (sz := s.heap.size)
  generalize hAe : va_A [(h0, .inr (0, [.null, .null, .null, .null]))] s.heap.size = A at hD ⊢
  have hA : ∀ q : Nat, s.heap.size ≤ q → A q := fun q h => by rw [← hAe]; exact Or.inr h
  have hS : va_S A s.heap s.heap [] := va_S.rf
  have hl := lv_entry ([.ref h0, .ref n0]) (n := 2) (Nat.le_of_ble_eq_true rfl)
  rw [lg_entry_eq]
  generalize (lg_sl ([.ref h0, .ref n0]) ++ List.replicate (2 - (lg_sl ([.ref h0, .ref n0])).length) Slot.unset).toArray = ls at hl ⊢
  have hl : lv_has ls 2 [(0, .ref h0), (1, .ref n0)] := hl
  refine lv_aload_n hx hb dX0_init_0 rfl (lv_at hl 0 rfl) ?_
  refine W.objInit hx hb hown (hts _ mw_m_X0_3) (hts _ mw_i_obj) (hts _ mw_c_obj) rfl (by rw [hml]; exact hl.1) rfl dX0_init_1 (Nat.le_of_ble_eq_true rfl) (Nat.le_of_ble_eq_true rfl) ?_
  refine W.eq (g2 := F0 m 4 ls []) rfl ?_
  refine lv_aload_n hx hb dX0_init_4 rfl (lv_at hl 0 rfl) ?_
  refine lv_aload_n hx hb dX0_init_5 rfl (lv_at hl 1 rfl) ?_
  refine va_putF (D := D) (ci := 0) (v := .ref n0) (ty := .object "GameNet$Net") (C := RX0) (T := TX0) (N := 4) hx hb hts iwX0 tyX0 tyX0_ok nmX0 hown hK hP hD hS 0 rfl rfl 0 (by decide) (hts _ mw_f_X0_9) (fun _ h9 => h9) rfl hin rfl (by decide +kernel) rfl rfl (Nat.le_of_ble_eq_true rfl) dX0_init_6 (fun H locs hP hD hS => ?_)
  have hP : va_P D vwCl [(h0, .inr (0, [.ref n0, .null, .null, .null]))] H := hP
  have hD : va_D A [(h0, .inr (0, [.ref n0, .null, .null, .null]))] := hD
  refine lv_aload_n hx hb dX0_init_9 rfl (lv_at hl 0 rfl) ?_
  refine lv_sipush (v := 3072) hx hb dX0_init_10 (by decide) ?_
  refine va_newa (atype := .int) (a0 := (3072, .inl (fun _ => 0))) (N' := 3072) (ty := .int) hx hb (hts _ mw_ar_int) rfl hK hP hD hS hA (fun cA => rfl) (by decide) (by decide) (by decide) (Nat.le_of_ble_eq_true rfl) (Nat.le_of_ble_eq_true rfl) dX0_init_13 (fun q13 c13 H hK hP hD hS => ?_)
  have hP : va_P D vwCl [(h0, .inr (0, [.ref n0, .null, .null, .null])), (q13, .inl (c13, 3072, .inl (fun _ => 0)))] H := hP
  have hD : va_D A [(h0, .inr (0, [.ref n0, .null, .null, .null])), (q13, .inl (c13, 3072, .inl (fun _ => 0)))] := hD
  have hK : va_K D vwCl [(c13, .int)] s := hK
  refine W.widen (k := 1) (n := 3072) (Nat.le_of_ble_eq_true rfl) (Nat.le_of_ble_eq_true rfl) ?_
  refine va_putF (D := D) (ci := 0) (v := .ref q13) (ty := .array .int) (C := RX0) (T := TX0) (N := 4) hx hb hts iwX0 tyX0 tyX0_ok nmX0 hown hK hP hD hS 0 rfl rfl 1 (by decide) (hts _ mw_f_X0_15) (fun _ h9 => h9) rfl hin rfl (by decide +kernel) rfl rfl (Nat.le_of_ble_eq_true rfl) dX0_init_15 (fun H locs hP hD hS => ?_)
  have hP : va_P D vwCl [(h0, .inr (0, [.ref n0, .ref q13, .null, .null])), (q13, .inl (c13, 3072, .inl (fun _ => 0)))] H := hP
  have hD : va_D A [(h0, .inr (0, [.ref n0, .ref q13, .null, .null])), (q13, .inl (c13, 3072, .inl (fun _ => 0)))] := hD
  refine lv_aload_n hx hb dX0_init_18 rfl (lv_at hl 0 rfl) ?_
  refine lv_iconst (v := 3) hx hb dX0_init_19 (by decide) ?_
  refine va_newa (atype := .boolean) (a0 := (3, .inl (fun _ => 0))) (N' := 3) (ty := .boolean) hx hb (hts _ mw_ar_boolean) rfl hK hP hD hS hA (fun cA => rfl) (by decide) (by decide) (by decide) (Nat.le_of_ble_eq_true rfl) (Nat.le_of_ble_eq_true rfl) dX0_init_20 (fun q20 c20 H hK hP hD hS => ?_)
  have hP : va_P D vwCl [(h0, .inr (0, [.ref n0, .ref q13, .null, .null])), (q13, .inl (c13, 3072, .inl (fun _ => 0))), (q20, .inl (c20, 3, .inl (fun _ => 0)))] H := hP
  have hD : va_D A [(h0, .inr (0, [.ref n0, .ref q13, .null, .null])), (q13, .inl (c13, 3072, .inl (fun _ => 0))), (q20, .inl (c20, 3, .inl (fun _ => 0)))] := hD
  have hK : va_K D vwCl [(c13, .int), (c20, .boolean)] s := hK
  refine W.widen (k := 2) (n := 3075) (Nat.le_of_ble_eq_true rfl) (Nat.le_of_ble_eq_true rfl) ?_
  refine va_putF (D := D) (ci := 0) (v := .ref q20) (ty := .array .boolean) (C := RX0) (T := TX0) (N := 4) hx hb hts iwX0 tyX0 tyX0_ok nmX0 hown hK hP hD hS 0 rfl rfl 2 (by decide) (hts _ mw_f_X0_19) (fun _ h9 => h9) rfl hin rfl (by decide +kernel) rfl rfl (Nat.le_of_ble_eq_true rfl) dX0_init_22 (fun H locs hP hD hS => ?_)
  have hP : va_P D vwCl [(h0, .inr (0, [.ref n0, .ref q13, .ref q20, .null])), (q13, .inl (c13, 3072, .inl (fun _ => 0))), (q20, .inl (c20, 3, .inl (fun _ => 0)))] H := hP
  have hD : va_D A [(h0, .inr (0, [.ref n0, .ref q13, .ref q20, .null])), (q13, .inl (c13, 3072, .inl (fun _ => 0))), (q20, .inl (c20, 3, .inl (fun _ => 0)))] := hD
  refine lv_aload_n hx hb dX0_init_25 rfl (lv_at hl 0 rfl) ?_
  refine lv_bipush (v := 10) hx hb dX0_init_26 (by decide) ?_
  refine va_newa (atype := .int) (a0 := (10, .inl (fun _ => 0))) (N' := 10) (ty := .int) hx hb (hts _ mw_ar_int) rfl hK hP hD hS hA (fun cA => rfl) (by decide) (by decide) (by decide) (Nat.le_of_ble_eq_true rfl) (Nat.le_of_ble_eq_true rfl) dX0_init_28 (fun q28 c28 H hK hP hD hS => ?_)
  have hP : va_P D vwCl [(h0, .inr (0, [.ref n0, .ref q13, .ref q20, .null])), (q13, .inl (c13, 3072, .inl (fun _ => 0))), (q20, .inl (c20, 3, .inl (fun _ => 0))), (q28, .inl (c28, 10, .inl (fun _ => 0)))] H := hP
  have hD : va_D A [(h0, .inr (0, [.ref n0, .ref q13, .ref q20, .null])), (q13, .inl (c13, 3072, .inl (fun _ => 0))), (q20, .inl (c20, 3, .inl (fun _ => 0))), (q28, .inl (c28, 10, .inl (fun _ => 0)))] := hD
  have hK : va_K D vwCl [(c13, .int), (c20, .boolean), (c28, .int)] s := hK
  refine W.widen (k := 3) (n := 3085) (Nat.le_of_ble_eq_true rfl) (Nat.le_of_ble_eq_true rfl) ?_
  refine va_putF (D := D) (ci := 0) (v := .ref q28) (ty := .array .int) (C := RX0) (T := TX0) (N := 4) hx hb hts iwX0 tyX0 tyX0_ok nmX0 hown hK hP hD hS 0 rfl rfl 3 (by decide) (hts _ mw_f_X0_23) (fun _ h9 => h9) rfl hin rfl (by decide +kernel) rfl rfl (Nat.le_of_ble_eq_true rfl) dX0_init_30 (fun H locs hP hD hS => ?_)
  have hP : va_P D vwCl [(h0, .inr (0, [.ref n0, .ref q13, .ref q20, .ref q28])), (q13, .inl (c13, 3072, .inl (fun _ => 0))), (q20, .inl (c20, 3, .inl (fun _ => 0))), (q28, .inl (c28, 10, .inl (fun _ => 0)))] H := hP
  have hD : va_D A [(h0, .inr (0, [.ref n0, .ref q13, .ref q20, .ref q28])), (q13, .inl (c13, 3072, .inl (fun _ => 0))), (q20, .inl (c20, 3, .inl (fun _ => 0))), (q28, .inl (c28, 10, .inl (fun _ => 0)))] := hD
  exact W.vret hx hb hr (fun t ht hW => ⟨⟨(q13, q20, q28, c13, c20, c28), rfl, trivial, by rw [ht]; exact hP, va_K.moved hW.alike hK, hD⟩, hS.F ht⟩) hS.2.2 dX0_init_33 hlk
def nw2 (h0 : Nat) (n0 : Nat) (n1 : Nat) (u : Nat × Nat × Nat × ClassId × ClassId × ClassId) : va_W := [(h0, .inr (2, [.ref n0, .ref n1, .ref u.1, .ref u.2.1, .ref u.2.2.1, .int 0, .int 0, .int 0, .int 0])), (u.1, .inl (u.2.2.2.1, 1024, .inl (fun _ => 0))), (u.2.1, .inl (u.2.2.2.2.1, 1024, .inl (fun _ => 0))), (u.2.2.1, .inl (u.2.2.2.2.2, 1024, .inl (fun _ => 0)))]
def nt2 (u : Nat × Nat × Nat × ClassId × ClassId × ClassId) : List (ClassId × FieldType) := [(u.2.2.2.1, .int), (u.2.2.2.2.1, .int), (u.2.2.2.2.2, .int)]
set_option maxHeartbeats 4000000 in
set_option maxRecDepth 100000 in
theorem k_X2_init (l : Launch) (D : va_G) (h0 : Nat) (n0 : Nat) (n1 : Nat) (sz : Nat) : Met l yX2_init (wsM yX2_init cX2_init 3 none) ({ frames := 1, cells := 3, slots := 3072, locals := 20 } : Room) (cPc D [.ref h0, .ref n0, .ref n1] [(h0, .inr (2, [.null, .null, .null, .null, .null, .int 0, .int 0, .int 0, .int 0]))] sz) (cQv D (nw2 h0 n0 n1) nt2 (va_A [(h0, .inr (2, [.null, .null, .null, .null, .null, .int 0, .int 0, .int 0, .int 0]))] sz)) 3 3072 (va_A [(h0, .inr (2, [.null, .null, .null, .null, .null, .int 0, .int 0, .int 0, .int 0]))] sz) := by
  refine Met.ofW (cc := cX2_init) (maxL := 3) (ret := none) (by decide) rfl ?_
  intro p e s m args below meth c s₁ B hml hv
  obtain ⟨rfl, hsz, hP, hK, hD0, hN⟩ := hv
  have hx := B.exec
  have hb := B.bytes
  have hr := B.returns
  have hlk := B.notSynchronized
  have hts : ∀ w ∈ bigW, w.before ([.ref h0, .ref n0, .ref n1] : List Value).toArray s = true := fun w hw => atoms_spec (ws := wsM yX2_init cX2_init 3 none) B.pre w (List.mem_cons_of_mem _ hw)
  have hown : s.vm.findClass RX2 = some m.cls := findClass_of_methodNamed B.named
  have hin : meth.name = "<init>" := (name_of_methodNamed B.named B.method).1
  subst hsz
  have hD := hD0.self (sz := s.heap.size)
  generalize hAe : va_A [(h0, .inr (2, [.null, .null, .null, .null, .null, .int 0, .int 0, .int 0, .int 0]))] s.heap.size = A at hD ⊢
  have hA : ∀ q : Nat, s.heap.size ≤ q → A q := fun q h => by rw [← hAe]; exact Or.inr h
  have hS : va_S A s.heap s.heap [] := va_S.rf
  have hl := lv_entry ([.ref h0, .ref n0, .ref n1]) (n := 3) (Nat.le_of_ble_eq_true rfl)
  rw [lg_entry_eq]
  generalize (lg_sl ([.ref h0, .ref n0, .ref n1]) ++ List.replicate (3 - (lg_sl ([.ref h0, .ref n0, .ref n1])).length) Slot.unset).toArray = ls at hl ⊢
  have hl : lv_has ls 3 [(0, .ref h0), (1, .ref n0), (2, .ref n1)] := hl
  refine lv_aload_n hx hb dX2_init_0 rfl (lv_at hl 0 rfl) ?_
  refine W.objInit hx hb hown (hts _ mw_m_X2_3) (hts _ mw_i_obj) (hts _ mw_c_obj) rfl (by rw [hml]; exact hl.1) rfl dX2_init_1 (Nat.le_of_ble_eq_true rfl) (Nat.le_of_ble_eq_true rfl) ?_
  refine W.eq (g2 := F0 m 4 ls []) rfl ?_
  refine lv_aload_n hx hb dX2_init_4 rfl (lv_at hl 0 rfl) ?_
  refine lv_aload_n hx hb dX2_init_5 rfl (lv_at hl 1 rfl) ?_
  refine va_putF (D := D) (ci := 2) (v := .ref n0) (ty := .object "GameNet$Net") (C := RX2) (T := TX2) (N := 9) hx hb hts iwX2 tyX2 tyX2_ok nmX2 hown hK hP hD hS 0 rfl rfl 0 (by decide) (hts _ mw_f_X2_9) (fun _ h9 => h9) rfl hin rfl (by decide +kernel) rfl rfl (Nat.le_of_ble_eq_true rfl) dX2_init_6 (fun H locs hP hD hS => ?_)
  have hP : va_P D vwCl [(h0, .inr (2, [.ref n0, .null, .null, .null, .null, .int 0, .int 0, .int 0, .int 0]))] H := hP
  have hD : va_D A [(h0, .inr (2, [.ref n0, .null, .null, .null, .null, .int 0, .int 0, .int 0, .int 0]))] := hD
  refine lv_aload_n hx hb dX2_init_9 rfl (lv_at hl 0 rfl) ?_
  refine lv_aload_n hx hb dX2_init_10 rfl (lv_at hl 2 rfl) ?_
  refine va_putF (D := D) (ci := 2) (v := .ref n1) (ty := .object "GameNet$Moves") (C := RX2) (T := TX2) (N := 9) hx hb hts iwX2 tyX2 tyX2_ok nmX2 hown hK hP hD hS 0 rfl rfl 1 (by decide) (hts _ mw_f_X2_15) (fun _ h9 => h9) rfl hin rfl (by decide +kernel) rfl rfl (Nat.le_of_ble_eq_true rfl) dX2_init_11 (fun H locs hP hD hS => ?_)
  have hP : va_P D vwCl [(h0, .inr (2, [.ref n0, .ref n1, .null, .null, .null, .int 0, .int 0, .int 0, .int 0]))] H := hP
  have hD : va_D A [(h0, .inr (2, [.ref n0, .ref n1, .null, .null, .null, .int 0, .int 0, .int 0, .int 0]))] := hD
  refine lv_aload_n hx hb dX2_init_14 rfl (lv_at hl 0 rfl) ?_
  refine lv_sipush (v := 1024) hx hb dX2_init_15 (by decide) ?_
  refine va_newa (atype := .int) (a0 := (1024, .inl (fun _ => 0))) (N' := 1024) (ty := .int) hx hb (hts _ mw_ar_int) rfl hK hP hD hS hA (fun cA => rfl) (by decide) (by decide) (by decide) (Nat.le_of_ble_eq_true rfl) (Nat.le_of_ble_eq_true rfl) dX2_init_18 (fun q18 c18 H hK hP hD hS => ?_)
  have hP : va_P D vwCl [(h0, .inr (2, [.ref n0, .ref n1, .null, .null, .null, .int 0, .int 0, .int 0, .int 0])), (q18, .inl (c18, 1024, .inl (fun _ => 0)))] H := hP
  have hD : va_D A [(h0, .inr (2, [.ref n0, .ref n1, .null, .null, .null, .int 0, .int 0, .int 0, .int 0])), (q18, .inl (c18, 1024, .inl (fun _ => 0)))] := hD
  have hK : va_K D vwCl [(c18, .int)] s := hK
  refine W.widen (k := 1) (n := 1024) (Nat.le_of_ble_eq_true rfl) (Nat.le_of_ble_eq_true rfl) ?_
  refine va_putF (D := D) (ci := 2) (v := .ref q18) (ty := .array .int) (C := RX2) (T := TX2) (N := 9) hx hb hts iwX2 tyX2 tyX2_ok nmX2 hown hK hP hD hS 0 rfl rfl 2 (by decide) (hts _ mw_f_X2_19) (fun _ h9 => h9) rfl hin rfl (by decide +kernel) rfl rfl (Nat.le_of_ble_eq_true rfl) dX2_init_20 (fun H locs hP hD hS => ?_)
  have hP : va_P D vwCl [(h0, .inr (2, [.ref n0, .ref n1, .ref q18, .null, .null, .int 0, .int 0, .int 0, .int 0])), (q18, .inl (c18, 1024, .inl (fun _ => 0)))] H := hP
  have hD : va_D A [(h0, .inr (2, [.ref n0, .ref n1, .ref q18, .null, .null, .int 0, .int 0, .int 0, .int 0])), (q18, .inl (c18, 1024, .inl (fun _ => 0)))] := hD
  refine lv_aload_n hx hb dX2_init_23 rfl (lv_at hl 0 rfl) ?_
  refine lv_sipush (v := 1024) hx hb dX2_init_24 (by decide) ?_
  refine va_newa (atype := .int) (a0 := (1024, .inl (fun _ => 0))) (N' := 1024) (ty := .int) hx hb (hts _ mw_ar_int) rfl hK hP hD hS hA (fun cA => rfl) (by decide) (by decide) (by decide) (Nat.le_of_ble_eq_true rfl) (Nat.le_of_ble_eq_true rfl) dX2_init_27 (fun q27 c27 H hK hP hD hS => ?_)
  have hP : va_P D vwCl [(h0, .inr (2, [.ref n0, .ref n1, .ref q18, .null, .null, .int 0, .int 0, .int 0, .int 0])), (q18, .inl (c18, 1024, .inl (fun _ => 0))), (q27, .inl (c27, 1024, .inl (fun _ => 0)))] H := hP
  have hD : va_D A [(h0, .inr (2, [.ref n0, .ref n1, .ref q18, .null, .null, .int 0, .int 0, .int 0, .int 0])), (q18, .inl (c18, 1024, .inl (fun _ => 0))), (q27, .inl (c27, 1024, .inl (fun _ => 0)))] := hD
  have hK : va_K D vwCl [(c18, .int), (c27, .int)] s := hK
  refine W.widen (k := 2) (n := 2048) (Nat.le_of_ble_eq_true rfl) (Nat.le_of_ble_eq_true rfl) ?_
  refine va_putF (D := D) (ci := 2) (v := .ref q27) (ty := .array .int) (C := RX2) (T := TX2) (N := 9) hx hb hts iwX2 tyX2 tyX2_ok nmX2 hown hK hP hD hS 0 rfl rfl 3 (by decide) (hts _ mw_f_X2_23) (fun _ h9 => h9) rfl hin rfl (by decide +kernel) rfl rfl (Nat.le_of_ble_eq_true rfl) dX2_init_29 (fun H locs hP hD hS => ?_)
  have hP : va_P D vwCl [(h0, .inr (2, [.ref n0, .ref n1, .ref q18, .ref q27, .null, .int 0, .int 0, .int 0, .int 0])), (q18, .inl (c18, 1024, .inl (fun _ => 0))), (q27, .inl (c27, 1024, .inl (fun _ => 0)))] H := hP
  have hD : va_D A [(h0, .inr (2, [.ref n0, .ref n1, .ref q18, .ref q27, .null, .int 0, .int 0, .int 0, .int 0])), (q18, .inl (c18, 1024, .inl (fun _ => 0))), (q27, .inl (c27, 1024, .inl (fun _ => 0)))] := hD
  refine lv_aload_n hx hb dX2_init_32 rfl (lv_at hl 0 rfl) ?_
  refine lv_sipush (v := 1024) hx hb dX2_init_33 (by decide) ?_
  refine va_newa (atype := .int) (a0 := (1024, .inl (fun _ => 0))) (N' := 1024) (ty := .int) hx hb (hts _ mw_ar_int) rfl hK hP hD hS hA (fun cA => rfl) (by decide) (by decide) (by decide) (Nat.le_of_ble_eq_true rfl) (Nat.le_of_ble_eq_true rfl) dX2_init_36 (fun q36 c36 H hK hP hD hS => ?_)
  have hP : va_P D vwCl [(h0, .inr (2, [.ref n0, .ref n1, .ref q18, .ref q27, .null, .int 0, .int 0, .int 0, .int 0])), (q18, .inl (c18, 1024, .inl (fun _ => 0))), (q27, .inl (c27, 1024, .inl (fun _ => 0))), (q36, .inl (c36, 1024, .inl (fun _ => 0)))] H := hP
  have hD : va_D A [(h0, .inr (2, [.ref n0, .ref n1, .ref q18, .ref q27, .null, .int 0, .int 0, .int 0, .int 0])), (q18, .inl (c18, 1024, .inl (fun _ => 0))), (q27, .inl (c27, 1024, .inl (fun _ => 0))), (q36, .inl (c36, 1024, .inl (fun _ => 0)))] := hD
  have hK : va_K D vwCl [(c18, .int), (c27, .int), (c36, .int)] s := hK
  refine W.widen (k := 3) (n := 3072) (Nat.le_of_ble_eq_true rfl) (Nat.le_of_ble_eq_true rfl) ?_
  refine va_putF (D := D) (ci := 2) (v := .ref q36) (ty := .array .int) (C := RX2) (T := TX2) (N := 9) hx hb hts iwX2 tyX2 tyX2_ok nmX2 hown hK hP hD hS 0 rfl rfl 4 (by decide) (hts _ mw_f_X2_26) (fun _ h9 => h9) rfl hin rfl (by decide +kernel) rfl rfl (Nat.le_of_ble_eq_true rfl) dX2_init_38 (fun H locs hP hD hS => ?_)
  have hP : va_P D vwCl [(h0, .inr (2, [.ref n0, .ref n1, .ref q18, .ref q27, .ref q36, .int 0, .int 0, .int 0, .int 0])), (q18, .inl (c18, 1024, .inl (fun _ => 0))), (q27, .inl (c27, 1024, .inl (fun _ => 0))), (q36, .inl (c36, 1024, .inl (fun _ => 0)))] H := hP
  have hD : va_D A [(h0, .inr (2, [.ref n0, .ref n1, .ref q18, .ref q27, .ref q36, .int 0, .int 0, .int 0, .int 0])), (q18, .inl (c18, 1024, .inl (fun _ => 0))), (q27, .inl (c27, 1024, .inl (fun _ => 0))), (q36, .inl (c36, 1024, .inl (fun _ => 0)))] := hD
  refine lv_aload_n hx hb dX2_init_41 rfl (lv_at hl 0 rfl) ?_
  refine lv_iconst (v := 0) hx hb dX2_init_42 (by decide) ?_
  refine va_put (D := D) (ci := 2) (v := .int 0) (ty := .boolean) (C := RX2) (T := TX2) (N := 9) hx hb hts iwX2 tyX2 tyX2_ok nmX2 hown hK hP hD hS 0 rfl rfl 5 (by decide) (hts _ mw_f_X2_29) (fun _ h9 => h9) rfl (by decide +kernel) rfl rfl (Nat.le_of_ble_eq_true rfl) dX2_init_43 (fun H locs hP hD hS => ?_)
  have hP : va_P D vwCl [(h0, .inr (2, [.ref n0, .ref n1, .ref q18, .ref q27, .ref q36, .int 0, .int 0, .int 0, .int 0])), (q18, .inl (c18, 1024, .inl (fun _ => 0))), (q27, .inl (c27, 1024, .inl (fun _ => 0))), (q36, .inl (c36, 1024, .inl (fun _ => 0)))] H := hP
  have hD : va_D A [(h0, .inr (2, [.ref n0, .ref n1, .ref q18, .ref q27, .ref q36, .int 0, .int 0, .int 0, .int 0])), (q18, .inl (c18, 1024, .inl (fun _ => 0))), (q27, .inl (c27, 1024, .inl (fun _ => 0))), (q36, .inl (c36, 1024, .inl (fun _ => 0)))] := hD
  refine lv_aload_n hx hb dX2_init_46 rfl (lv_at hl 0 rfl) ?_
  refine lv_iconst (v := 0) hx hb dX2_init_47 (by decide) ?_
  refine va_put (D := D) (ci := 2) (v := .int 0) (ty := .int) (C := RX2) (T := TX2) (N := 9) hx hb hts iwX2 tyX2 tyX2_ok nmX2 hown hK hP hD hS 0 rfl rfl 6 (by decide) (hts _ mw_f_X2_33) (fun _ h9 => h9) rfl (by decide +kernel) rfl rfl (Nat.le_of_ble_eq_true rfl) dX2_init_48 (fun H locs hP hD hS => ?_)
  have hP : va_P D vwCl [(h0, .inr (2, [.ref n0, .ref n1, .ref q18, .ref q27, .ref q36, .int 0, .int 0, .int 0, .int 0])), (q18, .inl (c18, 1024, .inl (fun _ => 0))), (q27, .inl (c27, 1024, .inl (fun _ => 0))), (q36, .inl (c36, 1024, .inl (fun _ => 0)))] H := hP
  have hD : va_D A [(h0, .inr (2, [.ref n0, .ref n1, .ref q18, .ref q27, .ref q36, .int 0, .int 0, .int 0, .int 0])), (q18, .inl (c18, 1024, .inl (fun _ => 0))), (q27, .inl (c27, 1024, .inl (fun _ => 0))), (q36, .inl (c36, 1024, .inl (fun _ => 0)))] := hD
  refine lv_aload_n hx hb dX2_init_51 rfl (lv_at hl 0 rfl) ?_
  refine lv_iconst (v := 0) hx hb dX2_init_52 (by decide) ?_
  refine va_put (D := D) (ci := 2) (v := .int 0) (ty := .int) (C := RX2) (T := TX2) (N := 9) hx hb hts iwX2 tyX2 tyX2_ok nmX2 hown hK hP hD hS 0 rfl rfl 7 (by decide) (hts _ mw_f_X2_37) (fun _ h9 => h9) rfl (by decide +kernel) rfl rfl (Nat.le_of_ble_eq_true rfl) dX2_init_53 (fun H locs hP hD hS => ?_)
  have hP : va_P D vwCl [(h0, .inr (2, [.ref n0, .ref n1, .ref q18, .ref q27, .ref q36, .int 0, .int 0, .int 0, .int 0])), (q18, .inl (c18, 1024, .inl (fun _ => 0))), (q27, .inl (c27, 1024, .inl (fun _ => 0))), (q36, .inl (c36, 1024, .inl (fun _ => 0)))] H := hP
  have hD : va_D A [(h0, .inr (2, [.ref n0, .ref n1, .ref q18, .ref q27, .ref q36, .int 0, .int 0, .int 0, .int 0])), (q18, .inl (c18, 1024, .inl (fun _ => 0))), (q27, .inl (c27, 1024, .inl (fun _ => 0))), (q36, .inl (c36, 1024, .inl (fun _ => 0)))] := hD
  refine lv_aload_n hx hb dX2_init_56 rfl (lv_at hl 0 rfl) ?_
  refine lv_iconst (v := 0) hx hb dX2_init_57 (by decide) ?_
  refine va_put (D := D) (ci := 2) (v := .int 0) (ty := .int) (C := RX2) (T := TX2) (N := 9) hx hb hts iwX2 tyX2 tyX2_ok nmX2 hown hK hP hD hS 0 rfl rfl 8 (by decide) (hts _ mw_f_X2_40) (fun _ h9 => h9) rfl (by decide +kernel) rfl rfl (Nat.le_of_ble_eq_true rfl) dX2_init_58 (fun H locs hP hD hS => ?_)
  have hP : va_P D vwCl [(h0, .inr (2, [.ref n0, .ref n1, .ref q18, .ref q27, .ref q36, .int 0, .int 0, .int 0, .int 0])), (q18, .inl (c18, 1024, .inl (fun _ => 0))), (q27, .inl (c27, 1024, .inl (fun _ => 0))), (q36, .inl (c36, 1024, .inl (fun _ => 0)))] H := hP
  have hD : va_D A [(h0, .inr (2, [.ref n0, .ref n1, .ref q18, .ref q27, .ref q36, .int 0, .int 0, .int 0, .int 0])), (q18, .inl (c18, 1024, .inl (fun _ => 0))), (q27, .inl (c27, 1024, .inl (fun _ => 0))), (q36, .inl (c36, 1024, .inl (fun _ => 0)))] := hD
  exact W.vret hx hb hr (fun t ht hW => ⟨⟨(q18, q27, q36, c18, c27, c36), rfl, trivial, by rw [ht]; exact hP, va_K.moved hW.alike hK, hD⟩, hS.F ht⟩) hS.2.2 dX2_init_61 hlk
def gs0 : GS := (4, 50, 0, 0, 0, 0, 0, 0, (fun _ => 0), (fun _ => 0), (upd (upd (upd (upd (fun _ => 0) (0 : Int32).toNatClampNeg 1) (1 : Int32).toNatClampNeg 0) (2 : Int32).toNatClampNeg 0) (3 : Int32).toNatClampNeg 1), (fun _ => 0), (fun _ => 0), (fun _ => 0), (fun _ => 0), (fun _ => 0), (fun _ => 0), (fun _ => 0))
def ms0 : MS := (4, 50, 0, 0, (fun _ => 0), (upd (upd (fun _ => 0) (0 : Int32).toNatClampNeg 1) (3 : Int32).toNatClampNeg 1), (fun _ => 0), (fun _ => 0), (fun _ => 0))
set_option maxHeartbeats 4000000 in
set_option maxRecDepth 100000 in
theorem k_X3_init (l : Launch) (D : va_G) (h0 : Nat) (sz : Nat) : Met l yX3_init (wsM yX3_init cX3_init 1 none) ({ frames := 2, cells := 13, slots := 7313, locals := 42 } : Room) (cPc D [.ref h0] [(h0, .inr (3, [.null, .null, .null, .null, .int 0, .int 0]))] sz) (va_Qv (fun (u : (Nat → Nat) × (Nat → ClassId)) => u.1 0 = h0) (fun u t => va_P D vwCl (gw u.2 u.1 gs0) t.heap ∧ va_K D vwCl (gT u.2) t ∧ va_D (va_A [(h0, .inr (3, [.null, .null, .null, .null, .int 0, .int 0]))] sz) (gw u.2 u.1 gs0)) (va_A [(h0, .inr (3, [.null, .null, .null, .null, .int 0, .int 0]))] sz)) 13 7313 (va_A [(h0, .inr (3, [.null, .null, .null, .null, .int 0, .int 0]))] sz) := by
  refine Met.ofW (cc := cX3_init) (maxL := 1) (ret := none) (by decide) rfl ?_
  intro p e s m args below meth c s₁ B hml hv
  obtain ⟨rfl, hsz, hP, hK, hD0, hN⟩ := hv
  have hx := B.exec
  have hb := B.bytes
  have hr := B.returns
  have hlk := B.notSynchronized
  have hts : ∀ w ∈ bigW, w.before ([.ref h0] : List Value).toArray s = true := fun w hw => atoms_spec (ws := wsM yX3_init cX3_init 1 none) B.pre w (List.mem_cons_of_mem _ hw)
  have hown : s.vm.findClass RX3 = some m.cls := findClass_of_methodNamed B.named
  have hin : meth.name = "<init>" := (name_of_methodNamed B.named B.method).1
  subst hsz
  have hD := hD0.self (sz := s.heap.size)
  generalize hAe : va_A [(h0, .inr (3, [.null, .null, .null, .null, .int 0, .int 0]))] s.heap.size = A at hD ⊢
  have hA : ∀ q : Nat, s.heap.size ≤ q → A q := fun q h => by rw [← hAe]; exact Or.inr h
  have hS : va_S A s.heap s.heap [] := va_S.rf
  have hl := lv_entry ([.ref h0]) (n := 1) (Nat.le_of_ble_eq_true rfl)
  rw [lg_entry_eq]
  generalize (lg_sl ([.ref h0]) ++ List.replicate (1 - (lg_sl ([.ref h0])).length) Slot.unset).toArray = ls at hl ⊢
  have hl : lv_has ls 1 [(0, .ref h0)] := hl
  refine lv_aload_n hx hb dX3_init_0 rfl (lv_at hl 0 rfl) ?_
  refine W.objInit hx hb hown (hts _ mw_m_X3_1) (hts _ mw_i_obj) (hts _ mw_c_obj) rfl (by rw [hml]; exact hl.1) rfl dX3_init_1 (Nat.le_of_ble_eq_true rfl) (Nat.le_of_ble_eq_true rfl) ?_
  refine W.eq (g2 := F0 m 4 ls []) rfl ?_
  refine lv_aload_n hx hb dX3_init_4 rfl (lv_at hl 0 rfl) ?_
  refine va_new (ci := 1) (fs := [.null, .null, .null, .int 0, .int 0]) (C := RX1) (T := TX1) (N := 5) hx hb hts iwX1 tyX1 tyX1_ok hown (hts _ mw_k_X3_7) (hts _ mw_n_X1) (hts _ mw_in_X1) hK hP hD hS hA rfl (fun j hj => by rcases (show j = 0 ∨ j = 1 ∨ j = 2 ∨ j = 3 ∨ j = 4 by omega) with rfl | rfl | rfl | rfl | rfl <;> rfl) (Nat.le_of_ble_eq_true rfl) (Nat.le_of_ble_eq_true rfl) dX3_init_5 (fun q5 H hP hD hS => ?_)
  have hP : va_P D vwCl [(h0, .inr (3, [.null, .null, .null, .null, .int 0, .int 0])), (q5, .inr (1, [.null, .null, .null, .int 0, .int 0]))] H := hP
  have hD : va_D A [(h0, .inr (3, [.null, .null, .null, .null, .int 0, .int 0])), (q5, .inr (1, [.null, .null, .null, .int 0, .int 0]))] := hD
  refine W.widen (k := 1) (n := 5) (Nat.le_of_ble_eq_true rfl) (Nat.le_of_ble_eq_true rfl) ?_
  refine lv_dup hx hb dX3_init_8 rfl ?_
  have hPc := hP.sub (ws' := [(q5, .inr (1, [.null, .null, .null, .int 0, .int 0]))]) [1] rfl
  have hDc := hD.sub (ws' := [(q5, .inr (1, [.null, .null, .null, .int 0, .int 0]))]) [1] (by decide) rfl
  have hKc := hK.sub (tys' := []) [] rfl
  have hFc := va_free (wc := [(q5, .inr (1, [.null, .null, .null, .int 0, .int 0]))]) hD hS hA [1] rfl
  refine va_callv (va_runIN (As := []) (rest := [.ref q5, .ref h0]) ⟨hx, hb, hml, hown, hts⟩ (k_X1_init l D q5 H.size) ⟨va_cnB 0 hts (good_M mw_c_X1_init) rfl rfl rfl (hN _ mw_m_X3_9) (hts _ mw_in_X1) ⟨by decide, by decide, by decide +kernel⟩ ⟨Nat.le_of_ble_eq_true rfl, Nat.le_of_ble_eq_true rfl⟩, rfl, hts _ mw_i_X1_init⟩ ⟨c_blind, fun U hU hW => ⟨rfl, by rw [hU], by rw [hU]; exact hPc, va_K.moved hW.alike hKc, hDc.weaken (fun _ _ _ _ => trivial), Nst.warm hW hN⟩⟩ rfl rfl hl.1 rfl (lv_room (Nat.le_of_ble_eq_true rfl)) dX3_init_9 ⟨Nat.le_of_ble_eq_true rfl, Nat.le_of_ble_eq_true rfl⟩) hS (fun q _ h => hFc q h) hFc (fun u9 t H1 locs ht hvm _ hB hz1 hk1 hS => ?_)
  obtain ⟨q7_9, q15_9, q22_9, c7_9, c15_9, c22_9⟩ := u9
  obtain ⟨hP1, hK1, hD1⟩ := hB
  rw [ht] at hP1
  have hK1 := va_K.moved hvm.symm hK1
  obtain ⟨hP, hD⟩ := va_join (wr := [(h0, .inr (3, [.null, .null, .null, .null, .int 0, .int 0]))]) (w1 := [(q5, .inr (1, [.ref q7_9, .ref q15_9, .ref q22_9, .int 4, .int 50])), (q7_9, .inl (c7_9, 100, .inl (fun _ => 0))), (q15_9, .inl (c15_9, 10, .inl (fun _ => 0))), (q22_9, .inl (c22_9, 4, .inl (upd (upd (upd (upd (fun _ => 0) (0 : Int32).toNatClampNeg 1) (1 : Int32).toNatClampNeg 0) (2 : Int32).toNatClampNeg 0) (3 : Int32).toNatClampNeg 1)))]) hP hD [1] [0] rfl rfl (by decide) (by decide) hk1 hFc hP1 hD1
  have hK := (hK.sub (tys' := []) [] rfl).app hK1
  generalize H1 = H at hP hS ⊢
  have hP : va_P D vwCl [(h0, .inr (3, [.null, .null, .null, .null, .int 0, .int 0])), (q5, .inr (1, [.ref q7_9, .ref q15_9, .ref q22_9, .int 4, .int 50])), (q7_9, .inl (c7_9, 100, .inl (fun _ => 0))), (q15_9, .inl (c15_9, 10, .inl (fun _ => 0))), (q22_9, .inl (c22_9, 4, .inl (upd (upd (upd (upd (fun _ => 0) (0 : Int32).toNatClampNeg 1) (1 : Int32).toNatClampNeg 0) (2 : Int32).toNatClampNeg 0) (3 : Int32).toNatClampNeg 1)))] H := hP
  have hD : va_D A [(h0, .inr (3, [.null, .null, .null, .null, .int 0, .int 0])), (q5, .inr (1, [.ref q7_9, .ref q15_9, .ref q22_9, .int 4, .int 50])), (q7_9, .inl (c7_9, 100, .inl (fun _ => 0))), (q15_9, .inl (c15_9, 10, .inl (fun _ => 0))), (q22_9, .inl (c22_9, 4, .inl (upd (upd (upd (upd (fun _ => 0) (0 : Int32).toNatClampNeg 1) (1 : Int32).toNatClampNeg 0) (2 : Int32).toNatClampNeg 0) (3 : Int32).toNatClampNeg 1)))] := hD
  have hK : va_K D vwCl [(c7_9, .int), (c15_9, .int), (c22_9, .int)] s := hK
  refine W.widen (k := 4) (n := 119) (Nat.le_of_ble_eq_true rfl) (Nat.le_of_ble_eq_true rfl) ?_
  refine va_putF (D := D) (ci := 3) (v := .ref q5) (ty := .object "GameNet$Net") (C := RX3) (T := TX3) (N := 6) hx hb hts iwX3 tyX3 tyX3_ok nmX3 hown hK hP hD hS 0 rfl rfl 0 (by decide) (hts _ mw_f_X3_10) (fun _ h9 => h9) rfl hin rfl (by decide +kernel) rfl rfl (Nat.le_of_ble_eq_true rfl) dX3_init_12 (fun H locs hP hD hS => ?_)
  have hP : va_P D vwCl [(h0, .inr (3, [.ref q5, .null, .null, .null, .int 0, .int 0])), (q5, .inr (1, [.ref q7_9, .ref q15_9, .ref q22_9, .int 4, .int 50])), (q7_9, .inl (c7_9, 100, .inl (fun _ => 0))), (q15_9, .inl (c15_9, 10, .inl (fun _ => 0))), (q22_9, .inl (c22_9, 4, .inl (upd (upd (upd (upd (fun _ => 0) (0 : Int32).toNatClampNeg 1) (1 : Int32).toNatClampNeg 0) (2 : Int32).toNatClampNeg 0) (3 : Int32).toNatClampNeg 1)))] H := hP
  have hD : va_D A [(h0, .inr (3, [.ref q5, .null, .null, .null, .int 0, .int 0])), (q5, .inr (1, [.ref q7_9, .ref q15_9, .ref q22_9, .int 4, .int 50])), (q7_9, .inl (c7_9, 100, .inl (fun _ => 0))), (q15_9, .inl (c15_9, 10, .inl (fun _ => 0))), (q22_9, .inl (c22_9, 4, .inl (upd (upd (upd (upd (fun _ => 0) (0 : Int32).toNatClampNeg 1) (1 : Int32).toNatClampNeg 0) (2 : Int32).toNatClampNeg 0) (3 : Int32).toNatClampNeg 1)))] := hD
  refine lv_aload_n hx hb dX3_init_15 rfl (lv_at hl 0 rfl) ?_
  refine va_new (ci := 0) (fs := [.null, .null, .null, .null]) (C := RX0) (T := TX0) (N := 4) hx hb hts iwX0 tyX0 tyX0_ok hown (hts _ mw_k_X3_16) (hts _ mw_n_X0) (hts _ mw_in_X0) hK hP hD hS hA rfl (fun j hj => by rcases (show j = 0 ∨ j = 1 ∨ j = 2 ∨ j = 3 by omega) with rfl | rfl | rfl | rfl <;> rfl) (Nat.le_of_ble_eq_true rfl) (Nat.le_of_ble_eq_true rfl) dX3_init_16 (fun q16 H hP hD hS => ?_)
  have hP : va_P D vwCl [(h0, .inr (3, [.ref q5, .null, .null, .null, .int 0, .int 0])), (q5, .inr (1, [.ref q7_9, .ref q15_9, .ref q22_9, .int 4, .int 50])), (q7_9, .inl (c7_9, 100, .inl (fun _ => 0))), (q15_9, .inl (c15_9, 10, .inl (fun _ => 0))), (q22_9, .inl (c22_9, 4, .inl (upd (upd (upd (upd (fun _ => 0) (0 : Int32).toNatClampNeg 1) (1 : Int32).toNatClampNeg 0) (2 : Int32).toNatClampNeg 0) (3 : Int32).toNatClampNeg 1))), (q16, .inr (0, [.null, .null, .null, .null]))] H := hP
  have hD : va_D A [(h0, .inr (3, [.ref q5, .null, .null, .null, .int 0, .int 0])), (q5, .inr (1, [.ref q7_9, .ref q15_9, .ref q22_9, .int 4, .int 50])), (q7_9, .inl (c7_9, 100, .inl (fun _ => 0))), (q15_9, .inl (c15_9, 10, .inl (fun _ => 0))), (q22_9, .inl (c22_9, 4, .inl (upd (upd (upd (upd (fun _ => 0) (0 : Int32).toNatClampNeg 1) (1 : Int32).toNatClampNeg 0) (2 : Int32).toNatClampNeg 0) (3 : Int32).toNatClampNeg 1))), (q16, .inr (0, [.null, .null, .null, .null]))] := hD
  refine W.widen (k := 5) (n := 123) (Nat.le_of_ble_eq_true rfl) (Nat.le_of_ble_eq_true rfl) ?_
  refine lv_dup hx hb dX3_init_19 rfl ?_
  refine lv_aload_n hx hb dX3_init_20 rfl (lv_at hl 0 rfl) ?_
  refine va_get (D := D) (ci := 3) (v := .ref q5) (C := RX3) (T := TX3) (N := 6) hx hb hts iwX3 hown hK hP 0 rfl rfl 0 (by decide) (hts _ mw_f_X3_10) (fun _ h9 => h9) rfl dX3_init_21 ?_
  have hPc := hP.sub (ws' := [(q16, .inr (0, [.null, .null, .null, .null]))]) [5] rfl
  have hDc := hD.sub (ws' := [(q16, .inr (0, [.null, .null, .null, .null]))]) [5] (by decide) rfl
  have hKc := hK.sub (tys' := []) [] rfl
  have hFc := va_free (wc := [(q16, .inr (0, [.null, .null, .null, .null]))]) hD hS hA [5] rfl
  refine va_callv (va_runIN (As := [.ref q5]) (rest := [.ref q16, .ref h0]) ⟨hx, hb, hml, hown, hts⟩ (k_X0_init l D q16 q5 H.size) ⟨va_cnB 1 hts (good_M mw_c_X0_init) rfl rfl rfl (hN _ mw_m_X3_18) (hts _ mw_in_X0) ⟨by decide, by decide, by decide +kernel⟩ ⟨Nat.le_of_ble_eq_true rfl, Nat.le_of_ble_eq_true rfl⟩, rfl, hts _ mw_i_X0_init⟩ ⟨c_blind, fun U hU hW => ⟨rfl, by rw [hU], by rw [hU]; exact hPc, va_K.moved hW.alike hKc, hDc.weaken (fun _ _ _ _ => trivial), Nst.warm hW hN⟩⟩ rfl rfl hl.1 rfl (lv_room (Nat.le_of_ble_eq_true rfl)) dX3_init_24 ⟨Nat.le_of_ble_eq_true rfl, Nat.le_of_ble_eq_true rfl⟩) hS (fun q _ h => hFc q h) hFc (fun u24 t H1 locs ht hvm _ hB hz1 hk1 hS => ?_)
  obtain ⟨q13_24, q20_24, q28_24, c13_24, c20_24, c28_24⟩ := u24
  obtain ⟨hP1, hK1, hD1⟩ := hB
  rw [ht] at hP1
  have hK1 := va_K.moved hvm.symm hK1
  obtain ⟨hP, hD⟩ := va_join (wr := [(h0, .inr (3, [.ref q5, .null, .null, .null, .int 0, .int 0])), (q5, .inr (1, [.ref q7_9, .ref q15_9, .ref q22_9, .int 4, .int 50])), (q7_9, .inl (c7_9, 100, .inl (fun _ => 0))), (q15_9, .inl (c15_9, 10, .inl (fun _ => 0))), (q22_9, .inl (c22_9, 4, .inl (upd (upd (upd (upd (fun _ => 0) (0 : Int32).toNatClampNeg 1) (1 : Int32).toNatClampNeg 0) (2 : Int32).toNatClampNeg 0) (3 : Int32).toNatClampNeg 1)))]) (w1 := [(q16, .inr (0, [.ref q5, .ref q13_24, .ref q20_24, .ref q28_24])), (q13_24, .inl (c13_24, 3072, .inl (fun _ => 0))), (q20_24, .inl (c20_24, 3, .inl (fun _ => 0))), (q28_24, .inl (c28_24, 10, .inl (fun _ => 0)))]) hP hD [5] [0, 1, 2, 3, 4] rfl rfl (by decide) (by decide) hk1 hFc hP1 hD1
  have hK := (hK.sub (tys' := [(c7_9, .int), (c15_9, .int), (c22_9, .int)]) [0, 1, 2] rfl).app hK1
  generalize H1 = H at hP hS ⊢
  have hP : va_P D vwCl [(h0, .inr (3, [.ref q5, .null, .null, .null, .int 0, .int 0])), (q5, .inr (1, [.ref q7_9, .ref q15_9, .ref q22_9, .int 4, .int 50])), (q7_9, .inl (c7_9, 100, .inl (fun _ => 0))), (q15_9, .inl (c15_9, 10, .inl (fun _ => 0))), (q22_9, .inl (c22_9, 4, .inl (upd (upd (upd (upd (fun _ => 0) (0 : Int32).toNatClampNeg 1) (1 : Int32).toNatClampNeg 0) (2 : Int32).toNatClampNeg 0) (3 : Int32).toNatClampNeg 1))), (q16, .inr (0, [.ref q5, .ref q13_24, .ref q20_24, .ref q28_24])), (q13_24, .inl (c13_24, 3072, .inl (fun _ => 0))), (q20_24, .inl (c20_24, 3, .inl (fun _ => 0))), (q28_24, .inl (c28_24, 10, .inl (fun _ => 0)))] H := hP
  have hD : va_D A [(h0, .inr (3, [.ref q5, .null, .null, .null, .int 0, .int 0])), (q5, .inr (1, [.ref q7_9, .ref q15_9, .ref q22_9, .int 4, .int 50])), (q7_9, .inl (c7_9, 100, .inl (fun _ => 0))), (q15_9, .inl (c15_9, 10, .inl (fun _ => 0))), (q22_9, .inl (c22_9, 4, .inl (upd (upd (upd (upd (fun _ => 0) (0 : Int32).toNatClampNeg 1) (1 : Int32).toNatClampNeg 0) (2 : Int32).toNatClampNeg 0) (3 : Int32).toNatClampNeg 1))), (q16, .inr (0, [.ref q5, .ref q13_24, .ref q20_24, .ref q28_24])), (q13_24, .inl (c13_24, 3072, .inl (fun _ => 0))), (q20_24, .inl (c20_24, 3, .inl (fun _ => 0))), (q28_24, .inl (c28_24, 10, .inl (fun _ => 0)))] := hD
  have hK : va_K D vwCl [(c7_9, .int), (c15_9, .int), (c22_9, .int), (c13_24, .int), (c20_24, .boolean), (c28_24, .int)] s := hK
  refine W.widen (k := 8) (n := 3208) (Nat.le_of_ble_eq_true rfl) (Nat.le_of_ble_eq_true rfl) ?_
  refine va_putF (D := D) (ci := 3) (v := .ref q16) (ty := .object "GameNet$Moves") (C := RX3) (T := TX3) (N := 6) hx hb hts iwX3 tyX3 tyX3_ok nmX3 hown hK hP hD hS 0 rfl rfl 1 (by decide) (hts _ mw_f_X3_21) (fun _ h9 => h9) rfl hin rfl (by decide +kernel) rfl rfl (Nat.le_of_ble_eq_true rfl) dX3_init_27 (fun H locs hP hD hS => ?_)
  have hP : va_P D vwCl [(h0, .inr (3, [.ref q5, .ref q16, .null, .null, .int 0, .int 0])), (q5, .inr (1, [.ref q7_9, .ref q15_9, .ref q22_9, .int 4, .int 50])), (q7_9, .inl (c7_9, 100, .inl (fun _ => 0))), (q15_9, .inl (c15_9, 10, .inl (fun _ => 0))), (q22_9, .inl (c22_9, 4, .inl (upd (upd (upd (upd (fun _ => 0) (0 : Int32).toNatClampNeg 1) (1 : Int32).toNatClampNeg 0) (2 : Int32).toNatClampNeg 0) (3 : Int32).toNatClampNeg 1))), (q16, .inr (0, [.ref q5, .ref q13_24, .ref q20_24, .ref q28_24])), (q13_24, .inl (c13_24, 3072, .inl (fun _ => 0))), (q20_24, .inl (c20_24, 3, .inl (fun _ => 0))), (q28_24, .inl (c28_24, 10, .inl (fun _ => 0)))] H := hP
  have hD : va_D A [(h0, .inr (3, [.ref q5, .ref q16, .null, .null, .int 0, .int 0])), (q5, .inr (1, [.ref q7_9, .ref q15_9, .ref q22_9, .int 4, .int 50])), (q7_9, .inl (c7_9, 100, .inl (fun _ => 0))), (q15_9, .inl (c15_9, 10, .inl (fun _ => 0))), (q22_9, .inl (c22_9, 4, .inl (upd (upd (upd (upd (fun _ => 0) (0 : Int32).toNatClampNeg 1) (1 : Int32).toNatClampNeg 0) (2 : Int32).toNatClampNeg 0) (3 : Int32).toNatClampNeg 1))), (q16, .inr (0, [.ref q5, .ref q13_24, .ref q20_24, .ref q28_24])), (q13_24, .inl (c13_24, 3072, .inl (fun _ => 0))), (q20_24, .inl (c20_24, 3, .inl (fun _ => 0))), (q28_24, .inl (c28_24, 10, .inl (fun _ => 0)))] := hD
  refine lv_aload_n hx hb dX3_init_30 rfl (lv_at hl 0 rfl) ?_
  refine va_new (ci := 2) (fs := [.null, .null, .null, .null, .null, .int 0, .int 0, .int 0, .int 0]) (C := RX2) (T := TX2) (N := 9) hx hb hts iwX2 tyX2 tyX2_ok hown (hts _ mw_k_X3_25) (hts _ mw_n_X2) (hts _ mw_in_X2) hK hP hD hS hA rfl (fun j hj => by rcases (show j = 0 ∨ j = 1 ∨ j = 2 ∨ j = 3 ∨ j = 4 ∨ j = 5 ∨ j = 6 ∨ j = 7 ∨ j = 8 by omega) with rfl | rfl | rfl | rfl | rfl | rfl | rfl | rfl | rfl <;> rfl) (Nat.le_of_ble_eq_true rfl) (Nat.le_of_ble_eq_true rfl) dX3_init_31 (fun q31 H hP hD hS => ?_)
  have hP : va_P D vwCl [(h0, .inr (3, [.ref q5, .ref q16, .null, .null, .int 0, .int 0])), (q5, .inr (1, [.ref q7_9, .ref q15_9, .ref q22_9, .int 4, .int 50])), (q7_9, .inl (c7_9, 100, .inl (fun _ => 0))), (q15_9, .inl (c15_9, 10, .inl (fun _ => 0))), (q22_9, .inl (c22_9, 4, .inl (upd (upd (upd (upd (fun _ => 0) (0 : Int32).toNatClampNeg 1) (1 : Int32).toNatClampNeg 0) (2 : Int32).toNatClampNeg 0) (3 : Int32).toNatClampNeg 1))), (q16, .inr (0, [.ref q5, .ref q13_24, .ref q20_24, .ref q28_24])), (q13_24, .inl (c13_24, 3072, .inl (fun _ => 0))), (q20_24, .inl (c20_24, 3, .inl (fun _ => 0))), (q28_24, .inl (c28_24, 10, .inl (fun _ => 0))), (q31, .inr (2, [.null, .null, .null, .null, .null, .int 0, .int 0, .int 0, .int 0]))] H := hP
  have hD : va_D A [(h0, .inr (3, [.ref q5, .ref q16, .null, .null, .int 0, .int 0])), (q5, .inr (1, [.ref q7_9, .ref q15_9, .ref q22_9, .int 4, .int 50])), (q7_9, .inl (c7_9, 100, .inl (fun _ => 0))), (q15_9, .inl (c15_9, 10, .inl (fun _ => 0))), (q22_9, .inl (c22_9, 4, .inl (upd (upd (upd (upd (fun _ => 0) (0 : Int32).toNatClampNeg 1) (1 : Int32).toNatClampNeg 0) (2 : Int32).toNatClampNeg 0) (3 : Int32).toNatClampNeg 1))), (q16, .inr (0, [.ref q5, .ref q13_24, .ref q20_24, .ref q28_24])), (q13_24, .inl (c13_24, 3072, .inl (fun _ => 0))), (q20_24, .inl (c20_24, 3, .inl (fun _ => 0))), (q28_24, .inl (c28_24, 10, .inl (fun _ => 0))), (q31, .inr (2, [.null, .null, .null, .null, .null, .int 0, .int 0, .int 0, .int 0]))] := hD
  refine W.widen (k := 9) (n := 3217) (Nat.le_of_ble_eq_true rfl) (Nat.le_of_ble_eq_true rfl) ?_
  refine lv_dup hx hb dX3_init_34 rfl ?_
  refine lv_aload_n hx hb dX3_init_35 rfl (lv_at hl 0 rfl) ?_
  refine va_get (D := D) (ci := 3) (v := .ref q5) (C := RX3) (T := TX3) (N := 6) hx hb hts iwX3 hown hK hP 0 rfl rfl 0 (by decide) (hts _ mw_f_X3_10) (fun _ h9 => h9) rfl dX3_init_36 ?_
  refine lv_aload_n hx hb dX3_init_39 rfl (lv_at hl 0 rfl) ?_
  refine va_get (D := D) (ci := 3) (v := .ref q16) (C := RX3) (T := TX3) (N := 6) hx hb hts iwX3 hown hK hP 0 rfl rfl 1 (by decide) (hts _ mw_f_X3_21) (fun _ h9 => h9) rfl dX3_init_40 ?_
  have hPc := hP.sub (ws' := [(q31, .inr (2, [.null, .null, .null, .null, .null, .int 0, .int 0, .int 0, .int 0]))]) [9] rfl
  have hDc := hD.sub (ws' := [(q31, .inr (2, [.null, .null, .null, .null, .null, .int 0, .int 0, .int 0, .int 0]))]) [9] (by decide) rfl
  have hKc := hK.sub (tys' := []) [] rfl
  have hFc := va_free (wc := [(q31, .inr (2, [.null, .null, .null, .null, .null, .int 0, .int 0, .int 0, .int 0]))]) hD hS hA [9] rfl
  refine va_callv (va_runIN (As := [.ref q5, .ref q16]) (rest := [.ref q31, .ref h0]) ⟨hx, hb, hml, hown, hts⟩ (k_X2_init l D q31 q5 q16 H.size) ⟨va_cnB 2 hts (good_M mw_c_X2_init) rfl rfl rfl (hN _ mw_m_X3_27) (hts _ mw_in_X2) ⟨by decide, by decide, by decide +kernel⟩ ⟨Nat.le_of_ble_eq_true rfl, Nat.le_of_ble_eq_true rfl⟩, rfl, hts _ mw_i_X2_init⟩ ⟨c_blind, fun U hU hW => ⟨rfl, by rw [hU], by rw [hU]; exact hPc, va_K.moved hW.alike hKc, hDc.weaken (fun _ _ _ _ => trivial), Nst.warm hW hN⟩⟩ rfl rfl hl.1 rfl (lv_room (Nat.le_of_ble_eq_true rfl)) dX3_init_43 ⟨Nat.le_of_ble_eq_true rfl, Nat.le_of_ble_eq_true rfl⟩) hS (fun q _ h => hFc q h) hFc (fun u43 t H1 locs ht hvm _ hB hz1 hk1 hS => ?_)
  obtain ⟨q18_43, q27_43, q36_43, c18_43, c27_43, c36_43⟩ := u43
  obtain ⟨hP1, hK1, hD1⟩ := hB
  rw [ht] at hP1
  have hK1 := va_K.moved hvm.symm hK1
  obtain ⟨hP, hD⟩ := va_join (wr := [(h0, .inr (3, [.ref q5, .ref q16, .null, .null, .int 0, .int 0])), (q5, .inr (1, [.ref q7_9, .ref q15_9, .ref q22_9, .int 4, .int 50])), (q7_9, .inl (c7_9, 100, .inl (fun _ => 0))), (q15_9, .inl (c15_9, 10, .inl (fun _ => 0))), (q22_9, .inl (c22_9, 4, .inl (upd (upd (upd (upd (fun _ => 0) (0 : Int32).toNatClampNeg 1) (1 : Int32).toNatClampNeg 0) (2 : Int32).toNatClampNeg 0) (3 : Int32).toNatClampNeg 1))), (q16, .inr (0, [.ref q5, .ref q13_24, .ref q20_24, .ref q28_24])), (q13_24, .inl (c13_24, 3072, .inl (fun _ => 0))), (q20_24, .inl (c20_24, 3, .inl (fun _ => 0))), (q28_24, .inl (c28_24, 10, .inl (fun _ => 0)))]) (w1 := [(q31, .inr (2, [.ref q5, .ref q16, .ref q18_43, .ref q27_43, .ref q36_43, .int 0, .int 0, .int 0, .int 0])), (q18_43, .inl (c18_43, 1024, .inl (fun _ => 0))), (q27_43, .inl (c27_43, 1024, .inl (fun _ => 0))), (q36_43, .inl (c36_43, 1024, .inl (fun _ => 0)))]) hP hD [9] [0, 1, 2, 3, 4, 5, 6, 7, 8] rfl rfl (by decide) (by decide) hk1 hFc hP1 hD1
  have hK := (hK.sub (tys' := [(c7_9, .int), (c15_9, .int), (c22_9, .int), (c13_24, .int), (c20_24, .boolean), (c28_24, .int)]) [0, 1, 2, 3, 4, 5] rfl).app hK1
  generalize H1 = H at hP hS ⊢
  have hP : va_P D vwCl [(h0, .inr (3, [.ref q5, .ref q16, .null, .null, .int 0, .int 0])), (q5, .inr (1, [.ref q7_9, .ref q15_9, .ref q22_9, .int 4, .int 50])), (q7_9, .inl (c7_9, 100, .inl (fun _ => 0))), (q15_9, .inl (c15_9, 10, .inl (fun _ => 0))), (q22_9, .inl (c22_9, 4, .inl (upd (upd (upd (upd (fun _ => 0) (0 : Int32).toNatClampNeg 1) (1 : Int32).toNatClampNeg 0) (2 : Int32).toNatClampNeg 0) (3 : Int32).toNatClampNeg 1))), (q16, .inr (0, [.ref q5, .ref q13_24, .ref q20_24, .ref q28_24])), (q13_24, .inl (c13_24, 3072, .inl (fun _ => 0))), (q20_24, .inl (c20_24, 3, .inl (fun _ => 0))), (q28_24, .inl (c28_24, 10, .inl (fun _ => 0))), (q31, .inr (2, [.ref q5, .ref q16, .ref q18_43, .ref q27_43, .ref q36_43, .int 0, .int 0, .int 0, .int 0])), (q18_43, .inl (c18_43, 1024, .inl (fun _ => 0))), (q27_43, .inl (c27_43, 1024, .inl (fun _ => 0))), (q36_43, .inl (c36_43, 1024, .inl (fun _ => 0)))] H := hP
  have hD : va_D A [(h0, .inr (3, [.ref q5, .ref q16, .null, .null, .int 0, .int 0])), (q5, .inr (1, [.ref q7_9, .ref q15_9, .ref q22_9, .int 4, .int 50])), (q7_9, .inl (c7_9, 100, .inl (fun _ => 0))), (q15_9, .inl (c15_9, 10, .inl (fun _ => 0))), (q22_9, .inl (c22_9, 4, .inl (upd (upd (upd (upd (fun _ => 0) (0 : Int32).toNatClampNeg 1) (1 : Int32).toNatClampNeg 0) (2 : Int32).toNatClampNeg 0) (3 : Int32).toNatClampNeg 1))), (q16, .inr (0, [.ref q5, .ref q13_24, .ref q20_24, .ref q28_24])), (q13_24, .inl (c13_24, 3072, .inl (fun _ => 0))), (q20_24, .inl (c20_24, 3, .inl (fun _ => 0))), (q28_24, .inl (c28_24, 10, .inl (fun _ => 0))), (q31, .inr (2, [.ref q5, .ref q16, .ref q18_43, .ref q27_43, .ref q36_43, .int 0, .int 0, .int 0, .int 0])), (q18_43, .inl (c18_43, 1024, .inl (fun _ => 0))), (q27_43, .inl (c27_43, 1024, .inl (fun _ => 0))), (q36_43, .inl (c36_43, 1024, .inl (fun _ => 0)))] := hD
  have hK : va_K D vwCl [(c7_9, .int), (c15_9, .int), (c22_9, .int), (c13_24, .int), (c20_24, .boolean), (c28_24, .int), (c18_43, .int), (c27_43, .int), (c36_43, .int)] s := hK
  refine W.widen (k := 12) (n := 6289) (Nat.le_of_ble_eq_true rfl) (Nat.le_of_ble_eq_true rfl) ?_
  refine va_putF (D := D) (ci := 3) (v := .ref q31) (ty := .object "GameNet$Survey") (C := RX3) (T := TX3) (N := 6) hx hb hts iwX3 tyX3 tyX3_ok nmX3 hown hK hP hD hS 0 rfl rfl 2 (by decide) (hts _ mw_f_X3_30) (fun _ h9 => h9) rfl hin rfl (by decide +kernel) rfl rfl (Nat.le_of_ble_eq_true rfl) dX3_init_46 (fun H locs hP hD hS => ?_)
  have hP : va_P D vwCl [(h0, .inr (3, [.ref q5, .ref q16, .ref q31, .null, .int 0, .int 0])), (q5, .inr (1, [.ref q7_9, .ref q15_9, .ref q22_9, .int 4, .int 50])), (q7_9, .inl (c7_9, 100, .inl (fun _ => 0))), (q15_9, .inl (c15_9, 10, .inl (fun _ => 0))), (q22_9, .inl (c22_9, 4, .inl (upd (upd (upd (upd (fun _ => 0) (0 : Int32).toNatClampNeg 1) (1 : Int32).toNatClampNeg 0) (2 : Int32).toNatClampNeg 0) (3 : Int32).toNatClampNeg 1))), (q16, .inr (0, [.ref q5, .ref q13_24, .ref q20_24, .ref q28_24])), (q13_24, .inl (c13_24, 3072, .inl (fun _ => 0))), (q20_24, .inl (c20_24, 3, .inl (fun _ => 0))), (q28_24, .inl (c28_24, 10, .inl (fun _ => 0))), (q31, .inr (2, [.ref q5, .ref q16, .ref q18_43, .ref q27_43, .ref q36_43, .int 0, .int 0, .int 0, .int 0])), (q18_43, .inl (c18_43, 1024, .inl (fun _ => 0))), (q27_43, .inl (c27_43, 1024, .inl (fun _ => 0))), (q36_43, .inl (c36_43, 1024, .inl (fun _ => 0)))] H := hP
  have hD : va_D A [(h0, .inr (3, [.ref q5, .ref q16, .ref q31, .null, .int 0, .int 0])), (q5, .inr (1, [.ref q7_9, .ref q15_9, .ref q22_9, .int 4, .int 50])), (q7_9, .inl (c7_9, 100, .inl (fun _ => 0))), (q15_9, .inl (c15_9, 10, .inl (fun _ => 0))), (q22_9, .inl (c22_9, 4, .inl (upd (upd (upd (upd (fun _ => 0) (0 : Int32).toNatClampNeg 1) (1 : Int32).toNatClampNeg 0) (2 : Int32).toNatClampNeg 0) (3 : Int32).toNatClampNeg 1))), (q16, .inr (0, [.ref q5, .ref q13_24, .ref q20_24, .ref q28_24])), (q13_24, .inl (c13_24, 3072, .inl (fun _ => 0))), (q20_24, .inl (c20_24, 3, .inl (fun _ => 0))), (q28_24, .inl (c28_24, 10, .inl (fun _ => 0))), (q31, .inr (2, [.ref q5, .ref q16, .ref q18_43, .ref q27_43, .ref q36_43, .int 0, .int 0, .int 0, .int 0])), (q18_43, .inl (c18_43, 1024, .inl (fun _ => 0))), (q27_43, .inl (c27_43, 1024, .inl (fun _ => 0))), (q36_43, .inl (c36_43, 1024, .inl (fun _ => 0)))] := hD
  refine lv_aload_n hx hb dX3_init_49 rfl (lv_at hl 0 rfl) ?_
  refine lv_sipush (v := 1024) hx hb dX3_init_50 (by decide) ?_
  refine va_newa (atype := .int) (a0 := (1024, .inl (fun _ => 0))) (N' := 1024) (ty := .int) hx hb (hts _ mw_ar_int) rfl hK hP hD hS hA (fun cA => rfl) (by decide) (by decide) (by decide) (Nat.le_of_ble_eq_true rfl) (Nat.le_of_ble_eq_true rfl) dX3_init_53 (fun q53 c53 H hK hP hD hS => ?_)
  have hP : va_P D vwCl [(h0, .inr (3, [.ref q5, .ref q16, .ref q31, .null, .int 0, .int 0])), (q5, .inr (1, [.ref q7_9, .ref q15_9, .ref q22_9, .int 4, .int 50])), (q7_9, .inl (c7_9, 100, .inl (fun _ => 0))), (q15_9, .inl (c15_9, 10, .inl (fun _ => 0))), (q22_9, .inl (c22_9, 4, .inl (upd (upd (upd (upd (fun _ => 0) (0 : Int32).toNatClampNeg 1) (1 : Int32).toNatClampNeg 0) (2 : Int32).toNatClampNeg 0) (3 : Int32).toNatClampNeg 1))), (q16, .inr (0, [.ref q5, .ref q13_24, .ref q20_24, .ref q28_24])), (q13_24, .inl (c13_24, 3072, .inl (fun _ => 0))), (q20_24, .inl (c20_24, 3, .inl (fun _ => 0))), (q28_24, .inl (c28_24, 10, .inl (fun _ => 0))), (q31, .inr (2, [.ref q5, .ref q16, .ref q18_43, .ref q27_43, .ref q36_43, .int 0, .int 0, .int 0, .int 0])), (q18_43, .inl (c18_43, 1024, .inl (fun _ => 0))), (q27_43, .inl (c27_43, 1024, .inl (fun _ => 0))), (q36_43, .inl (c36_43, 1024, .inl (fun _ => 0))), (q53, .inl (c53, 1024, .inl (fun _ => 0)))] H := hP
  have hD : va_D A [(h0, .inr (3, [.ref q5, .ref q16, .ref q31, .null, .int 0, .int 0])), (q5, .inr (1, [.ref q7_9, .ref q15_9, .ref q22_9, .int 4, .int 50])), (q7_9, .inl (c7_9, 100, .inl (fun _ => 0))), (q15_9, .inl (c15_9, 10, .inl (fun _ => 0))), (q22_9, .inl (c22_9, 4, .inl (upd (upd (upd (upd (fun _ => 0) (0 : Int32).toNatClampNeg 1) (1 : Int32).toNatClampNeg 0) (2 : Int32).toNatClampNeg 0) (3 : Int32).toNatClampNeg 1))), (q16, .inr (0, [.ref q5, .ref q13_24, .ref q20_24, .ref q28_24])), (q13_24, .inl (c13_24, 3072, .inl (fun _ => 0))), (q20_24, .inl (c20_24, 3, .inl (fun _ => 0))), (q28_24, .inl (c28_24, 10, .inl (fun _ => 0))), (q31, .inr (2, [.ref q5, .ref q16, .ref q18_43, .ref q27_43, .ref q36_43, .int 0, .int 0, .int 0, .int 0])), (q18_43, .inl (c18_43, 1024, .inl (fun _ => 0))), (q27_43, .inl (c27_43, 1024, .inl (fun _ => 0))), (q36_43, .inl (c36_43, 1024, .inl (fun _ => 0))), (q53, .inl (c53, 1024, .inl (fun _ => 0)))] := hD
  have hK : va_K D vwCl [(c7_9, .int), (c15_9, .int), (c22_9, .int), (c13_24, .int), (c20_24, .boolean), (c28_24, .int), (c18_43, .int), (c27_43, .int), (c36_43, .int), (c53, .int)] s := hK
  refine W.widen (k := 13) (n := 7313) (Nat.le_of_ble_eq_true rfl) (Nat.le_of_ble_eq_true rfl) ?_
  refine va_putF (D := D) (ci := 3) (v := .ref q53) (ty := .array .int) (C := RX3) (T := TX3) (N := 6) hx hb hts iwX3 tyX3 tyX3_ok nmX3 hown hK hP hD hS 0 rfl rfl 3 (by decide) (hts _ mw_f_X3_34) (fun _ h9 => h9) rfl hin rfl (by decide +kernel) rfl rfl (Nat.le_of_ble_eq_true rfl) dX3_init_55 (fun H locs hP hD hS => ?_)
  have hP : va_P D vwCl [(h0, .inr (3, [.ref q5, .ref q16, .ref q31, .ref q53, .int 0, .int 0])), (q5, .inr (1, [.ref q7_9, .ref q15_9, .ref q22_9, .int 4, .int 50])), (q7_9, .inl (c7_9, 100, .inl (fun _ => 0))), (q15_9, .inl (c15_9, 10, .inl (fun _ => 0))), (q22_9, .inl (c22_9, 4, .inl (upd (upd (upd (upd (fun _ => 0) (0 : Int32).toNatClampNeg 1) (1 : Int32).toNatClampNeg 0) (2 : Int32).toNatClampNeg 0) (3 : Int32).toNatClampNeg 1))), (q16, .inr (0, [.ref q5, .ref q13_24, .ref q20_24, .ref q28_24])), (q13_24, .inl (c13_24, 3072, .inl (fun _ => 0))), (q20_24, .inl (c20_24, 3, .inl (fun _ => 0))), (q28_24, .inl (c28_24, 10, .inl (fun _ => 0))), (q31, .inr (2, [.ref q5, .ref q16, .ref q18_43, .ref q27_43, .ref q36_43, .int 0, .int 0, .int 0, .int 0])), (q18_43, .inl (c18_43, 1024, .inl (fun _ => 0))), (q27_43, .inl (c27_43, 1024, .inl (fun _ => 0))), (q36_43, .inl (c36_43, 1024, .inl (fun _ => 0))), (q53, .inl (c53, 1024, .inl (fun _ => 0)))] H := hP
  have hD : va_D A [(h0, .inr (3, [.ref q5, .ref q16, .ref q31, .ref q53, .int 0, .int 0])), (q5, .inr (1, [.ref q7_9, .ref q15_9, .ref q22_9, .int 4, .int 50])), (q7_9, .inl (c7_9, 100, .inl (fun _ => 0))), (q15_9, .inl (c15_9, 10, .inl (fun _ => 0))), (q22_9, .inl (c22_9, 4, .inl (upd (upd (upd (upd (fun _ => 0) (0 : Int32).toNatClampNeg 1) (1 : Int32).toNatClampNeg 0) (2 : Int32).toNatClampNeg 0) (3 : Int32).toNatClampNeg 1))), (q16, .inr (0, [.ref q5, .ref q13_24, .ref q20_24, .ref q28_24])), (q13_24, .inl (c13_24, 3072, .inl (fun _ => 0))), (q20_24, .inl (c20_24, 3, .inl (fun _ => 0))), (q28_24, .inl (c28_24, 10, .inl (fun _ => 0))), (q31, .inr (2, [.ref q5, .ref q16, .ref q18_43, .ref q27_43, .ref q36_43, .int 0, .int 0, .int 0, .int 0])), (q18_43, .inl (c18_43, 1024, .inl (fun _ => 0))), (q27_43, .inl (c27_43, 1024, .inl (fun _ => 0))), (q36_43, .inl (c36_43, 1024, .inl (fun _ => 0))), (q53, .inl (c53, 1024, .inl (fun _ => 0)))] := hD
  refine lv_aload_n hx hb dX3_init_58 rfl (lv_at hl 0 rfl) ?_
  refine lv_iconst (v := 0) hx hb dX3_init_59 (by decide) ?_
  refine va_put (D := D) (ci := 3) (v := .int 0) (ty := .int) (C := RX3) (T := TX3) (N := 6) hx hb hts iwX3 tyX3 tyX3_ok nmX3 hown hK hP hD hS 0 rfl rfl 4 (by decide) (hts _ mw_f_X3_38) (fun _ h9 => h9) rfl (by decide +kernel) rfl rfl (Nat.le_of_ble_eq_true rfl) dX3_init_60 (fun H locs hP hD hS => ?_)
  have hP : va_P D vwCl [(h0, .inr (3, [.ref q5, .ref q16, .ref q31, .ref q53, .int 0, .int 0])), (q5, .inr (1, [.ref q7_9, .ref q15_9, .ref q22_9, .int 4, .int 50])), (q7_9, .inl (c7_9, 100, .inl (fun _ => 0))), (q15_9, .inl (c15_9, 10, .inl (fun _ => 0))), (q22_9, .inl (c22_9, 4, .inl (upd (upd (upd (upd (fun _ => 0) (0 : Int32).toNatClampNeg 1) (1 : Int32).toNatClampNeg 0) (2 : Int32).toNatClampNeg 0) (3 : Int32).toNatClampNeg 1))), (q16, .inr (0, [.ref q5, .ref q13_24, .ref q20_24, .ref q28_24])), (q13_24, .inl (c13_24, 3072, .inl (fun _ => 0))), (q20_24, .inl (c20_24, 3, .inl (fun _ => 0))), (q28_24, .inl (c28_24, 10, .inl (fun _ => 0))), (q31, .inr (2, [.ref q5, .ref q16, .ref q18_43, .ref q27_43, .ref q36_43, .int 0, .int 0, .int 0, .int 0])), (q18_43, .inl (c18_43, 1024, .inl (fun _ => 0))), (q27_43, .inl (c27_43, 1024, .inl (fun _ => 0))), (q36_43, .inl (c36_43, 1024, .inl (fun _ => 0))), (q53, .inl (c53, 1024, .inl (fun _ => 0)))] H := hP
  have hD : va_D A [(h0, .inr (3, [.ref q5, .ref q16, .ref q31, .ref q53, .int 0, .int 0])), (q5, .inr (1, [.ref q7_9, .ref q15_9, .ref q22_9, .int 4, .int 50])), (q7_9, .inl (c7_9, 100, .inl (fun _ => 0))), (q15_9, .inl (c15_9, 10, .inl (fun _ => 0))), (q22_9, .inl (c22_9, 4, .inl (upd (upd (upd (upd (fun _ => 0) (0 : Int32).toNatClampNeg 1) (1 : Int32).toNatClampNeg 0) (2 : Int32).toNatClampNeg 0) (3 : Int32).toNatClampNeg 1))), (q16, .inr (0, [.ref q5, .ref q13_24, .ref q20_24, .ref q28_24])), (q13_24, .inl (c13_24, 3072, .inl (fun _ => 0))), (q20_24, .inl (c20_24, 3, .inl (fun _ => 0))), (q28_24, .inl (c28_24, 10, .inl (fun _ => 0))), (q31, .inr (2, [.ref q5, .ref q16, .ref q18_43, .ref q27_43, .ref q36_43, .int 0, .int 0, .int 0, .int 0])), (q18_43, .inl (c18_43, 1024, .inl (fun _ => 0))), (q27_43, .inl (c27_43, 1024, .inl (fun _ => 0))), (q36_43, .inl (c36_43, 1024, .inl (fun _ => 0))), (q53, .inl (c53, 1024, .inl (fun _ => 0)))] := hD
  refine lv_aload_n hx hb dX3_init_63 rfl (lv_at hl 0 rfl) ?_
  refine lv_iconst (v := 0) hx hb dX3_init_64 (by decide) ?_
  refine va_put (D := D) (ci := 3) (v := .int 0) (ty := .int) (C := RX3) (T := TX3) (N := 6) hx hb hts iwX3 tyX3 tyX3_ok nmX3 hown hK hP hD hS 0 rfl rfl 5 (by decide) (hts _ mw_f_X3_42) (fun _ h9 => h9) rfl (by decide +kernel) rfl rfl (Nat.le_of_ble_eq_true rfl) dX3_init_65 (fun H locs hP hD hS => ?_)
  have hP : va_P D vwCl [(h0, .inr (3, [.ref q5, .ref q16, .ref q31, .ref q53, .int 0, .int 0])), (q5, .inr (1, [.ref q7_9, .ref q15_9, .ref q22_9, .int 4, .int 50])), (q7_9, .inl (c7_9, 100, .inl (fun _ => 0))), (q15_9, .inl (c15_9, 10, .inl (fun _ => 0))), (q22_9, .inl (c22_9, 4, .inl (upd (upd (upd (upd (fun _ => 0) (0 : Int32).toNatClampNeg 1) (1 : Int32).toNatClampNeg 0) (2 : Int32).toNatClampNeg 0) (3 : Int32).toNatClampNeg 1))), (q16, .inr (0, [.ref q5, .ref q13_24, .ref q20_24, .ref q28_24])), (q13_24, .inl (c13_24, 3072, .inl (fun _ => 0))), (q20_24, .inl (c20_24, 3, .inl (fun _ => 0))), (q28_24, .inl (c28_24, 10, .inl (fun _ => 0))), (q31, .inr (2, [.ref q5, .ref q16, .ref q18_43, .ref q27_43, .ref q36_43, .int 0, .int 0, .int 0, .int 0])), (q18_43, .inl (c18_43, 1024, .inl (fun _ => 0))), (q27_43, .inl (c27_43, 1024, .inl (fun _ => 0))), (q36_43, .inl (c36_43, 1024, .inl (fun _ => 0))), (q53, .inl (c53, 1024, .inl (fun _ => 0)))] H := hP
  have hD : va_D A [(h0, .inr (3, [.ref q5, .ref q16, .ref q31, .ref q53, .int 0, .int 0])), (q5, .inr (1, [.ref q7_9, .ref q15_9, .ref q22_9, .int 4, .int 50])), (q7_9, .inl (c7_9, 100, .inl (fun _ => 0))), (q15_9, .inl (c15_9, 10, .inl (fun _ => 0))), (q22_9, .inl (c22_9, 4, .inl (upd (upd (upd (upd (fun _ => 0) (0 : Int32).toNatClampNeg 1) (1 : Int32).toNatClampNeg 0) (2 : Int32).toNatClampNeg 0) (3 : Int32).toNatClampNeg 1))), (q16, .inr (0, [.ref q5, .ref q13_24, .ref q20_24, .ref q28_24])), (q13_24, .inl (c13_24, 3072, .inl (fun _ => 0))), (q20_24, .inl (c20_24, 3, .inl (fun _ => 0))), (q28_24, .inl (c28_24, 10, .inl (fun _ => 0))), (q31, .inr (2, [.ref q5, .ref q16, .ref q18_43, .ref q27_43, .ref q36_43, .int 0, .int 0, .int 0, .int 0])), (q18_43, .inl (c18_43, 1024, .inl (fun _ => 0))), (q27_43, .inl (c27_43, 1024, .inl (fun _ => 0))), (q36_43, .inl (c36_43, 1024, .inl (fun _ => 0))), (q53, .inl (c53, 1024, .inl (fun _ => 0)))] := hD
  exact W.vret hx hb hr (fun t ht hW => ⟨⟨((fun k => match k with | 0 => h0 | 1 => q5 | 2 => q7_9 | 3 => q15_9 | 4 => q22_9 | 5 => q16 | 6 => q13_24 | 7 => q20_24 | 8 => q28_24 | 9 => q31 | 10 => q18_43 | 11 => q27_43 | 12 => q36_43 | 13 => q53 | _ => 0), (fun k => match k with | 2 => c7_9 | 3 => c15_9 | 4 => c22_9 | 6 => c13_24 | 7 => c20_24 | 8 => c28_24 | 10 => c18_43 | 11 => c27_43 | 12 => c36_43 | 13 => c53 | _ => c7_9)), rfl, rfl, by rw [ht]; exact hP, va_K.moved hW.alike hK, hD⟩, hS.F ht⟩) hS.2.2 dX3_init_68 hlk
set_option maxHeartbeats 4000000 in
set_option maxRecDepth 100000 in
theorem k_X4_init (l : Launch) (D : va_G) (h0 : Nat) (sz : Nat) : Met l yX4_init (wsM yX4_init cX4_init 1 none) ({ frames := 1, cells := 5, slots := 3176, locals := 20 } : Room) (cPc D [.ref h0] [(h0, .inr (4, [.int 0, .null, .null, .int 0, .int 0, .int 0, .null, .null, .null]))] sz) (va_Qv (fun (u : (Nat → Nat) × (Nat → ClassId)) => u.1 0 = h0) (fun u t => va_P D vwCl (mw u.2 u.1 ms0) t.heap ∧ va_K D vwCl (mT u.2) t ∧ va_D (va_A [(h0, .inr (4, [.int 0, .null, .null, .int 0, .int 0, .int 0, .null, .null, .null]))] sz) (mw u.2 u.1 ms0)) (va_A [(h0, .inr (4, [.int 0, .null, .null, .int 0, .int 0, .int 0, .null, .null, .null]))] sz)) 5 3176 (va_A [(h0, .inr (4, [.int 0, .null, .null, .int 0, .int 0, .int 0, .null, .null, .null]))] sz) := by
  refine Met.ofW (cc := cX4_init) (maxL := 1) (ret := none) (by decide) rfl ?_
  intro p e s m args below meth c s₁ B hml hv
  obtain ⟨rfl, hsz, hP, hK, hD0, hN⟩ := hv
  have hx := B.exec
  have hb := B.bytes
  have hr := B.returns
  have hlk := B.notSynchronized
  have hts : ∀ w ∈ bigW, w.before ([.ref h0] : List Value).toArray s = true := fun w hw => atoms_spec (ws := wsM yX4_init cX4_init 1 none) B.pre w (List.mem_cons_of_mem _ hw)
  have hown : s.vm.findClass RX4 = some m.cls := findClass_of_methodNamed B.named
  have hin : meth.name = "<init>" := (name_of_methodNamed B.named B.method).1
  subst hsz
  have hD := hD0.self (sz := s.heap.size)
  generalize hAe : va_A [(h0, .inr (4, [.int 0, .null, .null, .int 0, .int 0, .int 0, .null, .null, .null]))] s.heap.size = A at hD ⊢
  have hA : ∀ q : Nat, s.heap.size ≤ q → A q := fun q h => by rw [← hAe]; exact Or.inr h
  have hS : va_S A s.heap s.heap [] := va_S.rf
  have hl := lv_entry ([.ref h0]) (n := 1) (Nat.le_of_ble_eq_true rfl)
  rw [lg_entry_eq]
  generalize (lg_sl ([.ref h0]) ++ List.replicate (1 - (lg_sl ([.ref h0])).length) Slot.unset).toArray = ls at hl ⊢
  have hl : lv_has ls 1 [(0, .ref h0)] := hl
  refine lv_aload_n hx hb dX4_init_0 rfl (lv_at hl 0 rfl) ?_
  refine W.objInit hx hb hown (hts _ mw_m_X4_1) (hts _ mw_i_obj) (hts _ mw_c_obj) rfl (by rw [hml]; exact hl.1) rfl dX4_init_1 (Nat.le_of_ble_eq_true rfl) (Nat.le_of_ble_eq_true rfl) ?_
  refine W.eq (g2 := F0 m 4 ls []) rfl ?_
  refine lv_aload_n hx hb dX4_init_4 rfl (lv_at hl 0 rfl) ?_
  refine lv_iconst (v := 4) hx hb dX4_init_5 (by decide) ?_
  refine va_put (D := D) (ci := 4) (v := .int 4) (ty := .int) (C := RX4) (T := TX4) (N := 9) hx hb hts iwX4 tyX4 tyX4_ok nmX4 hown hK hP hD hS 0 rfl rfl 0 (by decide) (hts _ mw_f_X4_7) (fun _ h9 => h9) rfl (by decide +kernel) rfl rfl (Nat.le_of_ble_eq_true rfl) dX4_init_6 (fun H locs hP hD hS => ?_)
  have hP : va_P D vwCl [(h0, .inr (4, [.int 4, .null, .null, .int 0, .int 0, .int 0, .null, .null, .null]))] H := hP
  have hD : va_D A [(h0, .inr (4, [.int 4, .null, .null, .int 0, .int 0, .int 0, .null, .null, .null]))] := hD
  refine lv_aload_n hx hb dX4_init_9 rfl (lv_at hl 0 rfl) ?_
  refine lv_bipush (v := 100) hx hb dX4_init_10 (by decide) ?_
  refine va_newa (atype := .int) (a0 := (100, .inl (fun _ => 0))) (N' := 100) (ty := .int) hx hb (hts _ mw_ar_int) rfl hK hP hD hS hA (fun cA => rfl) (by decide) (by decide) (by decide) (Nat.le_of_ble_eq_true rfl) (Nat.le_of_ble_eq_true rfl) dX4_init_12 (fun q12 c12 H hK hP hD hS => ?_)
  have hP : va_P D vwCl [(h0, .inr (4, [.int 4, .null, .null, .int 0, .int 0, .int 0, .null, .null, .null])), (q12, .inl (c12, 100, .inl (fun _ => 0)))] H := hP
  have hD : va_D A [(h0, .inr (4, [.int 4, .null, .null, .int 0, .int 0, .int 0, .null, .null, .null])), (q12, .inl (c12, 100, .inl (fun _ => 0)))] := hD
  have hK : va_K D vwCl [(c12, .int)] s := hK
  refine W.widen (k := 1) (n := 100) (Nat.le_of_ble_eq_true rfl) (Nat.le_of_ble_eq_true rfl) ?_
  refine va_putF (D := D) (ci := 4) (v := .ref q12) (ty := .array .int) (C := RX4) (T := TX4) (N := 9) hx hb hts iwX4 tyX4 tyX4_ok nmX4 hown hK hP hD hS 0 rfl rfl 1 (by decide) (hts _ mw_f_X4_13) (fun _ h9 => h9) rfl hin rfl (by decide +kernel) rfl rfl (Nat.le_of_ble_eq_true rfl) dX4_init_14 (fun H locs hP hD hS => ?_)
  have hP : va_P D vwCl [(h0, .inr (4, [.int 4, .ref q12, .null, .int 0, .int 0, .int 0, .null, .null, .null])), (q12, .inl (c12, 100, .inl (fun _ => 0)))] H := hP
  have hD : va_D A [(h0, .inr (4, [.int 4, .ref q12, .null, .int 0, .int 0, .int 0, .null, .null, .null])), (q12, .inl (c12, 100, .inl (fun _ => 0)))] := hD
  refine lv_aload_n hx hb dX4_init_17 rfl (lv_at hl 0 rfl) ?_
  refine lv_iconst (v := 4) hx hb dX4_init_18 (by decide) ?_
  refine va_newa (atype := .int) (a0 := (4, .inl (fun _ => 0))) (N' := 4) (ty := .int) hx hb (hts _ mw_ar_int) rfl hK hP hD hS hA (fun cA => rfl) (by decide) (by decide) (by decide) (Nat.le_of_ble_eq_true rfl) (Nat.le_of_ble_eq_true rfl) dX4_init_19 (fun q19 c19 H hK hP hD hS => ?_)
  have hP : va_P D vwCl [(h0, .inr (4, [.int 4, .ref q12, .null, .int 0, .int 0, .int 0, .null, .null, .null])), (q12, .inl (c12, 100, .inl (fun _ => 0))), (q19, .inl (c19, 4, .inl (fun _ => 0)))] H := hP
  have hD : va_D A [(h0, .inr (4, [.int 4, .ref q12, .null, .int 0, .int 0, .int 0, .null, .null, .null])), (q12, .inl (c12, 100, .inl (fun _ => 0))), (q19, .inl (c19, 4, .inl (fun _ => 0)))] := hD
  have hK : va_K D vwCl [(c12, .int), (c19, .int)] s := hK
  refine W.widen (k := 2) (n := 104) (Nat.le_of_ble_eq_true rfl) (Nat.le_of_ble_eq_true rfl) ?_
  refine va_putF (D := D) (ci := 4) (v := .ref q19) (ty := .array .int) (C := RX4) (T := TX4) (N := 9) hx hb hts iwX4 tyX4 tyX4_ok nmX4 hown hK hP hD hS 0 rfl rfl 2 (by decide) (hts _ mw_f_X4_17) (fun _ h9 => h9) rfl hin rfl (by decide +kernel) rfl rfl (Nat.le_of_ble_eq_true rfl) dX4_init_21 (fun H locs hP hD hS => ?_)
  have hP : va_P D vwCl [(h0, .inr (4, [.int 4, .ref q12, .ref q19, .int 0, .int 0, .int 0, .null, .null, .null])), (q12, .inl (c12, 100, .inl (fun _ => 0))), (q19, .inl (c19, 4, .inl (fun _ => 0)))] H := hP
  have hD : va_D A [(h0, .inr (4, [.int 4, .ref q12, .ref q19, .int 0, .int 0, .int 0, .null, .null, .null])), (q12, .inl (c12, 100, .inl (fun _ => 0))), (q19, .inl (c19, 4, .inl (fun _ => 0)))] := hD
  refine lv_aload_n hx hb dX4_init_24 rfl (lv_at hl 0 rfl) ?_
  refine lv_bipush (v := 50) hx hb dX4_init_25 (by decide) ?_
  refine va_put (D := D) (ci := 4) (v := .int 50) (ty := .int) (C := RX4) (T := TX4) (N := 9) hx hb hts iwX4 tyX4 tyX4_ok nmX4 hown hK hP hD hS 0 rfl rfl 3 (by decide) (hts _ mw_f_X4_20) (fun _ h9 => h9) rfl (by decide +kernel) rfl rfl (Nat.le_of_ble_eq_true rfl) dX4_init_27 (fun H locs hP hD hS => ?_)
  have hP : va_P D vwCl [(h0, .inr (4, [.int 4, .ref q12, .ref q19, .int 50, .int 0, .int 0, .null, .null, .null])), (q12, .inl (c12, 100, .inl (fun _ => 0))), (q19, .inl (c19, 4, .inl (fun _ => 0)))] H := hP
  have hD : va_D A [(h0, .inr (4, [.int 4, .ref q12, .ref q19, .int 50, .int 0, .int 0, .null, .null, .null])), (q12, .inl (c12, 100, .inl (fun _ => 0))), (q19, .inl (c19, 4, .inl (fun _ => 0)))] := hD
  refine lv_aload_n hx hb dX4_init_30 rfl (lv_at hl 0 rfl) ?_
  refine lv_sipush (v := 1024) hx hb dX4_init_31 (by decide) ?_
  refine va_newa (atype := .int) (a0 := (1024, .inl (fun _ => 0))) (N' := 1024) (ty := .int) hx hb (hts _ mw_ar_int) rfl hK hP hD hS hA (fun cA => rfl) (by decide) (by decide) (by decide) (Nat.le_of_ble_eq_true rfl) (Nat.le_of_ble_eq_true rfl) dX4_init_34 (fun q34 c34 H hK hP hD hS => ?_)
  have hP : va_P D vwCl [(h0, .inr (4, [.int 4, .ref q12, .ref q19, .int 50, .int 0, .int 0, .null, .null, .null])), (q12, .inl (c12, 100, .inl (fun _ => 0))), (q19, .inl (c19, 4, .inl (fun _ => 0))), (q34, .inl (c34, 1024, .inl (fun _ => 0)))] H := hP
  have hD : va_D A [(h0, .inr (4, [.int 4, .ref q12, .ref q19, .int 50, .int 0, .int 0, .null, .null, .null])), (q12, .inl (c12, 100, .inl (fun _ => 0))), (q19, .inl (c19, 4, .inl (fun _ => 0))), (q34, .inl (c34, 1024, .inl (fun _ => 0)))] := hD
  have hK : va_K D vwCl [(c12, .int), (c19, .int), (c34, .int)] s := hK
  refine W.widen (k := 3) (n := 1128) (Nat.le_of_ble_eq_true rfl) (Nat.le_of_ble_eq_true rfl) ?_
  refine va_putF (D := D) (ci := 4) (v := .ref q34) (ty := .array .int) (C := RX4) (T := TX4) (N := 9) hx hb hts iwX4 tyX4 tyX4_ok nmX4 hown hK hP hD hS 0 rfl rfl 6 (by decide) (hts _ mw_f_X4_23) (fun _ h9 => h9) rfl hin rfl (by decide +kernel) rfl rfl (Nat.le_of_ble_eq_true rfl) dX4_init_36 (fun H locs hP hD hS => ?_)
  have hP : va_P D vwCl [(h0, .inr (4, [.int 4, .ref q12, .ref q19, .int 50, .int 0, .int 0, .ref q34, .null, .null])), (q12, .inl (c12, 100, .inl (fun _ => 0))), (q19, .inl (c19, 4, .inl (fun _ => 0))), (q34, .inl (c34, 1024, .inl (fun _ => 0)))] H := hP
  have hD : va_D A [(h0, .inr (4, [.int 4, .ref q12, .ref q19, .int 50, .int 0, .int 0, .ref q34, .null, .null])), (q12, .inl (c12, 100, .inl (fun _ => 0))), (q19, .inl (c19, 4, .inl (fun _ => 0))), (q34, .inl (c34, 1024, .inl (fun _ => 0)))] := hD
  refine lv_aload_n hx hb dX4_init_39 rfl (lv_at hl 0 rfl) ?_
  refine lv_sipush (v := 1024) hx hb dX4_init_40 (by decide) ?_
  refine va_newa (atype := .int) (a0 := (1024, .inl (fun _ => 0))) (N' := 1024) (ty := .int) hx hb (hts _ mw_ar_int) rfl hK hP hD hS hA (fun cA => rfl) (by decide) (by decide) (by decide) (Nat.le_of_ble_eq_true rfl) (Nat.le_of_ble_eq_true rfl) dX4_init_43 (fun q43 c43 H hK hP hD hS => ?_)
  have hP : va_P D vwCl [(h0, .inr (4, [.int 4, .ref q12, .ref q19, .int 50, .int 0, .int 0, .ref q34, .null, .null])), (q12, .inl (c12, 100, .inl (fun _ => 0))), (q19, .inl (c19, 4, .inl (fun _ => 0))), (q34, .inl (c34, 1024, .inl (fun _ => 0))), (q43, .inl (c43, 1024, .inl (fun _ => 0)))] H := hP
  have hD : va_D A [(h0, .inr (4, [.int 4, .ref q12, .ref q19, .int 50, .int 0, .int 0, .ref q34, .null, .null])), (q12, .inl (c12, 100, .inl (fun _ => 0))), (q19, .inl (c19, 4, .inl (fun _ => 0))), (q34, .inl (c34, 1024, .inl (fun _ => 0))), (q43, .inl (c43, 1024, .inl (fun _ => 0)))] := hD
  have hK : va_K D vwCl [(c12, .int), (c19, .int), (c34, .int), (c43, .int)] s := hK
  refine W.widen (k := 4) (n := 2152) (Nat.le_of_ble_eq_true rfl) (Nat.le_of_ble_eq_true rfl) ?_
  refine va_putF (D := D) (ci := 4) (v := .ref q43) (ty := .array .int) (C := RX4) (T := TX4) (N := 9) hx hb hts iwX4 tyX4 tyX4_ok nmX4 hown hK hP hD hS 0 rfl rfl 7 (by decide) (hts _ mw_f_X4_26) (fun _ h9 => h9) rfl hin rfl (by decide +kernel) rfl rfl (Nat.le_of_ble_eq_true rfl) dX4_init_45 (fun H locs hP hD hS => ?_)
  have hP : va_P D vwCl [(h0, .inr (4, [.int 4, .ref q12, .ref q19, .int 50, .int 0, .int 0, .ref q34, .ref q43, .null])), (q12, .inl (c12, 100, .inl (fun _ => 0))), (q19, .inl (c19, 4, .inl (fun _ => 0))), (q34, .inl (c34, 1024, .inl (fun _ => 0))), (q43, .inl (c43, 1024, .inl (fun _ => 0)))] H := hP
  have hD : va_D A [(h0, .inr (4, [.int 4, .ref q12, .ref q19, .int 50, .int 0, .int 0, .ref q34, .ref q43, .null])), (q12, .inl (c12, 100, .inl (fun _ => 0))), (q19, .inl (c19, 4, .inl (fun _ => 0))), (q34, .inl (c34, 1024, .inl (fun _ => 0))), (q43, .inl (c43, 1024, .inl (fun _ => 0)))] := hD
  refine lv_aload_n hx hb dX4_init_48 rfl (lv_at hl 0 rfl) ?_
  refine lv_sipush (v := 1024) hx hb dX4_init_49 (by decide) ?_
  refine va_newa (atype := .int) (a0 := (1024, .inl (fun _ => 0))) (N' := 1024) (ty := .int) hx hb (hts _ mw_ar_int) rfl hK hP hD hS hA (fun cA => rfl) (by decide) (by decide) (by decide) (Nat.le_of_ble_eq_true rfl) (Nat.le_of_ble_eq_true rfl) dX4_init_52 (fun q52 c52 H hK hP hD hS => ?_)
  have hP : va_P D vwCl [(h0, .inr (4, [.int 4, .ref q12, .ref q19, .int 50, .int 0, .int 0, .ref q34, .ref q43, .null])), (q12, .inl (c12, 100, .inl (fun _ => 0))), (q19, .inl (c19, 4, .inl (fun _ => 0))), (q34, .inl (c34, 1024, .inl (fun _ => 0))), (q43, .inl (c43, 1024, .inl (fun _ => 0))), (q52, .inl (c52, 1024, .inl (fun _ => 0)))] H := hP
  have hD : va_D A [(h0, .inr (4, [.int 4, .ref q12, .ref q19, .int 50, .int 0, .int 0, .ref q34, .ref q43, .null])), (q12, .inl (c12, 100, .inl (fun _ => 0))), (q19, .inl (c19, 4, .inl (fun _ => 0))), (q34, .inl (c34, 1024, .inl (fun _ => 0))), (q43, .inl (c43, 1024, .inl (fun _ => 0))), (q52, .inl (c52, 1024, .inl (fun _ => 0)))] := hD
  have hK : va_K D vwCl [(c12, .int), (c19, .int), (c34, .int), (c43, .int), (c52, .int)] s := hK
  refine W.widen (k := 5) (n := 3176) (Nat.le_of_ble_eq_true rfl) (Nat.le_of_ble_eq_true rfl) ?_
  refine va_putF (D := D) (ci := 4) (v := .ref q52) (ty := .array .int) (C := RX4) (T := TX4) (N := 9) hx hb hts iwX4 tyX4 tyX4_ok nmX4 hown hK hP hD hS 0 rfl rfl 8 (by decide) (hts _ mw_f_X4_29) (fun _ h9 => h9) rfl hin rfl (by decide +kernel) rfl rfl (Nat.le_of_ble_eq_true rfl) dX4_init_54 (fun H locs hP hD hS => ?_)
  have hP : va_P D vwCl [(h0, .inr (4, [.int 4, .ref q12, .ref q19, .int 50, .int 0, .int 0, .ref q34, .ref q43, .ref q52])), (q12, .inl (c12, 100, .inl (fun _ => 0))), (q19, .inl (c19, 4, .inl (fun _ => 0))), (q34, .inl (c34, 1024, .inl (fun _ => 0))), (q43, .inl (c43, 1024, .inl (fun _ => 0))), (q52, .inl (c52, 1024, .inl (fun _ => 0)))] H := hP
  have hD : va_D A [(h0, .inr (4, [.int 4, .ref q12, .ref q19, .int 50, .int 0, .int 0, .ref q34, .ref q43, .ref q52])), (q12, .inl (c12, 100, .inl (fun _ => 0))), (q19, .inl (c19, 4, .inl (fun _ => 0))), (q34, .inl (c34, 1024, .inl (fun _ => 0))), (q43, .inl (c43, 1024, .inl (fun _ => 0))), (q52, .inl (c52, 1024, .inl (fun _ => 0)))] := hD
  refine lv_aload_n hx hb dX4_init_57 rfl (lv_at hl 0 rfl) ?_
  refine va_get (D := D) (ci := 4) (v := .ref q19) (C := RX4) (T := TX4) (N := 9) hx hb hts iwX4 hown hK hP 0 rfl rfl 2 (by decide) (hts _ mw_f_X4_17) (fun _ h9 => h9) rfl dX4_init_58 ?_
  refine lv_iconst (v := 0) hx hb dX4_init_61 (by decide) ?_
  refine lv_iconst (v := 1) hx hb dX4_init_62 (by decide) ?_
  refine va_iast hx hb hK hP hD hS 2 1 rfl rfl (by unfold vp_in; decide) dX4_init_63 (fun H locs hP hD hS => ?_)
  have hP : va_P D vwCl [(h0, .inr (4, [.int 4, .ref q12, .ref q19, .int 50, .int 0, .int 0, .ref q34, .ref q43, .ref q52])), (q12, .inl (c12, 100, .inl (fun _ => 0))), (q19, .inl (c19, 4, .inl (upd (fun _ => 0) (0 : Int32).toNatClampNeg 1))), (q34, .inl (c34, 1024, .inl (fun _ => 0))), (q43, .inl (c43, 1024, .inl (fun _ => 0))), (q52, .inl (c52, 1024, .inl (fun _ => 0)))] H := hP
  have hD : va_D A [(h0, .inr (4, [.int 4, .ref q12, .ref q19, .int 50, .int 0, .int 0, .ref q34, .ref q43, .ref q52])), (q12, .inl (c12, 100, .inl (fun _ => 0))), (q19, .inl (c19, 4, .inl (upd (fun _ => 0) (0 : Int32).toNatClampNeg 1))), (q34, .inl (c34, 1024, .inl (fun _ => 0))), (q43, .inl (c43, 1024, .inl (fun _ => 0))), (q52, .inl (c52, 1024, .inl (fun _ => 0)))] := hD
  refine lv_aload_n hx hb dX4_init_64 rfl (lv_at hl 0 rfl) ?_
  refine va_get (D := D) (ci := 4) (v := .ref q19) (C := RX4) (T := TX4) (N := 9) hx hb hts iwX4 hown hK hP 0 rfl rfl 2 (by decide) (hts _ mw_f_X4_17) (fun _ h9 => h9) rfl dX4_init_65 ?_
  refine lv_iconst (v := 3) hx hb dX4_init_68 (by decide) ?_
  refine lv_iconst (v := 1) hx hb dX4_init_69 (by decide) ?_
  refine va_iast hx hb hK hP hD hS 2 1 rfl rfl (by unfold vp_in; decide) dX4_init_70 (fun H locs hP hD hS => ?_)
  have hP : va_P D vwCl [(h0, .inr (4, [.int 4, .ref q12, .ref q19, .int 50, .int 0, .int 0, .ref q34, .ref q43, .ref q52])), (q12, .inl (c12, 100, .inl (fun _ => 0))), (q19, .inl (c19, 4, .inl (upd (upd (fun _ => 0) (0 : Int32).toNatClampNeg 1) (3 : Int32).toNatClampNeg 1))), (q34, .inl (c34, 1024, .inl (fun _ => 0))), (q43, .inl (c43, 1024, .inl (fun _ => 0))), (q52, .inl (c52, 1024, .inl (fun _ => 0)))] H := hP
  have hD : va_D A [(h0, .inr (4, [.int 4, .ref q12, .ref q19, .int 50, .int 0, .int 0, .ref q34, .ref q43, .ref q52])), (q12, .inl (c12, 100, .inl (fun _ => 0))), (q19, .inl (c19, 4, .inl (upd (upd (fun _ => 0) (0 : Int32).toNatClampNeg 1) (3 : Int32).toNatClampNeg 1))), (q34, .inl (c34, 1024, .inl (fun _ => 0))), (q43, .inl (c43, 1024, .inl (fun _ => 0))), (q52, .inl (c52, 1024, .inl (fun _ => 0)))] := hD
  exact W.vret hx hb hr (fun t ht hW => ⟨⟨((fun k => match k with | 0 => h0 | 1 => q12 | 2 => q19 | 3 => q34 | 4 => q43 | 5 => q52 | _ => 0), (fun k => match k with | 1 => c12 | 2 => c19 | 3 => c34 | 4 => c43 | 5 => c52 | _ => c12)), rfl, rfl, by rw [ht]; exact hP, va_K.moved hW.alike hK, hD⟩, hS.F ht⟩) hS.2.2 dX4_init_71 hlk
