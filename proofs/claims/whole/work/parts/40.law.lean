/-! what is asked of the two sides, a method a row -/
def Eq_players (Rel : GS → MS → Prop) : Prop := ∀ (σ : GS) (μ : MS), Rel σ μ → ∀ (x1 : Int32), ∃ (r : Int32) (σ1 : GS) (μ1 : MS), f_X3_players σ x1 = some (r, σ1) ∧ f_X4_players μ x1 = some (r, μ1) ∧ Rel σ1 μ1
def Eq_line (Rel : GS → MS → Prop) : Prop := ∀ (σ : GS) (μ : MS), Rel σ μ → ∀ (x1 x2 x3 : Int32), ∃ (r : Int32) (σ1 : GS) (μ1 : MS), f_X3_line σ x1 x2 x3 = some (r, σ1) ∧ f_X4_line μ x1 x2 x3 = some (r, μ1) ∧ Rel σ1 μ1
def Eq_weight (Rel : GS → MS → Prop) : Prop := ∀ (σ : GS) (μ : MS), Rel σ μ → ∀ (x1 x2 : Int32), ∃ (r : Int32), f_X3_weight σ x1 x2 = some r ∧ f_X4_weight μ x1 x2 = some r
def Eq_pay (Rel : GS → MS → Prop) : Prop := ∀ (σ : GS) (μ : MS), Rel σ μ → ∀ (x1 x2 x3 : Int32), ∃ (r : Int32) (σ1 : GS) (μ1 : MS), f_X3_pay σ x1 x2 x3 = some (r, σ1) ∧ f_X4_pay μ x1 x2 x3 = some (r, μ1) ∧ Rel σ1 μ1
def Eq_bar (Rel : GS → MS → Prop) : Prop := ∀ (σ : GS) (μ : MS), Rel σ μ → ∀ (x1 : Int32), ∃ (r : Int32) (σ1 : GS) (μ1 : MS), f_X3_bar σ x1 = some (r, σ1) ∧ f_X4_bar μ x1 = some (r, μ1) ∧ Rel σ1 μ1
def Eq_hold (Rel : GS → MS → Prop) : Prop := ∀ (σ : GS) (μ : MS), Rel σ μ → ∀ (x1 x2 : Int32), ∃ (r : Int32) (σ1 : GS) (μ1 : MS), f_X3_hold σ x1 x2 = some (r, σ1) ∧ f_X4_hold μ x1 x2 = some (r, μ1) ∧ Rel σ1 μ1
def Eq_state (Rel : GS → MS → Prop) : Prop := ∀ (σ : GS) (μ : MS), Rel σ μ → ∀ (x1 : Int32), ∃ (r : Int32) (σ1 : GS) (μ1 : MS), f_X3_state σ x1 = some (r, σ1) ∧ f_X4_state μ x1 = some (r, μ1) ∧ Rel σ1 μ1
def Eq_wage (Rel : GS → MS → Prop) : Prop := ∀ (σ : GS) (μ : MS), Rel σ μ → ∀ (x1 x2 : Int32), ∃ (r : Int32), f_X3_wage σ x1 x2 = some r ∧ f_X4_wage μ x1 x2 = some r
def Eq_sum (Rel : GS → MS → Prop) : Prop := ∀ (σ : GS) (μ : MS), Rel σ μ → ∃ (r : Int32), f_X3_sum σ = some r ∧ f_X4_sum μ = some r
def Eq_step (Rel : GS → MS → Prop) : Prop := ∀ (σ : GS) (μ : MS), Rel σ μ → ∀ (x1 x2 : Int32), ∃ (r : Int32) (σ1 : GS) (μ1 : MS), f_X3_step σ x1 x2 = some (r, σ1) ∧ f_X4_step μ x1 x2 = some (r, μ1) ∧ Rel σ1 μ1
def Eq_after (Rel : GS → MS → Prop) : Prop := ∀ (σ : GS) (μ : MS), Rel σ μ → ∀ (x1 x2 : Int32), ∃ (r : Int32) (σ1 : GS), f_X3_after σ x1 x2 = some (r, σ1) ∧ f_X4_after μ x1 x2 = some r ∧ Rel σ1 μ
def Eq_goes (Rel : GS → MS → Prop) : Prop := ∀ (σ : GS) (μ : MS), Rel σ μ → ∀ (x1 x2 : Int32), ∃ (r : Int32) (σ1 : GS) (μ1 : MS), f_X3_goes σ x1 x2 = some (r, σ1) ∧ f_X4_goes μ x1 x2 = some (r, μ1) ∧ Rel σ1 μ1
def Eq_end (Rel : GS → MS → Prop) : Prop := ∀ (σ : GS) (μ : MS), Rel σ μ → ∀ (x1 x2 : Int32), ∃ (r : Int32) (σ1 : GS) (μ1 : MS), f_X3_end σ x1 x2 = some (r, σ1) ∧ f_X4_end μ x1 x2 = some (r, μ1) ∧ Rel σ1 μ1
def Eq_basin (Rel : GS → MS → Prop) : Prop := ∀ (σ : GS) (μ : MS), Rel σ μ → ∀ (x1 x2 x3 : Int32), ∃ (r : Int32) (σ1 : GS) (μ1 : MS), f_X3_basin σ x1 x2 x3 = some (r, σ1) ∧ f_X4_basin μ x1 x2 x3 = some (r, μ1) ∧ Rel σ1 μ1
def Eq_lone (Rel : GS → MS → Prop) : Prop := ∀ (σ : GS) (μ : MS), Rel σ μ → ∀ (x1 : Int32), ∃ (r : Int32) (σ1 : GS) (μ1 : MS), f_X3_lone σ x1 = some (r, σ1) ∧ f_X4_lone μ x1 = some (r, μ1) ∧ Rel σ1 μ1
def Eq_before (Rel : GS → MS → Prop) : Prop := ∀ (σ : GS) (μ : MS), Rel σ μ → ∀ (x1 x2 : Int32), ∃ (r : Int32) (σ1 : GS), f_X3_before σ x1 x2 = some (r, σ1) ∧ f_X4_before μ x1 x2 = some r ∧ Rel σ1 μ
def Eq_rise (Rel : GS → MS → Prop) : Prop := ∀ (σ : GS) (μ : MS), Rel σ μ → ∃ (r : Int32), f_X3_rise σ = some r ∧ f_X4_rise μ = some r
def Eq_highest (Rel : GS → MS → Prop) : Prop := ∀ (σ : GS) (μ : MS), Rel σ μ → ∃ (r : Int32), f_X3_highest σ = some r ∧ f_X4_highest μ = some r
def Eq_rests (Rel : GS → MS → Prop) : Prop := ∀ (σ : GS) (μ : MS), Rel σ μ → ∃ (r : Int32) (σ1 : GS), f_X3_rests σ = some (r, σ1) ∧ f_X4_rests μ = some r ∧ Rel σ1 μ
def Eq_restMany (Rel : GS → MS → Prop) : Prop := ∀ (σ : GS) (μ : MS), Rel σ μ → ∃ (r : Int32) (σ1 : GS), f_X3_restMany σ = some (r, σ1) ∧ f_X4_restMany μ = some r ∧ Rel σ1 μ
def Eq_tip (Rel : GS → MS → Prop) : Prop := ∀ (σ : GS) (μ : MS), Rel σ μ → ∀ (x1 : Int32), ∃ (r : Int32) (σ1 : GS), f_X3_tip σ x1 = some (r, σ1) ∧ f_X4_tip μ x1 = some r ∧ Rel σ1 μ
def Eq_share (Rel : GS → MS → Prop) : Prop := ∀ (σ : GS) (μ : MS), Rel σ μ → ∀ (x1 : Int32), ∃ (r : Int32), f_X3_share σ x1 = some r ∧ f_X4_share μ x1 = some r
def Eq_hangs (Rel : GS → MS → Prop) : Prop := ∀ (σ : GS) (μ : MS), Rel σ μ → ∀ (x1 x2 : Int32), ∃ (r : Int32), f_X3_hangs σ x1 x2 = some r ∧ f_X4_hangs μ x1 x2 = some r
def Eq_told (Rel : GS → MS → Prop) : Prop := ∀ (σ : GS) (μ : MS), Rel σ μ → ∀ (x1 : Int32), ∃ (r : Int32), f_X3_told σ x1 = some r ∧ f_X4_told μ x1 = some r
def AllEq (Rel : GS → MS → Prop) : Prop := Eq_players Rel ∧ Eq_line Rel ∧ Eq_weight Rel ∧ Eq_pay Rel ∧ Eq_bar Rel ∧ Eq_hold Rel ∧ Eq_state Rel ∧ Eq_wage Rel ∧ Eq_sum Rel ∧ Eq_step Rel ∧ Eq_after Rel ∧ Eq_goes Rel ∧ Eq_end Rel ∧ Eq_basin Rel ∧ Eq_lone Rel ∧ Eq_before Rel ∧ Eq_rise Rel ∧ Eq_highest Rel ∧ Eq_rests Rel ∧ Eq_restMany Rel ∧ Eq_tip Rel ∧ Eq_share Rel ∧ Eq_hangs Rel ∧ Eq_told Rel
def aG (ad : Nat → Nat) : Nat → Prop := fun q => ∃ k, k < 14 ∧ q = ad k
def aM (am : Nat → Nat) : Nat → Prop := fun q => ∃ k, k < 6 ∧ q = am k
theorem at_adr {w : va_W} {n : Nat} {ad : Nat → Nat} (h : w.map Prod.fst = (List.range n).map ad) {k : Nat} {q : Nat × va_E} (hk : w[k]? = some q) : k < n ∧ q.1 = ad k := by
  have h1 : (w.map Prod.fst)[k]? = some q.1 := by rw [List.getElem?_map, hk]; rfl
  rw [h, List.getElem?_map] at h1
  by_cases hn : k < n
  · refine ⟨hn, ?_⟩
    rw [List.getElem?_range hn] at h1
    exact (Option.some.inj h1).symm
  · rw [List.getElem?_eq_none (by simpa using Nat.not_lt.mp hn)] at h1
    cases h1
theorem Nst.of {args : Array Value} {s : State} (hts : ∀ w ∈ lw_tbl, w.before args s = true) : Nst s := by
  intro w hw
  have h1 := hts w (List.mem_append_right _ (List.mem_filter.mp hw).1)
  have h2 := (List.mem_filter.mp hw).2
  cases w <;> first | exact va_Nw.of rfl h1 | (exact absurd h2 Bool.false_ne_true)
theorem lw_bound {L i : Nat} (hL : L ≤ 2048) (hi : i ≤ L) (h : ¬ Int32.ofNat L - 4 < nI i) : i + 4 ≤ L := by
  have h1 : (nI L - nI 4).toInt = (L : Int) - 4 := pk_sub_toInt (by omega) (by decide)
  have h2 : (nI i).toInt = (i : Int) := nI_toInt (by omega)
  have h3 : ¬ (nI L - nI 4 : Int32) < nI i := h
  rw [Int32.lt_iff_toInt_lt, h1, h2] at h3
  omega
theorem lw_in {L i : Nat} (k : Nat) (hL : L ≤ 2048) (hi : i + k < L) {x : Int32} (hx : x = nI (i + k)) : vp_in x L := by
  rw [hx]; exact vp_in_nI hi (by omega)
section LC
variable {p : Program} {l : Launch} {e : Env} {R : Room} {s : State} {m : MethodId} {args : Array Value} {below : List Frame} {meth : Method} {c : Code} {H : Heap} {locs : List Loc} {cells slots : Nat} {Q : State → Prop} {cc : ByteArray} {pc nL : Nat} {ls : Array Slot} {rest : List Value} {own : String}
theorem lw_call {S : Type} {wf : S → va_W} {A A2 A0 : Nat → Prop} {W2 : va_W} {D : va_G} {tys : List (ClassId × FieldType)} {y : MethodName} {bytes : ByteArray} {maxL n index : Nat} {ret : Option FieldType} {rm : Room} {σ σ0 : S} {r0 : Int32} {b q0 ci N : Nat} {Cn : String} {T : u_T} {fs As st0 : List Value}
    (hF : CallFix p m c cc nL s args bigW own) (hK : va_K D vwCl tys s) (hN : Nst s) (hD2 : va_D A2 W2) (hA : ∀ q, A q → A0 q) (hdis : ∀ q, A q → ¬ A2 q) (hP : va_P D vwCl (wf σ) H) (hP2 : va_P D vwCl W2 H) (hS : va_S A0 s.heap H locs)
    (hM : gMi l y (wsM y bytes maxL ret) rm D tys wf A (.ref b :: As) σ σ0 r0) (hcode : Cond.code y bytes maxL ret ∈ bigW) (hlink : Cond.methodLink own index y ∈ bigW) (hinst : Cond.instanceMethod y ∈ bigW) (hsel : Cond.selects Cn y y ∈ bigW) (hini : Cond.initialized y.cls ∈ bigW) (hd : okName y n) (hrm : rm.cells = 0 ∧ rm.slots = 0) (he : (wf σ)[q0]? = some (b, .inr (ci, fs))) (hc : vwCl[ci]? = some (Cn, T, N)) (hn : As.length = n) (hR : rm.frames + 1 ≤ R.frames ∧ 8 + (maxL + 11) + rm.locals ≤ R.locals) (hcs : cells ≤ R.cells ∧ slots ≤ R.slots) (hl : ls.size = nL) (hst : st0 = As.reverse ++ .ref b :: rest) (hW : (rest.map fun v => v.category).sum ≤ 8) (hdg : decode cc pc = .ok (.invokevirtual index, 3))
    (kk : ∀ (H1 : Heap) (locs1 : List Loc), va_P D vwCl (wf σ0) H1 → va_P D vwCl W2 H1 → va_S A0 s.heap H1 locs1 → W p l e R s m args below meth c H1 locs1 cells slots Q (F0 m (pc + 3) ls (.int r0 :: rest))) : W p l e R s m args below meth c H locs cells slots Q (F0 m pc ls st0) := by
  refine va_calli (S := S) (va_runV (As := As) (rest := rest) hF hM ⟨callB_of n hF.2.2.2.2 (good_M hcode) rfl hrm.1 hrm.2 (hF.2.2.2.2 _ hini) (hF.2.2.2.2 _ hlink) hd hR, hF.2.2.2.2 _ hinst, hF.2.2.2.2 _ hsel⟩ ⟨g_blind, va_recv hK hP hc he, g_pre hK hN hP⟩ rfl hn hl hst (lv_room hW) hdg hcs) hS (fun q _ h => hA q h) hA (fun r u t H1 locs1 ht hvm hw hB hz hk hS => ?_)
  obtain ⟨rfl, rfl⟩ := hw
  refine kk H1 locs1 (by rw [← ht]; exact hB) (fun k q hq => ?_) hS
  exact (hP2 k q hq).kept (hk q.1 (hP2 k q hq).lt (fun h => hdis _ h (hD2.2 k q hq)))
end LC
def R_law : String := "GameNetLaw"
def lw_P (b : Addr) (xs : List Int32) (args : Array Value) (s : State) : Prop := args = #[.ref b] ∧ s.IntsAt b xs ∧ xs.length ≤ 2048 ∧ (Jvm.Cond.and given_1 narrow_1).before args s = true
def lw_Q (_ : Array Value) (s : State) (o : Outcome) (t : State) : Prop := o = .returned (some (.int 1)) ∧ Framed s o t [] 20 10504
def lw_Z (below : List Frame) (a : Array Value) (s : State) : State → Prop := fun t => ∃ o, t.status = .running ∧ Ended t below o ∧ lw_Q a s o t
/-- the law's own end, with 1 on the stack, nothing written that was there before, its room as the claim has it -/
theorem lw_ret {p : Program} {l : Launch} {e : Env} {s : State} {m : MethodId} {below : List Frame} {meth : Method} {c : Code} {b : Nat} (hx : p.tables.exec = Jvm.exec) (hb : c.code = code) (hr : meth.sig.returnType = ret) (hlocks : meth.locks = false) {pc : Nat} {H : Heap} {ls : Array Slot} (hdg : decode code pc = .ok (.ireturn, 1)) : W p l e room_1 s m #[Value.ref b] below meth c H [] 20 10504 (lw_Z below #[Value.ref b] s) (F0 m pc ls [.int 1]) := by
  intro T hT X
  obtain ⟨fs, hret, hrun, hended, hW, hframe⟩ := X.leave (v := some (.int 1)) (hlocks := hlocks) (fun h => by rw [hr] at h; cases h)
  have hmeth' : T.vm.method? m = some meth := X.method'
  refine ⟨T.setFrames fs, ?_, .returned (some (.int 1)), hrun, hended, rfl, ⟨_, rfl⟩, hW, hframe⟩
  jvm_step X.here [X.here.top, hx, hb, hdg, hmeth', hr, ret, narrow_b1]
  (try refine ⟨rfl, ?_⟩); (try refine ⟨rfl, ?_⟩)
  first | (intro acts; rw [hret _ acts rfl rfl rfl]) | rw [hret _ _ rfl rfl rfl]
  exact Steps.refl _
/-- what holds at the law's entry: the machine, the code, the tables' words (any of lw_tbl by 'hts w (by decide +kernel)'), the script of L ints xs at the cell b, what the Statement gives of the start (any of its parts by flat_of_before) -/
def lw_At (p : Program) (s : State) (m : MethodId) (meth : Method) (c : Code) (b L : Nat) (xs : Nat → Int32) : Prop :=
  p.tables.exec = Jvm.exec ∧ c.code = code ∧ meth.sig.returnType = ret ∧ c.maxLocals = 4 ∧ s.vm.findClass R_law = some m.cls ∧ (∀ w ∈ lw_tbl, w.before #[Value.ref b] s = true) ∧ va_X b L xs s s.heap ∧ b < s.heap.size ∧ meth.locks = false ∧ (Jvm.Cond.and given_1 narrow_1).before #[Value.ref b] s = true
set_option maxHeartbeats 40000000 in
set_option maxRecDepth 100000 in
theorem law_loop {p : Program} {l : Launch} {e : Env} {s : State} {m : MethodId} {below : List Frame} {meth : Method} {c : Code} {D : va_G} {cy cm : Nat → ClassId} {ad am : Nat → Nat} {b L : Nat} {xs : Nat → Int32} {Rel : GS → MS → Prop} (hE : AllEq Rel) (hL : L ≤ 2048) (C0 : lw_At p s m meth c b L xs) (hKg : va_K D vwCl (gT cy) s) (hKm : va_K D vwCl (mT cm) s) (hDG : ∀ σ, va_D (aG ad) (gw cy ad σ)) (hDM : ∀ μ, va_D (aM am) (mw cm am μ)) (hAG : ∀ q, aG ad q → s.heap.size ≤ q) (hAM : ∀ q, aM am q → s.heap.size ≤ q) (hdis1 : ∀ q, aG ad q → ¬ aM am q) (hdis2 : ∀ q, aM am q → ¬ aG ad q) :
    ∀ (n i : Nat) (x3 : Int32), i ≤ L → L + 1 ≤ i + n → x3 = nI i → ∀ (σ : GS) (μ : MS), Rel σ μ → ∀ (H : Heap) (locs : List Loc), va_P D vwCl (gw cy ad σ) H → va_P D vwCl (mw cm am μ) H → va_S (fun q : Nat => s.heap.size ≤ q) s.heap H locs → ∀ (ls : Array Slot), lv_has ls 4 [(0, .ref b), (1, .ref (ad 0)), (2, .ref (am 0)), (3, .int x3)] → W p l e room_1 s m #[Value.ref b] below meth c H locs 20 10504 (lw_Z below #[Value.ref b] s) (F0 m 18 ls []) := by
  obtain ⟨hx, hb, hr, hml, hown, hts, hX, hbl, hlocks, hgv⟩ := C0
  have hbA : ¬ (fun q : Nat => s.heap.size ≤ q) b := Nat.not_le.mpr hbl
  have hts2 : ∀ w ∈ bigW, w.before #[Value.ref b] s = true := fun w hw => hts w (List.mem_filter.mp hw).1
  have hF : CallFix p m c code 4 s #[Value.ref b] bigW RL := ⟨hx, hb, hml, hown, hts2⟩
  have hN : Nst s := Nst.of hts
  obtain ⟨E_players, E_line, E_weight, E_pay, E_bar, E_hold, E_state, E_wage, E_sum, E_step, E_after, E_goes, E_end, E_basin, E_lone, E_before, E_rise, E_highest, E_rests, E_restMany, E_tip, E_share, E_hangs, E_told⟩ := hE
  intro n
  induction n with
  | zero =>
    intro i x3 h1 h2
    exact absurd h2 (by omega)
  | succ n ih =>
    intro i x3 hi hin ex3 σ μ hR H locs hP hPm hS ls hl
    refine lv_iload_n hx hb dL_law_18 rfl (lv_at hl 3 rfl) ?_
    refine lv_aload_n hx hb dL_law_19 rfl (lv_at hl 0 rfl) ?_
    refine va_slen hx hb hX hbl hbA hS dL_law_20 ?_
    refine lv_iconst (v := 4) hx hb dL_law_21 (by decide) ?_
    refine lv_isub hx hb dL_law_22 ?_
    refine lv_icmp_gt (tgt := 818) hx hb dL_law_23 (by decide) (fun _ => ?_) (fun q0 => ?_)
    · refine lv_iconst (v := 1) hx hb dL_law_818 (by decide) ?_
      refine va_forget (fun q hq => hS.2.2 q hq) ?_
      exact lw_ret hx hb hr hlocks dL_law_819
    · have hlt : i + 4 ≤ L := lw_bound hL hi (by rw [← ex3]; exact q0)
      have hi0 : vp_in x3 L := lw_in (i := i) 0 hL (by omega) ex3
      have hi1 : vp_in (x3 + 1) L := lw_in (i := i) 1 hL (by omega) (by rw [ex3]; exact nI_add i 1)
      have hi2 : vp_in (x3 + 2) L := lw_in (i := i) 2 hL (by omega) (by rw [ex3]; exact nI_add i 2)
      have hi3 : vp_in (x3 + 3) L := lw_in (i := i) 3 hL (by omega) (by rw [ex3]; exact nI_add i 3)
      refine lv_aload_n hx hb dL_law_26 rfl (lv_at hl 0 rfl) ?_
      refine lv_iload_n hx hb dL_law_27 rfl (lv_at hl 3 rfl) ?_
      refine va_sld hx hb hX hbl hbA hS hi0 dL_law_28 ?_
      refine lv_bipush (v := 31) hx hb dL_law_29 (by decide) ?_
      refine lv_iand hx hb dL_law_31 ?_
      refine lv_topi (fun v ev => ?_)
      by_cases c0 : v = 0
      · refine lv_tableIn (tgt := 144) (off := 112) hx hb dL_law_32 (by rw [c0]; decide) (by rw [c0]; decide) (by rw [c0]; rfl) (by decide) ?_
        refine lv_aload_n hx hb dL_law_144 rfl (lv_at hl 1 rfl) ?_
        refine lv_aload_n hx hb dL_law_145 rfl (lv_at hl 0 rfl) ?_
        refine lv_iload_n hx hb dL_law_146 rfl (lv_at hl 3 rfl) ?_
        refine lv_iconst (v := 1) hx hb dL_law_147 (by decide) ?_
        refine lv_iadd hx hb dL_law_148 ?_
        refine va_sld hx hb hX hbl hbA hS hi1 dL_law_149 ?_
        obtain ⟨r, σ1, μ1, hg, hm, hR⟩ := E_players σ μ hR (xs ((x3 + 1) : Int32).toNatClampNeg)
        refine lw_call (wf := gw cy ad) (A := aG ad) (A2 := aM am) (W2 := mw cm am μ) (q0 := 0) (As := [.int (xs ((x3 + 1) : Int32).toNatClampNeg)]) (rest := []) hF hKg hN (hDM μ) hAG hdis1 hP hPm hS (c_X3_players l hDG σ (xs ((x3 + 1) : Int32).toNatClampNeg) r σ1 hg) mw_c_X3_players mw_m_L_13 mw_i_X3_players mw_v_X3_players mw_in_X3 ok_X3_players ⟨rfl, rfl⟩ rfl rfl rfl ⟨Nat.le_of_ble_eq_true rfl, Nat.le_of_ble_eq_true rfl⟩ ⟨Nat.le_of_ble_eq_true rfl, Nat.le_of_ble_eq_true rfl⟩ hl.1 rfl (Nat.le_of_ble_eq_true rfl) dL_law_150 (fun H locs hP hPm hS => ?_)
        refine lv_aload_n hx hb dL_law_153 rfl (lv_at hl 2 rfl) ?_
        refine lv_aload_n hx hb dL_law_154 rfl (lv_at hl 0 rfl) ?_
        refine lv_iload_n hx hb dL_law_155 rfl (lv_at hl 3 rfl) ?_
        refine lv_iconst (v := 1) hx hb dL_law_156 (by decide) ?_
        refine lv_iadd hx hb dL_law_157 ?_
        refine va_sld hx hb hX hbl hbA hS hi1 dL_law_158 ?_
        refine lw_call (wf := mw cm am) (A := aM am) (A2 := aG ad) (W2 := gw cy ad σ1) (q0 := 0) (As := [.int (xs ((x3 + 1) : Int32).toNatClampNeg)]) (rest := [.int r]) hF hKm hN (hDG σ1) hAM hdis2 hPm hP hS (c_X4_players l hDM μ (xs ((x3 + 1) : Int32).toNatClampNeg) r μ1 hm) mw_c_X4_players mw_m_L_17 mw_i_X4_players mw_v_X4_players mw_in_X4 ok_X4_players ⟨rfl, rfl⟩ rfl rfl rfl ⟨Nat.le_of_ble_eq_true rfl, Nat.le_of_ble_eq_true rfl⟩ ⟨Nat.le_of_ble_eq_true rfl, Nat.le_of_ble_eq_true rfl⟩ hl.1 rfl (Nat.le_of_ble_eq_true rfl) dL_law_159 (fun H locs hPm hP hS => ?_)
        refine lv_icmp_eq (tgt := 812) hx hb dL_law_162 (by decide) (fun _ => ?_) (fun q => absurd rfl q)
        refine lv_iinc (v := x3 + 4) (lv' := [(3, .int (x3 + 4)), (0, .ref b), (1, .ref (ad 0)), (2, .ref (am 0))]) hx hb dL_law_812 hl (k := 3) rfl rfl (by decide) rfl (fun ls hl => ?_)
        refine lv_goto (tgt := 18) hx hb dL_law_815 (by decide) ?_
        exact ih (i + 4) _ hlt (by omega) (by rw [ex3]; exact nI_add i 4) σ1 μ1 hR H locs hP hPm hS ls (lv_sub hl [1, 2, 3, 0] rfl)
      by_cases c1 : v = 1
      · refine lv_tableIn (tgt := 167) (off := 135) hx hb dL_law_32 (by rw [c1]; decide) (by rw [c1]; decide) (by rw [c1]; rfl) (by decide) ?_
        refine lv_aload_n hx hb dL_law_167 rfl (lv_at hl 1 rfl) ?_
        refine lv_aload_n hx hb dL_law_168 rfl (lv_at hl 0 rfl) ?_
        refine lv_iload_n hx hb dL_law_169 rfl (lv_at hl 3 rfl) ?_
        refine lv_iconst (v := 1) hx hb dL_law_170 (by decide) ?_
        refine lv_iadd hx hb dL_law_171 ?_
        refine va_sld hx hb hX hbl hbA hS hi1 dL_law_172 ?_
        refine lv_aload_n hx hb dL_law_173 rfl (lv_at hl 0 rfl) ?_
        refine lv_iload_n hx hb dL_law_174 rfl (lv_at hl 3 rfl) ?_
        refine lv_iconst (v := 2) hx hb dL_law_175 (by decide) ?_
        refine lv_iadd hx hb dL_law_176 ?_
        refine va_sld hx hb hX hbl hbA hS hi2 dL_law_177 ?_
        refine lv_aload_n hx hb dL_law_178 rfl (lv_at hl 0 rfl) ?_
        refine lv_iload_n hx hb dL_law_179 rfl (lv_at hl 3 rfl) ?_
        refine lv_iconst (v := 3) hx hb dL_law_180 (by decide) ?_
        refine lv_iadd hx hb dL_law_181 ?_
        refine va_sld hx hb hX hbl hbA hS hi3 dL_law_182 ?_
        obtain ⟨r, σ1, μ1, hg, hm, hR⟩ := E_line σ μ hR (xs ((x3 + 1) : Int32).toNatClampNeg) (xs ((x3 + 2) : Int32).toNatClampNeg) (xs ((x3 + 3) : Int32).toNatClampNeg)
        refine lw_call (wf := gw cy ad) (A := aG ad) (A2 := aM am) (W2 := mw cm am μ) (q0 := 0) (As := [.int (xs ((x3 + 1) : Int32).toNatClampNeg), .int (xs ((x3 + 2) : Int32).toNatClampNeg), .int (xs ((x3 + 3) : Int32).toNatClampNeg)]) (rest := []) hF hKg hN (hDM μ) hAG hdis1 hP hPm hS (c_X3_line l hDG σ (xs ((x3 + 1) : Int32).toNatClampNeg) (xs ((x3 + 2) : Int32).toNatClampNeg) (xs ((x3 + 3) : Int32).toNatClampNeg) r σ1 hg) mw_c_X3_line mw_m_L_18 mw_i_X3_line mw_v_X3_line mw_in_X3 ok_X3_line ⟨rfl, rfl⟩ rfl rfl rfl ⟨Nat.le_of_ble_eq_true rfl, Nat.le_of_ble_eq_true rfl⟩ ⟨Nat.le_of_ble_eq_true rfl, Nat.le_of_ble_eq_true rfl⟩ hl.1 rfl (Nat.le_of_ble_eq_true rfl) dL_law_183 (fun H locs hP hPm hS => ?_)
        refine lv_aload_n hx hb dL_law_186 rfl (lv_at hl 2 rfl) ?_
        refine lv_aload_n hx hb dL_law_187 rfl (lv_at hl 0 rfl) ?_
        refine lv_iload_n hx hb dL_law_188 rfl (lv_at hl 3 rfl) ?_
        refine lv_iconst (v := 1) hx hb dL_law_189 (by decide) ?_
        refine lv_iadd hx hb dL_law_190 ?_
        refine va_sld hx hb hX hbl hbA hS hi1 dL_law_191 ?_
        refine lv_aload_n hx hb dL_law_192 rfl (lv_at hl 0 rfl) ?_
        refine lv_iload_n hx hb dL_law_193 rfl (lv_at hl 3 rfl) ?_
        refine lv_iconst (v := 2) hx hb dL_law_194 (by decide) ?_
        refine lv_iadd hx hb dL_law_195 ?_
        refine va_sld hx hb hX hbl hbA hS hi2 dL_law_196 ?_
        refine lv_aload_n hx hb dL_law_197 rfl (lv_at hl 0 rfl) ?_
        refine lv_iload_n hx hb dL_law_198 rfl (lv_at hl 3 rfl) ?_
        refine lv_iconst (v := 3) hx hb dL_law_199 (by decide) ?_
        refine lv_iadd hx hb dL_law_200 ?_
        refine va_sld hx hb hX hbl hbA hS hi3 dL_law_201 ?_
        refine lw_call (wf := mw cm am) (A := aM am) (A2 := aG ad) (W2 := gw cy ad σ1) (q0 := 0) (As := [.int (xs ((x3 + 1) : Int32).toNatClampNeg), .int (xs ((x3 + 2) : Int32).toNatClampNeg), .int (xs ((x3 + 3) : Int32).toNatClampNeg)]) (rest := [.int r]) hF hKm hN (hDG σ1) hAM hdis2 hPm hP hS (c_X4_line l hDM μ (xs ((x3 + 1) : Int32).toNatClampNeg) (xs ((x3 + 2) : Int32).toNatClampNeg) (xs ((x3 + 3) : Int32).toNatClampNeg) r μ1 hm) mw_c_X4_line mw_m_L_22 mw_i_X4_line mw_v_X4_line mw_in_X4 ok_X4_line ⟨rfl, rfl⟩ rfl rfl rfl ⟨Nat.le_of_ble_eq_true rfl, Nat.le_of_ble_eq_true rfl⟩ ⟨Nat.le_of_ble_eq_true rfl, Nat.le_of_ble_eq_true rfl⟩ hl.1 rfl (Nat.le_of_ble_eq_true rfl) dL_law_202 (fun H locs hPm hP hS => ?_)
        refine lv_icmp_eq (tgt := 812) hx hb dL_law_205 (by decide) (fun _ => ?_) (fun q => absurd rfl q)
        refine lv_iinc (v := x3 + 4) (lv' := [(3, .int (x3 + 4)), (0, .ref b), (1, .ref (ad 0)), (2, .ref (am 0))]) hx hb dL_law_812 hl (k := 3) rfl rfl (by decide) rfl (fun ls hl => ?_)
        refine lv_goto (tgt := 18) hx hb dL_law_815 (by decide) ?_
        exact ih (i + 4) _ hlt (by omega) (by rw [ex3]; exact nI_add i 4) σ1 μ1 hR H locs hP hPm hS ls (lv_sub hl [1, 2, 3, 0] rfl)
      by_cases c2 : v = 2
      · refine lv_tableIn (tgt := 210) (off := 178) hx hb dL_law_32 (by rw [c2]; decide) (by rw [c2]; decide) (by rw [c2]; rfl) (by decide) ?_
        refine lv_aload_n hx hb dL_law_210 rfl (lv_at hl 1 rfl) ?_
        refine lv_aload_n hx hb dL_law_211 rfl (lv_at hl 0 rfl) ?_
        refine lv_iload_n hx hb dL_law_212 rfl (lv_at hl 3 rfl) ?_
        refine lv_iconst (v := 1) hx hb dL_law_213 (by decide) ?_
        refine lv_iadd hx hb dL_law_214 ?_
        refine va_sld hx hb hX hbl hbA hS hi1 dL_law_215 ?_
        refine lv_aload_n hx hb dL_law_216 rfl (lv_at hl 0 rfl) ?_
        refine lv_iload_n hx hb dL_law_217 rfl (lv_at hl 3 rfl) ?_
        refine lv_iconst (v := 2) hx hb dL_law_218 (by decide) ?_
        refine lv_iadd hx hb dL_law_219 ?_
        refine va_sld hx hb hX hbl hbA hS hi2 dL_law_220 ?_
        obtain ⟨r, hg, hm⟩ := E_weight σ μ hR (xs ((x3 + 1) : Int32).toNatClampNeg) (xs ((x3 + 2) : Int32).toNatClampNeg)
        refine lw_call (wf := gw cy ad) (A := aG ad) (A2 := aM am) (W2 := mw cm am μ) (q0 := 0) (As := [.int (xs ((x3 + 1) : Int32).toNatClampNeg), .int (xs ((x3 + 2) : Int32).toNatClampNeg)]) (rest := []) hF hKg hN (hDM μ) hAG hdis1 hP hPm hS (c_X3_weight l hDG σ (xs ((x3 + 1) : Int32).toNatClampNeg) (xs ((x3 + 2) : Int32).toNatClampNeg) r hg) mw_c_X3_weight mw_m_L_23 mw_i_X3_weight mw_v_X3_weight mw_in_X3 ok_X3_weight ⟨rfl, rfl⟩ rfl rfl rfl ⟨Nat.le_of_ble_eq_true rfl, Nat.le_of_ble_eq_true rfl⟩ ⟨Nat.le_of_ble_eq_true rfl, Nat.le_of_ble_eq_true rfl⟩ hl.1 rfl (Nat.le_of_ble_eq_true rfl) dL_law_221 (fun H locs hP hPm hS => ?_)
        refine lv_aload_n hx hb dL_law_224 rfl (lv_at hl 2 rfl) ?_
        refine lv_aload_n hx hb dL_law_225 rfl (lv_at hl 0 rfl) ?_
        refine lv_iload_n hx hb dL_law_226 rfl (lv_at hl 3 rfl) ?_
        refine lv_iconst (v := 1) hx hb dL_law_227 (by decide) ?_
        refine lv_iadd hx hb dL_law_228 ?_
        refine va_sld hx hb hX hbl hbA hS hi1 dL_law_229 ?_
        refine lv_aload_n hx hb dL_law_230 rfl (lv_at hl 0 rfl) ?_
        refine lv_iload_n hx hb dL_law_231 rfl (lv_at hl 3 rfl) ?_
        refine lv_iconst (v := 2) hx hb dL_law_232 (by decide) ?_
        refine lv_iadd hx hb dL_law_233 ?_
        refine va_sld hx hb hX hbl hbA hS hi2 dL_law_234 ?_
        refine lw_call (wf := mw cm am) (A := aM am) (A2 := aG ad) (W2 := gw cy ad σ) (q0 := 0) (As := [.int (xs ((x3 + 1) : Int32).toNatClampNeg), .int (xs ((x3 + 2) : Int32).toNatClampNeg)]) (rest := [.int r]) hF hKm hN (hDG σ) hAM hdis2 hPm hP hS (c_X4_weight l hDM μ (xs ((x3 + 1) : Int32).toNatClampNeg) (xs ((x3 + 2) : Int32).toNatClampNeg) r hm) mw_c_X4_weight mw_m_L_27 mw_i_X4_weight mw_v_X4_weight mw_in_X4 ok_X4_weight ⟨rfl, rfl⟩ rfl rfl rfl ⟨Nat.le_of_ble_eq_true rfl, Nat.le_of_ble_eq_true rfl⟩ ⟨Nat.le_of_ble_eq_true rfl, Nat.le_of_ble_eq_true rfl⟩ hl.1 rfl (Nat.le_of_ble_eq_true rfl) dL_law_235 (fun H locs hPm hP hS => ?_)
        refine lv_icmp_eq (tgt := 812) hx hb dL_law_238 (by decide) (fun _ => ?_) (fun q => absurd rfl q)
        refine lv_iinc (v := x3 + 4) (lv' := [(3, .int (x3 + 4)), (0, .ref b), (1, .ref (ad 0)), (2, .ref (am 0))]) hx hb dL_law_812 hl (k := 3) rfl rfl (by decide) rfl (fun ls hl => ?_)
        refine lv_goto (tgt := 18) hx hb dL_law_815 (by decide) ?_
        exact ih (i + 4) _ hlt (by omega) (by rw [ex3]; exact nI_add i 4) σ μ hR H locs hP hPm hS ls (lv_sub hl [1, 2, 3, 0] rfl)
      by_cases c3 : v = 3
      · refine lv_tableIn (tgt := 243) (off := 211) hx hb dL_law_32 (by rw [c3]; decide) (by rw [c3]; decide) (by rw [c3]; rfl) (by decide) ?_
        refine lv_aload_n hx hb dL_law_243 rfl (lv_at hl 1 rfl) ?_
        refine lv_aload_n hx hb dL_law_244 rfl (lv_at hl 0 rfl) ?_
        refine lv_iload_n hx hb dL_law_245 rfl (lv_at hl 3 rfl) ?_
        refine lv_iconst (v := 1) hx hb dL_law_246 (by decide) ?_
        refine lv_iadd hx hb dL_law_247 ?_
        refine va_sld hx hb hX hbl hbA hS hi1 dL_law_248 ?_
        refine lv_aload_n hx hb dL_law_249 rfl (lv_at hl 0 rfl) ?_
        refine lv_iload_n hx hb dL_law_250 rfl (lv_at hl 3 rfl) ?_
        refine lv_iconst (v := 2) hx hb dL_law_251 (by decide) ?_
        refine lv_iadd hx hb dL_law_252 ?_
        refine va_sld hx hb hX hbl hbA hS hi2 dL_law_253 ?_
        refine lv_aload_n hx hb dL_law_254 rfl (lv_at hl 0 rfl) ?_
        refine lv_iload_n hx hb dL_law_255 rfl (lv_at hl 3 rfl) ?_
        refine lv_iconst (v := 3) hx hb dL_law_256 (by decide) ?_
        refine lv_iadd hx hb dL_law_257 ?_
        refine va_sld hx hb hX hbl hbA hS hi3 dL_law_258 ?_
        obtain ⟨r, σ1, μ1, hg, hm, hR⟩ := E_pay σ μ hR (xs ((x3 + 1) : Int32).toNatClampNeg) (xs ((x3 + 2) : Int32).toNatClampNeg) (xs ((x3 + 3) : Int32).toNatClampNeg)
        refine lw_call (wf := gw cy ad) (A := aG ad) (A2 := aM am) (W2 := mw cm am μ) (q0 := 0) (As := [.int (xs ((x3 + 1) : Int32).toNatClampNeg), .int (xs ((x3 + 2) : Int32).toNatClampNeg), .int (xs ((x3 + 3) : Int32).toNatClampNeg)]) (rest := []) hF hKg hN (hDM μ) hAG hdis1 hP hPm hS (c_X3_pay l hDG σ (xs ((x3 + 1) : Int32).toNatClampNeg) (xs ((x3 + 2) : Int32).toNatClampNeg) (xs ((x3 + 3) : Int32).toNatClampNeg) r σ1 hg) mw_c_X3_pay mw_m_L_28 mw_i_X3_pay mw_v_X3_pay mw_in_X3 ok_X3_pay ⟨rfl, rfl⟩ rfl rfl rfl ⟨Nat.le_of_ble_eq_true rfl, Nat.le_of_ble_eq_true rfl⟩ ⟨Nat.le_of_ble_eq_true rfl, Nat.le_of_ble_eq_true rfl⟩ hl.1 rfl (Nat.le_of_ble_eq_true rfl) dL_law_259 (fun H locs hP hPm hS => ?_)
        refine lv_aload_n hx hb dL_law_262 rfl (lv_at hl 2 rfl) ?_
        refine lv_aload_n hx hb dL_law_263 rfl (lv_at hl 0 rfl) ?_
        refine lv_iload_n hx hb dL_law_264 rfl (lv_at hl 3 rfl) ?_
        refine lv_iconst (v := 1) hx hb dL_law_265 (by decide) ?_
        refine lv_iadd hx hb dL_law_266 ?_
        refine va_sld hx hb hX hbl hbA hS hi1 dL_law_267 ?_
        refine lv_aload_n hx hb dL_law_268 rfl (lv_at hl 0 rfl) ?_
        refine lv_iload_n hx hb dL_law_269 rfl (lv_at hl 3 rfl) ?_
        refine lv_iconst (v := 2) hx hb dL_law_270 (by decide) ?_
        refine lv_iadd hx hb dL_law_271 ?_
        refine va_sld hx hb hX hbl hbA hS hi2 dL_law_272 ?_
        refine lv_aload_n hx hb dL_law_273 rfl (lv_at hl 0 rfl) ?_
        refine lv_iload_n hx hb dL_law_274 rfl (lv_at hl 3 rfl) ?_
        refine lv_iconst (v := 3) hx hb dL_law_275 (by decide) ?_
        refine lv_iadd hx hb dL_law_276 ?_
        refine va_sld hx hb hX hbl hbA hS hi3 dL_law_277 ?_
        refine lw_call (wf := mw cm am) (A := aM am) (A2 := aG ad) (W2 := gw cy ad σ1) (q0 := 0) (As := [.int (xs ((x3 + 1) : Int32).toNatClampNeg), .int (xs ((x3 + 2) : Int32).toNatClampNeg), .int (xs ((x3 + 3) : Int32).toNatClampNeg)]) (rest := [.int r]) hF hKm hN (hDG σ1) hAM hdis2 hPm hP hS (c_X4_pay l hDM μ (xs ((x3 + 1) : Int32).toNatClampNeg) (xs ((x3 + 2) : Int32).toNatClampNeg) (xs ((x3 + 3) : Int32).toNatClampNeg) r μ1 hm) mw_c_X4_pay mw_m_L_31 mw_i_X4_pay mw_v_X4_pay mw_in_X4 ok_X4_pay ⟨rfl, rfl⟩ rfl rfl rfl ⟨Nat.le_of_ble_eq_true rfl, Nat.le_of_ble_eq_true rfl⟩ ⟨Nat.le_of_ble_eq_true rfl, Nat.le_of_ble_eq_true rfl⟩ hl.1 rfl (Nat.le_of_ble_eq_true rfl) dL_law_278 (fun H locs hPm hP hS => ?_)
        refine lv_icmp_eq (tgt := 812) hx hb dL_law_281 (by decide) (fun _ => ?_) (fun q => absurd rfl q)
        refine lv_iinc (v := x3 + 4) (lv' := [(3, .int (x3 + 4)), (0, .ref b), (1, .ref (ad 0)), (2, .ref (am 0))]) hx hb dL_law_812 hl (k := 3) rfl rfl (by decide) rfl (fun ls hl => ?_)
        refine lv_goto (tgt := 18) hx hb dL_law_815 (by decide) ?_
        exact ih (i + 4) _ hlt (by omega) (by rw [ex3]; exact nI_add i 4) σ1 μ1 hR H locs hP hPm hS ls (lv_sub hl [1, 2, 3, 0] rfl)
      by_cases c4 : v = 4
      · refine lv_tableIn (tgt := 286) (off := 254) hx hb dL_law_32 (by rw [c4]; decide) (by rw [c4]; decide) (by rw [c4]; rfl) (by decide) ?_
        refine lv_aload_n hx hb dL_law_286 rfl (lv_at hl 1 rfl) ?_
        refine lv_aload_n hx hb dL_law_287 rfl (lv_at hl 0 rfl) ?_
        refine lv_iload_n hx hb dL_law_288 rfl (lv_at hl 3 rfl) ?_
        refine lv_iconst (v := 1) hx hb dL_law_289 (by decide) ?_
        refine lv_iadd hx hb dL_law_290 ?_
        refine va_sld hx hb hX hbl hbA hS hi1 dL_law_291 ?_
        obtain ⟨r, σ1, μ1, hg, hm, hR⟩ := E_bar σ μ hR (xs ((x3 + 1) : Int32).toNatClampNeg)
        refine lw_call (wf := gw cy ad) (A := aG ad) (A2 := aM am) (W2 := mw cm am μ) (q0 := 0) (As := [.int (xs ((x3 + 1) : Int32).toNatClampNeg)]) (rest := []) hF hKg hN (hDM μ) hAG hdis1 hP hPm hS (c_X3_bar l hDG σ (xs ((x3 + 1) : Int32).toNatClampNeg) r σ1 hg) mw_c_X3_bar mw_m_L_32 mw_i_X3_bar mw_v_X3_bar mw_in_X3 ok_X3_bar ⟨rfl, rfl⟩ rfl rfl rfl ⟨Nat.le_of_ble_eq_true rfl, Nat.le_of_ble_eq_true rfl⟩ ⟨Nat.le_of_ble_eq_true rfl, Nat.le_of_ble_eq_true rfl⟩ hl.1 rfl (Nat.le_of_ble_eq_true rfl) dL_law_292 (fun H locs hP hPm hS => ?_)
        refine lv_aload_n hx hb dL_law_295 rfl (lv_at hl 2 rfl) ?_
        refine lv_aload_n hx hb dL_law_296 rfl (lv_at hl 0 rfl) ?_
        refine lv_iload_n hx hb dL_law_297 rfl (lv_at hl 3 rfl) ?_
        refine lv_iconst (v := 1) hx hb dL_law_298 (by decide) ?_
        refine lv_iadd hx hb dL_law_299 ?_
        refine va_sld hx hb hX hbl hbA hS hi1 dL_law_300 ?_
        refine lw_call (wf := mw cm am) (A := aM am) (A2 := aG ad) (W2 := gw cy ad σ1) (q0 := 0) (As := [.int (xs ((x3 + 1) : Int32).toNatClampNeg)]) (rest := [.int r]) hF hKm hN (hDG σ1) hAM hdis2 hPm hP hS (c_X4_bar l hDM μ (xs ((x3 + 1) : Int32).toNatClampNeg) r μ1 hm) mw_c_X4_bar mw_m_L_35 mw_i_X4_bar mw_v_X4_bar mw_in_X4 ok_X4_bar ⟨rfl, rfl⟩ rfl rfl rfl ⟨Nat.le_of_ble_eq_true rfl, Nat.le_of_ble_eq_true rfl⟩ ⟨Nat.le_of_ble_eq_true rfl, Nat.le_of_ble_eq_true rfl⟩ hl.1 rfl (Nat.le_of_ble_eq_true rfl) dL_law_301 (fun H locs hPm hP hS => ?_)
        refine lv_icmp_eq (tgt := 812) hx hb dL_law_304 (by decide) (fun _ => ?_) (fun q => absurd rfl q)
        refine lv_iinc (v := x3 + 4) (lv' := [(3, .int (x3 + 4)), (0, .ref b), (1, .ref (ad 0)), (2, .ref (am 0))]) hx hb dL_law_812 hl (k := 3) rfl rfl (by decide) rfl (fun ls hl => ?_)
        refine lv_goto (tgt := 18) hx hb dL_law_815 (by decide) ?_
        exact ih (i + 4) _ hlt (by omega) (by rw [ex3]; exact nI_add i 4) σ1 μ1 hR H locs hP hPm hS ls (lv_sub hl [1, 2, 3, 0] rfl)
      by_cases c5 : v = 5
      · refine lv_tableIn (tgt := 309) (off := 277) hx hb dL_law_32 (by rw [c5]; decide) (by rw [c5]; decide) (by rw [c5]; rfl) (by decide) ?_
        refine lv_aload_n hx hb dL_law_309 rfl (lv_at hl 1 rfl) ?_
        refine lv_aload_n hx hb dL_law_310 rfl (lv_at hl 0 rfl) ?_
        refine lv_iload_n hx hb dL_law_311 rfl (lv_at hl 3 rfl) ?_
        refine lv_iconst (v := 1) hx hb dL_law_312 (by decide) ?_
        refine lv_iadd hx hb dL_law_313 ?_
        refine va_sld hx hb hX hbl hbA hS hi1 dL_law_314 ?_
        refine lv_aload_n hx hb dL_law_315 rfl (lv_at hl 0 rfl) ?_
        refine lv_iload_n hx hb dL_law_316 rfl (lv_at hl 3 rfl) ?_
        refine lv_iconst (v := 2) hx hb dL_law_317 (by decide) ?_
        refine lv_iadd hx hb dL_law_318 ?_
        refine va_sld hx hb hX hbl hbA hS hi2 dL_law_319 ?_
        refine lv_if_eq (tgt := 327) hx hb dL_law_320 (by decide) (fun z => ?_) (fun z => ?_)
        · refine lv_iconst (v := 0) hx hb dL_law_327 (by decide) ?_
          obtain ⟨r, σ1, μ1, hg, hm, hR⟩ := E_hold σ μ hR (xs ((x3 + 1) : Int32).toNatClampNeg) (0 : Int32)
          refine lw_call (wf := gw cy ad) (A := aG ad) (A2 := aM am) (W2 := mw cm am μ) (q0 := 0) (As := [.int (xs ((x3 + 1) : Int32).toNatClampNeg), .int 0]) (rest := []) hF hKg hN (hDM μ) hAG hdis1 hP hPm hS (c_X3_hold l hDG σ (xs ((x3 + 1) : Int32).toNatClampNeg) (0 : Int32) r σ1 hg) mw_c_X3_hold mw_m_L_36 mw_i_X3_hold mw_v_X3_hold mw_in_X3 ok_X3_hold ⟨rfl, rfl⟩ rfl rfl rfl ⟨Nat.le_of_ble_eq_true rfl, Nat.le_of_ble_eq_true rfl⟩ ⟨Nat.le_of_ble_eq_true rfl, Nat.le_of_ble_eq_true rfl⟩ hl.1 rfl (Nat.le_of_ble_eq_true rfl) dL_law_328 (fun H locs hP hPm hS => ?_)
          refine lv_aload_n hx hb dL_law_331 rfl (lv_at hl 2 rfl) ?_
          refine lv_aload_n hx hb dL_law_332 rfl (lv_at hl 0 rfl) ?_
          refine lv_iload_n hx hb dL_law_333 rfl (lv_at hl 3 rfl) ?_
          refine lv_iconst (v := 1) hx hb dL_law_334 (by decide) ?_
          refine lv_iadd hx hb dL_law_335 ?_
          refine va_sld hx hb hX hbl hbA hS hi1 dL_law_336 ?_
          refine lv_aload_n hx hb dL_law_337 rfl (lv_at hl 0 rfl) ?_
          refine lv_iload_n hx hb dL_law_338 rfl (lv_at hl 3 rfl) ?_
          refine lv_iconst (v := 2) hx hb dL_law_339 (by decide) ?_
          refine lv_iadd hx hb dL_law_340 ?_
          refine va_sld hx hb hX hbl hbA hS hi2 dL_law_341 ?_
          refine lv_if_eq (tgt := 349) hx hb dL_law_342 (by decide) (fun _ => ?_) (fun q => absurd z q)
          refine lv_iconst (v := 0) hx hb dL_law_349 (by decide) ?_
          refine lw_call (wf := mw cm am) (A := aM am) (A2 := aG ad) (W2 := gw cy ad σ1) (q0 := 0) (As := [.int (xs ((x3 + 1) : Int32).toNatClampNeg), .int 0]) (rest := [.int r]) hF hKm hN (hDG σ1) hAM hdis2 hPm hP hS (c_X4_hold l hDM μ (xs ((x3 + 1) : Int32).toNatClampNeg) (0 : Int32) r μ1 hm) mw_c_X4_hold mw_m_L_40 mw_i_X4_hold mw_v_X4_hold mw_in_X4 ok_X4_hold ⟨rfl, rfl⟩ rfl rfl rfl ⟨Nat.le_of_ble_eq_true rfl, Nat.le_of_ble_eq_true rfl⟩ ⟨Nat.le_of_ble_eq_true rfl, Nat.le_of_ble_eq_true rfl⟩ hl.1 rfl (Nat.le_of_ble_eq_true rfl) dL_law_350 (fun H locs hPm hP hS => ?_)
          refine lv_icmp_eq (tgt := 812) hx hb dL_law_353 (by decide) (fun _ => ?_) (fun q => absurd rfl q)
          refine lv_iinc (v := x3 + 4) (lv' := [(3, .int (x3 + 4)), (0, .ref b), (1, .ref (ad 0)), (2, .ref (am 0))]) hx hb dL_law_812 hl (k := 3) rfl rfl (by decide) rfl (fun ls hl => ?_)
          refine lv_goto (tgt := 18) hx hb dL_law_815 (by decide) ?_
          exact ih (i + 4) _ hlt (by omega) (by rw [ex3]; exact nI_add i 4) σ1 μ1 hR H locs hP hPm hS ls (lv_sub hl [1, 2, 3, 0] rfl)
        · refine lv_iconst (v := 1) hx hb dL_law_323 (by decide) ?_
          refine lv_goto (tgt := 328) hx hb dL_law_324 (by decide) ?_
          obtain ⟨r, σ1, μ1, hg, hm, hR⟩ := E_hold σ μ hR (xs ((x3 + 1) : Int32).toNatClampNeg) (1 : Int32)
          refine lw_call (wf := gw cy ad) (A := aG ad) (A2 := aM am) (W2 := mw cm am μ) (q0 := 0) (As := [.int (xs ((x3 + 1) : Int32).toNatClampNeg), .int 1]) (rest := []) hF hKg hN (hDM μ) hAG hdis1 hP hPm hS (c_X3_hold l hDG σ (xs ((x3 + 1) : Int32).toNatClampNeg) (1 : Int32) r σ1 hg) mw_c_X3_hold mw_m_L_36 mw_i_X3_hold mw_v_X3_hold mw_in_X3 ok_X3_hold ⟨rfl, rfl⟩ rfl rfl rfl ⟨Nat.le_of_ble_eq_true rfl, Nat.le_of_ble_eq_true rfl⟩ ⟨Nat.le_of_ble_eq_true rfl, Nat.le_of_ble_eq_true rfl⟩ hl.1 rfl (Nat.le_of_ble_eq_true rfl) dL_law_328 (fun H locs hP hPm hS => ?_)
          refine lv_aload_n hx hb dL_law_331 rfl (lv_at hl 2 rfl) ?_
          refine lv_aload_n hx hb dL_law_332 rfl (lv_at hl 0 rfl) ?_
          refine lv_iload_n hx hb dL_law_333 rfl (lv_at hl 3 rfl) ?_
          refine lv_iconst (v := 1) hx hb dL_law_334 (by decide) ?_
          refine lv_iadd hx hb dL_law_335 ?_
          refine va_sld hx hb hX hbl hbA hS hi1 dL_law_336 ?_
          refine lv_aload_n hx hb dL_law_337 rfl (lv_at hl 0 rfl) ?_
          refine lv_iload_n hx hb dL_law_338 rfl (lv_at hl 3 rfl) ?_
          refine lv_iconst (v := 2) hx hb dL_law_339 (by decide) ?_
          refine lv_iadd hx hb dL_law_340 ?_
          refine va_sld hx hb hX hbl hbA hS hi2 dL_law_341 ?_
          refine lv_if_eq (tgt := 349) hx hb dL_law_342 (by decide) (fun q => absurd q z) (fun _ => ?_)
          refine lv_iconst (v := 1) hx hb dL_law_345 (by decide) ?_
          refine lv_goto (tgt := 350) hx hb dL_law_346 (by decide) ?_
          refine lw_call (wf := mw cm am) (A := aM am) (A2 := aG ad) (W2 := gw cy ad σ1) (q0 := 0) (As := [.int (xs ((x3 + 1) : Int32).toNatClampNeg), .int 1]) (rest := [.int r]) hF hKm hN (hDG σ1) hAM hdis2 hPm hP hS (c_X4_hold l hDM μ (xs ((x3 + 1) : Int32).toNatClampNeg) (1 : Int32) r μ1 hm) mw_c_X4_hold mw_m_L_40 mw_i_X4_hold mw_v_X4_hold mw_in_X4 ok_X4_hold ⟨rfl, rfl⟩ rfl rfl rfl ⟨Nat.le_of_ble_eq_true rfl, Nat.le_of_ble_eq_true rfl⟩ ⟨Nat.le_of_ble_eq_true rfl, Nat.le_of_ble_eq_true rfl⟩ hl.1 rfl (Nat.le_of_ble_eq_true rfl) dL_law_350 (fun H locs hPm hP hS => ?_)
          refine lv_icmp_eq (tgt := 812) hx hb dL_law_353 (by decide) (fun _ => ?_) (fun q => absurd rfl q)
          refine lv_iinc (v := x3 + 4) (lv' := [(3, .int (x3 + 4)), (0, .ref b), (1, .ref (ad 0)), (2, .ref (am 0))]) hx hb dL_law_812 hl (k := 3) rfl rfl (by decide) rfl (fun ls hl => ?_)
          refine lv_goto (tgt := 18) hx hb dL_law_815 (by decide) ?_
          exact ih (i + 4) _ hlt (by omega) (by rw [ex3]; exact nI_add i 4) σ1 μ1 hR H locs hP hPm hS ls (lv_sub hl [1, 2, 3, 0] rfl)
      by_cases c6 : v = 6
      · refine lv_tableIn (tgt := 358) (off := 326) hx hb dL_law_32 (by rw [c6]; decide) (by rw [c6]; decide) (by rw [c6]; rfl) (by decide) ?_
        refine lv_aload_n hx hb dL_law_358 rfl (lv_at hl 1 rfl) ?_
        refine lv_aload_n hx hb dL_law_359 rfl (lv_at hl 0 rfl) ?_
        refine lv_iload_n hx hb dL_law_360 rfl (lv_at hl 3 rfl) ?_
        refine lv_iconst (v := 1) hx hb dL_law_361 (by decide) ?_
        refine lv_iadd hx hb dL_law_362 ?_
        refine va_sld hx hb hX hbl hbA hS hi1 dL_law_363 ?_
        obtain ⟨r, σ1, μ1, hg, hm, hR⟩ := E_state σ μ hR (xs ((x3 + 1) : Int32).toNatClampNeg)
        refine lw_call (wf := gw cy ad) (A := aG ad) (A2 := aM am) (W2 := mw cm am μ) (q0 := 0) (As := [.int (xs ((x3 + 1) : Int32).toNatClampNeg)]) (rest := []) hF hKg hN (hDM μ) hAG hdis1 hP hPm hS (c_X3_state l hDG σ (xs ((x3 + 1) : Int32).toNatClampNeg) r σ1 hg) mw_c_X3_state mw_m_L_41 mw_i_X3_state mw_v_X3_state mw_in_X3 ok_X3_state ⟨rfl, rfl⟩ rfl rfl rfl ⟨Nat.le_of_ble_eq_true rfl, Nat.le_of_ble_eq_true rfl⟩ ⟨Nat.le_of_ble_eq_true rfl, Nat.le_of_ble_eq_true rfl⟩ hl.1 rfl (Nat.le_of_ble_eq_true rfl) dL_law_364 (fun H locs hP hPm hS => ?_)
        refine lv_aload_n hx hb dL_law_367 rfl (lv_at hl 2 rfl) ?_
        refine lv_aload_n hx hb dL_law_368 rfl (lv_at hl 0 rfl) ?_
        refine lv_iload_n hx hb dL_law_369 rfl (lv_at hl 3 rfl) ?_
        refine lv_iconst (v := 1) hx hb dL_law_370 (by decide) ?_
        refine lv_iadd hx hb dL_law_371 ?_
        refine va_sld hx hb hX hbl hbA hS hi1 dL_law_372 ?_
        refine lw_call (wf := mw cm am) (A := aM am) (A2 := aG ad) (W2 := gw cy ad σ1) (q0 := 0) (As := [.int (xs ((x3 + 1) : Int32).toNatClampNeg)]) (rest := [.int r]) hF hKm hN (hDG σ1) hAM hdis2 hPm hP hS (c_X4_state l hDM μ (xs ((x3 + 1) : Int32).toNatClampNeg) r μ1 hm) mw_c_X4_state mw_m_L_44 mw_i_X4_state mw_v_X4_state mw_in_X4 ok_X4_state ⟨rfl, rfl⟩ rfl rfl rfl ⟨Nat.le_of_ble_eq_true rfl, Nat.le_of_ble_eq_true rfl⟩ ⟨Nat.le_of_ble_eq_true rfl, Nat.le_of_ble_eq_true rfl⟩ hl.1 rfl (Nat.le_of_ble_eq_true rfl) dL_law_373 (fun H locs hPm hP hS => ?_)
        refine lv_icmp_eq (tgt := 812) hx hb dL_law_376 (by decide) (fun _ => ?_) (fun q => absurd rfl q)
        refine lv_iinc (v := x3 + 4) (lv' := [(3, .int (x3 + 4)), (0, .ref b), (1, .ref (ad 0)), (2, .ref (am 0))]) hx hb dL_law_812 hl (k := 3) rfl rfl (by decide) rfl (fun ls hl => ?_)
        refine lv_goto (tgt := 18) hx hb dL_law_815 (by decide) ?_
        exact ih (i + 4) _ hlt (by omega) (by rw [ex3]; exact nI_add i 4) σ1 μ1 hR H locs hP hPm hS ls (lv_sub hl [1, 2, 3, 0] rfl)
      by_cases c7 : v = 7
      · refine lv_tableIn (tgt := 381) (off := 349) hx hb dL_law_32 (by rw [c7]; decide) (by rw [c7]; decide) (by rw [c7]; rfl) (by decide) ?_
        refine lv_aload_n hx hb dL_law_381 rfl (lv_at hl 1 rfl) ?_
        refine lv_aload_n hx hb dL_law_382 rfl (lv_at hl 0 rfl) ?_
        refine lv_iload_n hx hb dL_law_383 rfl (lv_at hl 3 rfl) ?_
        refine lv_iconst (v := 1) hx hb dL_law_384 (by decide) ?_
        refine lv_iadd hx hb dL_law_385 ?_
        refine va_sld hx hb hX hbl hbA hS hi1 dL_law_386 ?_
        refine lv_aload_n hx hb dL_law_387 rfl (lv_at hl 0 rfl) ?_
        refine lv_iload_n hx hb dL_law_388 rfl (lv_at hl 3 rfl) ?_
        refine lv_iconst (v := 2) hx hb dL_law_389 (by decide) ?_
        refine lv_iadd hx hb dL_law_390 ?_
        refine va_sld hx hb hX hbl hbA hS hi2 dL_law_391 ?_
        obtain ⟨r, hg, hm⟩ := E_wage σ μ hR (xs ((x3 + 1) : Int32).toNatClampNeg) (xs ((x3 + 2) : Int32).toNatClampNeg)
        refine lw_call (wf := gw cy ad) (A := aG ad) (A2 := aM am) (W2 := mw cm am μ) (q0 := 0) (As := [.int (xs ((x3 + 1) : Int32).toNatClampNeg), .int (xs ((x3 + 2) : Int32).toNatClampNeg)]) (rest := []) hF hKg hN (hDM μ) hAG hdis1 hP hPm hS (c_X3_wage l hDG σ (xs ((x3 + 1) : Int32).toNatClampNeg) (xs ((x3 + 2) : Int32).toNatClampNeg) r hg) mw_c_X3_wage mw_m_L_45 mw_i_X3_wage mw_v_X3_wage mw_in_X3 ok_X3_wage ⟨rfl, rfl⟩ rfl rfl rfl ⟨Nat.le_of_ble_eq_true rfl, Nat.le_of_ble_eq_true rfl⟩ ⟨Nat.le_of_ble_eq_true rfl, Nat.le_of_ble_eq_true rfl⟩ hl.1 rfl (Nat.le_of_ble_eq_true rfl) dL_law_392 (fun H locs hP hPm hS => ?_)
        refine lv_aload_n hx hb dL_law_395 rfl (lv_at hl 2 rfl) ?_
        refine lv_aload_n hx hb dL_law_396 rfl (lv_at hl 0 rfl) ?_
        refine lv_iload_n hx hb dL_law_397 rfl (lv_at hl 3 rfl) ?_
        refine lv_iconst (v := 1) hx hb dL_law_398 (by decide) ?_
        refine lv_iadd hx hb dL_law_399 ?_
        refine va_sld hx hb hX hbl hbA hS hi1 dL_law_400 ?_
        refine lv_aload_n hx hb dL_law_401 rfl (lv_at hl 0 rfl) ?_
        refine lv_iload_n hx hb dL_law_402 rfl (lv_at hl 3 rfl) ?_
        refine lv_iconst (v := 2) hx hb dL_law_403 (by decide) ?_
        refine lv_iadd hx hb dL_law_404 ?_
        refine va_sld hx hb hX hbl hbA hS hi2 dL_law_405 ?_
        refine lw_call (wf := mw cm am) (A := aM am) (A2 := aG ad) (W2 := gw cy ad σ) (q0 := 0) (As := [.int (xs ((x3 + 1) : Int32).toNatClampNeg), .int (xs ((x3 + 2) : Int32).toNatClampNeg)]) (rest := [.int r]) hF hKm hN (hDG σ) hAM hdis2 hPm hP hS (c_X4_wage l hDM μ (xs ((x3 + 1) : Int32).toNatClampNeg) (xs ((x3 + 2) : Int32).toNatClampNeg) r hm) mw_c_X4_wage mw_m_L_48 mw_i_X4_wage mw_v_X4_wage mw_in_X4 ok_X4_wage ⟨rfl, rfl⟩ rfl rfl rfl ⟨Nat.le_of_ble_eq_true rfl, Nat.le_of_ble_eq_true rfl⟩ ⟨Nat.le_of_ble_eq_true rfl, Nat.le_of_ble_eq_true rfl⟩ hl.1 rfl (Nat.le_of_ble_eq_true rfl) dL_law_406 (fun H locs hPm hP hS => ?_)
        refine lv_icmp_eq (tgt := 812) hx hb dL_law_409 (by decide) (fun _ => ?_) (fun q => absurd rfl q)
        refine lv_iinc (v := x3 + 4) (lv' := [(3, .int (x3 + 4)), (0, .ref b), (1, .ref (ad 0)), (2, .ref (am 0))]) hx hb dL_law_812 hl (k := 3) rfl rfl (by decide) rfl (fun ls hl => ?_)
        refine lv_goto (tgt := 18) hx hb dL_law_815 (by decide) ?_
        exact ih (i + 4) _ hlt (by omega) (by rw [ex3]; exact nI_add i 4) σ μ hR H locs hP hPm hS ls (lv_sub hl [1, 2, 3, 0] rfl)
      by_cases c8 : v = 8
      · refine lv_tableIn (tgt := 414) (off := 382) hx hb dL_law_32 (by rw [c8]; decide) (by rw [c8]; decide) (by rw [c8]; rfl) (by decide) ?_
        refine lv_aload_n hx hb dL_law_414 rfl (lv_at hl 1 rfl) ?_
        obtain ⟨r, hg, hm⟩ := E_sum σ μ hR
        refine lw_call (wf := gw cy ad) (A := aG ad) (A2 := aM am) (W2 := mw cm am μ) (q0 := 0) (As := []) (rest := []) hF hKg hN (hDM μ) hAG hdis1 hP hPm hS (c_X3_sum l hDG σ r hg) mw_c_X3_sum mw_m_L_49 mw_i_X3_sum mw_v_X3_sum mw_in_X3 ok_X3_sum ⟨rfl, rfl⟩ rfl rfl rfl ⟨Nat.le_of_ble_eq_true rfl, Nat.le_of_ble_eq_true rfl⟩ ⟨Nat.le_of_ble_eq_true rfl, Nat.le_of_ble_eq_true rfl⟩ hl.1 rfl (Nat.le_of_ble_eq_true rfl) dL_law_415 (fun H locs hP hPm hS => ?_)
        refine lv_aload_n hx hb dL_law_418 rfl (lv_at hl 2 rfl) ?_
        refine lw_call (wf := mw cm am) (A := aM am) (A2 := aG ad) (W2 := gw cy ad σ) (q0 := 0) (As := []) (rest := [.int r]) hF hKm hN (hDG σ) hAM hdis2 hPm hP hS (c_X4_sum l hDM μ r hm) mw_c_X4_sum mw_m_L_53 mw_i_X4_sum mw_v_X4_sum mw_in_X4 ok_X4_sum ⟨rfl, rfl⟩ rfl rfl rfl ⟨Nat.le_of_ble_eq_true rfl, Nat.le_of_ble_eq_true rfl⟩ ⟨Nat.le_of_ble_eq_true rfl, Nat.le_of_ble_eq_true rfl⟩ hl.1 rfl (Nat.le_of_ble_eq_true rfl) dL_law_419 (fun H locs hPm hP hS => ?_)
        refine lv_icmp_eq (tgt := 812) hx hb dL_law_422 (by decide) (fun _ => ?_) (fun q => absurd rfl q)
        refine lv_iinc (v := x3 + 4) (lv' := [(3, .int (x3 + 4)), (0, .ref b), (1, .ref (ad 0)), (2, .ref (am 0))]) hx hb dL_law_812 hl (k := 3) rfl rfl (by decide) rfl (fun ls hl => ?_)
        refine lv_goto (tgt := 18) hx hb dL_law_815 (by decide) ?_
        exact ih (i + 4) _ hlt (by omega) (by rw [ex3]; exact nI_add i 4) σ μ hR H locs hP hPm hS ls (lv_sub hl [1, 2, 3, 0] rfl)
      by_cases c9 : v = 9
      · refine lv_tableIn (tgt := 427) (off := 395) hx hb dL_law_32 (by rw [c9]; decide) (by rw [c9]; decide) (by rw [c9]; rfl) (by decide) ?_
        refine lv_aload_n hx hb dL_law_427 rfl (lv_at hl 1 rfl) ?_
        refine lv_aload_n hx hb dL_law_428 rfl (lv_at hl 0 rfl) ?_
        refine lv_iload_n hx hb dL_law_429 rfl (lv_at hl 3 rfl) ?_
        refine lv_iconst (v := 1) hx hb dL_law_430 (by decide) ?_
        refine lv_iadd hx hb dL_law_431 ?_
        refine va_sld hx hb hX hbl hbA hS hi1 dL_law_432 ?_
        refine lv_aload_n hx hb dL_law_433 rfl (lv_at hl 0 rfl) ?_
        refine lv_iload_n hx hb dL_law_434 rfl (lv_at hl 3 rfl) ?_
        refine lv_iconst (v := 2) hx hb dL_law_435 (by decide) ?_
        refine lv_iadd hx hb dL_law_436 ?_
        refine va_sld hx hb hX hbl hbA hS hi2 dL_law_437 ?_
        obtain ⟨r, σ1, μ1, hg, hm, hR⟩ := E_step σ μ hR (xs ((x3 + 1) : Int32).toNatClampNeg) (xs ((x3 + 2) : Int32).toNatClampNeg)
        refine lw_call (wf := gw cy ad) (A := aG ad) (A2 := aM am) (W2 := mw cm am μ) (q0 := 0) (As := [.int (xs ((x3 + 1) : Int32).toNatClampNeg), .int (xs ((x3 + 2) : Int32).toNatClampNeg)]) (rest := []) hF hKg hN (hDM μ) hAG hdis1 hP hPm hS (c_X3_step l hDG σ (xs ((x3 + 1) : Int32).toNatClampNeg) (xs ((x3 + 2) : Int32).toNatClampNeg) r σ1 hg) mw_c_X3_step mw_m_L_54 mw_i_X3_step mw_v_X3_step mw_in_X3 ok_X3_step ⟨rfl, rfl⟩ rfl rfl rfl ⟨Nat.le_of_ble_eq_true rfl, Nat.le_of_ble_eq_true rfl⟩ ⟨Nat.le_of_ble_eq_true rfl, Nat.le_of_ble_eq_true rfl⟩ hl.1 rfl (Nat.le_of_ble_eq_true rfl) dL_law_438 (fun H locs hP hPm hS => ?_)
        refine lv_aload_n hx hb dL_law_441 rfl (lv_at hl 2 rfl) ?_
        refine lv_aload_n hx hb dL_law_442 rfl (lv_at hl 0 rfl) ?_
        refine lv_iload_n hx hb dL_law_443 rfl (lv_at hl 3 rfl) ?_
        refine lv_iconst (v := 1) hx hb dL_law_444 (by decide) ?_
        refine lv_iadd hx hb dL_law_445 ?_
        refine va_sld hx hb hX hbl hbA hS hi1 dL_law_446 ?_
        refine lv_aload_n hx hb dL_law_447 rfl (lv_at hl 0 rfl) ?_
        refine lv_iload_n hx hb dL_law_448 rfl (lv_at hl 3 rfl) ?_
        refine lv_iconst (v := 2) hx hb dL_law_449 (by decide) ?_
        refine lv_iadd hx hb dL_law_450 ?_
        refine va_sld hx hb hX hbl hbA hS hi2 dL_law_451 ?_
        refine lw_call (wf := mw cm am) (A := aM am) (A2 := aG ad) (W2 := gw cy ad σ1) (q0 := 0) (As := [.int (xs ((x3 + 1) : Int32).toNatClampNeg), .int (xs ((x3 + 2) : Int32).toNatClampNeg)]) (rest := [.int r]) hF hKm hN (hDG σ1) hAM hdis2 hPm hP hS (c_X4_step l hDM μ (xs ((x3 + 1) : Int32).toNatClampNeg) (xs ((x3 + 2) : Int32).toNatClampNeg) r μ1 hm) mw_c_X4_step mw_m_L_57 mw_i_X4_step mw_v_X4_step mw_in_X4 ok_X4_step ⟨rfl, rfl⟩ rfl rfl rfl ⟨Nat.le_of_ble_eq_true rfl, Nat.le_of_ble_eq_true rfl⟩ ⟨Nat.le_of_ble_eq_true rfl, Nat.le_of_ble_eq_true rfl⟩ hl.1 rfl (Nat.le_of_ble_eq_true rfl) dL_law_452 (fun H locs hPm hP hS => ?_)
        refine lv_icmp_eq (tgt := 812) hx hb dL_law_455 (by decide) (fun _ => ?_) (fun q => absurd rfl q)
        refine lv_iinc (v := x3 + 4) (lv' := [(3, .int (x3 + 4)), (0, .ref b), (1, .ref (ad 0)), (2, .ref (am 0))]) hx hb dL_law_812 hl (k := 3) rfl rfl (by decide) rfl (fun ls hl => ?_)
        refine lv_goto (tgt := 18) hx hb dL_law_815 (by decide) ?_
        exact ih (i + 4) _ hlt (by omega) (by rw [ex3]; exact nI_add i 4) σ1 μ1 hR H locs hP hPm hS ls (lv_sub hl [1, 2, 3, 0] rfl)
      by_cases c10 : v = 10
      · refine lv_tableIn (tgt := 460) (off := 428) hx hb dL_law_32 (by rw [c10]; decide) (by rw [c10]; decide) (by rw [c10]; rfl) (by decide) ?_
        refine lv_aload_n hx hb dL_law_460 rfl (lv_at hl 1 rfl) ?_
        refine lv_aload_n hx hb dL_law_461 rfl (lv_at hl 0 rfl) ?_
        refine lv_iload_n hx hb dL_law_462 rfl (lv_at hl 3 rfl) ?_
        refine lv_iconst (v := 1) hx hb dL_law_463 (by decide) ?_
        refine lv_iadd hx hb dL_law_464 ?_
        refine va_sld hx hb hX hbl hbA hS hi1 dL_law_465 ?_
        refine lv_aload_n hx hb dL_law_466 rfl (lv_at hl 0 rfl) ?_
        refine lv_iload_n hx hb dL_law_467 rfl (lv_at hl 3 rfl) ?_
        refine lv_iconst (v := 2) hx hb dL_law_468 (by decide) ?_
        refine lv_iadd hx hb dL_law_469 ?_
        refine va_sld hx hb hX hbl hbA hS hi2 dL_law_470 ?_
        obtain ⟨r, σ1, hg, hm, hR⟩ := E_after σ μ hR (xs ((x3 + 1) : Int32).toNatClampNeg) (xs ((x3 + 2) : Int32).toNatClampNeg)
        refine lw_call (wf := gw cy ad) (A := aG ad) (A2 := aM am) (W2 := mw cm am μ) (q0 := 0) (As := [.int (xs ((x3 + 1) : Int32).toNatClampNeg), .int (xs ((x3 + 2) : Int32).toNatClampNeg)]) (rest := []) hF hKg hN (hDM μ) hAG hdis1 hP hPm hS (c_X3_after l hDG σ (xs ((x3 + 1) : Int32).toNatClampNeg) (xs ((x3 + 2) : Int32).toNatClampNeg) r σ1 hg) mw_c_X3_after mw_m_L_58 mw_i_X3_after mw_v_X3_after mw_in_X3 ok_X3_after ⟨rfl, rfl⟩ rfl rfl rfl ⟨Nat.le_of_ble_eq_true rfl, Nat.le_of_ble_eq_true rfl⟩ ⟨Nat.le_of_ble_eq_true rfl, Nat.le_of_ble_eq_true rfl⟩ hl.1 rfl (Nat.le_of_ble_eq_true rfl) dL_law_471 (fun H locs hP hPm hS => ?_)
        refine lv_aload_n hx hb dL_law_474 rfl (lv_at hl 2 rfl) ?_
        refine lv_aload_n hx hb dL_law_475 rfl (lv_at hl 0 rfl) ?_
        refine lv_iload_n hx hb dL_law_476 rfl (lv_at hl 3 rfl) ?_
        refine lv_iconst (v := 1) hx hb dL_law_477 (by decide) ?_
        refine lv_iadd hx hb dL_law_478 ?_
        refine va_sld hx hb hX hbl hbA hS hi1 dL_law_479 ?_
        refine lv_aload_n hx hb dL_law_480 rfl (lv_at hl 0 rfl) ?_
        refine lv_iload_n hx hb dL_law_481 rfl (lv_at hl 3 rfl) ?_
        refine lv_iconst (v := 2) hx hb dL_law_482 (by decide) ?_
        refine lv_iadd hx hb dL_law_483 ?_
        refine va_sld hx hb hX hbl hbA hS hi2 dL_law_484 ?_
        refine lw_call (wf := mw cm am) (A := aM am) (A2 := aG ad) (W2 := gw cy ad σ1) (q0 := 0) (As := [.int (xs ((x3 + 1) : Int32).toNatClampNeg), .int (xs ((x3 + 2) : Int32).toNatClampNeg)]) (rest := [.int r]) hF hKm hN (hDG σ1) hAM hdis2 hPm hP hS (c_X4_after l hDM μ (xs ((x3 + 1) : Int32).toNatClampNeg) (xs ((x3 + 2) : Int32).toNatClampNeg) r hm) mw_c_X4_after mw_m_L_61 mw_i_X4_after mw_v_X4_after mw_in_X4 ok_X4_after ⟨rfl, rfl⟩ rfl rfl rfl ⟨Nat.le_of_ble_eq_true rfl, Nat.le_of_ble_eq_true rfl⟩ ⟨Nat.le_of_ble_eq_true rfl, Nat.le_of_ble_eq_true rfl⟩ hl.1 rfl (Nat.le_of_ble_eq_true rfl) dL_law_485 (fun H locs hPm hP hS => ?_)
        refine lv_icmp_eq (tgt := 812) hx hb dL_law_488 (by decide) (fun _ => ?_) (fun q => absurd rfl q)
        refine lv_iinc (v := x3 + 4) (lv' := [(3, .int (x3 + 4)), (0, .ref b), (1, .ref (ad 0)), (2, .ref (am 0))]) hx hb dL_law_812 hl (k := 3) rfl rfl (by decide) rfl (fun ls hl => ?_)
        refine lv_goto (tgt := 18) hx hb dL_law_815 (by decide) ?_
        exact ih (i + 4) _ hlt (by omega) (by rw [ex3]; exact nI_add i 4) σ1 μ hR H locs hP hPm hS ls (lv_sub hl [1, 2, 3, 0] rfl)
      by_cases c11 : v = 11
      · refine lv_tableIn (tgt := 493) (off := 461) hx hb dL_law_32 (by rw [c11]; decide) (by rw [c11]; decide) (by rw [c11]; rfl) (by decide) ?_
        refine lv_aload_n hx hb dL_law_493 rfl (lv_at hl 1 rfl) ?_
        refine lv_aload_n hx hb dL_law_494 rfl (lv_at hl 0 rfl) ?_
        refine lv_iload_n hx hb dL_law_495 rfl (lv_at hl 3 rfl) ?_
        refine lv_iconst (v := 1) hx hb dL_law_496 (by decide) ?_
        refine lv_iadd hx hb dL_law_497 ?_
        refine va_sld hx hb hX hbl hbA hS hi1 dL_law_498 ?_
        refine lv_aload_n hx hb dL_law_499 rfl (lv_at hl 0 rfl) ?_
        refine lv_iload_n hx hb dL_law_500 rfl (lv_at hl 3 rfl) ?_
        refine lv_iconst (v := 2) hx hb dL_law_501 (by decide) ?_
        refine lv_iadd hx hb dL_law_502 ?_
        refine va_sld hx hb hX hbl hbA hS hi2 dL_law_503 ?_
        obtain ⟨r, σ1, μ1, hg, hm, hR⟩ := E_goes σ μ hR (xs ((x3 + 1) : Int32).toNatClampNeg) (xs ((x3 + 2) : Int32).toNatClampNeg)
        refine lw_call (wf := gw cy ad) (A := aG ad) (A2 := aM am) (W2 := mw cm am μ) (q0 := 0) (As := [.int (xs ((x3 + 1) : Int32).toNatClampNeg), .int (xs ((x3 + 2) : Int32).toNatClampNeg)]) (rest := []) hF hKg hN (hDM μ) hAG hdis1 hP hPm hS (c_X3_goes l hDG σ (xs ((x3 + 1) : Int32).toNatClampNeg) (xs ((x3 + 2) : Int32).toNatClampNeg) r σ1 hg) mw_c_X3_goes mw_m_L_62 mw_i_X3_goes mw_v_X3_goes mw_in_X3 ok_X3_goes ⟨rfl, rfl⟩ rfl rfl rfl ⟨Nat.le_of_ble_eq_true rfl, Nat.le_of_ble_eq_true rfl⟩ ⟨Nat.le_of_ble_eq_true rfl, Nat.le_of_ble_eq_true rfl⟩ hl.1 rfl (Nat.le_of_ble_eq_true rfl) dL_law_504 (fun H locs hP hPm hS => ?_)
        refine lv_aload_n hx hb dL_law_507 rfl (lv_at hl 2 rfl) ?_
        refine lv_aload_n hx hb dL_law_508 rfl (lv_at hl 0 rfl) ?_
        refine lv_iload_n hx hb dL_law_509 rfl (lv_at hl 3 rfl) ?_
        refine lv_iconst (v := 1) hx hb dL_law_510 (by decide) ?_
        refine lv_iadd hx hb dL_law_511 ?_
        refine va_sld hx hb hX hbl hbA hS hi1 dL_law_512 ?_
        refine lv_aload_n hx hb dL_law_513 rfl (lv_at hl 0 rfl) ?_
        refine lv_iload_n hx hb dL_law_514 rfl (lv_at hl 3 rfl) ?_
        refine lv_iconst (v := 2) hx hb dL_law_515 (by decide) ?_
        refine lv_iadd hx hb dL_law_516 ?_
        refine va_sld hx hb hX hbl hbA hS hi2 dL_law_517 ?_
        refine lw_call (wf := mw cm am) (A := aM am) (A2 := aG ad) (W2 := gw cy ad σ1) (q0 := 0) (As := [.int (xs ((x3 + 1) : Int32).toNatClampNeg), .int (xs ((x3 + 2) : Int32).toNatClampNeg)]) (rest := [.int r]) hF hKm hN (hDG σ1) hAM hdis2 hPm hP hS (c_X4_goes l hDM μ (xs ((x3 + 1) : Int32).toNatClampNeg) (xs ((x3 + 2) : Int32).toNatClampNeg) r μ1 hm) mw_c_X4_goes mw_m_L_65 mw_i_X4_goes mw_v_X4_goes mw_in_X4 ok_X4_goes ⟨rfl, rfl⟩ rfl rfl rfl ⟨Nat.le_of_ble_eq_true rfl, Nat.le_of_ble_eq_true rfl⟩ ⟨Nat.le_of_ble_eq_true rfl, Nat.le_of_ble_eq_true rfl⟩ hl.1 rfl (Nat.le_of_ble_eq_true rfl) dL_law_518 (fun H locs hPm hP hS => ?_)
        refine lv_icmp_eq (tgt := 812) hx hb dL_law_521 (by decide) (fun _ => ?_) (fun q => absurd rfl q)
        refine lv_iinc (v := x3 + 4) (lv' := [(3, .int (x3 + 4)), (0, .ref b), (1, .ref (ad 0)), (2, .ref (am 0))]) hx hb dL_law_812 hl (k := 3) rfl rfl (by decide) rfl (fun ls hl => ?_)
        refine lv_goto (tgt := 18) hx hb dL_law_815 (by decide) ?_
        exact ih (i + 4) _ hlt (by omega) (by rw [ex3]; exact nI_add i 4) σ1 μ1 hR H locs hP hPm hS ls (lv_sub hl [1, 2, 3, 0] rfl)
      by_cases c12 : v = 12
      · refine lv_tableIn (tgt := 526) (off := 494) hx hb dL_law_32 (by rw [c12]; decide) (by rw [c12]; decide) (by rw [c12]; rfl) (by decide) ?_
        refine lv_aload_n hx hb dL_law_526 rfl (lv_at hl 1 rfl) ?_
        refine lv_aload_n hx hb dL_law_527 rfl (lv_at hl 0 rfl) ?_
        refine lv_iload_n hx hb dL_law_528 rfl (lv_at hl 3 rfl) ?_
        refine lv_iconst (v := 1) hx hb dL_law_529 (by decide) ?_
        refine lv_iadd hx hb dL_law_530 ?_
        refine va_sld hx hb hX hbl hbA hS hi1 dL_law_531 ?_
        refine lv_aload_n hx hb dL_law_532 rfl (lv_at hl 0 rfl) ?_
        refine lv_iload_n hx hb dL_law_533 rfl (lv_at hl 3 rfl) ?_
        refine lv_iconst (v := 2) hx hb dL_law_534 (by decide) ?_
        refine lv_iadd hx hb dL_law_535 ?_
        refine va_sld hx hb hX hbl hbA hS hi2 dL_law_536 ?_
        obtain ⟨r, σ1, μ1, hg, hm, hR⟩ := E_end σ μ hR (xs ((x3 + 1) : Int32).toNatClampNeg) (xs ((x3 + 2) : Int32).toNatClampNeg)
        refine lw_call (wf := gw cy ad) (A := aG ad) (A2 := aM am) (W2 := mw cm am μ) (q0 := 0) (As := [.int (xs ((x3 + 1) : Int32).toNatClampNeg), .int (xs ((x3 + 2) : Int32).toNatClampNeg)]) (rest := []) hF hKg hN (hDM μ) hAG hdis1 hP hPm hS (c_X3_end l hDG σ (xs ((x3 + 1) : Int32).toNatClampNeg) (xs ((x3 + 2) : Int32).toNatClampNeg) r σ1 hg) mw_c_X3_end mw_m_L_66 mw_i_X3_end mw_v_X3_end mw_in_X3 ok_X3_end ⟨rfl, rfl⟩ rfl rfl rfl ⟨Nat.le_of_ble_eq_true rfl, Nat.le_of_ble_eq_true rfl⟩ ⟨Nat.le_of_ble_eq_true rfl, Nat.le_of_ble_eq_true rfl⟩ hl.1 rfl (Nat.le_of_ble_eq_true rfl) dL_law_537 (fun H locs hP hPm hS => ?_)
        refine lv_aload_n hx hb dL_law_540 rfl (lv_at hl 2 rfl) ?_
        refine lv_aload_n hx hb dL_law_541 rfl (lv_at hl 0 rfl) ?_
        refine lv_iload_n hx hb dL_law_542 rfl (lv_at hl 3 rfl) ?_
        refine lv_iconst (v := 1) hx hb dL_law_543 (by decide) ?_
        refine lv_iadd hx hb dL_law_544 ?_
        refine va_sld hx hb hX hbl hbA hS hi1 dL_law_545 ?_
        refine lv_aload_n hx hb dL_law_546 rfl (lv_at hl 0 rfl) ?_
        refine lv_iload_n hx hb dL_law_547 rfl (lv_at hl 3 rfl) ?_
        refine lv_iconst (v := 2) hx hb dL_law_548 (by decide) ?_
        refine lv_iadd hx hb dL_law_549 ?_
        refine va_sld hx hb hX hbl hbA hS hi2 dL_law_550 ?_
        refine lw_call (wf := mw cm am) (A := aM am) (A2 := aG ad) (W2 := gw cy ad σ1) (q0 := 0) (As := [.int (xs ((x3 + 1) : Int32).toNatClampNeg), .int (xs ((x3 + 2) : Int32).toNatClampNeg)]) (rest := [.int r]) hF hKm hN (hDG σ1) hAM hdis2 hPm hP hS (c_X4_end l hDM μ (xs ((x3 + 1) : Int32).toNatClampNeg) (xs ((x3 + 2) : Int32).toNatClampNeg) r μ1 hm) mw_c_X4_end mw_m_L_69 mw_i_X4_end mw_v_X4_end mw_in_X4 ok_X4_end ⟨rfl, rfl⟩ rfl rfl rfl ⟨Nat.le_of_ble_eq_true rfl, Nat.le_of_ble_eq_true rfl⟩ ⟨Nat.le_of_ble_eq_true rfl, Nat.le_of_ble_eq_true rfl⟩ hl.1 rfl (Nat.le_of_ble_eq_true rfl) dL_law_551 (fun H locs hPm hP hS => ?_)
        refine lv_icmp_eq (tgt := 812) hx hb dL_law_554 (by decide) (fun _ => ?_) (fun q => absurd rfl q)
        refine lv_iinc (v := x3 + 4) (lv' := [(3, .int (x3 + 4)), (0, .ref b), (1, .ref (ad 0)), (2, .ref (am 0))]) hx hb dL_law_812 hl (k := 3) rfl rfl (by decide) rfl (fun ls hl => ?_)
        refine lv_goto (tgt := 18) hx hb dL_law_815 (by decide) ?_
        exact ih (i + 4) _ hlt (by omega) (by rw [ex3]; exact nI_add i 4) σ1 μ1 hR H locs hP hPm hS ls (lv_sub hl [1, 2, 3, 0] rfl)
      by_cases c13 : v = 13
      · refine lv_tableIn (tgt := 559) (off := 527) hx hb dL_law_32 (by rw [c13]; decide) (by rw [c13]; decide) (by rw [c13]; rfl) (by decide) ?_
        refine lv_aload_n hx hb dL_law_559 rfl (lv_at hl 1 rfl) ?_
        refine lv_aload_n hx hb dL_law_560 rfl (lv_at hl 0 rfl) ?_
        refine lv_iload_n hx hb dL_law_561 rfl (lv_at hl 3 rfl) ?_
        refine lv_iconst (v := 1) hx hb dL_law_562 (by decide) ?_
        refine lv_iadd hx hb dL_law_563 ?_
        refine va_sld hx hb hX hbl hbA hS hi1 dL_law_564 ?_
        refine lv_aload_n hx hb dL_law_565 rfl (lv_at hl 0 rfl) ?_
        refine lv_iload_n hx hb dL_law_566 rfl (lv_at hl 3 rfl) ?_
        refine lv_iconst (v := 2) hx hb dL_law_567 (by decide) ?_
        refine lv_iadd hx hb dL_law_568 ?_
        refine va_sld hx hb hX hbl hbA hS hi2 dL_law_569 ?_
        refine lv_aload_n hx hb dL_law_570 rfl (lv_at hl 0 rfl) ?_
        refine lv_iload_n hx hb dL_law_571 rfl (lv_at hl 3 rfl) ?_
        refine lv_iconst (v := 3) hx hb dL_law_572 (by decide) ?_
        refine lv_iadd hx hb dL_law_573 ?_
        refine va_sld hx hb hX hbl hbA hS hi3 dL_law_574 ?_
        obtain ⟨r, σ1, μ1, hg, hm, hR⟩ := E_basin σ μ hR (xs ((x3 + 1) : Int32).toNatClampNeg) (xs ((x3 + 2) : Int32).toNatClampNeg) (xs ((x3 + 3) : Int32).toNatClampNeg)
        refine lw_call (wf := gw cy ad) (A := aG ad) (A2 := aM am) (W2 := mw cm am μ) (q0 := 0) (As := [.int (xs ((x3 + 1) : Int32).toNatClampNeg), .int (xs ((x3 + 2) : Int32).toNatClampNeg), .int (xs ((x3 + 3) : Int32).toNatClampNeg)]) (rest := []) hF hKg hN (hDM μ) hAG hdis1 hP hPm hS (c_X3_basin l hDG σ (xs ((x3 + 1) : Int32).toNatClampNeg) (xs ((x3 + 2) : Int32).toNatClampNeg) (xs ((x3 + 3) : Int32).toNatClampNeg) r σ1 hg) mw_c_X3_basin mw_m_L_70 mw_i_X3_basin mw_v_X3_basin mw_in_X3 ok_X3_basin ⟨rfl, rfl⟩ rfl rfl rfl ⟨Nat.le_of_ble_eq_true rfl, Nat.le_of_ble_eq_true rfl⟩ ⟨Nat.le_of_ble_eq_true rfl, Nat.le_of_ble_eq_true rfl⟩ hl.1 rfl (Nat.le_of_ble_eq_true rfl) dL_law_575 (fun H locs hP hPm hS => ?_)
        refine lv_aload_n hx hb dL_law_578 rfl (lv_at hl 2 rfl) ?_
        refine lv_aload_n hx hb dL_law_579 rfl (lv_at hl 0 rfl) ?_
        refine lv_iload_n hx hb dL_law_580 rfl (lv_at hl 3 rfl) ?_
        refine lv_iconst (v := 1) hx hb dL_law_581 (by decide) ?_
        refine lv_iadd hx hb dL_law_582 ?_
        refine va_sld hx hb hX hbl hbA hS hi1 dL_law_583 ?_
        refine lv_aload_n hx hb dL_law_584 rfl (lv_at hl 0 rfl) ?_
        refine lv_iload_n hx hb dL_law_585 rfl (lv_at hl 3 rfl) ?_
        refine lv_iconst (v := 2) hx hb dL_law_586 (by decide) ?_
        refine lv_iadd hx hb dL_law_587 ?_
        refine va_sld hx hb hX hbl hbA hS hi2 dL_law_588 ?_
        refine lv_aload_n hx hb dL_law_589 rfl (lv_at hl 0 rfl) ?_
        refine lv_iload_n hx hb dL_law_590 rfl (lv_at hl 3 rfl) ?_
        refine lv_iconst (v := 3) hx hb dL_law_591 (by decide) ?_
        refine lv_iadd hx hb dL_law_592 ?_
        refine va_sld hx hb hX hbl hbA hS hi3 dL_law_593 ?_
        refine lw_call (wf := mw cm am) (A := aM am) (A2 := aG ad) (W2 := gw cy ad σ1) (q0 := 0) (As := [.int (xs ((x3 + 1) : Int32).toNatClampNeg), .int (xs ((x3 + 2) : Int32).toNatClampNeg), .int (xs ((x3 + 3) : Int32).toNatClampNeg)]) (rest := [.int r]) hF hKm hN (hDG σ1) hAM hdis2 hPm hP hS (c_X4_basin l hDM μ (xs ((x3 + 1) : Int32).toNatClampNeg) (xs ((x3 + 2) : Int32).toNatClampNeg) (xs ((x3 + 3) : Int32).toNatClampNeg) r μ1 hm) mw_c_X4_basin mw_m_L_73 mw_i_X4_basin mw_v_X4_basin mw_in_X4 ok_X4_basin ⟨rfl, rfl⟩ rfl rfl rfl ⟨Nat.le_of_ble_eq_true rfl, Nat.le_of_ble_eq_true rfl⟩ ⟨Nat.le_of_ble_eq_true rfl, Nat.le_of_ble_eq_true rfl⟩ hl.1 rfl (Nat.le_of_ble_eq_true rfl) dL_law_594 (fun H locs hPm hP hS => ?_)
        refine lv_icmp_eq (tgt := 812) hx hb dL_law_597 (by decide) (fun _ => ?_) (fun q => absurd rfl q)
        refine lv_iinc (v := x3 + 4) (lv' := [(3, .int (x3 + 4)), (0, .ref b), (1, .ref (ad 0)), (2, .ref (am 0))]) hx hb dL_law_812 hl (k := 3) rfl rfl (by decide) rfl (fun ls hl => ?_)
        refine lv_goto (tgt := 18) hx hb dL_law_815 (by decide) ?_
        exact ih (i + 4) _ hlt (by omega) (by rw [ex3]; exact nI_add i 4) σ1 μ1 hR H locs hP hPm hS ls (lv_sub hl [1, 2, 3, 0] rfl)
      by_cases c14 : v = 14
      · refine lv_tableIn (tgt := 602) (off := 570) hx hb dL_law_32 (by rw [c14]; decide) (by rw [c14]; decide) (by rw [c14]; rfl) (by decide) ?_
        refine lv_aload_n hx hb dL_law_602 rfl (lv_at hl 1 rfl) ?_
        refine lv_aload_n hx hb dL_law_603 rfl (lv_at hl 0 rfl) ?_
        refine lv_iload_n hx hb dL_law_604 rfl (lv_at hl 3 rfl) ?_
        refine lv_iconst (v := 1) hx hb dL_law_605 (by decide) ?_
        refine lv_iadd hx hb dL_law_606 ?_
        refine va_sld hx hb hX hbl hbA hS hi1 dL_law_607 ?_
        obtain ⟨r, σ1, μ1, hg, hm, hR⟩ := E_lone σ μ hR (xs ((x3 + 1) : Int32).toNatClampNeg)
        refine lw_call (wf := gw cy ad) (A := aG ad) (A2 := aM am) (W2 := mw cm am μ) (q0 := 0) (As := [.int (xs ((x3 + 1) : Int32).toNatClampNeg)]) (rest := []) hF hKg hN (hDM μ) hAG hdis1 hP hPm hS (c_X3_lone l hDG σ (xs ((x3 + 1) : Int32).toNatClampNeg) r σ1 hg) mw_c_X3_lone mw_m_L_74 mw_i_X3_lone mw_v_X3_lone mw_in_X3 ok_X3_lone ⟨rfl, rfl⟩ rfl rfl rfl ⟨Nat.le_of_ble_eq_true rfl, Nat.le_of_ble_eq_true rfl⟩ ⟨Nat.le_of_ble_eq_true rfl, Nat.le_of_ble_eq_true rfl⟩ hl.1 rfl (Nat.le_of_ble_eq_true rfl) dL_law_608 (fun H locs hP hPm hS => ?_)
        refine lv_aload_n hx hb dL_law_611 rfl (lv_at hl 2 rfl) ?_
        refine lv_aload_n hx hb dL_law_612 rfl (lv_at hl 0 rfl) ?_
        refine lv_iload_n hx hb dL_law_613 rfl (lv_at hl 3 rfl) ?_
        refine lv_iconst (v := 1) hx hb dL_law_614 (by decide) ?_
        refine lv_iadd hx hb dL_law_615 ?_
        refine va_sld hx hb hX hbl hbA hS hi1 dL_law_616 ?_
        refine lw_call (wf := mw cm am) (A := aM am) (A2 := aG ad) (W2 := gw cy ad σ1) (q0 := 0) (As := [.int (xs ((x3 + 1) : Int32).toNatClampNeg)]) (rest := [.int r]) hF hKm hN (hDG σ1) hAM hdis2 hPm hP hS (c_X4_lone l hDM μ (xs ((x3 + 1) : Int32).toNatClampNeg) r μ1 hm) mw_c_X4_lone mw_m_L_77 mw_i_X4_lone mw_v_X4_lone mw_in_X4 ok_X4_lone ⟨rfl, rfl⟩ rfl rfl rfl ⟨Nat.le_of_ble_eq_true rfl, Nat.le_of_ble_eq_true rfl⟩ ⟨Nat.le_of_ble_eq_true rfl, Nat.le_of_ble_eq_true rfl⟩ hl.1 rfl (Nat.le_of_ble_eq_true rfl) dL_law_617 (fun H locs hPm hP hS => ?_)
        refine lv_icmp_eq (tgt := 812) hx hb dL_law_620 (by decide) (fun _ => ?_) (fun q => absurd rfl q)
        refine lv_iinc (v := x3 + 4) (lv' := [(3, .int (x3 + 4)), (0, .ref b), (1, .ref (ad 0)), (2, .ref (am 0))]) hx hb dL_law_812 hl (k := 3) rfl rfl (by decide) rfl (fun ls hl => ?_)
        refine lv_goto (tgt := 18) hx hb dL_law_815 (by decide) ?_
        exact ih (i + 4) _ hlt (by omega) (by rw [ex3]; exact nI_add i 4) σ1 μ1 hR H locs hP hPm hS ls (lv_sub hl [1, 2, 3, 0] rfl)
      by_cases c15 : v = 15
      · refine lv_tableIn (tgt := 625) (off := 593) hx hb dL_law_32 (by rw [c15]; decide) (by rw [c15]; decide) (by rw [c15]; rfl) (by decide) ?_
        refine lv_aload_n hx hb dL_law_625 rfl (lv_at hl 1 rfl) ?_
        refine lv_aload_n hx hb dL_law_626 rfl (lv_at hl 0 rfl) ?_
        refine lv_iload_n hx hb dL_law_627 rfl (lv_at hl 3 rfl) ?_
        refine lv_iconst (v := 1) hx hb dL_law_628 (by decide) ?_
        refine lv_iadd hx hb dL_law_629 ?_
        refine va_sld hx hb hX hbl hbA hS hi1 dL_law_630 ?_
        refine lv_aload_n hx hb dL_law_631 rfl (lv_at hl 0 rfl) ?_
        refine lv_iload_n hx hb dL_law_632 rfl (lv_at hl 3 rfl) ?_
        refine lv_iconst (v := 2) hx hb dL_law_633 (by decide) ?_
        refine lv_iadd hx hb dL_law_634 ?_
        refine va_sld hx hb hX hbl hbA hS hi2 dL_law_635 ?_
        obtain ⟨r, σ1, hg, hm, hR⟩ := E_before σ μ hR (xs ((x3 + 1) : Int32).toNatClampNeg) (xs ((x3 + 2) : Int32).toNatClampNeg)
        refine lw_call (wf := gw cy ad) (A := aG ad) (A2 := aM am) (W2 := mw cm am μ) (q0 := 0) (As := [.int (xs ((x3 + 1) : Int32).toNatClampNeg), .int (xs ((x3 + 2) : Int32).toNatClampNeg)]) (rest := []) hF hKg hN (hDM μ) hAG hdis1 hP hPm hS (c_X3_before l hDG σ (xs ((x3 + 1) : Int32).toNatClampNeg) (xs ((x3 + 2) : Int32).toNatClampNeg) r σ1 hg) mw_c_X3_before mw_m_L_78 mw_i_X3_before mw_v_X3_before mw_in_X3 ok_X3_before ⟨rfl, rfl⟩ rfl rfl rfl ⟨Nat.le_of_ble_eq_true rfl, Nat.le_of_ble_eq_true rfl⟩ ⟨Nat.le_of_ble_eq_true rfl, Nat.le_of_ble_eq_true rfl⟩ hl.1 rfl (Nat.le_of_ble_eq_true rfl) dL_law_636 (fun H locs hP hPm hS => ?_)
        refine lv_aload_n hx hb dL_law_639 rfl (lv_at hl 2 rfl) ?_
        refine lv_aload_n hx hb dL_law_640 rfl (lv_at hl 0 rfl) ?_
        refine lv_iload_n hx hb dL_law_641 rfl (lv_at hl 3 rfl) ?_
        refine lv_iconst (v := 1) hx hb dL_law_642 (by decide) ?_
        refine lv_iadd hx hb dL_law_643 ?_
        refine va_sld hx hb hX hbl hbA hS hi1 dL_law_644 ?_
        refine lv_aload_n hx hb dL_law_645 rfl (lv_at hl 0 rfl) ?_
        refine lv_iload_n hx hb dL_law_646 rfl (lv_at hl 3 rfl) ?_
        refine lv_iconst (v := 2) hx hb dL_law_647 (by decide) ?_
        refine lv_iadd hx hb dL_law_648 ?_
        refine va_sld hx hb hX hbl hbA hS hi2 dL_law_649 ?_
        refine lw_call (wf := mw cm am) (A := aM am) (A2 := aG ad) (W2 := gw cy ad σ1) (q0 := 0) (As := [.int (xs ((x3 + 1) : Int32).toNatClampNeg), .int (xs ((x3 + 2) : Int32).toNatClampNeg)]) (rest := [.int r]) hF hKm hN (hDG σ1) hAM hdis2 hPm hP hS (c_X4_before l hDM μ (xs ((x3 + 1) : Int32).toNatClampNeg) (xs ((x3 + 2) : Int32).toNatClampNeg) r hm) mw_c_X4_before mw_m_L_81 mw_i_X4_before mw_v_X4_before mw_in_X4 ok_X4_before ⟨rfl, rfl⟩ rfl rfl rfl ⟨Nat.le_of_ble_eq_true rfl, Nat.le_of_ble_eq_true rfl⟩ ⟨Nat.le_of_ble_eq_true rfl, Nat.le_of_ble_eq_true rfl⟩ hl.1 rfl (Nat.le_of_ble_eq_true rfl) dL_law_650 (fun H locs hPm hP hS => ?_)
        refine lv_icmp_eq (tgt := 812) hx hb dL_law_653 (by decide) (fun _ => ?_) (fun q => absurd rfl q)
        refine lv_iinc (v := x3 + 4) (lv' := [(3, .int (x3 + 4)), (0, .ref b), (1, .ref (ad 0)), (2, .ref (am 0))]) hx hb dL_law_812 hl (k := 3) rfl rfl (by decide) rfl (fun ls hl => ?_)
        refine lv_goto (tgt := 18) hx hb dL_law_815 (by decide) ?_
        exact ih (i + 4) _ hlt (by omega) (by rw [ex3]; exact nI_add i 4) σ1 μ hR H locs hP hPm hS ls (lv_sub hl [1, 2, 3, 0] rfl)
      by_cases c16 : v = 16
      · refine lv_tableIn (tgt := 658) (off := 626) hx hb dL_law_32 (by rw [c16]; decide) (by rw [c16]; decide) (by rw [c16]; rfl) (by decide) ?_
        refine lv_aload_n hx hb dL_law_658 rfl (lv_at hl 1 rfl) ?_
        obtain ⟨r, hg, hm⟩ := E_rise σ μ hR
        refine lw_call (wf := gw cy ad) (A := aG ad) (A2 := aM am) (W2 := mw cm am μ) (q0 := 0) (As := []) (rest := []) hF hKg hN (hDM μ) hAG hdis1 hP hPm hS (c_X3_rise l hDG σ r hg) mw_c_X3_rise mw_m_L_82 mw_i_X3_rise mw_v_X3_rise mw_in_X3 ok_X3_rise ⟨rfl, rfl⟩ rfl rfl rfl ⟨Nat.le_of_ble_eq_true rfl, Nat.le_of_ble_eq_true rfl⟩ ⟨Nat.le_of_ble_eq_true rfl, Nat.le_of_ble_eq_true rfl⟩ hl.1 rfl (Nat.le_of_ble_eq_true rfl) dL_law_659 (fun H locs hP hPm hS => ?_)
        refine lv_aload_n hx hb dL_law_662 rfl (lv_at hl 2 rfl) ?_
        refine lw_call (wf := mw cm am) (A := aM am) (A2 := aG ad) (W2 := gw cy ad σ) (q0 := 0) (As := []) (rest := [.int r]) hF hKm hN (hDG σ) hAM hdis2 hPm hP hS (c_X4_rise l hDM μ r hm) mw_c_X4_rise mw_m_L_85 mw_i_X4_rise mw_v_X4_rise mw_in_X4 ok_X4_rise ⟨rfl, rfl⟩ rfl rfl rfl ⟨Nat.le_of_ble_eq_true rfl, Nat.le_of_ble_eq_true rfl⟩ ⟨Nat.le_of_ble_eq_true rfl, Nat.le_of_ble_eq_true rfl⟩ hl.1 rfl (Nat.le_of_ble_eq_true rfl) dL_law_663 (fun H locs hPm hP hS => ?_)
        refine lv_icmp_eq (tgt := 812) hx hb dL_law_666 (by decide) (fun _ => ?_) (fun q => absurd rfl q)
        refine lv_iinc (v := x3 + 4) (lv' := [(3, .int (x3 + 4)), (0, .ref b), (1, .ref (ad 0)), (2, .ref (am 0))]) hx hb dL_law_812 hl (k := 3) rfl rfl (by decide) rfl (fun ls hl => ?_)
        refine lv_goto (tgt := 18) hx hb dL_law_815 (by decide) ?_
        exact ih (i + 4) _ hlt (by omega) (by rw [ex3]; exact nI_add i 4) σ μ hR H locs hP hPm hS ls (lv_sub hl [1, 2, 3, 0] rfl)
      by_cases c17 : v = 17
      · refine lv_tableIn (tgt := 671) (off := 639) hx hb dL_law_32 (by rw [c17]; decide) (by rw [c17]; decide) (by rw [c17]; rfl) (by decide) ?_
        refine lv_aload_n hx hb dL_law_671 rfl (lv_at hl 1 rfl) ?_
        obtain ⟨r, hg, hm⟩ := E_highest σ μ hR
        refine lw_call (wf := gw cy ad) (A := aG ad) (A2 := aM am) (W2 := mw cm am μ) (q0 := 0) (As := []) (rest := []) hF hKg hN (hDM μ) hAG hdis1 hP hPm hS (c_X3_highest l hDG σ r hg) mw_c_X3_highest mw_m_L_86 mw_i_X3_highest mw_v_X3_highest mw_in_X3 ok_X3_highest ⟨rfl, rfl⟩ rfl rfl rfl ⟨Nat.le_of_ble_eq_true rfl, Nat.le_of_ble_eq_true rfl⟩ ⟨Nat.le_of_ble_eq_true rfl, Nat.le_of_ble_eq_true rfl⟩ hl.1 rfl (Nat.le_of_ble_eq_true rfl) dL_law_672 (fun H locs hP hPm hS => ?_)
        refine lv_aload_n hx hb dL_law_675 rfl (lv_at hl 2 rfl) ?_
        refine lw_call (wf := mw cm am) (A := aM am) (A2 := aG ad) (W2 := gw cy ad σ) (q0 := 0) (As := []) (rest := [.int r]) hF hKm hN (hDG σ) hAM hdis2 hPm hP hS (c_X4_highest l hDM μ r hm) mw_c_X4_highest mw_m_L_89 mw_i_X4_highest mw_v_X4_highest mw_in_X4 ok_X4_highest ⟨rfl, rfl⟩ rfl rfl rfl ⟨Nat.le_of_ble_eq_true rfl, Nat.le_of_ble_eq_true rfl⟩ ⟨Nat.le_of_ble_eq_true rfl, Nat.le_of_ble_eq_true rfl⟩ hl.1 rfl (Nat.le_of_ble_eq_true rfl) dL_law_676 (fun H locs hPm hP hS => ?_)
        refine lv_icmp_eq (tgt := 812) hx hb dL_law_679 (by decide) (fun _ => ?_) (fun q => absurd rfl q)
        refine lv_iinc (v := x3 + 4) (lv' := [(3, .int (x3 + 4)), (0, .ref b), (1, .ref (ad 0)), (2, .ref (am 0))]) hx hb dL_law_812 hl (k := 3) rfl rfl (by decide) rfl (fun ls hl => ?_)
        refine lv_goto (tgt := 18) hx hb dL_law_815 (by decide) ?_
        exact ih (i + 4) _ hlt (by omega) (by rw [ex3]; exact nI_add i 4) σ μ hR H locs hP hPm hS ls (lv_sub hl [1, 2, 3, 0] rfl)
      by_cases c18 : v = 18
      · refine lv_tableIn (tgt := 684) (off := 652) hx hb dL_law_32 (by rw [c18]; decide) (by rw [c18]; decide) (by rw [c18]; rfl) (by decide) ?_
        refine lv_aload_n hx hb dL_law_684 rfl (lv_at hl 1 rfl) ?_
        obtain ⟨r, σ1, hg, hm, hR⟩ := E_rests σ μ hR
        refine lw_call (wf := gw cy ad) (A := aG ad) (A2 := aM am) (W2 := mw cm am μ) (q0 := 0) (As := []) (rest := []) hF hKg hN (hDM μ) hAG hdis1 hP hPm hS (c_X3_rests l hDG σ r σ1 hg) mw_c_X3_rests mw_m_L_90 mw_i_X3_rests mw_v_X3_rests mw_in_X3 ok_X3_rests ⟨rfl, rfl⟩ rfl rfl rfl ⟨Nat.le_of_ble_eq_true rfl, Nat.le_of_ble_eq_true rfl⟩ ⟨Nat.le_of_ble_eq_true rfl, Nat.le_of_ble_eq_true rfl⟩ hl.1 rfl (Nat.le_of_ble_eq_true rfl) dL_law_685 (fun H locs hP hPm hS => ?_)
        refine lv_aload_n hx hb dL_law_688 rfl (lv_at hl 2 rfl) ?_
        refine lw_call (wf := mw cm am) (A := aM am) (A2 := aG ad) (W2 := gw cy ad σ1) (q0 := 0) (As := []) (rest := [.int r]) hF hKm hN (hDG σ1) hAM hdis2 hPm hP hS (c_X4_rests l hDM μ r hm) mw_c_X4_rests mw_m_L_93 mw_i_X4_rests mw_v_X4_rests mw_in_X4 ok_X4_rests ⟨rfl, rfl⟩ rfl rfl rfl ⟨Nat.le_of_ble_eq_true rfl, Nat.le_of_ble_eq_true rfl⟩ ⟨Nat.le_of_ble_eq_true rfl, Nat.le_of_ble_eq_true rfl⟩ hl.1 rfl (Nat.le_of_ble_eq_true rfl) dL_law_689 (fun H locs hPm hP hS => ?_)
        refine lv_icmp_eq (tgt := 812) hx hb dL_law_692 (by decide) (fun _ => ?_) (fun q => absurd rfl q)
        refine lv_iinc (v := x3 + 4) (lv' := [(3, .int (x3 + 4)), (0, .ref b), (1, .ref (ad 0)), (2, .ref (am 0))]) hx hb dL_law_812 hl (k := 3) rfl rfl (by decide) rfl (fun ls hl => ?_)
        refine lv_goto (tgt := 18) hx hb dL_law_815 (by decide) ?_
        exact ih (i + 4) _ hlt (by omega) (by rw [ex3]; exact nI_add i 4) σ1 μ hR H locs hP hPm hS ls (lv_sub hl [1, 2, 3, 0] rfl)
      by_cases c19 : v = 19
      · refine lv_tableIn (tgt := 697) (off := 665) hx hb dL_law_32 (by rw [c19]; decide) (by rw [c19]; decide) (by rw [c19]; rfl) (by decide) ?_
        refine lv_aload_n hx hb dL_law_697 rfl (lv_at hl 1 rfl) ?_
        obtain ⟨r, σ1, hg, hm, hR⟩ := E_restMany σ μ hR
        refine lw_call (wf := gw cy ad) (A := aG ad) (A2 := aM am) (W2 := mw cm am μ) (q0 := 0) (As := []) (rest := []) hF hKg hN (hDM μ) hAG hdis1 hP hPm hS (c_X3_restMany l hDG σ r σ1 hg) mw_c_X3_restMany mw_m_L_94 mw_i_X3_restMany mw_v_X3_restMany mw_in_X3 ok_X3_restMany ⟨rfl, rfl⟩ rfl rfl rfl ⟨Nat.le_of_ble_eq_true rfl, Nat.le_of_ble_eq_true rfl⟩ ⟨Nat.le_of_ble_eq_true rfl, Nat.le_of_ble_eq_true rfl⟩ hl.1 rfl (Nat.le_of_ble_eq_true rfl) dL_law_698 (fun H locs hP hPm hS => ?_)
        refine lv_aload_n hx hb dL_law_701 rfl (lv_at hl 2 rfl) ?_
        refine lw_call (wf := mw cm am) (A := aM am) (A2 := aG ad) (W2 := gw cy ad σ1) (q0 := 0) (As := []) (rest := [.int r]) hF hKm hN (hDG σ1) hAM hdis2 hPm hP hS (c_X4_restMany l hDM μ r hm) mw_c_X4_restMany mw_m_L_97 mw_i_X4_restMany mw_v_X4_restMany mw_in_X4 ok_X4_restMany ⟨rfl, rfl⟩ rfl rfl rfl ⟨Nat.le_of_ble_eq_true rfl, Nat.le_of_ble_eq_true rfl⟩ ⟨Nat.le_of_ble_eq_true rfl, Nat.le_of_ble_eq_true rfl⟩ hl.1 rfl (Nat.le_of_ble_eq_true rfl) dL_law_702 (fun H locs hPm hP hS => ?_)
        refine lv_icmp_eq (tgt := 812) hx hb dL_law_705 (by decide) (fun _ => ?_) (fun q => absurd rfl q)
        refine lv_iinc (v := x3 + 4) (lv' := [(3, .int (x3 + 4)), (0, .ref b), (1, .ref (ad 0)), (2, .ref (am 0))]) hx hb dL_law_812 hl (k := 3) rfl rfl (by decide) rfl (fun ls hl => ?_)
        refine lv_goto (tgt := 18) hx hb dL_law_815 (by decide) ?_
        exact ih (i + 4) _ hlt (by omega) (by rw [ex3]; exact nI_add i 4) σ1 μ hR H locs hP hPm hS ls (lv_sub hl [1, 2, 3, 0] rfl)
      by_cases c20 : v = 20
      · refine lv_tableIn (tgt := 710) (off := 678) hx hb dL_law_32 (by rw [c20]; decide) (by rw [c20]; decide) (by rw [c20]; rfl) (by decide) ?_
        refine lv_aload_n hx hb dL_law_710 rfl (lv_at hl 1 rfl) ?_
        refine lv_aload_n hx hb dL_law_711 rfl (lv_at hl 0 rfl) ?_
        refine lv_iload_n hx hb dL_law_712 rfl (lv_at hl 3 rfl) ?_
        refine lv_iconst (v := 1) hx hb dL_law_713 (by decide) ?_
        refine lv_iadd hx hb dL_law_714 ?_
        refine va_sld hx hb hX hbl hbA hS hi1 dL_law_715 ?_
        obtain ⟨r, σ1, hg, hm, hR⟩ := E_tip σ μ hR (xs ((x3 + 1) : Int32).toNatClampNeg)
        refine lw_call (wf := gw cy ad) (A := aG ad) (A2 := aM am) (W2 := mw cm am μ) (q0 := 0) (As := [.int (xs ((x3 + 1) : Int32).toNatClampNeg)]) (rest := []) hF hKg hN (hDM μ) hAG hdis1 hP hPm hS (c_X3_tip l hDG σ (xs ((x3 + 1) : Int32).toNatClampNeg) r σ1 hg) mw_c_X3_tip mw_m_L_98 mw_i_X3_tip mw_v_X3_tip mw_in_X3 ok_X3_tip ⟨rfl, rfl⟩ rfl rfl rfl ⟨Nat.le_of_ble_eq_true rfl, Nat.le_of_ble_eq_true rfl⟩ ⟨Nat.le_of_ble_eq_true rfl, Nat.le_of_ble_eq_true rfl⟩ hl.1 rfl (Nat.le_of_ble_eq_true rfl) dL_law_716 (fun H locs hP hPm hS => ?_)
        refine lv_aload_n hx hb dL_law_719 rfl (lv_at hl 2 rfl) ?_
        refine lv_aload_n hx hb dL_law_720 rfl (lv_at hl 0 rfl) ?_
        refine lv_iload_n hx hb dL_law_721 rfl (lv_at hl 3 rfl) ?_
        refine lv_iconst (v := 1) hx hb dL_law_722 (by decide) ?_
        refine lv_iadd hx hb dL_law_723 ?_
        refine va_sld hx hb hX hbl hbA hS hi1 dL_law_724 ?_
        refine lw_call (wf := mw cm am) (A := aM am) (A2 := aG ad) (W2 := gw cy ad σ1) (q0 := 0) (As := [.int (xs ((x3 + 1) : Int32).toNatClampNeg)]) (rest := [.int r]) hF hKm hN (hDG σ1) hAM hdis2 hPm hP hS (c_X4_tip l hDM μ (xs ((x3 + 1) : Int32).toNatClampNeg) r hm) mw_c_X4_tip mw_m_L_101 mw_i_X4_tip mw_v_X4_tip mw_in_X4 ok_X4_tip ⟨rfl, rfl⟩ rfl rfl rfl ⟨Nat.le_of_ble_eq_true rfl, Nat.le_of_ble_eq_true rfl⟩ ⟨Nat.le_of_ble_eq_true rfl, Nat.le_of_ble_eq_true rfl⟩ hl.1 rfl (Nat.le_of_ble_eq_true rfl) dL_law_725 (fun H locs hPm hP hS => ?_)
        refine lv_icmp_eq (tgt := 812) hx hb dL_law_728 (by decide) (fun _ => ?_) (fun q => absurd rfl q)
        refine lv_iinc (v := x3 + 4) (lv' := [(3, .int (x3 + 4)), (0, .ref b), (1, .ref (ad 0)), (2, .ref (am 0))]) hx hb dL_law_812 hl (k := 3) rfl rfl (by decide) rfl (fun ls hl => ?_)
        refine lv_goto (tgt := 18) hx hb dL_law_815 (by decide) ?_
        exact ih (i + 4) _ hlt (by omega) (by rw [ex3]; exact nI_add i 4) σ1 μ hR H locs hP hPm hS ls (lv_sub hl [1, 2, 3, 0] rfl)
      by_cases c21 : v = 21
      · refine lv_tableIn (tgt := 733) (off := 701) hx hb dL_law_32 (by rw [c21]; decide) (by rw [c21]; decide) (by rw [c21]; rfl) (by decide) ?_
        refine lv_aload_n hx hb dL_law_733 rfl (lv_at hl 1 rfl) ?_
        refine lv_aload_n hx hb dL_law_734 rfl (lv_at hl 0 rfl) ?_
        refine lv_iload_n hx hb dL_law_735 rfl (lv_at hl 3 rfl) ?_
        refine lv_iconst (v := 1) hx hb dL_law_736 (by decide) ?_
        refine lv_iadd hx hb dL_law_737 ?_
        refine va_sld hx hb hX hbl hbA hS hi1 dL_law_738 ?_
        obtain ⟨r, hg, hm⟩ := E_share σ μ hR (xs ((x3 + 1) : Int32).toNatClampNeg)
        refine lw_call (wf := gw cy ad) (A := aG ad) (A2 := aM am) (W2 := mw cm am μ) (q0 := 0) (As := [.int (xs ((x3 + 1) : Int32).toNatClampNeg)]) (rest := []) hF hKg hN (hDM μ) hAG hdis1 hP hPm hS (c_X3_share l hDG σ (xs ((x3 + 1) : Int32).toNatClampNeg) r hg) mw_c_X3_share mw_m_L_102 mw_i_X3_share mw_v_X3_share mw_in_X3 ok_X3_share ⟨rfl, rfl⟩ rfl rfl rfl ⟨Nat.le_of_ble_eq_true rfl, Nat.le_of_ble_eq_true rfl⟩ ⟨Nat.le_of_ble_eq_true rfl, Nat.le_of_ble_eq_true rfl⟩ hl.1 rfl (Nat.le_of_ble_eq_true rfl) dL_law_739 (fun H locs hP hPm hS => ?_)
        refine lv_aload_n hx hb dL_law_742 rfl (lv_at hl 2 rfl) ?_
        refine lv_aload_n hx hb dL_law_743 rfl (lv_at hl 0 rfl) ?_
        refine lv_iload_n hx hb dL_law_744 rfl (lv_at hl 3 rfl) ?_
        refine lv_iconst (v := 1) hx hb dL_law_745 (by decide) ?_
        refine lv_iadd hx hb dL_law_746 ?_
        refine va_sld hx hb hX hbl hbA hS hi1 dL_law_747 ?_
        refine lw_call (wf := mw cm am) (A := aM am) (A2 := aG ad) (W2 := gw cy ad σ) (q0 := 0) (As := [.int (xs ((x3 + 1) : Int32).toNatClampNeg)]) (rest := [.int r]) hF hKm hN (hDG σ) hAM hdis2 hPm hP hS (c_X4_share l hDM μ (xs ((x3 + 1) : Int32).toNatClampNeg) r hm) mw_c_X4_share mw_m_L_105 mw_i_X4_share mw_v_X4_share mw_in_X4 ok_X4_share ⟨rfl, rfl⟩ rfl rfl rfl ⟨Nat.le_of_ble_eq_true rfl, Nat.le_of_ble_eq_true rfl⟩ ⟨Nat.le_of_ble_eq_true rfl, Nat.le_of_ble_eq_true rfl⟩ hl.1 rfl (Nat.le_of_ble_eq_true rfl) dL_law_748 (fun H locs hPm hP hS => ?_)
        refine lv_icmp_eq (tgt := 812) hx hb dL_law_751 (by decide) (fun _ => ?_) (fun q => absurd rfl q)
        refine lv_iinc (v := x3 + 4) (lv' := [(3, .int (x3 + 4)), (0, .ref b), (1, .ref (ad 0)), (2, .ref (am 0))]) hx hb dL_law_812 hl (k := 3) rfl rfl (by decide) rfl (fun ls hl => ?_)
        refine lv_goto (tgt := 18) hx hb dL_law_815 (by decide) ?_
        exact ih (i + 4) _ hlt (by omega) (by rw [ex3]; exact nI_add i 4) σ μ hR H locs hP hPm hS ls (lv_sub hl [1, 2, 3, 0] rfl)
      by_cases c22 : v = 22
      · refine lv_tableIn (tgt := 756) (off := 724) hx hb dL_law_32 (by rw [c22]; decide) (by rw [c22]; decide) (by rw [c22]; rfl) (by decide) ?_
        refine lv_aload_n hx hb dL_law_756 rfl (lv_at hl 1 rfl) ?_
        refine lv_aload_n hx hb dL_law_757 rfl (lv_at hl 0 rfl) ?_
        refine lv_iload_n hx hb dL_law_758 rfl (lv_at hl 3 rfl) ?_
        refine lv_iconst (v := 1) hx hb dL_law_759 (by decide) ?_
        refine lv_iadd hx hb dL_law_760 ?_
        refine va_sld hx hb hX hbl hbA hS hi1 dL_law_761 ?_
        refine lv_aload_n hx hb dL_law_762 rfl (lv_at hl 0 rfl) ?_
        refine lv_iload_n hx hb dL_law_763 rfl (lv_at hl 3 rfl) ?_
        refine lv_iconst (v := 2) hx hb dL_law_764 (by decide) ?_
        refine lv_iadd hx hb dL_law_765 ?_
        refine va_sld hx hb hX hbl hbA hS hi2 dL_law_766 ?_
        obtain ⟨r, hg, hm⟩ := E_hangs σ μ hR (xs ((x3 + 1) : Int32).toNatClampNeg) (xs ((x3 + 2) : Int32).toNatClampNeg)
        refine lw_call (wf := gw cy ad) (A := aG ad) (A2 := aM am) (W2 := mw cm am μ) (q0 := 0) (As := [.int (xs ((x3 + 1) : Int32).toNatClampNeg), .int (xs ((x3 + 2) : Int32).toNatClampNeg)]) (rest := []) hF hKg hN (hDM μ) hAG hdis1 hP hPm hS (c_X3_hangs l hDG σ (xs ((x3 + 1) : Int32).toNatClampNeg) (xs ((x3 + 2) : Int32).toNatClampNeg) r hg) mw_c_X3_hangs mw_m_L_106 mw_i_X3_hangs mw_v_X3_hangs mw_in_X3 ok_X3_hangs ⟨rfl, rfl⟩ rfl rfl rfl ⟨Nat.le_of_ble_eq_true rfl, Nat.le_of_ble_eq_true rfl⟩ ⟨Nat.le_of_ble_eq_true rfl, Nat.le_of_ble_eq_true rfl⟩ hl.1 rfl (Nat.le_of_ble_eq_true rfl) dL_law_767 (fun H locs hP hPm hS => ?_)
        refine lv_aload_n hx hb dL_law_770 rfl (lv_at hl 2 rfl) ?_
        refine lv_aload_n hx hb dL_law_771 rfl (lv_at hl 0 rfl) ?_
        refine lv_iload_n hx hb dL_law_772 rfl (lv_at hl 3 rfl) ?_
        refine lv_iconst (v := 1) hx hb dL_law_773 (by decide) ?_
        refine lv_iadd hx hb dL_law_774 ?_
        refine va_sld hx hb hX hbl hbA hS hi1 dL_law_775 ?_
        refine lv_aload_n hx hb dL_law_776 rfl (lv_at hl 0 rfl) ?_
        refine lv_iload_n hx hb dL_law_777 rfl (lv_at hl 3 rfl) ?_
        refine lv_iconst (v := 2) hx hb dL_law_778 (by decide) ?_
        refine lv_iadd hx hb dL_law_779 ?_
        refine va_sld hx hb hX hbl hbA hS hi2 dL_law_780 ?_
        refine lw_call (wf := mw cm am) (A := aM am) (A2 := aG ad) (W2 := gw cy ad σ) (q0 := 0) (As := [.int (xs ((x3 + 1) : Int32).toNatClampNeg), .int (xs ((x3 + 2) : Int32).toNatClampNeg)]) (rest := [.int r]) hF hKm hN (hDG σ) hAM hdis2 hPm hP hS (c_X4_hangs l hDM μ (xs ((x3 + 1) : Int32).toNatClampNeg) (xs ((x3 + 2) : Int32).toNatClampNeg) r hm) mw_c_X4_hangs mw_m_L_109 mw_i_X4_hangs mw_v_X4_hangs mw_in_X4 ok_X4_hangs ⟨rfl, rfl⟩ rfl rfl rfl ⟨Nat.le_of_ble_eq_true rfl, Nat.le_of_ble_eq_true rfl⟩ ⟨Nat.le_of_ble_eq_true rfl, Nat.le_of_ble_eq_true rfl⟩ hl.1 rfl (Nat.le_of_ble_eq_true rfl) dL_law_781 (fun H locs hPm hP hS => ?_)
        refine lv_icmp_eq (tgt := 812) hx hb dL_law_784 (by decide) (fun _ => ?_) (fun q => absurd rfl q)
        refine lv_iinc (v := x3 + 4) (lv' := [(3, .int (x3 + 4)), (0, .ref b), (1, .ref (ad 0)), (2, .ref (am 0))]) hx hb dL_law_812 hl (k := 3) rfl rfl (by decide) rfl (fun ls hl => ?_)
        refine lv_goto (tgt := 18) hx hb dL_law_815 (by decide) ?_
        exact ih (i + 4) _ hlt (by omega) (by rw [ex3]; exact nI_add i 4) σ μ hR H locs hP hPm hS ls (lv_sub hl [1, 2, 3, 0] rfl)
      by_cases c23 : v = 23
      · refine lv_tableIn (tgt := 789) (off := 757) hx hb dL_law_32 (by rw [c23]; decide) (by rw [c23]; decide) (by rw [c23]; rfl) (by decide) ?_
        refine lv_aload_n hx hb dL_law_789 rfl (lv_at hl 1 rfl) ?_
        refine lv_aload_n hx hb dL_law_790 rfl (lv_at hl 0 rfl) ?_
        refine lv_iload_n hx hb dL_law_791 rfl (lv_at hl 3 rfl) ?_
        refine lv_iconst (v := 1) hx hb dL_law_792 (by decide) ?_
        refine lv_iadd hx hb dL_law_793 ?_
        refine va_sld hx hb hX hbl hbA hS hi1 dL_law_794 ?_
        obtain ⟨r, hg, hm⟩ := E_told σ μ hR (xs ((x3 + 1) : Int32).toNatClampNeg)
        refine lw_call (wf := gw cy ad) (A := aG ad) (A2 := aM am) (W2 := mw cm am μ) (q0 := 0) (As := [.int (xs ((x3 + 1) : Int32).toNatClampNeg)]) (rest := []) hF hKg hN (hDM μ) hAG hdis1 hP hPm hS (c_X3_told l hDG σ (xs ((x3 + 1) : Int32).toNatClampNeg) r hg) mw_c_X3_told mw_m_L_110 mw_i_X3_told mw_v_X3_told mw_in_X3 ok_X3_told ⟨rfl, rfl⟩ rfl rfl rfl ⟨Nat.le_of_ble_eq_true rfl, Nat.le_of_ble_eq_true rfl⟩ ⟨Nat.le_of_ble_eq_true rfl, Nat.le_of_ble_eq_true rfl⟩ hl.1 rfl (Nat.le_of_ble_eq_true rfl) dL_law_795 (fun H locs hP hPm hS => ?_)
        refine lv_aload_n hx hb dL_law_798 rfl (lv_at hl 2 rfl) ?_
        refine lv_aload_n hx hb dL_law_799 rfl (lv_at hl 0 rfl) ?_
        refine lv_iload_n hx hb dL_law_800 rfl (lv_at hl 3 rfl) ?_
        refine lv_iconst (v := 1) hx hb dL_law_801 (by decide) ?_
        refine lv_iadd hx hb dL_law_802 ?_
        refine va_sld hx hb hX hbl hbA hS hi1 dL_law_803 ?_
        refine lw_call (wf := mw cm am) (A := aM am) (A2 := aG ad) (W2 := gw cy ad σ) (q0 := 0) (As := [.int (xs ((x3 + 1) : Int32).toNatClampNeg)]) (rest := [.int r]) hF hKm hN (hDG σ) hAM hdis2 hPm hP hS (c_X4_told l hDM μ (xs ((x3 + 1) : Int32).toNatClampNeg) r hm) mw_c_X4_told mw_m_L_113 mw_i_X4_told mw_v_X4_told mw_in_X4 ok_X4_told ⟨rfl, rfl⟩ rfl rfl rfl ⟨Nat.le_of_ble_eq_true rfl, Nat.le_of_ble_eq_true rfl⟩ ⟨Nat.le_of_ble_eq_true rfl, Nat.le_of_ble_eq_true rfl⟩ hl.1 rfl (Nat.le_of_ble_eq_true rfl) dL_law_804 (fun H locs hPm hP hS => ?_)
        refine lv_icmp_eq (tgt := 812) hx hb dL_law_807 (by decide) (fun _ => ?_) (fun q => absurd rfl q)
        refine lv_iinc (v := x3 + 4) (lv' := [(3, .int (x3 + 4)), (0, .ref b), (1, .ref (ad 0)), (2, .ref (am 0))]) hx hb dL_law_812 hl (k := 3) rfl rfl (by decide) rfl (fun ls hl => ?_)
        refine lv_goto (tgt := 18) hx hb dL_law_815 (by decide) ?_
        exact ih (i + 4) _ hlt (by omega) (by rw [ex3]; exact nI_add i 4) σ μ hR H locs hP hPm hS ls (lv_sub hl [1, 2, 3, 0] rfl)
      refine lv_tableOut (tgt := 812) hx hb dL_law_32 (by have q0 := lv_neT c0 (a := 0) (by decide); have q1 := lv_neT c1 (a := 1) (by decide); have q2 := lv_neT c2 (a := 2) (by decide); have q3 := lv_neT c3 (a := 3) (by decide); have q4 := lv_neT c4 (a := 4) (by decide); have q5 := lv_neT c5 (a := 5) (by decide); have q6 := lv_neT c6 (a := 6) (by decide); have q7 := lv_neT c7 (a := 7) (by decide); have q8 := lv_neT c8 (a := 8) (by decide); have q9 := lv_neT c9 (a := 9) (by decide); have q10 := lv_neT c10 (a := 10) (by decide); have q11 := lv_neT c11 (a := 11) (by decide); have q12 := lv_neT c12 (a := 12) (by decide); have q13 := lv_neT c13 (a := 13) (by decide); have q14 := lv_neT c14 (a := 14) (by decide); have q15 := lv_neT c15 (a := 15) (by decide); have q16 := lv_neT c16 (a := 16) (by decide); have q17 := lv_neT c17 (a := 17) (by decide); have q18 := lv_neT c18 (a := 18) (by decide); have q19 := lv_neT c19 (a := 19) (by decide); have q20 := lv_neT c20 (a := 20) (by decide); have q21 := lv_neT c21 (a := 21) (by decide); have q22 := lv_neT c22 (a := 22) (by decide); have q23 := lv_neT c23 (a := 23) (by decide); omega) (by decide) ?_
      refine lv_iinc (v := x3 + 4) (lv' := [(3, .int (x3 + 4)), (0, .ref b), (1, .ref (ad 0)), (2, .ref (am 0))]) hx hb dL_law_812 hl (k := 3) rfl rfl (by decide) rfl (fun ls hl => ?_)
      refine lv_goto (tgt := 18) hx hb dL_law_815 (by decide) ?_
      exact ih (i + 4) _ hlt (by omega) (by rw [ex3]; exact nI_add i 4) σ μ hR H locs hP hPm hS ls (lv_sub hl [1, 2, 3, 0] rfl)
