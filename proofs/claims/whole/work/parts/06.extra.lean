def bz {α : Type} (v : Int32) (k : Option α) : Option α := if v = 0 ∨ v = 1 then k else none
theorem bz_some {α : Type} {v : Int32} {k : Option α} {r : α} (h : bz v k = some r) : (v = 0 ∨ v = 1) ∧ k = some r := by
  unfold bz at h
  split at h
  · rename_i hc; exact ⟨hc, h⟩
  · cases h
theorem bz_in {α : Type} {v : Int32} {k : Option α} (h : v = 0 ∨ v = 1) : bz v k = k := if_pos h
section WX
variable {p : Program} {l : Launch} {e : Env} {R : Room} {s : State} {m : MethodId} {args : Array Value} {below : List Frame} {meth : Method} {c : Code} {H : Heap} {locs : List Loc} {cells slots : Nat} {Q : State → Prop} {cc : ByteArray} {pc nL : Nat} {ls : Array Slot} {rest : List Value} {own : String}
variable {S : Type} {wf : S → va_W} {A : Nat → Prop} {D : va_G} {tys : List (ClassId × FieldType)}
theorem g_bret {σ σ0 : S} {v r0 : Int32} {α : Type} {k : Option α} {r : α} (hx : p.tables.exec = Jvm.exec) (hb : c.code = cc) (hr : meth.sig.returnType = some .boolean) (hlk : meth.locks = false) (hH : gH s D wf A σ H locs) (h : bz v k = some r) (hv : k = some r → v = r0 ∧ σ = σ0) (hdg : decode cc pc = .ok (.ireturn, 1)) : W p l e R s m args below meth c H locs 0 0 (MQ below (gQi D wf A σ0 r0) args s 0 0 A) (F0 m pc ls [.int v]) := by
  obtain ⟨h1, h2⟩ := bz_some h
  refine g_zret hx hb hr hlk hH (hv h2) ?_ hdg
  rcases h1 with rfl | rfl <;> rfl
theorem g_max (C : gC p m c cc nL s args RX2 D tys wf A) (hl : ls.size = nL) {x y : Int32} (hR : 1 ≤ R.frames) (hlo : (rest.map fun v => v.category).sum + 13 ≤ R.locals) (hc : cells ≤ R.cells) (hs : slots ≤ R.slots) (hdg : decode cc pc = .ok (.invokestatic 75, 3)) (kk : W p l e R s m args below meth c H locs cells slots Q (F0 m (pc + 3) ls (.int (if x < y then y else x) :: rest))) : W p l e R s m args below meth c H locs cells slots Q (F0 m pc ls (.int y :: .int x :: rest)) :=
  va_mmax C.1.1 C.1.2.1 (C.1.2.2.1.trans hl.symm) C.1.2.2.2.1 (C.1.2.2.2.2 _ mw_m_X2_75) (C.1.2.2.2.2 _ mw_s_J9_max_7cf53) (C.1.2.2.2.2 _ mw_in_J9) (C.1.2.2.2.2 _ mw_c_J9_max_7cf53) hR hlo hc hs hdg kk
theorem g_min (C : gC p m c cc nL s args RX2 D tys wf A) (hl : ls.size = nL) {x y : Int32} (hR : 1 ≤ R.frames) (hlo : (rest.map fun v => v.category).sum + 13 ≤ R.locals) (hc : cells ≤ R.cells) (hs : slots ≤ R.slots) (hdg : decode cc pc = .ok (.invokestatic 69, 3)) (kk : W p l e R s m args below meth c H locs cells slots Q (F0 m (pc + 3) ls (.int (if y < x then y else x) :: rest))) : W p l e R s m args below meth c H locs cells slots Q (F0 m pc ls (.int y :: .int x :: rest)) :=
  va_mmin C.1.1 C.1.2.1 (C.1.2.2.1.trans hl.symm) C.1.2.2.2.1 (C.1.2.2.2.2 _ mw_m_X2_69) (C.1.2.2.2.2 _ mw_s_J9_min_7cf53) (C.1.2.2.2.2 _ mw_in_J9) (C.1.2.2.2.2 _ mw_c_J9_min_7cf53) hR hlo hc hs hdg kk
end WX
