/-! two worlds side by side: a call that knows one of them -/
def jA (wa : va_W) : Nat → Prop := fun q => ∃ (k : Nat) (e : va_E), wa[k]? = some (q, e)
section GJ
variable {p : Program} {l : Launch} {e : Env} {R : Room} {s : State} {m : MethodId} {args : Array Value} {below : List Frame} {meth : Method} {c : Code} {H : Heap} {locs : List Loc} {cells slots : Nat} {Q : State → Prop}
variable {cc : ByteArray} {pc : Nat} {ls : Array Slot} {rest : List Value} {D : va_G} {cl : List vw_C} {A : Nat → Prop} {tys : List (ClassId × FieldType)} {wa wa' wb : va_W}
theorem va_D_l (hD : va_D A (wa ++ wb)) : va_D A wa := by
  refine ⟨fun i j x y hi hj hxy => ?_, fun k q hk => ?_⟩
  · have li := (List.getElem?_eq_some_iff.mp hi).1
    have lj := (List.getElem?_eq_some_iff.mp hj).1
    exact hD.1 i j x y (by rw [List.getElem?_append_left li]; exact hi) (by rw [List.getElem?_append_left lj]; exact hj) hxy
  · have lk := (List.getElem?_eq_some_iff.mp hk).1
    exact hD.2 k q (by rw [List.getElem?_append_left lk]; exact hk)
theorem at_r {k : Nat} {q : Nat × va_E} (hk : wb[k]? = some q) : (wa ++ wb)[wa.length + k]? = some q := by
  rw [List.getElem?_append_right (Nat.le_add_right _ _), Nat.add_sub_cancel_left]; exact hk
theorem va_D_r (hD : va_D A (wa ++ wb)) : va_D A wb := by
  refine ⟨fun i j x y hi hj hxy => ?_, fun k q hk => hD.2 _ q (at_r hk)⟩
  have := hD.1 _ _ x y (at_r hi) (at_r hj) hxy
  omega
theorem va_P_l (hP : va_P D cl (wa ++ wb) H) : va_P D cl wa H := by
  intro k q hk
  have lk := (List.getElem?_eq_some_iff.mp hk).1
  exact hP k q (by rw [List.getElem?_append_left lk]; exact hk)
theorem va_P_r (hP : va_P D cl (wa ++ wb) H) : va_P D cl wb H := fun _ q hk => hP _ q (at_r hk)
theorem j_apart (hD : va_D A (wa ++ wb)) {k : Nat} {q : Nat × va_E} (hk : wb[k]? = some q) : ¬ jA wa q.1 := by
  intro ⟨k2, e2, h2⟩
  have l2 := (List.getElem?_eq_some_iff.mp h2).1
  have := hD.1 k2 _ (q.1, e2) q (by rw [List.getElem?_append_left l2]; exact h2) (at_r hk) rfl
  omega
theorem j_self (hD : va_D A (wa ++ wb)) : va_D (jA wa) wa := ⟨(va_D_l hD).1, fun k q hk => ⟨k, q.2, hk⟩⟩
theorem gG_swap (hG : gG D cl tys A s (wa ++ wb) H locs) : gG D cl tys A s (wb ++ wa) H locs := by
  obtain ⟨hK, hP, hD, hS⟩ := hG
  refine ⟨hK, va_P.app (va_P_r hP) (va_P_l hP), va_D.app (va_D_r hD) (va_D_l hD) (fun i j x y hi hj hxy => ?_), hS⟩
  exact j_apart hD hi ⟨j, y.2, by rw [hxy]; exact hj⟩
theorem j_call {st0 : List Value} {r : Option Value} {a : Array Value} (hG : gG D cl tys A s (wa ++ wb) H locs) (hr : va_Run p l e R s m args below meth c H locs cells slots 0 0 (F0 m pc ls st0) rest (gE D cl tys (jA wa) r wa' a) (jA wa))
    (kk : ∀ (H1 : Heap) (locs1 : List Loc), gG D cl tys A s (wa' ++ wb) H1 locs1 → W p l e R s m args below meth c H1 locs1 cells slots Q (F0 m (pc + 3) ls (r.toList ++ rest))) : W p l e R s m args below meth c H locs cells slots Q (F0 m pc ls st0) := by
  obtain ⟨hK, hP, hD, hS⟩ := hG
  have hsub : ∀ q, jA wa q → A q := fun q ⟨k, e2, h2⟩ => (va_D_l hD).2 k (q, e2) h2
  intro T hT X
  obtain ⟨v, st₀, t, T', L, h0, X', hL, e1, e2, ⟨⟨hv, hPt, hKt, hDt⟩, hz, hk⟩, st⟩ := hr T hT X
  cases hv
  rw [h0] at hz hk
  have hPb : va_P D cl wb T'.heap := by
    intro k q hq
    have h1 := va_P_r hP k q hq
    exact h1.kept (by rw [e1]; exact hk q.1 h1.lt (j_apart hD hq))
  obtain ⟨t2, a1, b1⟩ := kk T'.heap (locs ++ L) ⟨hK, va_P.app (by rw [e1]; exact hPt) hPb, va_D.app (hDt.weaken (fun k q _ h => hsub q.1 h)) (va_D_r hD) (fun i j x y hi hj hxy => j_apart hD hj (by rw [← hxy]; exact hDt.2 i x hi)), Nat.le_trans hS.1 (by rw [e1]; exact hz), fun q h1 h2 => by rw [e1, hk q (Nat.lt_of_lt_of_le h1 hS.1) (fun z => h2 (hsub q z))]; exact hS.2.1 q h1 h2, fun q hq => by
      rcases List.mem_append.mp hq with h | h
      · exact hS.2.2 q h
      · exact hsub _ (hL q h)⟩ T' rfl X'
  exact ⟨t2, st t2 a1, b1⟩
theorem j_pre {av : List Value} (hN : gN s) (hG : gG D cl tys A s (wa ++ wb) H locs) : ∀ U : State, U.heap = H → s.WarmedH U.vm → va_Pc av (fun U => gN U ∧ gB D cl tys (jA wa) wa U) av.toArray U := by
  obtain ⟨hK, hP, hD, hS⟩ := hG
  intro U hU hW
  exact ⟨rfl, gN_warm hW hN, by rw [hU]; exact va_P_l hP, va_K.moved hW.alike hK, j_self hD⟩
variable {y : MethodName} {bytes : ByteArray} {maxL nL fr lo index : Nat} {ret : Option FieldType} {own : String} {b : Nat} {As : List Value} {r : Option Value} {T0 : u_T} {N0 ci q0 : Nat} {fs : List Value}
theorem j_callA (hM : ∀ A : Nat → Prop, gM l y bytes maxL ret fr lo D cl tys A wa (.ref b :: As) r wa') (hx : p.tables.exec = Jvm.exec) (hb : c.code = cc) (hml : c.maxLocals = nL) (hown : s.vm.findClass own = some m.cls) (hts : ∀ w ∈ gT, w.before args s = true) (hN : gN s) (hG : gG D cl tys A s (wa ++ wb) H locs)
    (hl : Cond.methodLink own index y ∈ gT) (hin : Cond.instanceMethod y ∈ gT) (hse : Cond.selects y.cls y y ∈ gT) (hini : Cond.initialized y.cls ∈ gT) (hcode : Cond.code y bytes maxL ret ∈ gT) (hd : g_nm y As.length) (hR : fr + 1 ≤ R.frames ∧ 8 + (maxL + 11) + lo ≤ R.locals)
    (he : wa[q0]? = some (b, .inr (ci, fs))) (hc : cl[ci]? = some (y.cls, T0, N0)) (hsz : ls.size = nL) (hW : (rest.map fun v => v.category).sum ≤ 8) (hdg : decode cc pc = .ok (.invokevirtual index, 3)) (hf : cells ≤ R.cells ∧ slots ≤ R.slots)
    (kk : ∀ (H1 : Heap) (locs1 : List Loc), gG D cl tys A s (wa' ++ wb) H1 locs1 → W p l e R s m args below meth c H1 locs1 cells slots Q (F0 m (pc + 3) ls (r.toList ++ rest))) : W p l e R s m args below meth c H locs cells slots Q (F0 m pc ls (As.reverse ++ .ref b :: rest)) := by
  refine j_call hG (va_runV (C := y.cls) (As := As) (rest := rest) (n := As.length) ⟨hx, hb, hml, hown, hts⟩ (hM (jA wa)) ⟨callB_of As.length hts (gT_in hcode) rfl rfl rfl (hts _ hini) (hts _ hl) hd hR, hts _ hin, hts _ hse⟩ ⟨g_blind, ?_, j_pre (av := .ref b :: As) hN hG⟩ rfl rfl hsz rfl (lv_room hW) hdg hf) kk
  exact va_recv hG.1 (va_P_l hG.2.1) hc he
theorem j_callB (hM : ∀ A : Nat → Prop, gM l y bytes maxL ret fr lo D cl tys A wa (.ref b :: As) r wa') (hx : p.tables.exec = Jvm.exec) (hb : c.code = cc) (hml : c.maxLocals = nL) (hown : s.vm.findClass own = some m.cls) (hts : ∀ w ∈ gT, w.before args s = true) (hN : gN s) (hG : gG D cl tys A s (wb ++ wa) H locs)
    (hl : Cond.methodLink own index y ∈ gT) (hin : Cond.instanceMethod y ∈ gT) (hse : Cond.selects y.cls y y ∈ gT) (hini : Cond.initialized y.cls ∈ gT) (hcode : Cond.code y bytes maxL ret ∈ gT) (hd : g_nm y As.length) (hR : fr + 1 ≤ R.frames ∧ 8 + (maxL + 11) + lo ≤ R.locals)
    (he : wa[q0]? = some (b, .inr (ci, fs))) (hc : cl[ci]? = some (y.cls, T0, N0)) (hsz : ls.size = nL) (hW : (rest.map fun v => v.category).sum ≤ 8) (hdg : decode cc pc = .ok (.invokevirtual index, 3)) (hf : cells ≤ R.cells ∧ slots ≤ R.slots)
    (kk : ∀ (H1 : Heap) (locs1 : List Loc), gG D cl tys A s (wb ++ wa') H1 locs1 → W p l e R s m args below meth c H1 locs1 cells slots Q (F0 m (pc + 3) ls (r.toList ++ rest))) : W p l e R s m args below meth c H locs cells slots Q (F0 m pc ls (As.reverse ++ .ref b :: rest)) :=
  j_callA hM hx hb hml hown hts hN (gG_swap hG) hl hin hse hini hcode hd hR he hc hsz hW hdg hf (fun H1 locs1 hG => kk H1 locs1 (gG_swap hG))
theorem g_sld {b L i : Nat} {xs : Nat → Int32} {ws : va_W} (hx : p.tables.exec = Jvm.exec) (hb : c.code = cc) (hX : va_X b L xs s s.heap) (hbl : b < s.heap.size) (hG : gG D cl tys (fun q => s.heap.size ≤ q) s ws H locs) (hi : i < L) (hL : L < 2 ^ 31) (hdg : decode cc pc = .ok (.iaload, 1))
    (kk : W p l e R s m args below meth c H locs cells slots Q (F0 m (pc + 1) ls (.int (xs i) :: rest))) : W p l e R s m args below meth c H locs cells slots Q (F0 m pc ls (.int (nI i) :: .ref b :: rest)) := by
  refine va_sld hx hb hX hbl (A := fun q => s.heap.size ≤ q) (fun h => absurd hbl (Nat.not_lt.mpr h)) hG.2.2.2 (vp_in_nI hi hL) hdg ?_
  rw [nI_clamp (Nat.lt_trans hi hL)]
  exact kk
end GJ
