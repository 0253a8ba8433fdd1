/-! own layer: words, contracts with one world before and one behind, calls, returns -/
def gT : List Cond := lw_tbl.filter goodWord
def gIsN : Cond → Bool
  | .fieldLinkNest _ _ _ _ _ _ => true
  | .methodLinkNest _ _ _ _ => true
  | _ => false
def gNw : List Cond := lw_tbl.filter gIsN
def gN (U : State) : Prop := ∀ w ∈ gNw, va_Nw w U
theorem gT_mem {w : Cond} (h : w ∈ lw_tbl) (hg : goodWord w = true) : w ∈ gT := List.mem_filter.mpr ⟨h, hg⟩
theorem gN_mem {w : Cond} (h : w ∈ lw_tbl) (hg : gIsN w = true) : w ∈ gNw := List.mem_filter.mpr ⟨h, hg⟩
theorem gT_in {c : Cond} (h : c ∈ gT) : GoodIn gT (c :: gT) := by
  intro w hw
  have hm : w ∈ gT := by
    rcases List.mem_cons.mp hw with h1 | h1
    · rw [h1]; exact h
    · exact h1
  exact ⟨hm, good_of_word (List.mem_filter.mp hm).2⟩
theorem gN_on {w : Cond} (h : gIsN w = true) : w.onTables = true := by
  cases w <;> first | rfl | (simp [gIsN] at h)
theorem gN_warm {s U : State} (hW : s.WarmedH U.vm) (h : gN s) : gN U := by
  intro w hw
  have h1 : gIsN w = true := (List.mem_filter.mp hw).2
  have h2 := h w hw
  cases w <;> first | exact va_Nw.warmF hW h2 | exact va_Nw.warmM hW h2 | (simp [gIsN] at h1)
theorem gN_same {u U : State} (hv : u.vm = U.vm) (h : gN u) : gN U := fun w hw => va_Nw.same (gN_on (List.mem_filter.mp hw).2) hv (h w hw)
theorem gN_of {args : Array Value} {s : State} (h : ∀ w ∈ lw_tbl, w.before args s = true) : gN s := fun w hw => va_Nw.of (gN_on (List.mem_filter.mp hw).2) (h w (List.mem_filter.mp hw).1)
/-- the world, at a state -/
def gB (D : va_G) (cl : List vw_C) (tys : List (ClassId × FieldType)) (A : Nat → Prop) (ws : va_W) (U : State) : Prop := va_P D cl ws U.heap ∧ va_K D cl tys U ∧ va_D A ws
/-- the world, inside a method that began at s -/
def gG (D : va_G) (cl : List vw_C) (tys : List (ClassId × FieldType)) (A : Nat → Prop) (s : State) (ws : va_W) (H : Heap) (locs : List Loc) : Prop := va_K D cl tys s ∧ va_P D cl ws H ∧ va_D A ws ∧ va_S A s.heap H locs
def gE (D : va_G) (cl : List vw_C) (tys : List (ClassId × FieldType)) (A : Nat → Prop) (r : Option Value) (ws : va_W) : Array Value → State → Outcome → State → Prop := fun _ st oc t => (oc = .returned r ∧ gB D cl tys A ws t) ∧ va_F A st t
def gR (fr lo : Nat) : Room := { frames := fr, cells := 0, slots := 0, locals := lo }
/-- a contract: from the world ws with the arguments av the method answers r and leaves the world ws' -/
def gM (l : Launch) (y : MethodName) (cc : ByteArray) (maxL : Nat) (ret : Option FieldType) (fr lo : Nat) (D : va_G) (cl : List vw_C) (tys : List (ClassId × FieldType)) (A : Nat → Prop) (ws : va_W) (av : List Value) (r : Option Value) (ws' : va_W) : Prop :=
  Met l y (.code y cc maxL ret :: gT) (gR fr lo) (va_Pc av (fun U => gN U ∧ gB D cl tys A ws U)) (gE D cl tys A r ws') 0 0 A
/-- where a method ends -/
def gQ (below : List Frame) (args : Array Value) (s : State) (D : va_G) (cl : List vw_C) (tys : List (ClassId × FieldType)) (A : Nat → Prop) (r : Option Value) (ws : va_W) : State → Prop := MQ below (gE D cl tys A r ws) args s 0 0 A
theorem gM_of {l : Launch} {y : MethodName} {cc : ByteArray} {maxL : Nat} {ret : Option FieldType} {fr lo : Nat} {D : va_G} {cl : List vw_C} {tys : List (ClassId × FieldType)} {A : Nat → Prop} {ws : va_W} {av : List Value} {r : Option Value} {ws' : va_W} (hy : plainName y.cls = true) (hav : (lg_sl av).length ≤ maxL)
    (body : ∀ (p : Program) (e : Env) (s : State) (m : MethodId) (args : Array Value) (below : List Frame) (meth : Method) (c : Code) (ls : Array Slot), p.tables.exec = Jvm.exec → c.code = cc → c.maxLocals = maxL → s.vm.findClass y.cls = some m.cls → (∀ w ∈ gT, w.before args s = true) → gN s → meth.sig.returnType = ret → meth.locks = false → lv_has ls maxL (lv_args 0 av) → gG D cl tys A s ws s.heap [] →
      W p l e (gR fr lo) s m args below meth c s.heap [] 0 0 (gQ below args s D cl tys A r ws') (F0 m 0 ls [])) : gM l y cc maxL ret fr lo D cl tys A ws av r ws' := by
  refine Met.ofW (cc := cc) (maxL := maxL) (ret := ret) hy rfl ?_
  intro p e s m args below meth c s₁ B hml hv
  obtain ⟨rfl, hN, hP, hK, hD⟩ := hv
  have hts := atoms_spec (ws := .code y cc maxL ret :: gT) B.pre
  have hown : s.vm.findClass y.cls = some m.cls := findClass_of_methodNamed B.named
  have hl := lv_entry av (n := maxL) hav
  rw [lg_entry_eq]
  exact body p e s m _ below meth c _ B.exec B.bytes hml hown (fun w h => hts w (List.mem_cons_of_mem _ h)) hN B.returns B.notSynchronized hl ⟨hK, hP, hD, va_S.rf⟩
section GL
variable {p : Program} {l : Launch} {e : Env} {R : Room} {s : State} {m : MethodId} {args : Array Value} {below : List Frame} {meth : Method} {c : Code} {H : Heap} {locs : List Loc} {cells slots : Nat} {Q : State → Prop}
variable {cc : ByteArray} {pc : Nat} {ls : Array Slot} {rest : List Value} {D : va_G} {cl : List vw_C} {A : Nat → Prop} {tys : List (ClassId × FieldType)} {ws ws' : va_W}
theorem gE_of {r : Option Value} (hG : gG D cl tys A s ws H locs) : ∀ t : State, t.heap = H → s.WarmedH t.vm → gE D cl tys A r ws args s (.returned r) t := by
  obtain ⟨hK, hP, hD, hS⟩ := hG
  intro t ht hW
  exact ⟨⟨rfl, by rw [ht]; exact hP, va_K.moved hW.alike hK, hD⟩, hS.F ht⟩
theorem g_iret {v : Int32} (hx : p.tables.exec = Jvm.exec) (hb : c.code = cc) (hr : meth.sig.returnType = some .int) (hlk : meth.locks = false) (hG : gG D cl tys A s ws H locs) (hdg : decode cc pc = .ok (.ireturn, 1)) :
    W p l e R s m args below meth c H locs 0 0 (gQ below args s D cl tys A (some (.int v)) ws) (F0 m pc ls [.int v]) := W.iret hx hb hr (gE_of hG) hG.2.2.2.2.2 hdg
theorem g_zret {v : Int32} (hx : p.tables.exec = Jvm.exec) (hb : c.code = cc) (hr : meth.sig.returnType = some .boolean) (hn : narrow .boolean (.int v) = .int v) (hlk : meth.locks = false) (hG : gG D cl tys A s ws H locs) (hdg : decode cc pc = .ok (.ireturn, 1)) :
    W p l e R s m args below meth c H locs 0 0 (gQ below args s D cl tys A (some (.int v)) ws) (F0 m pc ls [.int v]) := W.zret hx hb hr hn (gE_of hG) hG.2.2.2.2.2 hdg
theorem g_lret {v : Int64} (hx : p.tables.exec = Jvm.exec) (hb : c.code = cc) (hr : meth.sig.returnType = some .long) (hlk : meth.locks = false) (hG : gG D cl tys A s ws H locs) (hdg : decode cc pc = .ok (.lreturn, 1)) :
    W p l e R s m args below meth c H locs 0 0 (gQ below args s D cl tys A (some (.long v)) ws) (F0 m pc ls [.long v]) := W.lret hx hb hr (gE_of hG) hG.2.2.2.2.2 hdg
theorem g_vret (hx : p.tables.exec = Jvm.exec) (hb : c.code = cc) (hr : meth.sig.returnType = none) (hlk : meth.locks = false) (hG : gG D cl tys A s ws H locs) (hdg : decode cc pc = .ok (.return_, 1)) :
    W p l e R s m args below meth c H locs 0 0 (gQ below args s D cl tys A none ws) (F0 m pc ls []) := W.vret hx hb hr (gE_of hG) hG.2.2.2.2.2 hdg
/-- behind a call -/
theorem g_call {st0 : List Value} {r : Option Value} {a : Array Value} (hG : gG D cl tys A s ws H locs) (hr : va_Run p l e R s m args below meth c H locs cells slots 0 0 (F0 m pc ls st0) rest (gE D cl tys A r ws' a) A)
    (kk : ∀ (H1 : Heap) (locs1 : List Loc), gG D cl tys A s ws' H1 locs1 → W p l e R s m args below meth c H1 locs1 cells slots Q (F0 m (pc + 3) ls (r.toList ++ rest))) : W p l e R s m args below meth c H locs cells slots Q (F0 m pc ls st0) := by
  obtain ⟨hK, hP, hD, hS⟩ := hG
  intro T hT X
  obtain ⟨v, st₀, t, T', L, h0, X', hL, e1, e2, ⟨⟨hv, hPt, hKt, hDt⟩, hz, hk⟩, st⟩ := hr T hT X
  cases hv
  rw [h0] at hz hk
  obtain ⟨t2, a1, b1⟩ := kk T'.heap (locs ++ L) ⟨hK, by rw [e1]; exact hPt, hDt, Nat.le_trans hS.1 (by rw [e1]; exact hz), fun q h1 h2 => by rw [e1, hk q (Nat.lt_of_lt_of_le h1 hS.1) h2]; exact hS.2.1 q h1 h2, fun q hq => by
      rcases List.mem_append.mp hq with h | h
      · exact hS.2.2 q h
      · exact hL q h⟩ T' rfl X'
  exact ⟨t2, st t2 a1, b1⟩
theorem g_blind {av : List Value} : FrameBlind (va_Pc av (fun U => gN U ∧ gB D cl tys A ws U)) := by
  intro a U g mk q
  obtain ⟨q0, qN, qP, qK, qD⟩ := q
  exact ⟨q0, gN_same (u := U) (U := U.calling g mk a) rfl qN, qP, va_K.moved (u := U) (U := U.calling g mk a) (Vm.Alike.refl U.vm) qK, qD⟩
theorem g_pre {av : List Value} (hN : gN s) (hG : gG D cl tys A s ws H locs) : ∀ U : State, U.heap = H → s.WarmedH U.vm → va_Pc av (fun U => gN U ∧ gB D cl tys A ws U) av.toArray U := by
  obtain ⟨hK, hP, hD, hS⟩ := hG
  intro U hU hW
  exact ⟨rfl, gN_warm hW hN, by rw [hU]; exact hP, va_K.moved hW.alike hK, hD⟩
variable {y : MethodName} {bytes : ByteArray} {maxL nL fr lo index : Nat} {ret : Option FieldType} {own host : String} {b : Nat} {As : List Value} {r : Option Value} {T0 : u_T} {N0 ci q0 : Nat} {fs : List Value}
/-- what is decided of a method's name, for a call with n arguments -/
def g_nm (y : MethodName) (n : Nat) : Prop := y.cls ≠ "java/lang/invoke/MethodHandle" ∧ y.cls ≠ "java/lang/invoke/VarHandle" ∧ (parseMethodDescriptor y.desc).map (fun d => d.parameters.length) = some n
/-- invokevirtual, a method of the caller's own or a public one -/
theorem g_callV (hM : gM l y bytes maxL ret fr lo D cl tys A ws (.ref b :: As) r ws') (hx : p.tables.exec = Jvm.exec) (hb : c.code = cc) (hml : c.maxLocals = nL) (hown : s.vm.findClass own = some m.cls) (hts : ∀ w ∈ gT, w.before args s = true) (hN : gN s) (hG : gG D cl tys A s ws H locs)
    (hl : Cond.methodLink own index y ∈ gT) (hin : Cond.instanceMethod y ∈ gT) (hse : Cond.selects y.cls y y ∈ gT) (hini : Cond.initialized y.cls ∈ gT) (hcode : Cond.code y bytes maxL ret ∈ gT) (hd : g_nm y As.length) (hR : fr + 1 ≤ R.frames ∧ 8 + (maxL + 11) + lo ≤ R.locals)
    (he : ws[q0]? = some (b, .inr (ci, fs))) (hc : cl[ci]? = some (y.cls, T0, N0)) (hsz : ls.size = nL) (hW : (rest.map fun v => v.category).sum ≤ 8) (hdg : decode cc pc = .ok (.invokevirtual index, 3)) (hf : cells ≤ R.cells ∧ slots ≤ R.slots)
    (kk : ∀ (H1 : Heap) (locs1 : List Loc), gG D cl tys A s ws' H1 locs1 → W p l e R s m args below meth c H1 locs1 cells slots Q (F0 m (pc + 3) ls (r.toList ++ rest))) : W p l e R s m args below meth c H locs cells slots Q (F0 m pc ls (As.reverse ++ .ref b :: rest)) := by
  refine g_call hG (va_runV (C := y.cls) (As := As) (rest := rest) (n := As.length) ⟨hx, hb, hml, hown, hts⟩ hM ⟨callB_of As.length hts (gT_in hcode) rfl rfl rfl (hts _ hini) (hts _ hl) hd hR, hts _ hin, hts _ hse⟩ ⟨g_blind, ?_, g_pre (av := .ref b :: As) hN hG⟩ rfl rfl hsz rfl (lv_room hW) hdg hf) kk
  exact va_recv hG.1 hG.2.1 hc he
/-- invokevirtual, a nest mate's own method -/
theorem g_callVN (hM : gM l y bytes maxL ret fr lo D cl tys A ws (.ref b :: As) r ws') (hx : p.tables.exec = Jvm.exec) (hb : c.code = cc) (hml : c.maxLocals = nL) (hown : s.vm.findClass own = some m.cls) (hts : ∀ w ∈ gT, w.before args s = true) (hN : gN s) (hG : gG D cl tys A s ws H locs)
    (hl : Cond.methodLinkNest own index y host ∈ gNw) (hin : Cond.instanceMethod y ∈ gT) (hse : Cond.selects y.cls y y ∈ gT) (hini : Cond.initialized y.cls ∈ gT) (hcode : Cond.code y bytes maxL ret ∈ gT) (hd : g_nm y As.length) (hR : fr + 1 ≤ R.frames ∧ 8 + (maxL + 11) + lo ≤ R.locals)
    (he : ws[q0]? = some (b, .inr (ci, fs))) (hc : cl[ci]? = some (y.cls, T0, N0)) (hsz : ls.size = nL) (hW : (rest.map fun v => v.category).sum ≤ 8) (hdg : decode cc pc = .ok (.invokevirtual index, 3)) (hf : cells ≤ R.cells ∧ slots ≤ R.slots)
    (kk : ∀ (H1 : Heap) (locs1 : List Loc), gG D cl tys A s ws' H1 locs1 → W p l e R s m args below meth c H1 locs1 cells slots Q (F0 m (pc + 3) ls (r.toList ++ rest))) : W p l e R s m args below meth c H locs cells slots Q (F0 m pc ls (As.reverse ++ .ref b :: rest)) := by
  refine g_call hG (va_runVN (C := y.cls) (As := As) (rest := rest) (n := As.length) ⟨hx, hb, hml, hown, hts⟩ hM ⟨va_cnB As.length hts (gT_in hcode) rfl rfl rfl (hN _ hl) (hts _ hini) hd hR, hts _ hin, hts _ hse⟩ ⟨g_blind, ?_, g_pre (av := .ref b :: As) hN hG⟩ rfl rfl hsz rfl (lv_room hW) hdg hf) kk
  exact va_recv hG.1 hG.2.1 hc he
/-- invokestatic, own or public -/
theorem g_callS (hM : gM l y bytes maxL ret fr lo D cl tys A ws As r ws') (hx : p.tables.exec = Jvm.exec) (hb : c.code = cc) (hml : c.maxLocals = nL) (hown : s.vm.findClass own = some m.cls) (hts : ∀ w ∈ gT, w.before args s = true) (hN : gN s) (hG : gG D cl tys A s ws H locs)
    (hl : Cond.methodLink own index y ∈ gT) (hst : Cond.static y ∈ gT) (hini : Cond.initialized y.cls ∈ gT) (hcode : Cond.code y bytes maxL ret ∈ gT) (hd : g_nm y As.length) (hR : fr + 1 ≤ R.frames ∧ 8 + (maxL + 11) + lo ≤ R.locals)
    (hsz : ls.size = nL) (hW : (rest.map fun v => v.category).sum ≤ 8) (hdg : decode cc pc = .ok (.invokestatic index, 3)) (hf : cells ≤ R.cells ∧ slots ≤ R.slots)
    (kk : ∀ (H1 : Heap) (locs1 : List Loc), gG D cl tys A s ws' H1 locs1 → W p l e R s m args below meth c H1 locs1 cells slots Q (F0 m (pc + 3) ls (r.toList ++ rest))) : W p l e R s m args below meth c H locs cells slots Q (F0 m pc ls (As.reverse ++ rest)) := by
  exact g_call hG (va_runS (As := As) (rest := rest) (n := As.length) ⟨hx, hb, hml, hown, hts⟩ hM ⟨callB_of As.length hts (gT_in hcode) rfl rfl rfl (hts _ hini) (hts _ hl) hd hR, hts _ hst⟩ ⟨g_blind, g_pre (av := As) hN hG⟩ rfl rfl hsz rfl (lv_room hW) hdg hf) kk
/-- invokestatic, a nest mate's own method -/
theorem g_callSN (hM : gM l y bytes maxL ret fr lo D cl tys A ws As r ws') (hx : p.tables.exec = Jvm.exec) (hb : c.code = cc) (hml : c.maxLocals = nL) (hown : s.vm.findClass own = some m.cls) (hts : ∀ w ∈ gT, w.before args s = true) (hN : gN s) (hG : gG D cl tys A s ws H locs)
    (hl : Cond.methodLinkNest own index y host ∈ gNw) (hst : Cond.static y ∈ gT) (hini : Cond.initialized y.cls ∈ gT) (hcode : Cond.code y bytes maxL ret ∈ gT) (hd : g_nm y As.length) (hR : fr + 1 ≤ R.frames ∧ 8 + (maxL + 11) + lo ≤ R.locals)
    (hsz : ls.size = nL) (hW : (rest.map fun v => v.category).sum ≤ 8) (hdg : decode cc pc = .ok (.invokestatic index, 3)) (hf : cells ≤ R.cells ∧ slots ≤ R.slots)
    (kk : ∀ (H1 : Heap) (locs1 : List Loc), gG D cl tys A s ws' H1 locs1 → W p l e R s m args below meth c H1 locs1 cells slots Q (F0 m (pc + 3) ls (r.toList ++ rest))) : W p l e R s m args below meth c H locs cells slots Q (F0 m pc ls (As.reverse ++ rest)) := by
  exact g_call hG (va_runSN (As := As) (rest := rest) (n := As.length) ⟨hx, hb, hml, hown, hts⟩ hM ⟨va_cnB As.length hts (gT_in hcode) rfl rfl rfl (hN _ hl) (hts _ hini) hd hR, hts _ hst, trivial⟩ ⟨g_blind, g_pre (av := As) hN hG⟩ rfl rfl hsz rfl (lv_room hW) hdg hf) kk
/-- getfield of an own or public field, of a nest mate's -/
theorem g_get {k : Nat} {v : Value} {C ref : String} (hx : p.tables.exec = Jvm.exec) (hb : c.code = cc) (hown : s.vm.findClass own = some m.cls) (hts : ∀ w ∈ gT, w.before args s = true) (hG : gG D cl tys A s ws H locs) (hin : ∀ w ∈ u_ws C T0 N0, w ∈ gT) (hc : cl[ci]? = some (C, T0, N0)) (he : ws[q0]? = some (b, .inr (ci, fs))) (hk : k < N0)
    (hl : Cond.fieldLink own index ref (T0 k).2.1 (T0 k).2.2.1 ∈ gT) (hsm : (T0 k).1 = ref) (hv : fs[k]? = some v) (hdg : decode cc pc = .ok (.getfield index, 3))
    (kk : W p l e R s m args below meth c H locs cells slots Q (F0 m (pc + 3) ls (v :: rest))) : W p l e R s m args below meth c H locs cells slots Q (F0 m pc ls (.ref b :: rest)) :=
  va_get hx hb hts hin hown hG.1 hG.2.1 q0 he hc k hk (hts _ hl) (fun _ h => by rw [← hsm]; exact h) hv hdg kk
theorem g_getN {k : Nat} {v : Value} {C ref : String} (hx : p.tables.exec = Jvm.exec) (hb : c.code = cc) (hown : s.vm.findClass own = some m.cls) (hts : ∀ w ∈ gT, w.before args s = true) (hN : gN s) (hG : gG D cl tys A s ws H locs) (hin : ∀ w ∈ u_ws C T0 N0, w ∈ gT) (hc : cl[ci]? = some (C, T0, N0)) (he : ws[q0]? = some (b, .inr (ci, fs))) (hk : k < N0)
    (hl : Cond.fieldLinkNest own index ref (T0 k).2.1 (T0 k).2.2.1 host ∈ gNw) (hsm : (T0 k).1 = ref) (hv : fs[k]? = some v) (hdg : decode cc pc = .ok (.getfield index, 3))
    (kk : W p l e R s m args below meth c H locs cells slots Q (F0 m (pc + 3) ls (v :: rest))) : W p l e R s m args below meth c H locs cells slots Q (F0 m pc ls (.ref b :: rest)) :=
  va_getN hx hb hts hin hown hG.1 hG.2.1 q0 he hc k hk (va_Nw.use rfl (hN _ hl)) (fun _ h => by rw [← hsm]; exact h) hv hdg kk
theorem g_put {k : Nat} {v : Value} {C ref : String} {ty : FieldType} (ty0 : Nat → FieldType) (hty : ∀ k, k < N0 → parseFieldDescriptor (T0 k).2.2.1 = some (ty0 k)) (hnm : ∀ a, a < N0 → ∀ b, b < N0 → a ≠ b → (T0 a).2.1 ≠ (T0 b).2.1) (hx : p.tables.exec = Jvm.exec) (hb : c.code = cc) (hown : s.vm.findClass own = some m.cls) (hts : ∀ w ∈ gT, w.before args s = true) (hG : gG D cl tys A s ws H locs) (hin : ∀ w ∈ u_ws C T0 N0, w ∈ gT) (hc : cl[ci]? = some (C, T0, N0)) (he : ws[q0]? = some (b, .inr (ci, fs))) (hk : k < N0)
    (hl : Cond.fieldLink own index ref (T0 k).2.1 (T0 k).2.2.1 ∈ gT) (hsm : (T0 k).1 = ref) (hfin : (T0 k).2.2.2 = false) (hd : parseFieldDescriptor (T0 k).2.2.1 = some ty) (hn : narrow ty v = v) (hfit : fits ty v = true) (hlen : k < fs.length) (hw : ws.set q0 (b, .inr (ci, fs.set k v)) = ws') (hdg : decode cc pc = .ok (.putfield index, 3))
    (kk : ∀ (H1 : Heap) (locs1 : List Loc), gG D cl tys A s ws' H1 locs1 → W p l e R s m args below meth c H1 locs1 cells slots Q (F0 m (pc + 3) ls rest)) : W p l e R s m args below meth c H locs cells slots Q (F0 m pc ls (v :: .ref b :: rest)) := by
  obtain ⟨hK, hP, hD, hS⟩ := hG
  subst hw
  exact va_put hx hb hts hin ty0 hty hnm hown hK hP hD hS q0 he hc k hk (hts _ hl) (fun _ h => by rw [← hsm]; exact h) hfin hd hn hfit hlen hdg (fun H1 locs1 a1 a2 a3 => kk H1 locs1 ⟨hK, a1, a2, a3⟩)
theorem g_putN {k : Nat} {v : Value} {C ref : String} {ty : FieldType} (ty0 : Nat → FieldType) (hty : ∀ k, k < N0 → parseFieldDescriptor (T0 k).2.2.1 = some (ty0 k)) (hnm : ∀ a, a < N0 → ∀ b, b < N0 → a ≠ b → (T0 a).2.1 ≠ (T0 b).2.1) (hx : p.tables.exec = Jvm.exec) (hb : c.code = cc) (hown : s.vm.findClass own = some m.cls) (hts : ∀ w ∈ gT, w.before args s = true) (hN : gN s) (hG : gG D cl tys A s ws H locs) (hin : ∀ w ∈ u_ws C T0 N0, w ∈ gT) (hc : cl[ci]? = some (C, T0, N0)) (he : ws[q0]? = some (b, .inr (ci, fs))) (hk : k < N0)
    (hl : Cond.fieldLinkNest own index ref (T0 k).2.1 (T0 k).2.2.1 host ∈ gNw) (hsm : (T0 k).1 = ref) (hfin : (T0 k).2.2.2 = false) (hd : parseFieldDescriptor (T0 k).2.2.1 = some ty) (hn : narrow ty v = v) (hfit : fits ty v = true) (hlen : k < fs.length) (hw : ws.set q0 (b, .inr (ci, fs.set k v)) = ws') (hdg : decode cc pc = .ok (.putfield index, 3))
    (kk : ∀ (H1 : Heap) (locs1 : List Loc), gG D cl tys A s ws' H1 locs1 → W p l e R s m args below meth c H1 locs1 cells slots Q (F0 m (pc + 3) ls rest)) : W p l e R s m args below meth c H locs cells slots Q (F0 m pc ls (v :: .ref b :: rest)) := by
  obtain ⟨hK, hP, hD, hS⟩ := hG
  subst hw
  exact va_putN hx hb hts hin ty0 hty hnm hown hK hP hD hS q0 he hc k hk (va_Nw.use rfl (hN _ hl)) (fun _ h => by rw [← hsm]; exact h) hfin hd hn hfit hlen hdg (fun H1 locs1 a1 a2 a3 => kk H1 locs1 ⟨hK, a1, a2, a3⟩)
/-- int arrays at a natural place -/
theorem g_iald {t0 n i : Nat} {cA : ClassId} {f : Nat → Int32} (hx : p.tables.exec = Jvm.exec) (hb : c.code = cc) (hG : gG D cl tys A s ws H locs) (ha : ws[q0]? = some (b, .inl (cA, n, .inl f))) (ht : tys[t0]? = some (cA, .int)) (hi : i < n) (hn : n < 2 ^ 31) (hdg : decode cc pc = .ok (.iaload, 1))
    (kk : W p l e R s m args below meth c H locs cells slots Q (F0 m (pc + 1) ls (.int (f i) :: rest))) : W p l e R s m args below meth c H locs cells slots Q (F0 m pc ls (.int (nI i) :: .ref b :: rest)) := by
  refine va_iald hx hb hG.1 hG.2.1 q0 t0 ha ht (vp_in_nI hi hn) hdg ?_
  rw [nI_clamp (Nat.lt_trans hi hn)]
  exact kk
theorem g_zald {t0 n i : Nat} {cA : ClassId} {f : Nat → Int32} (hx : p.tables.exec = Jvm.exec) (hb : c.code = cc) (hG : gG D cl tys A s ws H locs) (ha : ws[q0]? = some (b, .inl (cA, n, .inl f))) (ht : tys[t0]? = some (cA, .boolean)) (hi : i < n) (hn : n < 2 ^ 31) (hdg : decode cc pc = .ok (.baload, 1))
    (kk : W p l e R s m args below meth c H locs cells slots Q (F0 m (pc + 1) ls (.int (f i) :: rest))) : W p l e R s m args below meth c H locs cells slots Q (F0 m pc ls (.int (nI i) :: .ref b :: rest)) := by
  refine va_zald hx hb hG.1 hG.2.1 q0 t0 ha ht (vp_in_nI hi hn) hdg ?_
  rw [nI_clamp (Nat.lt_trans hi hn)]
  exact kk
theorem g_aald {t0 n i : Nat} {cA : ClassId} {C : String} {f : Nat → Option Nat} {x : Nat} (hx : p.tables.exec = Jvm.exec) (hb : c.code = cc) (hG : gG D cl tys A s ws H locs) (ha : ws[q0]? = some (b, .inl (cA, n, .inr (.inr (.inr (.inr f)))))) (ht : tys[t0]? = some (cA, .object C)) (hi : i < n) (hn : n < 2 ^ 31) (hf : f i = some x) (hdg : decode cc pc = .ok (.aaload, 1))
    (kk : W p l e R s m args below meth c H locs cells slots Q (F0 m (pc + 1) ls (.ref x :: rest))) : W p l e R s m args below meth c H locs cells slots Q (F0 m pc ls (.int (nI i) :: .ref b :: rest)) := by
  refine va_aldq hx hb hG.1 hG.2.1 q0 t0 ha ht (vp_in_nI hi hn) hdg ?_
  rw [nI_clamp (Nat.lt_trans hi hn), hf]
  exact kk
theorem g_iast {t0 n i : Nat} {cA : ClassId} {f : Nat → Int32} {x : Int32} (hx : p.tables.exec = Jvm.exec) (hb : c.code = cc) (hG : gG D cl tys A s ws H locs) (ha : ws[q0]? = some (b, .inl (cA, n, .inl f))) (ht : tys[t0]? = some (cA, .int)) (hi : i < n) (hn : n < 2 ^ 31) (hw : ws.set q0 (b, .inl (cA, n, .inl (upd f i x))) = ws') (hdg : decode cc pc = .ok (.iastore, 1))
    (kk : ∀ (H1 : Heap) (locs1 : List Loc), gG D cl tys A s ws' H1 locs1 → W p l e R s m args below meth c H1 locs1 cells slots Q (F0 m (pc + 1) ls rest)) : W p l e R s m args below meth c H locs cells slots Q (F0 m pc ls (.int x :: .int (nI i) :: .ref b :: rest)) := by
  obtain ⟨hK, hP, hD, hS⟩ := hG
  refine va_iast hx hb hK hP hD hS q0 t0 ha ht (vp_in_nI hi hn) hdg (fun H1 locs1 a1 a2 a3 => ?_)
  rw [nI_clamp (Nat.lt_trans hi hn), hw] at a1 a2
  exact kk H1 locs1 ⟨hK, a1, a2, a3⟩
/-- a join: the same frame with another list of locals -/
theorem g_top {x y : Int32} (h : x = y) (kk : W p l e R s m args below meth c H locs cells slots Q (F0 m pc ls (.int y :: rest))) : W p l e R s m args below meth c H locs cells slots Q (F0 m pc ls (.int x :: rest)) := by
  rw [h]; exact kk
theorem g_topl {x y : Int64} (h : x = y) (kk : W p l e R s m args below meth c H locs cells slots Q (F0 m pc ls (.long y :: rest))) : W p l e R s m args below meth c H locs cells slots Q (F0 m pc ls (.long x :: rest)) := by
  rw [h]; exact kk
end GL
