section CM
theorem arr_uniq {U : State} {c1 c2 : ClassId} (h1 : va_RA U c1 .int) (h2 : va_RA U c2 .int) : c1 = c2 := Option.some.inj (h1.symm.trans h2)
theorem arr_uniqZ {U : State} {c1 c2 : ClassId} (h1 : va_RA U c1 .boolean) (h2 : va_RA U c2 .boolean) : c1 = c2 := Option.some.inj (h1.symm.trans h2)
abbrev at_Sp (D : va_G) (A : Nat → Prop) (h0 : Nat) (u : ClassId × Nat × Nat) (t : State) : Prop := match u with
  | (c1, q1, q2) => va_P D cls [(h0, .inr (0, [.int 0, .long 0, .ref q1, .ref q2])), (q1, .inl (c1, 64, .inl (fun _ => 0))), (q2, .inl (c1, 64, .inl (fun _ => 0)))] t.heap ∧ va_K D cls [(c1, .int)] t ∧ va_D A [(h0, .inr (0, [.int 0, .long 0, .ref q1, .ref q2])), (q1, .inl (c1, 64, .inl (fun _ => 0))), (q2, .inl (c1, 64, .inl (fun _ => 0)))]
set_option maxHeartbeats 4000000 in
set_option maxRecDepth 100000 in
theorem c_Space (l : Launch) (D : va_G) (h0 sz : Nat) : Met l yX0_init (.code yX0_init cX0_init 1 none :: gT) ({ frames := 1, cells := 2, slots := 128, locals := 12 }) (va_Pc [.ref h0] (fun U => U.heap.size = sz ∧ va_P D cls [(h0, .inr (0, [.int 0, .long 0, .null, .null]))] U.heap ∧ va_K D cls [] U ∧ va_D (fun _ => True) [(h0, .inr (0, [.int 0, .long 0, .null, .null]))])) (va_Qv (fun _ : ClassId × Nat × Nat => True) (at_Sp D (va_A [(h0, .inr (0, [.int 0, .long 0, .null, .null]))] sz) h0) (va_A [(h0, .inr (0, [.int 0, .long 0, .null, .null]))] sz)) 2 128 (va_A [(h0, .inr (0, [.int 0, .long 0, .null, .null]))] sz) := by
  refine Met.ofW (cc := cX0_init) (maxL := 1) (ret := none) (by decide) rfl ?_
  intro p e s m args below meth c s₁ B hml hv
  obtain ⟨rfl, hsz, hP, hK, hD0⟩ := hv
  have hx := B.exec
  have hb := B.bytes
  have hr := B.returns
  have hts0 := atoms_spec (ws := .code yX0_init cX0_init 1 none :: gT) B.pre
  have hts : ∀ w ∈ gT, w.before _ s = true := fun w h => hts0 w (List.mem_cons_of_mem _ h)
  have hown : s.vm.findClass RX0 = some m.cls := findClass_of_methodNamed B.named
  have hlocks := B.notSynchronized
  have hin : meth.name = "<init>" := (name_of_methodNamed B.named B.method).1
  subst hsz
  have hD := hD0.self (sz := s.heap.size)
  generalize hAe : va_A [(h0, .inr (0, [.int 0, .long 0, .null, .null]))] s.heap.size = A at hD ⊢
  have hA : ∀ q : Nat, s.heap.size ≤ q → A q := fun q h => by rw [← hAe]; exact Or.inr h
  have hS : va_S A s.heap s.heap [] := va_S.rf
  have hP : va_P D cls [(h0, .inr (0, [.int 0, .long 0, .null, .null]))] s.heap := hP
  have hl := lv_entry ([.ref h0]) (n := 1) (Nat.le_of_ble_eq_true rfl)
  rw [lg_entry_eq]
  generalize (lg_sl ([.ref h0]) ++ List.replicate (1 - (lg_sl ([.ref h0])).length) Slot.unset).toArray = ls at hl ⊢
  have hl : lv_has ls 1 [(0, .ref h0)] := hl
  refine lv_aload_n hx hb dX0_init_0 rfl (lv_at hl 0 rfl) ?_
  refine W.objInit hx hb hown (hts _ t_20) (hts _ t_12) (hts _ t_13) rfl (by rw [hml]; exact hl.1) rfl dX0_init_1 (Nat.le_of_ble_eq_true rfl) (Nat.le_of_ble_eq_true rfl) ?_
  refine W.eq (g2 := F0 m 4 ls []) rfl ?_
  refine lv_aload_n hx hb dX0_init_4 rfl (lv_at hl 0 rfl) ?_
  refine lv_bipush (v := nI 64) hx hb dX0_init_5 (by decide) ?_
  refine va_newa (atype := .int) (a0 := (64, .inl (fun _ => 0))) (ty := .int) hx hb (hts _ t_37) rfl hK hP hD hS hA (fun _ => rfl) (by decide) (by decide) (by decide) (by decide) (by decide) dX0_init_7 (fun q1 c1 H hK hP hD hS => ?_)
  have hP : va_P D cls [(h0, .inr (0, [.int 0, .long 0, .null, .null])), (q1, .inl (c1, 64, .inl (fun _ => 0)))] H := hP
  have hD : va_D A [(h0, .inr (0, [.int 0, .long 0, .null, .null])), (q1, .inl (c1, 64, .inl (fun _ => 0)))] := hD
  have hK : va_K D cls [(c1, .int)] s := hK
  refine va_putF (D := D) (ci := 0) (v := .ref q1) (ty := .array .int) (C := RX0) (T := TX0) (N := 4) hx hb hts gX0 tyX0 tyX0_ok nmX0 hown hK hP hD hS 0 rfl rfl 2 (by decide) (hts _ t_24) (fun _ h9 => h9) rfl hin rfl (by decide +kernel) rfl rfl (Nat.le_of_ble_eq_true rfl) dX0_init_9 (fun H locs hP hD hS => ?_)
  have hP : va_P D cls [(h0, .inr (0, [.int 0, .long 0, .ref q1, .null])), (q1, .inl (c1, 64, .inl (fun _ => 0)))] H := hP
  have hD : va_D A [(h0, .inr (0, [.int 0, .long 0, .ref q1, .null])), (q1, .inl (c1, 64, .inl (fun _ => 0)))] := hD
  refine lv_aload_n hx hb dX0_init_12 rfl (lv_at hl 0 rfl) ?_
  refine lv_bipush (v := nI 64) hx hb dX0_init_13 (by decide) ?_
  refine va_newa (atype := .int) (a0 := (64, .inl (fun _ => 0))) (ty := .int) hx hb (hts _ t_37) rfl hK hP hD hS hA (fun _ => rfl) (by decide) (by decide) (by decide) (by decide) (by decide) dX0_init_15 (fun q2 c2 H hK hP hD hS => ?_)
  have hP : va_P D cls [(h0, .inr (0, [.int 0, .long 0, .ref q1, .null])), (q1, .inl (c1, 64, .inl (fun _ => 0))), (q2, .inl (c2, 64, .inl (fun _ => 0)))] H := hP
  have hD : va_D A [(h0, .inr (0, [.int 0, .long 0, .ref q1, .null])), (q1, .inl (c1, 64, .inl (fun _ => 0))), (q2, .inl (c2, 64, .inl (fun _ => 0)))] := hD
  have hK : va_K D cls [(c1, .int), (c2, .int)] s := hK
  obtain rfl : c1 = c2 := arr_uniq (hK.2 0 _ rfl).2 (hK.2 1 _ rfl).2
  refine va_putF (D := D) (ci := 0) (v := .ref q2) (ty := .array .int) (C := RX0) (T := TX0) (N := 4) hx hb hts gX0 tyX0 tyX0_ok nmX0 hown hK hP hD hS 0 rfl rfl 3 (by decide) (hts _ t_26) (fun _ h9 => h9) rfl hin rfl (by decide +kernel) rfl rfl (Nat.le_of_ble_eq_true rfl) dX0_init_17 (fun H locs hP hD hS => ?_)
  have hP : va_P D cls [(h0, .inr (0, [.int 0, .long 0, .ref q1, .ref q2])), (q1, .inl (c1, 64, .inl (fun _ => 0))), (q2, .inl (c1, 64, .inl (fun _ => 0)))] H := hP
  have hD : va_D A [(h0, .inr (0, [.int 0, .long 0, .ref q1, .ref q2])), (q1, .inl (c1, 64, .inl (fun _ => 0))), (q2, .inl (c1, 64, .inl (fun _ => 0)))] := hD
  have hK9 := hK.sub (tys' := [(c1, .int)]) [0] rfl
  refine W.widen (k := 2) (n := 128) (by decide) (by decide) ?_
  exact W.vret hx hb hr (fun t ht hW => ⟨⟨(c1, q1, q2), rfl, trivial, by rw [ht]; exact hP, va_K.moved hW.alike hK9, hD⟩, hS.F ht⟩) hS.2.2 dX0_init_20
abbrev at_St (D : va_G) (A : Nat → Prop) (h0 : Nat) (u : ClassId × Nat × Nat) (t : State) : Prop := match u with
  | (c1, q1, q2) => va_P D cls [(h0, .inr (1, [.ref q1, .ref q2])), (q1, .inl (c1, 96, .inl (fun _ => 0))), (q2, .inl (c1, 24, .inl (fun _ => 0)))] t.heap ∧ va_K D cls [(c1, .int)] t ∧ va_D A [(h0, .inr (1, [.ref q1, .ref q2])), (q1, .inl (c1, 96, .inl (fun _ => 0))), (q2, .inl (c1, 24, .inl (fun _ => 0)))]
set_option maxHeartbeats 4000000 in
set_option maxRecDepth 100000 in
theorem c_Store (l : Launch) (D : va_G) (h0 sz : Nat) : Met l yX1_init (.code yX1_init cX1_init 1 none :: gT) ({ frames := 1, cells := 2, slots := 120, locals := 12 }) (va_Pc [.ref h0] (fun U => U.heap.size = sz ∧ va_P D cls [(h0, .inr (1, [.null, .null]))] U.heap ∧ va_K D cls [] U ∧ va_D (fun _ => True) [(h0, .inr (1, [.null, .null]))])) (va_Qv (fun _ : ClassId × Nat × Nat => True) (at_St D (va_A [(h0, .inr (1, [.null, .null]))] sz) h0) (va_A [(h0, .inr (1, [.null, .null]))] sz)) 2 120 (va_A [(h0, .inr (1, [.null, .null]))] sz) := by
  refine Met.ofW (cc := cX1_init) (maxL := 1) (ret := none) (by decide) rfl ?_
  intro p e s m args below meth c s₁ B hml hv
  obtain ⟨rfl, hsz, hP, hK, hD0⟩ := hv
  have hx := B.exec
  have hb := B.bytes
  have hr := B.returns
  have hts0 := atoms_spec (ws := .code yX1_init cX1_init 1 none :: gT) B.pre
  have hts : ∀ w ∈ gT, w.before _ s = true := fun w h => hts0 w (List.mem_cons_of_mem _ h)
  have hown : s.vm.findClass RX1 = some m.cls := findClass_of_methodNamed B.named
  have hlocks := B.notSynchronized
  have hin : meth.name = "<init>" := (name_of_methodNamed B.named B.method).1
  subst hsz
  have hD := hD0.self (sz := s.heap.size)
  generalize hAe : va_A [(h0, .inr (1, [.null, .null]))] s.heap.size = A at hD ⊢
  have hA : ∀ q : Nat, s.heap.size ≤ q → A q := fun q h => by rw [← hAe]; exact Or.inr h
  have hS : va_S A s.heap s.heap [] := va_S.rf
  have hP : va_P D cls [(h0, .inr (1, [.null, .null]))] s.heap := hP
  have hl := lv_entry ([.ref h0]) (n := 1) (Nat.le_of_ble_eq_true rfl)
  rw [lg_entry_eq]
  generalize (lg_sl ([.ref h0]) ++ List.replicate (1 - (lg_sl ([.ref h0])).length) Slot.unset).toArray = ls at hl ⊢
  have hl : lv_has ls 1 [(0, .ref h0)] := hl
  refine lv_aload_n hx hb dX1_init_0 rfl (lv_at hl 0 rfl) ?_
  refine W.objInit hx hb hown (hts _ t_43) (hts _ t_12) (hts _ t_13) rfl (by rw [hml]; exact hl.1) rfl dX1_init_1 (Nat.le_of_ble_eq_true rfl) (Nat.le_of_ble_eq_true rfl) ?_
  refine W.eq (g2 := F0 m 4 ls []) rfl ?_
  refine lv_aload_n hx hb dX1_init_4 rfl (lv_at hl 0 rfl) ?_
  refine lv_bipush (v := nI 96) hx hb dX1_init_5 (by decide) ?_
  refine va_newa (atype := .int) (a0 := (96, .inl (fun _ => 0))) (ty := .int) hx hb (hts _ t_37) rfl hK hP hD hS hA (fun _ => rfl) (by decide) (by decide) (by decide) (by decide) (by decide) dX1_init_7 (fun q1 c1 H hK hP hD hS => ?_)
  have hP : va_P D cls [(h0, .inr (1, [.null, .null])), (q1, .inl (c1, 96, .inl (fun _ => 0)))] H := hP
  have hD : va_D A [(h0, .inr (1, [.null, .null])), (q1, .inl (c1, 96, .inl (fun _ => 0)))] := hD
  have hK : va_K D cls [(c1, .int)] s := hK
  refine va_putF (D := D) (ci := 1) (v := .ref q1) (ty := .array .int) (C := RX1) (T := TX1) (N := 2) hx hb hts gX1 tyX1 tyX1_ok nmX1 hown hK hP hD hS 0 rfl rfl 0 (by decide) (hts _ t_44) (fun _ h9 => h9) rfl hin rfl (by decide +kernel) rfl rfl (Nat.le_of_ble_eq_true rfl) dX1_init_9 (fun H locs hP hD hS => ?_)
  have hP : va_P D cls [(h0, .inr (1, [.ref q1, .null])), (q1, .inl (c1, 96, .inl (fun _ => 0)))] H := hP
  have hD : va_D A [(h0, .inr (1, [.ref q1, .null])), (q1, .inl (c1, 96, .inl (fun _ => 0)))] := hD
  refine lv_aload_n hx hb dX1_init_12 rfl (lv_at hl 0 rfl) ?_
  refine lv_bipush (v := nI 24) hx hb dX1_init_13 (by decide) ?_
  refine va_newa (atype := .int) (a0 := (24, .inl (fun _ => 0))) (ty := .int) hx hb (hts _ t_37) rfl hK hP hD hS hA (fun _ => rfl) (by decide) (by decide) (by decide) (by decide) (by decide) dX1_init_15 (fun q2 c2 H hK hP hD hS => ?_)
  have hP : va_P D cls [(h0, .inr (1, [.ref q1, .null])), (q1, .inl (c1, 96, .inl (fun _ => 0))), (q2, .inl (c2, 24, .inl (fun _ => 0)))] H := hP
  have hD : va_D A [(h0, .inr (1, [.ref q1, .null])), (q1, .inl (c1, 96, .inl (fun _ => 0))), (q2, .inl (c2, 24, .inl (fun _ => 0)))] := hD
  have hK : va_K D cls [(c1, .int), (c2, .int)] s := hK
  obtain rfl : c1 = c2 := arr_uniq (hK.2 0 _ rfl).2 (hK.2 1 _ rfl).2
  refine va_putF (D := D) (ci := 1) (v := .ref q2) (ty := .array .int) (C := RX1) (T := TX1) (N := 2) hx hb hts gX1 tyX1 tyX1_ok nmX1 hown hK hP hD hS 0 rfl rfl 1 (by decide) (hts _ t_46) (fun _ h9 => h9) rfl hin rfl (by decide +kernel) rfl rfl (Nat.le_of_ble_eq_true rfl) dX1_init_17 (fun H locs hP hD hS => ?_)
  have hP : va_P D cls [(h0, .inr (1, [.ref q1, .ref q2])), (q1, .inl (c1, 96, .inl (fun _ => 0))), (q2, .inl (c1, 24, .inl (fun _ => 0)))] H := hP
  have hD : va_D A [(h0, .inr (1, [.ref q1, .ref q2])), (q1, .inl (c1, 96, .inl (fun _ => 0))), (q2, .inl (c1, 24, .inl (fun _ => 0)))] := hD
  have hK9 := hK.sub (tys' := [(c1, .int)]) [0] rfl
  refine W.widen (k := 2) (n := 120) (by decide) (by decide) ?_
  exact W.vret hx hb hr (fun t ht hW => ⟨⟨(c1, q1, q2), rfl, trivial, by rw [ht]; exact hP, va_K.moved hW.alike hK9, hD⟩, hS.F ht⟩) hS.2.2 dX1_init_20
abbrev at_Rf (D : va_G) (A : Nat → Prop) (h0 : Nat) (u : (Nat → Nat) × ClassId × ClassId) (t : State) : Prop := u.1 0 = h0 ∧ va_P D cls (rfW u.1 u.2.1 u.2.2 (fun _ => false) (fun _ => 0) (fun _ => false) (fun _ => false) (fun _ => false) (fun _ => 0) 0 0) t.heap ∧ va_K D cls [(u.2.1, .int), (u.2.2, .boolean)] t ∧ va_D A (rfW u.1 u.2.1 u.2.2 (fun _ => false) (fun _ => 0) (fun _ => false) (fun _ => false) (fun _ => false) (fun _ => 0) 0 0)
set_option maxHeartbeats 4000000 in
set_option maxRecDepth 100000 in
theorem c_Ref (l : Launch) (D : va_G) (h0 sz : Nat) : Met l yX3_init (.code yX3_init cX3_init 1 none :: gT) ({ frames := 1, cells := 6, slots := 1381, locals := 12 }) (va_Pc [.ref h0] (fun U => U.heap.size = sz ∧ va_P D cls [(h0, .inr (3, [.null, .null, .null, .null, .null, .null, .int 0, .int 0]))] U.heap ∧ va_K D cls [] U ∧ va_D (fun _ => True) [(h0, .inr (3, [.null, .null, .null, .null, .null, .null, .int 0, .int 0]))])) (va_Qv (fun _ : (Nat → Nat) × ClassId × ClassId => True) (at_Rf D (va_A [(h0, .inr (3, [.null, .null, .null, .null, .null, .null, .int 0, .int 0]))] sz) h0) (va_A [(h0, .inr (3, [.null, .null, .null, .null, .null, .null, .int 0, .int 0]))] sz)) 6 1381 (va_A [(h0, .inr (3, [.null, .null, .null, .null, .null, .null, .int 0, .int 0]))] sz) := by
  refine Met.ofW (cc := cX3_init) (maxL := 1) (ret := none) (by decide) rfl ?_
  intro p e s m args below meth c s₁ B hml hv
  obtain ⟨rfl, hsz, hP, hK, hD0⟩ := hv
  have hx := B.exec
  have hb := B.bytes
  have hr := B.returns
  have hts0 := atoms_spec (ws := .code yX3_init cX3_init 1 none :: gT) B.pre
  have hts : ∀ w ∈ gT, w.before _ s = true := fun w h => hts0 w (List.mem_cons_of_mem _ h)
  have hown : s.vm.findClass RX3 = some m.cls := findClass_of_methodNamed B.named
  have hlocks := B.notSynchronized
  have hin : meth.name = "<init>" := (name_of_methodNamed B.named B.method).1
  subst hsz
  have hD := hD0.self (sz := s.heap.size)
  generalize hAe : va_A [(h0, .inr (3, [.null, .null, .null, .null, .null, .null, .int 0, .int 0]))] s.heap.size = A at hD ⊢
  have hA : ∀ q : Nat, s.heap.size ≤ q → A q := fun q h => by rw [← hAe]; exact Or.inr h
  have hS : va_S A s.heap s.heap [] := va_S.rf
  have hP : va_P D cls [(h0, .inr (3, [.null, .null, .null, .null, .null, .null, .int 0, .int 0]))] s.heap := hP
  have hl := lv_entry ([.ref h0]) (n := 1) (Nat.le_of_ble_eq_true rfl)
  rw [lg_entry_eq]
  generalize (lg_sl ([.ref h0]) ++ List.replicate (1 - (lg_sl ([.ref h0])).length) Slot.unset).toArray = ls at hl ⊢
  have hl : lv_has ls 1 [(0, .ref h0)] := hl
  refine lv_aload_n hx hb dX3_init_0 rfl (lv_at hl 0 rfl) ?_
  refine W.objInit hx hb hown (hts _ t_237) (hts _ t_12) (hts _ t_13) rfl (by rw [hml]; exact hl.1) rfl dX3_init_1 (Nat.le_of_ble_eq_true rfl) (Nat.le_of_ble_eq_true rfl) ?_
  refine W.eq (g2 := F0 m 4 ls []) rfl ?_
  refine lv_aload_n hx hb dX3_init_4 rfl (lv_at hl 0 rfl) ?_
  refine lv_iconst (v := nI 5) hx hb dX3_init_5 (by decide) ?_
  refine va_newa (atype := .boolean) (a0 := (5, .inl (fun _ => 0))) (ty := .boolean) hx hb (hts _ t_263) rfl hK hP hD hS hA (fun _ => rfl) (by decide) (by decide) (by decide) (by decide) (by decide) dX3_init_6 (fun q1 c1 H hK hP hD hS => ?_)
  have hP : va_P D cls [(h0, .inr (3, [.null, .null, .null, .null, .null, .null, .int 0, .int 0])), (q1, .inl (c1, 5, .inl (fun _ => 0)))] H := hP
  have hD : va_D A [(h0, .inr (3, [.null, .null, .null, .null, .null, .null, .int 0, .int 0])), (q1, .inl (c1, 5, .inl (fun _ => 0)))] := hD
  have hK : va_K D cls [(c1, .boolean)] s := hK
  refine va_put (D := D) (ci := 3) (v := .ref q1) (ty := .array .boolean) (C := RX3) (T := TX3) (N := 8) hx hb hts gX3 tyX3 tyX3_ok nmX3 hown hK hP hD hS 0 rfl rfl 0 (by decide) (hts _ t_238) (fun _ h9 => h9) rfl (by decide +kernel) rfl rfl (Nat.le_of_ble_eq_true rfl) dX3_init_8 (fun H locs hP hD hS => ?_)
  have hP : va_P D cls [(h0, .inr (3, [.ref q1, .null, .null, .null, .null, .null, .int 0, .int 0])), (q1, .inl (c1, 5, .inl (fun _ => 0)))] H := hP
  have hD : va_D A [(h0, .inr (3, [.ref q1, .null, .null, .null, .null, .null, .int 0, .int 0])), (q1, .inl (c1, 5, .inl (fun _ => 0)))] := hD
  refine lv_aload_n hx hb dX3_init_11 rfl (lv_at hl 0 rfl) ?_
  refine lv_sipush (v := nI 320) hx hb dX3_init_12 (by decide) ?_
  refine va_newa (atype := .int) (a0 := (320, .inl (fun _ => 0))) (ty := .int) hx hb (hts _ t_37) rfl hK hP hD hS hA (fun _ => rfl) (by decide) (by decide) (by decide) (by decide) (by decide) dX3_init_15 (fun q2 c2 H hK hP hD hS => ?_)
  have hP : va_P D cls [(h0, .inr (3, [.ref q1, .null, .null, .null, .null, .null, .int 0, .int 0])), (q1, .inl (c1, 5, .inl (fun _ => 0))), (q2, .inl (c2, 320, .inl (fun _ => 0)))] H := hP
  have hD : va_D A [(h0, .inr (3, [.ref q1, .null, .null, .null, .null, .null, .int 0, .int 0])), (q1, .inl (c1, 5, .inl (fun _ => 0))), (q2, .inl (c2, 320, .inl (fun _ => 0)))] := hD
  have hK : va_K D cls [(c1, .boolean), (c2, .int)] s := hK
  refine va_put (D := D) (ci := 3) (v := .ref q2) (ty := .array .int) (C := RX3) (T := TX3) (N := 8) hx hb hts gX3 tyX3 tyX3_ok nmX3 hown hK hP hD hS 0 rfl rfl 1 (by decide) (hts _ t_239) (fun _ h9 => h9) rfl (by decide +kernel) rfl rfl (Nat.le_of_ble_eq_true rfl) dX3_init_17 (fun H locs hP hD hS => ?_)
  have hP : va_P D cls [(h0, .inr (3, [.ref q1, .ref q2, .null, .null, .null, .null, .int 0, .int 0])), (q1, .inl (c1, 5, .inl (fun _ => 0))), (q2, .inl (c2, 320, .inl (fun _ => 0)))] H := hP
  have hD : va_D A [(h0, .inr (3, [.ref q1, .ref q2, .null, .null, .null, .null, .int 0, .int 0])), (q1, .inl (c1, 5, .inl (fun _ => 0))), (q2, .inl (c2, 320, .inl (fun _ => 0)))] := hD
  refine lv_aload_n hx hb dX3_init_20 rfl (lv_at hl 0 rfl) ?_
  refine lv_sipush (v := nI 320) hx hb dX3_init_21 (by decide) ?_
  refine va_newa (atype := .boolean) (a0 := (320, .inl (fun _ => 0))) (ty := .boolean) hx hb (hts _ t_263) rfl hK hP hD hS hA (fun _ => rfl) (by decide) (by decide) (by decide) (by decide) (by decide) dX3_init_24 (fun q3 c3 H hK hP hD hS => ?_)
  have hP : va_P D cls [(h0, .inr (3, [.ref q1, .ref q2, .null, .null, .null, .null, .int 0, .int 0])), (q1, .inl (c1, 5, .inl (fun _ => 0))), (q2, .inl (c2, 320, .inl (fun _ => 0))), (q3, .inl (c3, 320, .inl (fun _ => 0)))] H := hP
  have hD : va_D A [(h0, .inr (3, [.ref q1, .ref q2, .null, .null, .null, .null, .int 0, .int 0])), (q1, .inl (c1, 5, .inl (fun _ => 0))), (q2, .inl (c2, 320, .inl (fun _ => 0))), (q3, .inl (c3, 320, .inl (fun _ => 0)))] := hD
  have hK : va_K D cls [(c1, .boolean), (c2, .int), (c3, .boolean)] s := hK
  obtain rfl : c1 = c3 := arr_uniqZ (hK.2 0 _ rfl).2 (hK.2 2 _ rfl).2
  refine va_put (D := D) (ci := 3) (v := .ref q3) (ty := .array .boolean) (C := RX3) (T := TX3) (N := 8) hx hb hts gX3 tyX3 tyX3_ok nmX3 hown hK hP hD hS 0 rfl rfl 2 (by decide) (hts _ t_240) (fun _ h9 => h9) rfl (by decide +kernel) rfl rfl (Nat.le_of_ble_eq_true rfl) dX3_init_26 (fun H locs hP hD hS => ?_)
  have hP : va_P D cls [(h0, .inr (3, [.ref q1, .ref q2, .ref q3, .null, .null, .null, .int 0, .int 0])), (q1, .inl (c1, 5, .inl (fun _ => 0))), (q2, .inl (c2, 320, .inl (fun _ => 0))), (q3, .inl (c1, 320, .inl (fun _ => 0)))] H := hP
  have hD : va_D A [(h0, .inr (3, [.ref q1, .ref q2, .ref q3, .null, .null, .null, .int 0, .int 0])), (q1, .inl (c1, 5, .inl (fun _ => 0))), (q2, .inl (c2, 320, .inl (fun _ => 0))), (q3, .inl (c1, 320, .inl (fun _ => 0)))] := hD
  refine lv_aload_n hx hb dX3_init_29 rfl (lv_at hl 0 rfl) ?_
  refine lv_sipush (v := nI 320) hx hb dX3_init_30 (by decide) ?_
  refine va_newa (atype := .boolean) (a0 := (320, .inl (fun _ => 0))) (ty := .boolean) hx hb (hts _ t_263) rfl hK hP hD hS hA (fun _ => rfl) (by decide) (by decide) (by decide) (by decide) (by decide) dX3_init_33 (fun q4 c4 H hK hP hD hS => ?_)
  have hP : va_P D cls [(h0, .inr (3, [.ref q1, .ref q2, .ref q3, .null, .null, .null, .int 0, .int 0])), (q1, .inl (c1, 5, .inl (fun _ => 0))), (q2, .inl (c2, 320, .inl (fun _ => 0))), (q3, .inl (c1, 320, .inl (fun _ => 0))), (q4, .inl (c4, 320, .inl (fun _ => 0)))] H := hP
  have hD : va_D A [(h0, .inr (3, [.ref q1, .ref q2, .ref q3, .null, .null, .null, .int 0, .int 0])), (q1, .inl (c1, 5, .inl (fun _ => 0))), (q2, .inl (c2, 320, .inl (fun _ => 0))), (q3, .inl (c1, 320, .inl (fun _ => 0))), (q4, .inl (c4, 320, .inl (fun _ => 0)))] := hD
  have hK : va_K D cls [(c1, .boolean), (c2, .int), (c1, .boolean), (c4, .boolean)] s := hK
  obtain rfl : c1 = c4 := arr_uniqZ (hK.2 0 _ rfl).2 (hK.2 3 _ rfl).2
  refine va_put (D := D) (ci := 3) (v := .ref q4) (ty := .array .boolean) (C := RX3) (T := TX3) (N := 8) hx hb hts gX3 tyX3 tyX3_ok nmX3 hown hK hP hD hS 0 rfl rfl 3 (by decide) (hts _ t_241) (fun _ h9 => h9) rfl (by decide +kernel) rfl rfl (Nat.le_of_ble_eq_true rfl) dX3_init_35 (fun H locs hP hD hS => ?_)
  have hP : va_P D cls [(h0, .inr (3, [.ref q1, .ref q2, .ref q3, .ref q4, .null, .null, .int 0, .int 0])), (q1, .inl (c1, 5, .inl (fun _ => 0))), (q2, .inl (c2, 320, .inl (fun _ => 0))), (q3, .inl (c1, 320, .inl (fun _ => 0))), (q4, .inl (c1, 320, .inl (fun _ => 0)))] H := hP
  have hD : va_D A [(h0, .inr (3, [.ref q1, .ref q2, .ref q3, .ref q4, .null, .null, .int 0, .int 0])), (q1, .inl (c1, 5, .inl (fun _ => 0))), (q2, .inl (c2, 320, .inl (fun _ => 0))), (q3, .inl (c1, 320, .inl (fun _ => 0))), (q4, .inl (c1, 320, .inl (fun _ => 0)))] := hD
  refine lv_aload_n hx hb dX3_init_38 rfl (lv_at hl 0 rfl) ?_
  refine lv_sipush (v := nI 320) hx hb dX3_init_39 (by decide) ?_
  refine va_newa (atype := .boolean) (a0 := (320, .inl (fun _ => 0))) (ty := .boolean) hx hb (hts _ t_263) rfl hK hP hD hS hA (fun _ => rfl) (by decide) (by decide) (by decide) (by decide) (by decide) dX3_init_42 (fun q5 c5 H hK hP hD hS => ?_)
  have hP : va_P D cls [(h0, .inr (3, [.ref q1, .ref q2, .ref q3, .ref q4, .null, .null, .int 0, .int 0])), (q1, .inl (c1, 5, .inl (fun _ => 0))), (q2, .inl (c2, 320, .inl (fun _ => 0))), (q3, .inl (c1, 320, .inl (fun _ => 0))), (q4, .inl (c1, 320, .inl (fun _ => 0))), (q5, .inl (c5, 320, .inl (fun _ => 0)))] H := hP
  have hD : va_D A [(h0, .inr (3, [.ref q1, .ref q2, .ref q3, .ref q4, .null, .null, .int 0, .int 0])), (q1, .inl (c1, 5, .inl (fun _ => 0))), (q2, .inl (c2, 320, .inl (fun _ => 0))), (q3, .inl (c1, 320, .inl (fun _ => 0))), (q4, .inl (c1, 320, .inl (fun _ => 0))), (q5, .inl (c5, 320, .inl (fun _ => 0)))] := hD
  have hK : va_K D cls [(c1, .boolean), (c2, .int), (c1, .boolean), (c1, .boolean), (c5, .boolean)] s := hK
  obtain rfl : c1 = c5 := arr_uniqZ (hK.2 0 _ rfl).2 (hK.2 4 _ rfl).2
  refine va_put (D := D) (ci := 3) (v := .ref q5) (ty := .array .boolean) (C := RX3) (T := TX3) (N := 8) hx hb hts gX3 tyX3 tyX3_ok nmX3 hown hK hP hD hS 0 rfl rfl 4 (by decide) (hts _ t_242) (fun _ h9 => h9) rfl (by decide +kernel) rfl rfl (Nat.le_of_ble_eq_true rfl) dX3_init_44 (fun H locs hP hD hS => ?_)
  have hP : va_P D cls [(h0, .inr (3, [.ref q1, .ref q2, .ref q3, .ref q4, .ref q5, .null, .int 0, .int 0])), (q1, .inl (c1, 5, .inl (fun _ => 0))), (q2, .inl (c2, 320, .inl (fun _ => 0))), (q3, .inl (c1, 320, .inl (fun _ => 0))), (q4, .inl (c1, 320, .inl (fun _ => 0))), (q5, .inl (c1, 320, .inl (fun _ => 0)))] H := hP
  have hD : va_D A [(h0, .inr (3, [.ref q1, .ref q2, .ref q3, .ref q4, .ref q5, .null, .int 0, .int 0])), (q1, .inl (c1, 5, .inl (fun _ => 0))), (q2, .inl (c2, 320, .inl (fun _ => 0))), (q3, .inl (c1, 320, .inl (fun _ => 0))), (q4, .inl (c1, 320, .inl (fun _ => 0))), (q5, .inl (c1, 320, .inl (fun _ => 0)))] := hD
  refine lv_aload_n hx hb dX3_init_47 rfl (lv_at hl 0 rfl) ?_
  refine lv_bipush (v := nI 96) hx hb dX3_init_48 (by decide) ?_
  refine va_newa (atype := .int) (a0 := (96, .inl (fun _ => 0))) (ty := .int) hx hb (hts _ t_37) rfl hK hP hD hS hA (fun _ => rfl) (by decide) (by decide) (by decide) (by decide) (by decide) dX3_init_50 (fun q6 c6 H hK hP hD hS => ?_)
  have hP : va_P D cls [(h0, .inr (3, [.ref q1, .ref q2, .ref q3, .ref q4, .ref q5, .null, .int 0, .int 0])), (q1, .inl (c1, 5, .inl (fun _ => 0))), (q2, .inl (c2, 320, .inl (fun _ => 0))), (q3, .inl (c1, 320, .inl (fun _ => 0))), (q4, .inl (c1, 320, .inl (fun _ => 0))), (q5, .inl (c1, 320, .inl (fun _ => 0))), (q6, .inl (c6, 96, .inl (fun _ => 0)))] H := hP
  have hD : va_D A [(h0, .inr (3, [.ref q1, .ref q2, .ref q3, .ref q4, .ref q5, .null, .int 0, .int 0])), (q1, .inl (c1, 5, .inl (fun _ => 0))), (q2, .inl (c2, 320, .inl (fun _ => 0))), (q3, .inl (c1, 320, .inl (fun _ => 0))), (q4, .inl (c1, 320, .inl (fun _ => 0))), (q5, .inl (c1, 320, .inl (fun _ => 0))), (q6, .inl (c6, 96, .inl (fun _ => 0)))] := hD
  have hK : va_K D cls [(c1, .boolean), (c2, .int), (c1, .boolean), (c1, .boolean), (c1, .boolean), (c6, .int)] s := hK
  obtain rfl : c2 = c6 := arr_uniq (hK.2 1 _ rfl).2 (hK.2 5 _ rfl).2
  refine va_put (D := D) (ci := 3) (v := .ref q6) (ty := .array .int) (C := RX3) (T := TX3) (N := 8) hx hb hts gX3 tyX3 tyX3_ok nmX3 hown hK hP hD hS 0 rfl rfl 5 (by decide) (hts _ t_243) (fun _ h9 => h9) rfl (by decide +kernel) rfl rfl (Nat.le_of_ble_eq_true rfl) dX3_init_52 (fun H locs hP hD hS => ?_)
  have hP : va_P D cls [(h0, .inr (3, [.ref q1, .ref q2, .ref q3, .ref q4, .ref q5, .ref q6, .int 0, .int 0])), (q1, .inl (c1, 5, .inl (fun _ => 0))), (q2, .inl (c2, 320, .inl (fun _ => 0))), (q3, .inl (c1, 320, .inl (fun _ => 0))), (q4, .inl (c1, 320, .inl (fun _ => 0))), (q5, .inl (c1, 320, .inl (fun _ => 0))), (q6, .inl (c2, 96, .inl (fun _ => 0)))] H := hP
  have hD : va_D A [(h0, .inr (3, [.ref q1, .ref q2, .ref q3, .ref q4, .ref q5, .ref q6, .int 0, .int 0])), (q1, .inl (c1, 5, .inl (fun _ => 0))), (q2, .inl (c2, 320, .inl (fun _ => 0))), (q3, .inl (c1, 320, .inl (fun _ => 0))), (q4, .inl (c1, 320, .inl (fun _ => 0))), (q5, .inl (c1, 320, .inl (fun _ => 0))), (q6, .inl (c2, 96, .inl (fun _ => 0)))] := hD
  have hK9 := hK.sub (tys' := [(c2, .int), (c1, .boolean)]) [1, 0] rfl
  have hP9 : va_P D cls (rfW (fun i => [h0, q1, q2, q3, q4, q5, q6].getD i 0) c2 c1 (fun _ => false) (fun _ => 0) (fun _ => false) (fun _ => false) (fun _ => false) (fun _ => 0) 0 0) H := hP
  have hD9 : va_D A (rfW (fun i => [h0, q1, q2, q3, q4, q5, q6].getD i 0) c2 c1 (fun _ => false) (fun _ => 0) (fun _ => false) (fun _ => false) (fun _ => false) (fun _ => 0) 0 0) := hD
  refine W.widen (k := 6) (n := 1381) (by decide) (by decide) ?_
  exact W.vret hx hb hr (fun t ht hW => ⟨⟨((fun i => [h0, q1, q2, q3, q4, q5, q6].getD i 0), c2, c1), rfl, trivial, rfl, by rw [ht]; exact hP9, va_K.moved hW.alike hK9, hD9⟩, hS.F ht⟩) hS.2.2 dX3_init_55
end CM
