section CM
variable {p : Program} {e : Env} {s : State} {m : MethodId} {below : List Frame} {meth : Method} {c : Code} {b L : Nat} {xs : Nat → Int32} {D : va_G} {ad bd : Nat → Nat} {cI cQ cZ : ClassId}
theorem sc_no {i L : Nat} (hL : L ≤ 2560) (hi : i + 5 ≤ L) : ¬ (Int32.ofNat L - nI 5 < nI i) := by
  intro h
  rw [Int32.lt_iff_toInt_lt] at h
  have h1 : (Int32.ofNat L - nI 5).toInt = (L : Int) - (5 : Nat) := pk_sub_toInt (a := L) (b := 5) (by omega) (by decide)
  rw [h1, nI_toInt (by omega)] at h
  omega
theorem sc_yes {i L : Nat} (hL : L ≤ 2560) (hi : i ≤ L) (hn : ¬ i + 5 ≤ L) : Int32.ofNat L - nI 5 < nI i := by
  rw [Int32.lt_iff_toInt_lt]
  have h1 : (Int32.ofNat L - nI 5).toInt = (L : Int) - (5 : Nat) := pk_sub_toInt (a := L) (b := 5) (by omega) (by decide)
  rw [h1, nI_toInt (by omega)]
  omega
set_option maxHeartbeats 4000000 in
set_option maxRecDepth 100000 in
theorem lw_loop (l : Launch) (hL : L ≤ 2560) (C0 : lw_At p s m meth c b L xs) : ∀ (n i : Nat) (H : Heap) (locs : List Loc) (ls : Array Slot) (run : Nat → Bool) (mp : Nat → Nat → Bool) (fr : Nat → Nat → Nat) (kd : Nat → Nat → Int32) (wd ct : Nat → Int32) (af cf : Int32) (fm : Nat → Nat) (cm wr mk : Nat → Bool) (wo : Nat → Int32), i ≤ L → L - i < n → Iv run mp fr kd wd ct fm cm wr mk wo → gG D cls (fpT cI cQ cZ) (fun q => s.heap.size ≤ q) s (fpW ad cI cQ run mp fr kd wd ct af cf ++ rfW bd cI cZ run fm cm wr mk wo af cf) H locs → lv_has ls 4 [(3, .int (nI i)), (1, .ref (ad 0)), (2, .ref (bd 0)), (0, .ref b)] → W p l e room_1 s m #[Value.ref b] below meth c H locs 600000 7302250 (lw_Z below #[Value.ref b] s) (F0 m 18 ls []) := by
  intro n
  induction n with
  | zero => intro i H locs ls run mp fr kd wd ct af cf fm cm wr mk wo hi hn; omega
  | succ n ih =>
    intro i H locs ls run mp fr kd wd ct af cf fm cm wr mk wo hi hn hI hG hl
    obtain ⟨hx, hb, hr0, hml, hown, hts0, hX, hbl, hlk, hgv⟩ := id C0
    refine lv_iload_n hx hb dL_law_18 rfl (lv_at hl 0 rfl) ?_
    refine lv_aload_n hx hb dL_law_19 rfl (lv_at hl 3 rfl) ?_
    refine va_slen hx hb hX hbl (A := fun q => s.heap.size ≤ q) (fun h => absurd hbl (Nat.not_lt.mpr h)) hG.2.2.2 dL_law_20 ?_
    refine lv_iconst (v := nI 5) hx hb dL_law_21 (by decide) ?_
    refine lv_isub hx hb dL_law_22 ?_
    by_cases hc : i + 5 ≤ L
    · refine lv_icmp_gt (tgt := 692) hx hb dL_law_23 rfl (fun hh => absurd hh (sc_no hL hc)) (fun _ => ?_)
      refine lv_aload_n hx hb dL_law_26 rfl (lv_at hl 3 rfl) ?_
      refine lv_iload_n hx hb dL_law_27 rfl (lv_at hl 0 rfl) ?_
      refine g_sld (i := i) hx hb hX hbl hG (by omega) (by omega) dL_law_28 ?_
      refine lv_bipush (v := nI 31) hx hb dL_law_29 (by decide) ?_
      refine lv_iand hx hb dL_law_31 ?_
      obtain ⟨t, ht, et⟩ := pk_andE (xs i) (m := nI 31) 5 (by decide)
      refine g_top (y := nI t) et ?_
      have kk : ∀ (H : Heap) (locs : List Loc) (run : Nat → Bool) (mp : Nat → Nat → Bool) (fr : Nat → Nat → Nat) (kd : Nat → Nat → Int32) (wd ct : Nat → Int32) (af cf : Int32) (fm : Nat → Nat) (cm wr mk : Nat → Bool) (wo : Nat → Int32), Iv run mp fr kd wd ct fm cm wr mk wo → gG D cls (fpT cI cQ cZ) (fun q => s.heap.size ≤ q) s (fpW ad cI cQ run mp fr kd wd ct af cf ++ rfW bd cI cZ run fm cm wr mk wo af cf) H locs → W p l e room_1 s m #[Value.ref b] below meth c H locs 600000 7302250 (lw_Z below #[Value.ref b] s) (F0 m 686 ls []) := by
        intro H locs run mp fr kd wd ct af cf fm cm wr mk wo hI hG
        refine lv_iinc (k := 0) (v := nI (i + 5)) (lv' := [(3, .int (nI (i + 5))), (1, .ref (ad 0)), (2, .ref (bd 0)), (0, .ref b)]) hx hb dL_law_686 hl rfl (nI_add i 5) (by decide) rfl (fun ls hl => ?_)
        refine lv_goto (tgt := 18) hx hb dL_law_689 rfl ?_
        exact ih (i + 5) H locs ls run mp fr kd wd ct af cf fm cm wr mk wo hc (by omega) hI hG hl
      have hcase : t = 0 ∨ t = 1 ∨ t = 2 ∨ t = 3 ∨ t = 4 ∨ t = 5 ∨ t = 6 ∨ t = 7 ∨ t = 8 ∨ t = 9 ∨ t = 10 ∨ t = 11 ∨ t = 12 ∨ t = 13 ∨ t = 14 ∨ t = 15 ∨ t = 16 ∨ 17 ≤ t := by omega
      rcases hcase with rfl | rfl | rfl | rfl | rfl | rfl | rfl | rfl | rfl | rfl | rfl | rfl | rfl | rfl | rfl | rfl | rfl | h17
      · refine lv_tableIn (off := 84) (tgt := 116) hx hb dL_law_32 (by decide) (by decide) (by decide) rfl ?_
        exact lo_spawn C0 hL hc hI hG hl kk
      · refine lv_tableIn (off := 97) (tgt := 129) hx hb dL_law_32 (by decide) (by decide) (by decide) rfl ?_
        exact lo_fork C0 hL hc hI hG hl kk
      · refine lv_tableIn (off := 120) (tgt := 152) hx hb dL_law_32 (by decide) (by decide) (by decide) rfl ?_
        exact lo_exit C0 hL hc hI hG hl kk
      · refine lv_tableIn (off := 143) (tgt := 175) hx hb dL_law_32 (by decide) (by decide) (by decide) rfl ?_
        exact lo_map C0 hL hc hI hG hl kk
      · refine lv_tableIn (off := 202) (tgt := 234) hx hb dL_law_32 (by decide) (by decide) (by decide) rfl ?_
        exact lo_attach C0 hL hc hI hG hl kk
      · refine lv_tableIn (off := 255) (tgt := 287) hx hb dL_law_32 (by decide) (by decide) (by decide) rfl ?_
        exact lo_unmap C0 hL hc hI hG hl kk
      · refine lv_tableIn (off := 288) (tgt := 320) hx hb dL_law_32 (by decide) (by decide) (by decide) rfl ?_
        exact lo_protect C0 hL hc hI hG hl kk
      · refine lv_tableIn (off := 347) (tgt := 379) hx hb dL_law_32 (by decide) (by decide) (by decide) rfl ?_
        exact lo_write C0 hL hc hI hG hl kk
      · refine lv_tableIn (off := 390) (tgt := 422) hx hb dL_law_32 (by decide) (by decide) (by decide) rfl ?_
        exact lo_read C0 hL hc hI hG hl kk
      · refine lv_tableIn (off := 424) (tgt := 456) hx hb dL_law_32 (by decide) (by decide) (by decide) rfl ?_
        exact lo_free C0 hL hc hI hG hl kk
      · refine lv_tableIn (off := 437) (tgt := 469) hx hb dL_law_32 (by decide) (by decide) (by decide) rfl ?_
        exact lo_tables C0 hL hc hI hG hl kk
      · refine lv_tableIn (off := 460) (tgt := 492) hx hb dL_law_32 (by decide) (by decide) (by decide) rfl ?_
        exact lo_pages C0 hL hc hI hG hl kk
      · refine lv_tableIn (off := 483) (tgt := 515) hx hb dL_law_32 (by decide) (by decide) (by decide) rfl ?_
        exact lo_count C0 hL hc hI hG hl kk
      · refine lv_tableIn (off := 516) (tgt := 548) hx hb dL_law_32 (by decide) (by decide) (by decide) rfl ?_
        exact lo_mapping C0 hL hc hI hG hl kk
      · refine lv_tableIn (off := 549) (tgt := 581) hx hb dL_law_32 (by decide) (by decide) (by decide) rfl ?_
        exact lo_twin C0 hL hc hI hG hl kk
      · refine lv_tableIn (off := 602) (tgt := 634) hx hb dL_law_32 (by decide) (by decide) (by decide) rfl ?_
        exact lo_running C0 hL hc hI hG hl kk
      · refine lv_tableIn (off := 615) (tgt := 647) hx hb dL_law_32 (by decide) (by decide) (by decide) rfl ?_
        exact lo_faults C0 hL hc hI hG hl kk
      · refine lv_tableOut (tgt := 686) hx hb dL_law_32 (Or.inr (by rw [nI_toInt (by omega)]; omega)) rfl ?_
        exact kk H locs run mp fr kd wd ct af cf fm cm wr mk wo hI hG
    · refine lv_icmp_gt (tgt := 692) hx hb dL_law_23 rfl (fun _ => ?_) (fun hh => absurd (sc_yes hL hi hc) hh)
      refine lv_iconst (v := 1) hx hb dL_law_692 (by decide) ?_
      refine va_forget (fun q hq => hG.2.2.2.2.2 q hq) ?_
      exact lw_ret hx hb hr0 hlk dL_law_693
theorem Iv_0 : Iv (fun _ => false) (fun _ _ => false) (fun _ _ => 0) (fun _ _ => 0) (fun _ => 0) (fun _ => 0) (fun _ => 0) (fun _ => false) (fun _ => false) (fun _ => false) (fun _ => 0) := by
  refine ⟨⟨fun x => Nat.zero_le _, fun x _ => by simp [fl], fun x _ h => absurd h (Nat.lt_irrefl 0), fun x y _ _ h => absurd h (Nat.lt_irrefl 0), fun q _ => ?_⟩, fun _ _ _ _ _ => rfl, ?_⟩
  · have h : cN (fl (fun _ _ => false)) (fl (fun _ _ => 0)) q = 0 := pc_0 320 (fun i _ => by simp [fl])
    rw [h]; rfl
  · have h := usR_le (fun _ => 0) 24
    have h2 : tsm (fun _ => false) (pgS (fun _ => 0)) 5 = 0 := by simp [tsm]
    unfold tot
    omega
set_option maxHeartbeats 4000000 in
set_option maxRecDepth 100000 in
theorem whole_start {p : Program} {e : Env} {s : State} {m : MethodId} {below : List Frame} {meth : Method} {c : Code} (l : Launch) {b L : Nat} {xs : Nat → Int32} (hL : L ≤ 2560) (C0 : lw_At p s m meth c b L xs) : W p l e room_1 s m #[Value.ref b] below meth c s.heap [] 0 0 (lw_Z below #[Value.ref b] s) (entryFrame m ([Value.ref b] : List Value).toArray 4) := by
  obtain ⟨hx, hb, hr0, hml, hown, hts0, hX, hbl, hlk, hgv⟩ := id C0
  have hown : s.vm.findClass RL = some m.cls := hown
  have hts : ∀ w ∈ gT, w.before #[Value.ref b] s = true := fun w h => hts0 w (List.mem_filter.mp h).1
  have hN : gN s := gN_of hts0
  have hAO : va_AO RX0 s := va_AO.of (hts0 _ t_15)
  obtain ⟨zX0, iX0, kX0⟩ := u_known hts gX0 (hts _ t_16)
  obtain ⟨zX1, iX1, kX1⟩ := u_known hts gX1 (hts _ t_39)
  obtain ⟨zX2, iX2, kX2⟩ := u_known hts gX2 (hts _ t_7)
  obtain ⟨zX3, iX3, kX3⟩ := u_known hts gX3 (hts _ t_233)
  obtain ⟨D, hK⟩ : ∃ D : va_G, va_K D cls [] s := by
    refine ⟨(fun c => match c with | 0 => zX0 | 1 => zX1 | 2 => zX2 | _ => zX3, fun c => match c with | 0 => iX0 | 1 => iX1 | 2 => iX2 | _ => iX3), fun c q hq => ?_, fun k q hk => by simp at hk⟩
    match c, hq with
    | 0, hq => cases hq; exact kX0
    | 1, hq => cases hq; exact kX1
    | 2, hq => cases hq; exact kX2
    | 3, hq => cases hq; exact kX3
    | n + 4, hq => simp [cls] at hq
  generalize hAe : (fun q => s.heap.size ≤ q : Nat → Prop) = A
  have hA : ∀ q : Nat, s.heap.size ≤ q → A q := fun q h => by rw [← hAe]; exact h
  have hS : va_S A s.heap s.heap [] := va_S.rf
  have hP : va_P D cls [] s.heap := fun k q hk => by simp at hk
  have hD : va_D A [] := ⟨fun i j x y hi => by simp at hi, fun k q hk => by simp at hk⟩
  have hl := lv_entry ([.ref b]) (n := 4) (Nat.le_of_ble_eq_true rfl)
  rw [lg_entry_eq]
  generalize (lg_sl ([.ref b]) ++ List.replicate (4 - (lg_sl ([.ref b])).length) Slot.unset).toArray = ls at hl ⊢
  have hl : lv_has ls 4 [(0, .ref b)] := hl
  refine va_new (ci := 2) (fs := [.null, .null, .int 0, .int 0]) (C := RX2) (T := TX2) (N := 4) hx hb hts gX2 tyX2 tyX2_ok hown (hts _ t_6) (hts _ t_7) (hts _ t_1) hK hP hD hS hA rfl (fun j hj => by rcases (show j = 0 ∨ j = 1 ∨ j = 2 ∨ j = 3 by omega) with rfl | rfl | rfl | rfl <;> rfl) (by decide) (by decide) dL_law_0 (fun qx H hP hD hS => ?_)
  have hP : va_P D cls [(qx, .inr (2, [.null, .null, .int 0, .int 0]))] H := hP
  have hD : va_D A [(qx, .inr (2, [.null, .null, .int 0, .int 0]))] := hD
  refine lv_dup hx hb dL_law_3 rfl ?_
  have hPc := hP.sub (ws' := [(qx, .inr (2, [.null, .null, .int 0, .int 0]))]) [0] rfl
  have hDc := hD.sub (ws' := [(qx, .inr (2, [.null, .null, .int 0, .int 0]))]) [0] (by decide) rfl
  have hKc := hK.sub (tys' := []) [] rfl
  have hFc := va_free (wc := [(qx, .inr (2, [.null, .null, .int 0, .int 0]))]) hD hS hA [0] rfl
  refine va_callv (va_runI (As := []) (rest := [.ref qx]) ⟨hx, hb, hml, hown, hts⟩ (c_Fp l D qx H.size) ⟨callB_of 0 hts (gT_in t_10) rfl rfl rfl (hts _ t_1) (hts _ t_8) nm_X2_init ⟨Nat.le_of_ble_eq_true rfl, Nat.le_of_ble_eq_true rfl⟩, rfl, hts _ t_9⟩ ⟨fun a U g mk q => by obtain ⟨q0, qN, qO, q1, qP, qK, qD⟩ := q; exact ⟨q0, gN_same (u := U) (U := U.calling g mk a) rfl qN, va_AO.moved (u := U) (U := U.calling g mk a) (Vm.Alike.refl U.vm) qO, q1, qP, va_K.moved (u := U) (U := U.calling g mk a) (Vm.Alike.refl U.vm) qK, qD⟩, fun U hU hW => ⟨rfl, gN_warm hW hN, va_AO.moved hW.alike hAO, by rw [hU], by rw [hU]; exact hPc, va_K.moved hW.alike hKc, hDc.weaken (fun _ _ _ _ => trivial)⟩⟩ rfl rfl hl.1 rfl (lv_room (Nat.le_of_ble_eq_true rfl)) dL_law_4 ⟨by decide, by decide⟩) hS (fun q _ h => hFc q h) hFc (fun u t H1 locs ht hvm _ hB hz1 hk1 hS => ?_)
  obtain ⟨ad, cI, cQ⟩ := u
  obtain ⟨e0, hP1, hK1, hD1⟩ := hB
  have e0 : ad 0 = qx := e0
  rw [ht] at hP1
  have hK1 := va_K.moved hvm.symm hK1
  obtain ⟨hP, hD⟩ := va_join (wr := []) (w1 := fpW ad cI cQ (fun _ => false) (fun _ _ => false) (fun _ _ => 0) (fun _ _ => 0) (fun _ => 0) (fun _ => 0) 0 0) hP hD [0] [] rfl rfl (by decide) (by decide) hk1 hFc hP1 hD1
  have hK := (hK.sub (tys' := []) [] rfl).app hK1
  generalize H1 = H at hP hS ⊢
  have hP : va_P D cls (fpW ad cI cQ (fun _ => false) (fun _ _ => false) (fun _ _ => 0) (fun _ _ => 0) (fun _ => 0) (fun _ => 0) 0 0) H := hP
  have hD : va_D A (fpW ad cI cQ (fun _ => false) (fun _ _ => false) (fun _ _ => 0) (fun _ _ => 0) (fun _ => 0) (fun _ => 0) 0 0) := hD
  have hK : va_K D cls [(cI, .int), (cQ, .object RX0)] s := hK
  refine W.eq (g2 := F0 m 7 ls [.ref (ad 0)]) (by rw [show ad 0 = qx from e0]) ?_
  refine lv_astore_n (lv' := [(1, .ref (ad 0)), (0, .ref b)]) hx hb dL_law_7 rfl hl (by decide) rfl (fun ls hl => ?_)
  refine va_new (ci := 3) (fs := [.null, .null, .null, .null, .null, .null, .int 0, .int 0]) (C := RX3) (T := TX3) (N := 8) hx hb hts gX3 tyX3 tyX3_ok hown (hts _ t_232) (hts _ t_233) (hts _ t_4) hK hP hD hS hA rfl (fun j hj => by rcases (show j = 0 ∨ j = 1 ∨ j = 2 ∨ j = 3 ∨ j = 4 ∨ j = 5 ∨ j = 6 ∨ j = 7 by omega) with rfl | rfl | rfl | rfl | rfl | rfl | rfl | rfl <;> rfl) (by decide) (by decide) dL_law_8 (fun qm H hP hD hS => ?_)
  refine lv_dup hx hb dL_law_11 rfl ?_
  have hPc := hP.sub (ws' := [(qm, .inr (3, [.null, .null, .null, .null, .null, .null, .int 0, .int 0]))]) [20] rfl
  have hDc := hD.sub (ws' := [(qm, .inr (3, [.null, .null, .null, .null, .null, .null, .int 0, .int 0]))]) [20] (by decide) rfl
  have hKc := hK.sub (tys' := []) [] rfl
  have hFc := va_free (wc := [(qm, .inr (3, [.null, .null, .null, .null, .null, .null, .int 0, .int 0]))]) hD hS hA [20] rfl
  refine va_callv (va_runI (As := []) (rest := [.ref qm]) ⟨hx, hb, hml, hown, hts⟩ (c_Ref l D qm H.size) ⟨callB_of 0 hts (gT_in t_236) rfl rfl rfl (hts _ t_4) (hts _ t_234) nm_X3_init ⟨Nat.le_of_ble_eq_true rfl, Nat.le_of_ble_eq_true rfl⟩, rfl, hts _ t_235⟩ ⟨fun a U g mk q => by obtain ⟨q0, q1, qP, qK, qD⟩ := q; exact ⟨q0, q1, qP, va_K.moved (u := U) (U := U.calling g mk a) (Vm.Alike.refl U.vm) qK, qD⟩, fun U hU hW => ⟨rfl, by rw [hU], by rw [hU]; exact hPc, va_K.moved hW.alike hKc, hDc.weaken (fun _ _ _ _ => trivial)⟩⟩ rfl rfl hl.1 rfl (lv_room (Nat.le_of_ble_eq_true rfl)) dL_law_12 ⟨by decide, by decide⟩) hS (fun q _ h => hFc q h) hFc (fun u t H1 locs ht hvm _ hB hz1 hk1 hS => ?_)
  obtain ⟨bd, c2, cZ⟩ := u
  obtain ⟨e1, hP1, hK1, hD1⟩ := hB
  have e1 : bd 0 = qm := e1
  rw [ht] at hP1
  have hK1 := va_K.moved hvm.symm hK1
  obtain ⟨hP, hD⟩ := va_join (wr := fpW ad cI cQ (fun _ => false) (fun _ _ => false) (fun _ _ => 0) (fun _ _ => 0) (fun _ => 0) (fun _ => 0) 0 0) (w1 := rfW bd c2 cZ (fun _ => false) (fun _ => 0) (fun _ => false) (fun _ => false) (fun _ => false) (fun _ => 0) 0 0) hP hD [20] [0, 1, 2, 3, 4, 5, 6, 7, 8, 9, 10, 11, 12, 13, 14, 15, 16, 17, 18, 19] rfl rfl (by decide) (by decide) hk1 hFc hP1 hD1
  have hK := (hK.sub (tys' := [(cI, .int), (cQ, .object RX0)]) [0, 1] rfl).app hK1
  generalize H1 = H at hP hS ⊢
  have hK : va_K D cls [(cI, .int), (cQ, .object RX0), (c2, .int), (cZ, .boolean)] s := hK
  obtain rfl : cI = c2 := arr_uniq (hK.2 0 _ rfl).2 (hK.2 2 _ rfl).2
  have hK := hK.sub (tys' := fpT cI cQ cZ) [0, 1, 3] rfl
  refine W.eq (g2 := F0 m 15 ls [.ref (bd 0)]) (by rw [show bd 0 = qm from e1]) ?_
  refine lv_astore_n (lv' := [(2, .ref (bd 0)), (1, .ref (ad 0)), (0, .ref b)]) hx hb dL_law_15 rfl hl (by decide) rfl (fun ls hl => ?_)
  refine lv_iconst (v := nI 0) hx hb dL_law_16 (by decide) ?_
  refine lv_istore_n (lv' := [(3, .int (nI 0)), (2, .ref (bd 0)), (1, .ref (ad 0)), (0, .ref b)]) hx hb dL_law_17 rfl hl (by decide) rfl (fun ls hl => ?_)
  refine W.widen (k := 600000) (n := 7302250) (by decide) (by decide) ?_
  subst hAe
  exact lw_loop l hL C0 (L + 1) 0 H locs ls _ _ _ _ _ _ _ _ _ _ _ _ _ (Nat.zero_le _) (by omega) Iv_0 ⟨hK, hP, hD, hS⟩ (lv_sub hl [0, 2, 1, 3] rfl)
end CM
