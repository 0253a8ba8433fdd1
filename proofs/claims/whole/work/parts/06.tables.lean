section CM
variable {l : Launch} {D : va_G} {A : Nat → Prop} {ad : Nat → Nat} {cI cQ cZ : ClassId} {run : Nat → Bool} {mp : Nat → Nat → Bool} {fr : Nat → Nat → Nat} {kd : Nat → Nat → Int32} {wd ct : Nat → Int32} {af cf : Int32}
set_option maxHeartbeats 4000000 in
set_option maxRecDepth 100000 in
theorem fm_spansUsed {b : Nat → Bool} {n0 w : Nat} {ws : va_W} (hw0 : 0 < w) (hw : w < 63) (hnw : n0 * w ≤ 64) (hn : n0 ≤ 64) : gM l yX0_spansUsed cX0_spansUsed 8 (some .int) 0 0 D cls (fpT cI cQ cZ) A (ws) [.long (en b), .int (nI n0), .int (nI w)] (some (.int (nI (spU b w n0)))) (ws) := by
  refine gM_of (by decide) (Nat.le_of_ble_eq_true rfl) ?_
  intro p e s m args below meth c ls hx hb hml hown hts hN hr hlk hl hG
  have hown : s.vm.findClass RX0 = some m.cls := hown
  have hl : lv_has ls 8 [(0, .long (en b)), (2, .int (nI n0)), (3, .int (nI w))] := hl
  refine lv_lconst (v := 1) hx hb dX0_spansUsed_0 (by decide) ?_
  refine lv_iload_n hx hb dX0_spansUsed_1 rfl (lv_at hl 2 rfl) ?_
  refine lv_lshl (v := 1 <<< ((nI w).toInt64 &&& 63)) hx hb dX0_spansUsed_2 rfl ?_
  refine lv_lconst (v := 1) hx hb dX0_spansUsed_3 (by decide) ?_
  refine lv_lsub hx hb dX0_spansUsed_4 ?_
  refine g_topl (y := lN (2 ^ w - 1)) (en_mask hw) ?_
  refine lv_lstore (lv' := [(4, .long (lN (2 ^ w - 1))), (0, .long (en b)), (2, .int (nI n0)), (3, .int (nI w))]) hx hb dX0_spansUsed_5 hl (by decide) rfl (fun ls hl => ?_)
  refine lv_iconst (v := nI 0) hx hb dX0_spansUsed_7 (by decide) ?_
  refine lv_istore (lv' := [(6, .int (nI 0)), (4, .long (lN (2 ^ w - 1))), (0, .long (en b)), (2, .int (nI n0)), (3, .int (nI w))]) hx hb dX0_spansUsed_8 hl (by decide) rfl (fun ls hl => ?_)
  refine lv_iconst (v := nI 0) hx hb dX0_spansUsed_10 (by decide) ?_
  refine lv_istore (lv' := [(7, .int (nI 0)), (6, .int (nI 0)), (4, .long (lN (2 ^ w - 1))), (0, .long (en b)), (2, .int (nI n0)), (3, .int (nI w))]) hx hb dX0_spansUsed_11 hl (by decide) rfl (fun ls hl => ?_)
  have loop : ∀ (n i : Nat) (ls : Array Slot), i + n = n0 → lv_has ls 8 [(7, .int (nI i)), (6, .int (nI (spU b w i))), (4, .long (lN (2 ^ w - 1))), (0, .long (en b)), (2, .int (nI n0)), (3, .int (nI w))] → W p l e (gR 0 0) s m args below meth c s.heap [] 0 0 (gQ below args s D cls (fpT cI cQ cZ) A (some (.int (nI (spU b w n0)))) (ws)) (F0 m 13 ls []) := by
    intro n
    induction n with
    | zero =>
      intro i ls hi hl
      obtain rfl : i = n0 := by omega
      refine lv_iload hx hb dX0_spansUsed_13 (lv_at hl 0 rfl) ?_
      refine lv_iload_n hx hb dX0_spansUsed_15 rfl (lv_at hl 4 rfl) ?_
      refine lv_icmp_ge (tgt := 42) hx hb dX0_spansUsed_16 rfl (fun _ => ?_) (fun hh => absurd (nI_le (Nat.le_refl i) (by omega)) hh)
      refine lv_iload hx hb dX0_spansUsed_42 (lv_at hl 1 rfl) ?_
      exact g_iret hx hb hr hlk hG dX0_spansUsed_44
    | succ n ih =>
      intro i ls hi hl
      have hi2 : i < n0 := by omega
      have hiw : i * w + w ≤ 64 := by
        have h1 : (i + 1) * w ≤ n0 * w := Nat.mul_le_mul_right w hi2
        rw [Nat.add_mul, Nat.one_mul] at h1
        omega
      refine lv_iload hx hb dX0_spansUsed_13 (lv_at hl 0 rfl) ?_
      refine lv_iload_n hx hb dX0_spansUsed_15 rfl (lv_at hl 4 rfl) ?_
      refine lv_icmp_ge (tgt := 42) hx hb dX0_spansUsed_16 rfl (fun hh => absurd hh (nI_ge hi2 (by omega))) (fun _ => ?_)
      refine lv_lload_n hx hb dX0_spansUsed_19 rfl (lv_at hl 3 rfl) ?_
      refine lv_iload hx hb dX0_spansUsed_20 (lv_at hl 0 rfl) ?_
      refine lv_iload_n hx hb dX0_spansUsed_22 rfl (lv_at hl 5 rfl) ?_
      refine lv_imul hx hb dX0_spansUsed_23 ?_
      refine g_top (y := nI (i * w)) (pk_mul i w) ?_
      refine lv_lushr (v := ((en b).toUInt64 >>> ((nI (i * w)).toInt64.toUInt64 &&& Int64.toUInt64 63)).toInt64) hx hb dX0_spansUsed_24 rfl ?_
      refine lv_lload hx hb dX0_spansUsed_25 (lv_at hl 2 rfl) ?_
      refine lv_land hx hb dX0_spansUsed_27 ?_
      refine lv_lconst (v := 0) hx hb dX0_spansUsed_28 (by decide) ?_
      refine W.lcmp hx hb dX0_spansUsed_29 ?_
      cases hc : anB b (i * w) w
      · have hu : spU b w (i + 1) = spU b w i := by simp [spU, hc]
        have hz := (en_span b (a := i * w) (w := w) (by omega) hw hiw).mpr hc
        refine lv_if_eq (tgt := 36) hx hb dX0_spansUsed_30 rfl (fun _ => ?_) (fun hh => absurd ((lg_cmp_eq _ _).mpr hz) hh)
        refine lv_iinc (k := 0) (v := nI (i + 1)) (lv' := [(7, .int (nI (i + 1))), (6, .int (nI (spU b w i))), (4, .long (lN (2 ^ w - 1))), (0, .long (en b)), (2, .int (nI n0)), (3, .int (nI w))]) hx hb dX0_spansUsed_36 hl rfl (nI_1 i) (by decide) rfl (fun ls hl => ?_)
        refine lv_goto (tgt := 13) hx hb dX0_spansUsed_39 rfl ?_
        exact ih (i + 1) _ (by omega) (by rw [hu]; exact lv_sub hl [0, 1, 2, 3, 4, 5] rfl)
      · have hu : spU b w (i + 1) = spU b w i + 1 := by simp [spU, hc]
        have hz := (not_congr (en_span b (a := i * w) (w := w) (by omega) hw hiw)).mpr (by rw [hc]; decide)
        refine lv_if_eq (tgt := 36) hx hb dX0_spansUsed_30 rfl (fun hh => absurd hh (fun q => hz ((lg_cmp_eq _ _).mp q))) (fun _ => ?_)
        refine lv_iinc (k := 1) (v := nI (spU b w (i + 1))) (lv' := [(6, .int (nI (spU b w (i + 1)))), (7, .int (nI i)), (4, .long (lN (2 ^ w - 1))), (0, .long (en b)), (2, .int (nI n0)), (3, .int (nI w))]) hx hb dX0_spansUsed_33 hl rfl (by rw [hu]; exact nI_1 _) (by decide) rfl (fun ls hl => ?_)
        refine lv_iinc (k := 1) (v := nI (i + 1)) (lv' := [(7, .int (nI (i + 1))), (6, .int (nI (spU b w (i + 1)))), (4, .long (lN (2 ^ w - 1))), (0, .long (en b)), (2, .int (nI n0)), (3, .int (nI w))]) hx hb dX0_spansUsed_36 hl rfl (nI_1 i) (by decide) rfl (fun ls hl => ?_)
        refine lv_goto (tgt := 13) hx hb dX0_spansUsed_39 rfl ?_
        exact ih (i + 1) _ (by omega) (lv_sub hl [0, 1, 2, 3, 4, 5] rfl)
  exact loop n0 0 _ (by omega) (lv_sub hl [0, 1, 2, 3, 4, 5] rfl)
set_option maxHeartbeats 4000000 in
set_option maxRecDepth 100000 in
theorem fm_tablesFor {b : Nat → Bool} {ws : va_W} : gM l yX0_tablesFor cX0_tablesFor 2 (some .int) 1 27 D cls (fpT cI cQ cZ) A (ws) [.long (en b)] (some (.int (nI (tbN b)))) (ws) := by
  refine gM_of (by decide) (Nat.le_of_ble_eq_true rfl) ?_
  intro p e s m args below meth c ls hx hb hml hown hts hN hr hlk hl hG
  have hown : s.vm.findClass RX0 = some m.cls := hown
  have hl : lv_has ls 2 [(0, .long (en b))] := hl
  refine lv_iconst (v := nI 1) hx hb dX0_tablesFor_0 (by decide) ?_
  refine lv_lload_n hx hb dX0_tablesFor_1 rfl (lv_at hl 0 rfl) ?_
  refine lv_iconst (v := nI 4) hx hb dX0_tablesFor_2 (by decide) ?_
  refine lv_bipush (v := nI 16) hx hb dX0_tablesFor_3 (by decide) ?_
  refine g_callS (As := [.long (en b), .int (nI 4), .int (nI 16)]) (rest := [.int (nI 1)]) (fm_spansUsed (b := b) (n0 := 4) (w := 16) (by decide) (by decide) (by decide) (by decide)) hx hb hml hown hts hN hG t_89 t_90 t_2 t_91 nm_X0_spansUsed ⟨by decide, by decide⟩ hl.1 (Nat.le_of_ble_eq_true rfl) dX0_tablesFor_5 ⟨Nat.zero_le _, Nat.zero_le _⟩ (fun H locs hG => ?_)
  refine W.eq (g2 := F0 m 8 ls [.int (nI (spU b 16 4)), .int (nI 1)]) rfl ?_
  refine lv_iadd hx hb dX0_tablesFor_8 ?_
  refine g_top (y := nI (1 + spU b 16 4)) (nI_add _ _) ?_
  refine lv_lload_n hx hb dX0_tablesFor_9 rfl (lv_at hl 0 rfl) ?_
  refine lv_bipush (v := nI 16) hx hb dX0_tablesFor_10 (by decide) ?_
  refine lv_iconst (v := nI 4) hx hb dX0_tablesFor_12 (by decide) ?_
  refine g_callS (As := [.long (en b), .int (nI 16), .int (nI 4)]) (rest := [.int (nI (1 + spU b 16 4))]) (fm_spansUsed (b := b) (n0 := 16) (w := 4) (by decide) (by decide) (by decide) (by decide)) hx hb hml hown hts hN hG t_89 t_90 t_2 t_91 nm_X0_spansUsed ⟨by decide, by decide⟩ hl.1 (Nat.le_of_ble_eq_true rfl) dX0_tablesFor_13 ⟨Nat.zero_le _, Nat.zero_le _⟩ (fun H locs hG => ?_)
  refine W.eq (g2 := F0 m 16 ls [.int (nI (spU b 4 16)), .int (nI (1 + spU b 16 4))]) rfl ?_
  refine lv_iadd hx hb dX0_tablesFor_16 ?_
  refine g_top (y := nI (tbN b)) (nI_add _ _) ?_
  exact g_iret hx hb hr hlk hG dX0_tablesFor_17
theorem tbN_0 : tbN (fun _ => false) = 1 := by decide +kernel
set_option maxHeartbeats 4000000 in
set_option maxRecDepth 100000 in
theorem fm_tables0 {ws : va_W} : gM l yX0_tablesFor cX0_tablesFor 2 (some .int) 1 27 D cls (fpT cI cQ cZ) A (ws) [.long 0] (some (.int (nI 1))) (ws) := by
  have h := fm_tablesFor (l := l) (D := D) (A := A) (cI := cI) (cQ := cQ) (cZ := cZ) (b := fun _ => false) (ws := ws)
  rw [en_0, tbN_0] at h
  exact h
set_option maxHeartbeats 4000000 in
set_option maxRecDepth 100000 in
theorem fm_tableCount {j : Nat} (hj : j < 5) : gM l yX0_tableCount cX0_tableCount 1 (some .int) 2 48 D cls (fpT cI cQ cZ) A (fpW ad cI cQ run mp fr kd wd ct af cf) [.ref (ad (5 + 3 * j))] (some (.int (nI (tbN (mp j))))) (fpW ad cI cQ run mp fr kd wd ct af cf) := by
  refine gM_of (by decide) (Nat.le_of_ble_eq_true rfl) ?_
  intro p e s m args below meth c ls hx hb hml hown hts hN hr hlk hl hG
  have hown : s.vm.findClass RX0 = some m.cls := hown
  have hl : lv_has ls 1 [(0, .ref (ad (5 + 3 * j)))] := hl
  refine lv_aload_n hx hb dX0_tableCount_0 rfl (lv_at hl 0 rfl) ?_
  refine g_get (k := 1) (v := .long (en (mp j))) (C := RX0) (ref := RX0) (fs := [.int (bI (run j)), .long (en (mp j)), .ref (ad (6 + 3 * j)), .ref (ad (7 + 3 * j))]) hx hb hown hts hG gX0 rfl (fp_5 (hj)) (by decide) t_22 rfl rfl dX0_tableCount_1 ?_
  refine g_callS (As := [.long (en (mp j))]) (rest := []) (fm_tablesFor) hx hb hml hown hts hN hG t_86 t_87 t_2 t_88 nm_X0_tablesFor ⟨by decide, by decide⟩ hl.1 (Nat.le_of_ble_eq_true rfl) dX0_tableCount_4 ⟨Nat.zero_le _, Nat.zero_le _⟩ (fun H locs hG => ?_)
  refine W.eq (g2 := F0 m 7 ls [.int (nI (tbN (mp j)))]) rfl ?_
  exact g_iret hx hb hr hlk hG dX0_tableCount_7
set_option maxHeartbeats 4000000 in
set_option maxRecDepth 100000 in
theorem fm_tablesToAdd {j k : Nat} (hj : j < 5) (hk : k < 64) : gM l yX0_tablesToAdd cX0_tablesToAdd 2 (some .int) 2 48 D cls (fpT cI cQ cZ) A (fpW ad cI cQ run mp fr kd wd ct af cf) [.ref (ad (5 + 3 * j)), .int (nI k)] (some (.int (nI (tbN (up1 (mp j) k true)) - nI (tbN (mp j))))) (fpW ad cI cQ run mp fr kd wd ct af cf) := by
  refine gM_of (by decide) (Nat.le_of_ble_eq_true rfl) ?_
  intro p e s m args below meth c ls hx hb hml hown hts hN hr hlk hl hG
  have hown : s.vm.findClass RX0 = some m.cls := hown
  have hl : lv_has ls 2 [(0, .ref (ad (5 + 3 * j))), (1, .int (nI k))] := hl
  refine lv_aload_n hx hb dX0_tablesToAdd_0 rfl (lv_at hl 0 rfl) ?_
  refine g_get (k := 1) (v := .long (en (mp j))) (C := RX0) (ref := RX0) (fs := [.int (bI (run j)), .long (en (mp j)), .ref (ad (6 + 3 * j)), .ref (ad (7 + 3 * j))]) hx hb hown hts hG gX0 rfl (fp_5 (hj)) (by decide) t_22 rfl rfl dX0_tablesToAdd_1 ?_
  refine lv_lconst (v := 1) hx hb dX0_tablesToAdd_4 (by decide) ?_
  refine lv_iload_n hx hb dX0_tablesToAdd_5 rfl (lv_at hl 1 rfl) ?_
  refine lv_lshl (v := 1 <<< ((nI k).toInt64 &&& 63)) hx hb dX0_tablesToAdd_6 rfl ?_
  refine lv_lor hx hb dX0_tablesToAdd_7 ?_
  refine g_topl (y := en (up1 (mp j) k true)) (en_set _ hk) ?_
  refine g_callS (As := [.long (en (up1 (mp j) k true))]) (rest := []) (fm_tablesFor) hx hb hml hown hts hN hG t_86 t_87 t_2 t_88 nm_X0_tablesFor ⟨by decide, by decide⟩ hl.1 (Nat.le_of_ble_eq_true rfl) dX0_tablesToAdd_8 ⟨Nat.zero_le _, Nat.zero_le _⟩ (fun H locs hG => ?_)
  refine W.eq (g2 := F0 m 11 ls [.int (nI (tbN (up1 (mp j) k true)))]) rfl ?_
  refine lv_aload_n hx hb dX0_tablesToAdd_11 rfl (lv_at hl 0 rfl) ?_
  refine g_get (k := 1) (v := .long (en (mp j))) (C := RX0) (ref := RX0) (fs := [.int (bI (run j)), .long (en (mp j)), .ref (ad (6 + 3 * j)), .ref (ad (7 + 3 * j))]) hx hb hown hts hG gX0 rfl (fp_5 (hj)) (by decide) t_22 rfl rfl dX0_tablesToAdd_12 ?_
  refine g_callS (As := [.long (en (mp j))]) (rest := [.int (nI (tbN (up1 (mp j) k true)))]) (fm_tablesFor) hx hb hml hown hts hN hG t_86 t_87 t_2 t_88 nm_X0_tablesFor ⟨by decide, by decide⟩ hl.1 (Nat.le_of_ble_eq_true rfl) dX0_tablesToAdd_15 ⟨Nat.zero_le _, Nat.zero_le _⟩ (fun H locs hG => ?_)
  refine W.eq (g2 := F0 m 18 ls [.int (nI (tbN (mp j))), .int (nI (tbN (up1 (mp j) k true)))]) rfl ?_
  refine lv_isub hx hb dX0_tablesToAdd_18 ?_
  exact g_iret hx hb hr hlk hG dX0_tablesToAdd_19
set_option maxHeartbeats 4000000 in
set_option maxRecDepth 100000 in
theorem fm_bitCount {x : Int64} {ws : va_W} : gM l yJ13_bitCount_95d88 cJ13_bitCount_95d88 2 (some .int) 0 0 D cls (fpT cI cQ cZ) A (ws) [.long x] (some (.int (bcI x))) (ws) := by
  refine gM_of (by decide) (Nat.le_of_ble_eq_true rfl) ?_
  intro p e s m args below meth c ls hx hb hml hown hts hN hr hlk hl hG
  have hown : s.vm.findClass RJ13 = some m.cls := hown
  have hl : lv_has ls 2 [(0, .long x)] := hl
  refine lv_lload_n hx hb dJ13_bitCount_95d88_0 rfl (lv_at hl 0 rfl) ?_
  refine lv_lload_n hx hb dJ13_bitCount_95d88_1 rfl (lv_at hl 0 rfl) ?_
  refine lv_iconst (v := nI 1) hx hb dJ13_bitCount_95d88_2 (by decide) ?_
  refine lv_lushr (v := ((x).toUInt64 >>> ((nI 1).toInt64.toUInt64 &&& Int64.toUInt64 63)).toInt64) hx hb dJ13_bitCount_95d88_3 rfl ?_
  refine lv_ldc2 (v := 6148914691236517205) hx hb hown (hts _ t_209) dJ13_bitCount_95d88_4 ?_
  refine lv_land hx hb dJ13_bitCount_95d88_7 ?_
  refine lv_lsub hx hb dJ13_bitCount_95d88_8 ?_
  refine g_topl (y := bc1 x) (rfl) ?_
  refine lv_lstore_n (lv' := [(0, .long (bc1 x))]) hx hb dJ13_bitCount_95d88_9 rfl hl (by decide) rfl (fun ls hl => ?_)
  refine lv_lload_n hx hb dJ13_bitCount_95d88_10 rfl (lv_at hl 0 rfl) ?_
  refine lv_ldc2 (v := 3689348814741910323) hx hb hown (hts _ t_210) dJ13_bitCount_95d88_11 ?_
  refine lv_land hx hb dJ13_bitCount_95d88_14 ?_
  refine lv_lload_n hx hb dJ13_bitCount_95d88_15 rfl (lv_at hl 0 rfl) ?_
  refine lv_iconst (v := nI 2) hx hb dJ13_bitCount_95d88_16 (by decide) ?_
  refine lv_lushr (v := ((bc1 x).toUInt64 >>> ((nI 2).toInt64.toUInt64 &&& Int64.toUInt64 63)).toInt64) hx hb dJ13_bitCount_95d88_17 rfl ?_
  refine lv_ldc2 (v := 3689348814741910323) hx hb hown (hts _ t_210) dJ13_bitCount_95d88_18 ?_
  refine lv_land hx hb dJ13_bitCount_95d88_21 ?_
  refine lv_ladd hx hb dJ13_bitCount_95d88_22 ?_
  refine g_topl (y := bc2 (bc1 x)) (rfl) ?_
  refine lv_lstore_n (lv' := [(0, .long (bc2 (bc1 x)))]) hx hb dJ13_bitCount_95d88_23 rfl hl (by decide) rfl (fun ls hl => ?_)
  refine lv_lload_n hx hb dJ13_bitCount_95d88_24 rfl (lv_at hl 0 rfl) ?_
  refine lv_lload_n hx hb dJ13_bitCount_95d88_25 rfl (lv_at hl 0 rfl) ?_
  refine lv_iconst (v := nI 4) hx hb dJ13_bitCount_95d88_26 (by decide) ?_
  refine lv_lushr (v := ((bc2 (bc1 x)).toUInt64 >>> ((nI 4).toInt64.toUInt64 &&& Int64.toUInt64 63)).toInt64) hx hb dJ13_bitCount_95d88_27 rfl ?_
  refine lv_ladd hx hb dJ13_bitCount_95d88_28 ?_
  refine lv_ldc2 (v := 1085102592571150095) hx hb hown (hts _ t_211) dJ13_bitCount_95d88_29 ?_
  refine lv_land hx hb dJ13_bitCount_95d88_32 ?_
  refine g_topl (y := bc3 (bc2 (bc1 x))) (rfl) ?_
  refine lv_lstore_n (lv' := [(0, .long (bc3 (bc2 (bc1 x))))]) hx hb dJ13_bitCount_95d88_33 rfl hl (by decide) rfl (fun ls hl => ?_)
  refine lv_lload_n hx hb dJ13_bitCount_95d88_34 rfl (lv_at hl 0 rfl) ?_
  refine lv_lload_n hx hb dJ13_bitCount_95d88_35 rfl (lv_at hl 0 rfl) ?_
  refine lv_bipush (v := nI 8) hx hb dJ13_bitCount_95d88_36 (by decide) ?_
  refine lv_lushr (v := ((bc3 (bc2 (bc1 x))).toUInt64 >>> ((nI 8).toInt64.toUInt64 &&& Int64.toUInt64 63)).toInt64) hx hb dJ13_bitCount_95d88_38 rfl ?_
  refine lv_ladd hx hb dJ13_bitCount_95d88_39 ?_
  refine g_topl (y := bc4 (bc3 (bc2 (bc1 x)))) (rfl) ?_
  refine lv_lstore_n (lv' := [(0, .long (bc4 (bc3 (bc2 (bc1 x)))))]) hx hb dJ13_bitCount_95d88_40 rfl hl (by decide) rfl (fun ls hl => ?_)
  refine lv_lload_n hx hb dJ13_bitCount_95d88_41 rfl (lv_at hl 0 rfl) ?_
  refine lv_lload_n hx hb dJ13_bitCount_95d88_42 rfl (lv_at hl 0 rfl) ?_
  refine lv_bipush (v := nI 16) hx hb dJ13_bitCount_95d88_43 (by decide) ?_
  refine lv_lushr (v := ((bc4 (bc3 (bc2 (bc1 x)))).toUInt64 >>> ((nI 16).toInt64.toUInt64 &&& Int64.toUInt64 63)).toInt64) hx hb dJ13_bitCount_95d88_45 rfl ?_
  refine lv_ladd hx hb dJ13_bitCount_95d88_46 ?_
  refine g_topl (y := bc5 (bc4 (bc3 (bc2 (bc1 x))))) (rfl) ?_
  refine lv_lstore_n (lv' := [(0, .long (bc5 (bc4 (bc3 (bc2 (bc1 x))))))]) hx hb dJ13_bitCount_95d88_47 rfl hl (by decide) rfl (fun ls hl => ?_)
  refine lv_lload_n hx hb dJ13_bitCount_95d88_48 rfl (lv_at hl 0 rfl) ?_
  refine lv_lload_n hx hb dJ13_bitCount_95d88_49 rfl (lv_at hl 0 rfl) ?_
  refine lv_bipush (v := nI 32) hx hb dJ13_bitCount_95d88_50 (by decide) ?_
  refine lv_lushr (v := ((bc5 (bc4 (bc3 (bc2 (bc1 x))))).toUInt64 >>> ((nI 32).toInt64.toUInt64 &&& Int64.toUInt64 63)).toInt64) hx hb dJ13_bitCount_95d88_52 rfl ?_
  refine lv_ladd hx hb dJ13_bitCount_95d88_53 ?_
  refine g_topl (y := bc6 (bc5 (bc4 (bc3 (bc2 (bc1 x)))))) (rfl) ?_
  refine lv_lstore_n (lv' := [(0, .long (bc6 (bc5 (bc4 (bc3 (bc2 (bc1 x)))))))]) hx hb dJ13_bitCount_95d88_54 rfl hl (by decide) rfl (fun ls hl => ?_)
  refine lv_lload_n hx hb dJ13_bitCount_95d88_55 rfl (lv_at hl 0 rfl) ?_
  refine lv_l2i (v := (bc6 (bc5 (bc4 (bc3 (bc2 (bc1 x)))))).toInt32) hx hb dJ13_bitCount_95d88_56 rfl ?_
  refine lv_bipush (v := nI 127) hx hb dJ13_bitCount_95d88_57 (by decide) ?_
  refine lv_iand hx hb dJ13_bitCount_95d88_59 ?_
  refine g_top (y := bcI x) (rfl) ?_
  exact g_iret hx hb hr hlk hG dJ13_bitCount_95d88_60
end CM
