section CM
variable {l : Launch} {D : va_G} {A : Nat → Prop} {bd : Nat → Nat} {cI cQ cZ : ClassId} {run : Nat → Bool} {fm : Nat → Nat} {cm wr mk : Nat → Bool} {wo : Nat → Int32} {fc cc : Int32}
set_option maxHeartbeats 4000000 in
set_option maxRecDepth 100000 in
theorem rp_write_no {x a zz y r : Int32} (hr0 : ¬ 0 ≤ r) (hO : gM l yX3_pageOf cX3_pageOf 1 (some .int) 0 0 D cls (fpT cI cQ cZ) A (rfW bd cI cZ run fm cm wr mk wo fc cc) [.int a] (some (.int y)) (rfW bd cI cZ run fm cm wr mk wo fc cc)) (hM : gM l yX3_bar cX3_bar 3 (some .int) 1 21 D cls (fpT cI cQ cZ) A (rfW bd cI cZ run fm cm wr mk wo fc cc) [.ref (bd 0), .int x, .int y] (some (.int r)) (rfW bd cI cZ run fm cm wr mk wo fc cc)) : gM l yX3_write cX3_write 12 (some .int) 3 70 D cls (fpT cI cQ cZ) A (rfW bd cI cZ run fm cm wr mk wo fc cc) [.ref (bd 0), .int x, .int a, .int zz] (some (.int r)) (rfW bd cI cZ run fm cm wr mk wo fc cc) := by
  refine gM_of (by decide) (Nat.le_of_ble_eq_true rfl) ?_
  intro p e s m args below meth c ls hx hb hml hown hts hN hr hlk hl hG
  have hown : s.vm.findClass RX3 = some m.cls := hown
  have hl : lv_has ls 12 [(0, .ref (bd 0)), (1, .int x), (2, .int a), (3, .int zz)] := hl
  refine lv_iload_n hx hb dX3_write_0 rfl (lv_at hl 2 rfl) ?_
  refine g_callS (As := [.int a]) (rest := []) (hO) hx hb hml hown hts hN hG t_340 t_341 t_4 t_342 nm_X3_pageOf ⟨by decide, by decide⟩ hl.1 (Nat.le_of_ble_eq_true rfl) dX3_write_1 ⟨Nat.zero_le _, Nat.zero_le _⟩ (fun H locs hG => ?_)
  refine W.eq (g2 := F0 m 4 ls [.int y]) rfl ?_
  refine lv_istore (lv' := [(4, .int y), (0, .ref (bd 0)), (1, .int x), (2, .int a), (3, .int zz)]) hx hb dX3_write_4 hl (by decide) rfl (fun ls hl => ?_)
  refine lv_aload_n hx hb dX3_write_6 rfl (lv_at hl 1 rfl) ?_
  refine lv_iload_n hx hb dX3_write_7 rfl (lv_at hl 2 rfl) ?_
  refine lv_iload hx hb dX3_write_8 (lv_at hl 0 rfl) ?_
  refine g_callV (As := [.int x, .int y]) (rest := []) (fs := [.ref (bd 1), .ref (bd 2), .ref (bd 3), .ref (bd 4), .ref (bd 5), .ref (bd 6), .int fc, .int cc]) (hM) hx hb hml hown hts hN hG t_328 t_330 s_28 t_4 t_331 nm_X3_bar ⟨by decide, by decide⟩ rf_0 rfl hl.1 (Nat.le_of_ble_eq_true rfl) dX3_write_10 ⟨Nat.zero_le _, Nat.zero_le _⟩ (fun H locs hG => ?_)
  refine W.eq (g2 := F0 m 13 ls [.int r]) rfl ?_
  refine lv_istore (lv' := [(5, .int r), (4, .int y), (0, .ref (bd 0)), (1, .int x), (2, .int a), (3, .int zz)]) hx hb dX3_write_13 hl (by decide) rfl (fun ls hl => ?_)
  refine lv_iload hx hb dX3_write_15 (lv_at hl 0 rfl) ?_
  refine lv_if_ge (tgt := 23) hx hb dX3_write_17 rfl (fun hh => absurd hh (hr0)) (fun _ => ?_)
  refine lv_iload hx hb dX3_write_20 (lv_at hl 0 rfl) ?_
  exact g_iret hx hb hr hlk hG dX3_write_22
set_option maxHeartbeats 4000000 in
set_option maxRecDepth 100000 in
theorem rp_read_no {x a y r : Int32} (hr0 : ¬ 0 ≤ r) (hO : gM l yX3_pageOf cX3_pageOf 1 (some .int) 0 0 D cls (fpT cI cQ cZ) A (rfW bd cI cZ run fm cm wr mk wo fc cc) [.int a] (some (.int y)) (rfW bd cI cZ run fm cm wr mk wo fc cc)) (hM : gM l yX3_bar cX3_bar 3 (some .int) 1 21 D cls (fpT cI cQ cZ) A (rfW bd cI cZ run fm cm wr mk wo fc cc) [.ref (bd 0), .int x, .int y] (some (.int r)) (rfW bd cI cZ run fm cm wr mk wo fc cc)) : gM l yX3_read cX3_read 4 (some .long) 2 43 D cls (fpT cI cQ cZ) A (rfW bd cI cZ run fm cm wr mk wo fc cc) [.ref (bd 0), .int x, .int a] (some (.long 1099511627776)) (rfW bd cI cZ run fm cm wr mk wo fc cc) := by
  refine gM_of (by decide) (Nat.le_of_ble_eq_true rfl) ?_
  intro p e s m args below meth c ls hx hb hml hown hts hN hr hlk hl hG
  have hown : s.vm.findClass RX3 = some m.cls := hown
  have hl : lv_has ls 4 [(0, .ref (bd 0)), (1, .int x), (2, .int a)] := hl
  refine lv_iload_n hx hb dX3_read_0 rfl (lv_at hl 2 rfl) ?_
  refine g_callS (As := [.int a]) (rest := []) (hO) hx hb hml hown hts hN hG t_340 t_341 t_4 t_342 nm_X3_pageOf ⟨by decide, by decide⟩ hl.1 (Nat.le_of_ble_eq_true rfl) dX3_read_1 ⟨Nat.zero_le _, Nat.zero_le _⟩ (fun H locs hG => ?_)
  refine W.eq (g2 := F0 m 4 ls [.int y]) rfl ?_
  refine lv_istore_n (lv' := [(3, .int y), (0, .ref (bd 0)), (1, .int x), (2, .int a)]) hx hb dX3_read_4 rfl hl (by decide) rfl (fun ls hl => ?_)
  refine lv_aload_n hx hb dX3_read_5 rfl (lv_at hl 1 rfl) ?_
  refine lv_iload_n hx hb dX3_read_6 rfl (lv_at hl 2 rfl) ?_
  refine lv_iload_n hx hb dX3_read_7 rfl (lv_at hl 0 rfl) ?_
  refine g_callV (As := [.int x, .int y]) (rest := []) (fs := [.ref (bd 1), .ref (bd 2), .ref (bd 3), .ref (bd 4), .ref (bd 5), .ref (bd 6), .int fc, .int cc]) (hM) hx hb hml hown hts hN hG t_328 t_330 s_28 t_4 t_331 nm_X3_bar ⟨by decide, by decide⟩ rf_0 rfl hl.1 (Nat.le_of_ble_eq_true rfl) dX3_read_8 ⟨Nat.zero_le _, Nat.zero_le _⟩ (fun H locs hG => ?_)
  refine W.eq (g2 := F0 m 11 ls [.int r]) rfl ?_
  refine lv_if_ge (tgt := 18) hx hb dX3_read_11 rfl (fun hh => absurd hh (hr0)) (fun _ => ?_)
  refine lv_ldc2 (v := 1099511627776) hx hb hown (hts _ t_347) dX3_read_14 ?_
  exact g_lret hx hb hr hlk hG dX3_read_17
set_option maxHeartbeats 4000000 in
set_option maxRecDepth 100000 in
theorem rp_read_ok {j q : Nat} (hj : j < 5) (hq : q < 256) (h : run j = true) (h2 : 0 < fm (64 * j + q / 4)) (hB : ∀ i, fm i ≤ 24)  : gM l yX3_read cX3_read 4 (some .long) 2 43 D cls (fpT cI cQ cZ) A (rfW bd cI cZ run fm cm wr mk wo fc cc) [.ref (bd 0), .int (nI j), .int (nI q)] (some (.long ((wo ((fm (64 * j + q / 4) - 1) * 4 + q % 4)).toInt64))) (rfW bd cI cZ run fm cm wr mk wo fc cc) := by
  refine gM_of (by decide) (Nat.le_of_ble_eq_true rfl) ?_
  intro p e s m args below meth c ls hx hb hml hown hts hN hr hlk hl hG
  have hown : s.vm.findClass RX3 = some m.cls := hown
  have hl : lv_has ls 4 [(0, .ref (bd 0)), (1, .int (nI j)), (2, .int (nI q))] := hl
  refine lv_iload_n hx hb dX3_read_0 rfl (lv_at hl 2 rfl) ?_
  refine g_callS (As := [.int (nI q)]) (rest := []) (rm_pageOf_t hq) hx hb hml hown hts hN hG t_340 t_341 t_4 t_342 nm_X3_pageOf ⟨by decide, by decide⟩ hl.1 (Nat.le_of_ble_eq_true rfl) dX3_read_1 ⟨Nat.zero_le _, Nat.zero_le _⟩ (fun H locs hG => ?_)
  refine W.eq (g2 := F0 m 4 ls [.int (nI (q / 4))]) rfl ?_
  refine lv_istore_n (lv' := [(3, .int (nI (q / 4))), (0, .ref (bd 0)), (1, .int (nI j)), (2, .int (nI q))]) hx hb dX3_read_4 rfl hl (by decide) rfl (fun ls hl => ?_)
  refine lv_aload_n hx hb dX3_read_5 rfl (lv_at hl 1 rfl) ?_
  refine lv_iload_n hx hb dX3_read_6 rfl (lv_at hl 2 rfl) ?_
  refine lv_iload_n hx hb dX3_read_7 rfl (lv_at hl 0 rfl) ?_
  refine g_callV (As := [.int (nI j), .int (nI (q / 4))]) (rest := []) (fs := [.ref (bd 1), .ref (bd 2), .ref (bd 3), .ref (bd 4), .ref (bd 5), .ref (bd 6), .int fc, .int cc]) (rm_bar_0 hj (by omega) h h2 hB) hx hb hml hown hts hN hG t_328 t_330 s_28 t_4 t_331 nm_X3_bar ⟨by decide, by decide⟩ rf_0 rfl hl.1 (Nat.le_of_ble_eq_true rfl) dX3_read_8 ⟨Nat.zero_le _, Nat.zero_le _⟩ (fun H locs hG => ?_)
  refine W.eq (g2 := F0 m 11 ls [.int 0]) rfl ?_
  refine lv_if_ge (tgt := 18) hx hb dX3_read_11 rfl (fun _ => ?_) (fun hh => absurd (by decide) hh)
  refine lv_aload_n hx hb dX3_read_18 rfl (lv_at hl 1 rfl) ?_
  refine g_get (k := 5) (v := .ref (bd 6)) (C := RX3) (ref := RX3) (fs := [.ref (bd 1), .ref (bd 2), .ref (bd 3), .ref (bd 4), .ref (bd 5), .ref (bd 6), .int fc, .int cc]) hx hb hown hts hG gX3 rfl rf_0 (by decide) t_243 rfl rfl dX3_read_19 ?_
  refine lv_iconst (v := nI 4) hx hb dX3_read_22 (by decide) ?_
  refine lv_aload_n hx hb dX3_read_23 rfl (lv_at hl 1 rfl) ?_
  refine g_get (k := 1) (v := .ref (bd 2)) (C := RX3) (ref := RX3) (fs := [.ref (bd 1), .ref (bd 2), .ref (bd 3), .ref (bd 4), .ref (bd 5), .ref (bd 6), .int fc, .int cc]) hx hb hown hts hG gX3 rfl rf_0 (by decide) t_239 rfl rfl dX3_read_24 ?_
  refine lv_bipush (v := nI 64) hx hb dX3_read_27 (by decide) ?_
  refine lv_iload_n hx hb dX3_read_29 rfl (lv_at hl 2 rfl) ?_
  refine lv_imul hx hb dX3_read_30 ?_
  refine g_top (y := nI (64 * j)) (pk_mul 64 j) ?_
  refine lv_iload_n hx hb dX3_read_31 rfl (lv_at hl 0 rfl) ?_
  refine lv_iadd hx hb dX3_read_32 ?_
  refine g_top (y := nI (64 * j + q / 4)) (nI_add _ _) ?_
  refine g_iald (i := (64 * j + q / 4)) (t0 := 0) hx hb hG rf_2 rfl ((by omega)) (by decide) dX3_read_33 ?_
  refine lv_iconst (v := nI 1) hx hb dX3_read_34 (by decide) ?_
  refine lv_isub hx hb dX3_read_35 ?_
  refine g_top (y := nI (fm (64 * j + q / 4) - 1)) (pk_sub (b := 1) (by omega)) ?_
  refine lv_imul hx hb dX3_read_36 ?_
  refine g_top (y := nI ((fm (64 * j + q / 4) - 1) * 4)) (by rw [pk_mul, Nat.mul_comm]) ?_
  refine lv_iload_n hx hb dX3_read_37 rfl (lv_at hl 3 rfl) ?_
  refine lv_iconst (v := nI 4) hx hb dX3_read_38 (by decide) ?_
  refine lv_irem hx hb dX3_read_39 (by decide) ?_
  refine g_top (y := nI (q % 4)) (pk_rem (d := 4) (Nat.lt_trans hq (by decide)) (by decide) (by decide)) ?_
  refine lv_iadd hx hb dX3_read_40 ?_
  refine g_top (y := nI ((fm (64 * j + q / 4) - 1) * 4 + q % 4)) (nI_add _ _) ?_
  refine g_iald (i := ((fm (64 * j + q / 4) - 1) * 4 + q % 4)) (t0 := 0) hx hb hG rf_6 rfl ((by have := hB (64 * j + q / 4); omega)) (by decide) dX3_read_41 ?_
  refine lv_i2l (v := (wo ((fm (64 * j + q / 4) - 1) * 4 + q % 4)).toInt64) hx hb dX3_read_42 rfl ?_
  exact g_lret hx hb hr hlk hG dX3_read_43
set_option maxHeartbeats 4000000 in
set_option maxRecDepth 100000 in
theorem rp_write_5 {j q : Nat} (hj : j < 5) (hq : q < 256) (h : run j = true) (h2 : 0 < fm (64 * j + q / 4)) (hB : ∀ i, fm i ≤ 24) {zz : Int32} (h3 : wr (64 * j + q / 4) = false) : gM l yX3_write cX3_write 12 (some .int) 3 70 D cls (fpT cI cQ cZ) A (rfW bd cI cZ run fm cm wr mk wo fc cc) [.ref (bd 0), .int (nI j), .int (nI q), .int zz] (some (.int (-5))) (rfW bd cI cZ run fm cm wr mk wo fc cc) := by
  refine gM_of (by decide) (Nat.le_of_ble_eq_true rfl) ?_
  intro p e s m args below meth c ls hx hb hml hown hts hN hr hlk hl hG
  have hown : s.vm.findClass RX3 = some m.cls := hown
  have hl : lv_has ls 12 [(0, .ref (bd 0)), (1, .int (nI j)), (2, .int (nI q)), (3, .int zz)] := hl
  refine lv_iload_n hx hb dX3_write_0 rfl (lv_at hl 2 rfl) ?_
  refine g_callS (As := [.int (nI q)]) (rest := []) (rm_pageOf_t hq) hx hb hml hown hts hN hG t_340 t_341 t_4 t_342 nm_X3_pageOf ⟨by decide, by decide⟩ hl.1 (Nat.le_of_ble_eq_true rfl) dX3_write_1 ⟨Nat.zero_le _, Nat.zero_le _⟩ (fun H locs hG => ?_)
  refine W.eq (g2 := F0 m 4 ls [.int (nI (q / 4))]) rfl ?_
  refine lv_istore (lv' := [(4, .int (nI (q / 4))), (0, .ref (bd 0)), (1, .int (nI j)), (2, .int (nI q)), (3, .int zz)]) hx hb dX3_write_4 hl (by decide) rfl (fun ls hl => ?_)
  refine lv_aload_n hx hb dX3_write_6 rfl (lv_at hl 1 rfl) ?_
  refine lv_iload_n hx hb dX3_write_7 rfl (lv_at hl 2 rfl) ?_
  refine lv_iload hx hb dX3_write_8 (lv_at hl 0 rfl) ?_
  refine g_callV (As := [.int (nI j), .int (nI (q / 4))]) (rest := []) (fs := [.ref (bd 1), .ref (bd 2), .ref (bd 3), .ref (bd 4), .ref (bd 5), .ref (bd 6), .int fc, .int cc]) (rm_bar_0 hj (by omega) h h2 hB) hx hb hml hown hts hN hG t_328 t_330 s_28 t_4 t_331 nm_X3_bar ⟨by decide, by decide⟩ rf_0 rfl hl.1 (Nat.le_of_ble_eq_true rfl) dX3_write_10 ⟨Nat.zero_le _, Nat.zero_le _⟩ (fun H locs hG => ?_)
  refine W.eq (g2 := F0 m 13 ls [.int 0]) rfl ?_
  refine lv_istore (lv' := [(5, .int 0), (4, .int (nI (q / 4))), (0, .ref (bd 0)), (1, .int (nI j)), (2, .int (nI q)), (3, .int zz)]) hx hb dX3_write_13 hl (by decide) rfl (fun ls hl => ?_)
  refine lv_iload hx hb dX3_write_15 (lv_at hl 0 rfl) ?_
  refine lv_if_ge (tgt := 23) hx hb dX3_write_17 rfl (fun _ => ?_) (fun hh => absurd (by decide) hh)
  refine lv_bipush (v := nI 64) hx hb dX3_write_23 (by decide) ?_
  refine lv_iload_n hx hb dX3_write_25 rfl (lv_at hl 3 rfl) ?_
  refine lv_imul hx hb dX3_write_26 ?_
  refine g_top (y := nI (64 * j)) (pk_mul 64 j) ?_
  refine lv_iload hx hb dX3_write_27 (lv_at hl 1 rfl) ?_
  refine lv_iadd hx hb dX3_write_29 ?_
  refine g_top (y := nI (64 * j + q / 4)) (nI_add _ _) ?_
  refine lv_istore (lv' := [(6, .int (nI (64 * j + q / 4))), (5, .int 0), (4, .int (nI (q / 4))), (0, .ref (bd 0)), (1, .int (nI j)), (2, .int (nI q)), (3, .int zz)]) hx hb dX3_write_30 hl (by decide) rfl (fun ls hl => ?_)
  refine lv_aload_n hx hb dX3_write_32 rfl (lv_at hl 3 rfl) ?_
  refine g_get (k := 3) (v := .ref (bd 4)) (C := RX3) (ref := RX3) (fs := [.ref (bd 1), .ref (bd 2), .ref (bd 3), .ref (bd 4), .ref (bd 5), .ref (bd 6), .int fc, .int cc]) hx hb hown hts hG gX3 rfl rf_0 (by decide) t_241 rfl rfl dX3_write_33 ?_
  refine lv_iload hx hb dX3_write_36 (lv_at hl 0 rfl) ?_
  refine g_zald (i := (64 * j + q / 4)) (t0 := 2) hx hb hG rf_4 rfl ((by omega)) (by decide) dX3_write_38 ?_
  refine g_top (y := 0) (by rw [h3]; rfl) ?_
  refine lv_if_ne (tgt := 45) hx hb dX3_write_39 rfl (fun hh => absurd (rfl) hh) (fun _ => ?_)
  refine lv_bipush (v := (-5)) hx hb dX3_write_42 (by decide) ?_
  exact g_iret hx hb hr hlk hG dX3_write_44
set_option maxHeartbeats 4000000 in
set_option maxRecDepth 100000 in
theorem rp_write_0 {j q : Nat} (hj : j < 5) (hq : q < 256) (h : run j = true) (h2 : 0 < fm (64 * j + q / 4)) (hB : ∀ i, fm i ≤ 24) {zz : Int32} (h3 : wr (64 * j + q / 4) = true) (h4 : mk (64 * j + q / 4) = false) : gM l yX3_write cX3_write 12 (some .int) 3 70 D cls (fpT cI cQ cZ) A (rfW bd cI cZ run fm cm wr mk wo fc cc) [.ref (bd 0), .int (nI j), .int (nI q), .int zz] (some (.int 0)) (rfW bd cI cZ run fm cm wr (up1 mk (64 * j + q / 4) false) (upd wo ((fm (64 * j + q / 4) - 1) * 4 + q % 4) zz) fc cc) := by
  refine gM_of (by decide) (Nat.le_of_ble_eq_true rfl) ?_
  intro p e s m args below meth c ls hx hb hml hown hts hN hr hlk hl hG
  have hown : s.vm.findClass RX3 = some m.cls := hown
  have hl : lv_has ls 12 [(0, .ref (bd 0)), (1, .int (nI j)), (2, .int (nI q)), (3, .int zz)] := hl
  refine lv_iload_n hx hb dX3_write_0 rfl (lv_at hl 2 rfl) ?_
  refine g_callS (As := [.int (nI q)]) (rest := []) (rm_pageOf_t hq) hx hb hml hown hts hN hG t_340 t_341 t_4 t_342 nm_X3_pageOf ⟨by decide, by decide⟩ hl.1 (Nat.le_of_ble_eq_true rfl) dX3_write_1 ⟨Nat.zero_le _, Nat.zero_le _⟩ (fun H locs hG => ?_)
  refine W.eq (g2 := F0 m 4 ls [.int (nI (q / 4))]) rfl ?_
  refine lv_istore (lv' := [(4, .int (nI (q / 4))), (0, .ref (bd 0)), (1, .int (nI j)), (2, .int (nI q)), (3, .int zz)]) hx hb dX3_write_4 hl (by decide) rfl (fun ls hl => ?_)
  refine lv_aload_n hx hb dX3_write_6 rfl (lv_at hl 1 rfl) ?_
  refine lv_iload_n hx hb dX3_write_7 rfl (lv_at hl 2 rfl) ?_
  refine lv_iload hx hb dX3_write_8 (lv_at hl 0 rfl) ?_
  refine g_callV (As := [.int (nI j), .int (nI (q / 4))]) (rest := []) (fs := [.ref (bd 1), .ref (bd 2), .ref (bd 3), .ref (bd 4), .ref (bd 5), .ref (bd 6), .int fc, .int cc]) (rm_bar_0 hj (by omega) h h2 hB) hx hb hml hown hts hN hG t_328 t_330 s_28 t_4 t_331 nm_X3_bar ⟨by decide, by decide⟩ rf_0 rfl hl.1 (Nat.le_of_ble_eq_true rfl) dX3_write_10 ⟨Nat.zero_le _, Nat.zero_le _⟩ (fun H locs hG => ?_)
  refine W.eq (g2 := F0 m 13 ls [.int 0]) rfl ?_
  refine lv_istore (lv' := [(5, .int 0), (4, .int (nI (q / 4))), (0, .ref (bd 0)), (1, .int (nI j)), (2, .int (nI q)), (3, .int zz)]) hx hb dX3_write_13 hl (by decide) rfl (fun ls hl => ?_)
  refine lv_iload hx hb dX3_write_15 (lv_at hl 0 rfl) ?_
  refine lv_if_ge (tgt := 23) hx hb dX3_write_17 rfl (fun _ => ?_) (fun hh => absurd (by decide) hh)
  refine lv_bipush (v := nI 64) hx hb dX3_write_23 (by decide) ?_
  refine lv_iload_n hx hb dX3_write_25 rfl (lv_at hl 3 rfl) ?_
  refine lv_imul hx hb dX3_write_26 ?_
  refine g_top (y := nI (64 * j)) (pk_mul 64 j) ?_
  refine lv_iload hx hb dX3_write_27 (lv_at hl 1 rfl) ?_
  refine lv_iadd hx hb dX3_write_29 ?_
  refine g_top (y := nI (64 * j + q / 4)) (nI_add _ _) ?_
  refine lv_istore (lv' := [(6, .int (nI (64 * j + q / 4))), (5, .int 0), (4, .int (nI (q / 4))), (0, .ref (bd 0)), (1, .int (nI j)), (2, .int (nI q)), (3, .int zz)]) hx hb dX3_write_30 hl (by decide) rfl (fun ls hl => ?_)
  refine lv_aload_n hx hb dX3_write_32 rfl (lv_at hl 3 rfl) ?_
  refine g_get (k := 3) (v := .ref (bd 4)) (C := RX3) (ref := RX3) (fs := [.ref (bd 1), .ref (bd 2), .ref (bd 3), .ref (bd 4), .ref (bd 5), .ref (bd 6), .int fc, .int cc]) hx hb hown hts hG gX3 rfl rf_0 (by decide) t_241 rfl rfl dX3_write_33 ?_
  refine lv_iload hx hb dX3_write_36 (lv_at hl 0 rfl) ?_
  refine g_zald (i := (64 * j + q / 4)) (t0 := 2) hx hb hG rf_4 rfl ((by omega)) (by decide) dX3_write_38 ?_
  refine g_top (y := 1) (by rw [h3]; rfl) ?_
  refine lv_if_ne (tgt := 45) hx hb dX3_write_39 rfl (fun _ => ?_) (fun hh => absurd hh (by decide))
  refine lv_aload_n hx hb dX3_write_45 rfl (lv_at hl 3 rfl) ?_
  refine g_get (k := 1) (v := .ref (bd 2)) (C := RX3) (ref := RX3) (fs := [.ref (bd 1), .ref (bd 2), .ref (bd 3), .ref (bd 4), .ref (bd 5), .ref (bd 6), .int fc, .int cc]) hx hb hown hts hG gX3 rfl rf_0 (by decide) t_239 rfl rfl dX3_write_46 ?_
  refine lv_iload hx hb dX3_write_49 (lv_at hl 0 rfl) ?_
  refine g_iald (i := (64 * j + q / 4)) (t0 := 0) hx hb hG rf_2 rfl ((by omega)) (by decide) dX3_write_51 ?_
  refine lv_iconst (v := nI 1) hx hb dX3_write_52 (by decide) ?_
  refine lv_isub hx hb dX3_write_53 ?_
  refine g_top (y := nI (fm (64 * j + q / 4) - 1)) (pk_sub (b := 1) (by omega)) ?_
  refine lv_istore (lv' := [(7, .int (nI (fm (64 * j + q / 4) - 1))), (6, .int (nI (64 * j + q / 4))), (5, .int 0), (4, .int (nI (q / 4))), (0, .ref (bd 0)), (1, .int (nI j)), (2, .int (nI q)), (3, .int zz)]) hx hb dX3_write_54 hl (by decide) rfl (fun ls hl => ?_)
  refine lv_aload_n hx hb dX3_write_56 rfl (lv_at hl 4 rfl) ?_
  refine g_get (k := 4) (v := .ref (bd 5)) (C := RX3) (ref := RX3) (fs := [.ref (bd 1), .ref (bd 2), .ref (bd 3), .ref (bd 4), .ref (bd 5), .ref (bd 6), .int fc, .int cc]) hx hb hown hts hG gX3 rfl rf_0 (by decide) t_242 rfl rfl dX3_write_57 ?_
  refine lv_iload hx hb dX3_write_60 (lv_at hl 1 rfl) ?_
  refine g_zald (i := (64 * j + q / 4)) (t0 := 2) hx hb hG rf_5 rfl ((by omega)) (by decide) dX3_write_62 ?_
  refine g_top (y := 0) (by rw [h4]; rfl) ?_
  refine lv_if_eq (tgt := 80) hx hb dX3_write_63 rfl (fun _ => ?_) (fun hh => absurd (rfl) hh)
  refine lv_iconst (v := 0) hx hb dX3_write_80 (by decide) ?_
  refine lv_istore (lv' := [(8, .int 0), (7, .int (nI (fm (64 * j + q / 4) - 1))), (6, .int (nI (64 * j + q / 4))), (5, .int 0), (4, .int (nI (q / 4))), (0, .ref (bd 0)), (1, .int (nI j)), (2, .int (nI q)), (3, .int zz)]) hx hb dX3_write_81 hl (by decide) rfl (fun ls hl => ?_)
  refine lv_iload hx hb dX3_write_83 (lv_at hl 0 rfl) ?_
  refine lv_if_eq (tgt := 98) hx hb dX3_write_85 rfl (fun _ => ?_) (fun hh => absurd (rfl) hh)
  refine lv_iload hx hb dX3_write_98 (lv_at hl 0 rfl) ?_
  refine lv_if_eq (tgt := 107) hx hb dX3_write_100 rfl (fun _ => ?_) (fun hh => absurd (rfl) hh)
  refine lv_aload_n hx hb dX3_write_107 rfl (lv_at hl 5 rfl) ?_
  refine g_get (k := 4) (v := .ref (bd 5)) (C := RX3) (ref := RX3) (fs := [.ref (bd 1), .ref (bd 2), .ref (bd 3), .ref (bd 4), .ref (bd 5), .ref (bd 6), .int fc, .int cc]) hx hb hown hts hG gX3 rfl rf_0 (by decide) t_242 rfl rfl dX3_write_108 ?_
  refine lv_iload hx hb dX3_write_111 (lv_at hl 2 rfl) ?_
  refine g_zald (i := (64 * j + q / 4)) (t0 := 2) hx hb hG rf_5 rfl ((by omega)) (by decide) dX3_write_113 ?_
  refine g_top (y := 0) (by rw [h4]; rfl) ?_
  refine lv_if_eq (tgt := 121) hx hb dX3_write_114 rfl (fun _ => ?_) (fun hh => absurd (rfl) hh)
  refine lv_iconst (v := 0) hx hb dX3_write_121 (by decide) ?_
  refine lv_istore (lv' := [(9, .int 0), (8, .int 0), (7, .int (nI (fm (64 * j + q / 4) - 1))), (6, .int (nI (64 * j + q / 4))), (5, .int 0), (4, .int (nI (q / 4))), (0, .ref (bd 0)), (1, .int (nI j)), (2, .int (nI q)), (3, .int zz)]) hx hb dX3_write_122 hl (by decide) rfl (fun ls hl => ?_)
  refine lv_iload hx hb dX3_write_124 (lv_at hl 1 rfl) ?_
  refine lv_if_eq (tgt := 195) hx hb dX3_write_126 rfl (fun _ => ?_) (fun hh => absurd (rfl) hh)
  refine lv_aload_n hx hb dX3_write_195 rfl (lv_at hl 6 rfl) ?_
  refine lv_iload hx hb dX3_write_196 (lv_at hl 0 rfl) ?_
  refine lv_if_le (tgt := 210) hx hb dX3_write_198 rfl (fun _ => ?_) (fun hh => absurd (by decide) hh)
  refine lv_aload_n hx hb dX3_write_210 rfl (lv_at hl 6 rfl) ?_
  refine g_get (k := 6) (v := .int fc) (C := RX3) (ref := RX3) (fs := [.ref (bd 1), .ref (bd 2), .ref (bd 3), .ref (bd 4), .ref (bd 5), .ref (bd 6), .int fc, .int cc]) hx hb hown hts hG gX3 rfl rf_0 (by decide) t_244 rfl rfl dX3_write_211 ?_
  refine g_put (k := 6) (v := .int fc) (C := RX3) (ref := RX3) (ty := .int) (fs := [.ref (bd 1), .ref (bd 2), .ref (bd 3), .ref (bd 4), .ref (bd 5), .ref (bd 6), .int fc, .int cc]) (ws' := rfW bd cI cZ run fm cm wr mk wo fc cc) tyX3 tyX3_ok nmX3 hx hb hown hts hG gX3 rfl rf_0 (by decide) t_244 rfl rfl (by decide +kernel) rfl rfl (Nat.le_of_ble_eq_true rfl) (rf_s0f _) dX3_write_214 (fun H locs hG => ?_)
  refine lv_aload_n hx hb dX3_write_217 rfl (lv_at hl 6 rfl) ?_
  refine g_get (k := 4) (v := .ref (bd 5)) (C := RX3) (ref := RX3) (fs := [.ref (bd 1), .ref (bd 2), .ref (bd 3), .ref (bd 4), .ref (bd 5), .ref (bd 6), .int fc, .int cc]) hx hb hown hts hG gX3 rfl rf_0 (by decide) t_242 rfl rfl dX3_write_218 ?_
  refine lv_iload hx hb dX3_write_221 (lv_at hl 3 rfl) ?_
  refine lv_iconst (v := bI false) hx hb dX3_write_223 (by decide) ?_
  refine g_zast (i := (64 * j + q / 4)) (x := bI false) (t0 := 2) (ws' := rfW bd cI cZ run fm cm wr (up1 mk (64 * j + q / 4) false) wo fc cc) hx hb hG rf_5 rfl ((by omega)) (by decide) (nar_bI _) (rf_s5 _ _) dX3_write_224 (fun H locs hG => ?_)
  refine lv_aload_n hx hb dX3_write_225 rfl (lv_at hl 6 rfl) ?_
  refine g_get (k := 5) (v := .ref (bd 6)) (C := RX3) (ref := RX3) (fs := [.ref (bd 1), .ref (bd 2), .ref (bd 3), .ref (bd 4), .ref (bd 5), .ref (bd 6), .int fc, .int cc]) hx hb hown hts hG gX3 rfl rf_0 (by decide) t_243 rfl rfl dX3_write_226 ?_
  refine lv_iconst (v := nI 4) hx hb dX3_write_229 (by decide) ?_
  refine lv_aload_n hx hb dX3_write_230 rfl (lv_at hl 6 rfl) ?_
  refine g_get (k := 1) (v := .ref (bd 2)) (C := RX3) (ref := RX3) (fs := [.ref (bd 1), .ref (bd 2), .ref (bd 3), .ref (bd 4), .ref (bd 5), .ref (bd 6), .int fc, .int cc]) hx hb hown hts hG gX3 rfl rf_0 (by decide) t_239 rfl rfl dX3_write_231 ?_
  refine lv_iload hx hb dX3_write_234 (lv_at hl 3 rfl) ?_
  refine g_iald (i := (64 * j + q / 4)) (t0 := 0) hx hb hG rf_2 rfl ((by omega)) (by decide) dX3_write_236 ?_
  refine lv_iconst (v := nI 1) hx hb dX3_write_237 (by decide) ?_
  refine lv_isub hx hb dX3_write_238 ?_
  refine g_top (y := nI (fm (64 * j + q / 4) - 1)) (pk_sub (b := 1) (by omega)) ?_
  refine lv_imul hx hb dX3_write_239 ?_
  refine g_top (y := nI ((fm (64 * j + q / 4) - 1) * 4)) (by rw [pk_mul, Nat.mul_comm]) ?_
  refine lv_iload_n hx hb dX3_write_240 rfl (lv_at hl 8 rfl) ?_
  refine lv_iconst (v := nI 4) hx hb dX3_write_241 (by decide) ?_
  refine lv_irem hx hb dX3_write_242 (by decide) ?_
  refine g_top (y := nI (q % 4)) (pk_rem (d := 4) (Nat.lt_trans hq (by decide)) (by decide) (by decide)) ?_
  refine lv_iadd hx hb dX3_write_243 ?_
  refine g_top (y := nI ((fm (64 * j + q / 4) - 1) * 4 + q % 4)) (nI_add _ _) ?_
  refine lv_iload_n hx hb dX3_write_244 rfl (lv_at hl 9 rfl) ?_
  refine g_iast (i := ((fm (64 * j + q / 4) - 1) * 4 + q % 4)) (x := zz) (t0 := 0) (ws' := rfW bd cI cZ run fm cm wr (up1 mk (64 * j + q / 4) false) (upd wo ((fm (64 * j + q / 4) - 1) * 4 + q % 4) zz) fc cc) hx hb hG rf_6 rfl ((by have := hB (64 * j + q / 4); omega)) (by decide) (rf_s6 _) dX3_write_245 (fun H locs hG => ?_)
  refine lv_iload hx hb dX3_write_246 (lv_at hl 0 rfl) ?_
  exact g_iret hx hb hr hlk hG dX3_write_248
set_option maxHeartbeats 4000000 in
set_option maxRecDepth 100000 in
theorem rp_write_1 {j q : Nat} (hj : j < 5) (hq : q < 256) (h : run j = true) (h2 : 0 < fm (64 * j + q / 4)) (hB : ∀ i, fm i ≤ 24) {zz : Int32} (h3 : wr (64 * j + q / 4) = true) (h4 : mk (64 * j + q / 4) = true) (h5 : ldN fm (fm (64 * j + q / 4) - 1) ≤ 1) : gM l yX3_write cX3_write 12 (some .int) 3 70 D cls (fpT cI cQ cZ) A (rfW bd cI cZ run fm cm wr mk wo fc cc) [.ref (bd 0), .int (nI j), .int (nI q), .int zz] (some (.int 1)) (rfW bd cI cZ run fm cm wr (up1 mk (64 * j + q / 4) false) (upd wo ((fm (64 * j + q / 4) - 1) * 4 + q % 4) zz) (fc + 1) cc) := by
  refine gM_of (by decide) (Nat.le_of_ble_eq_true rfl) ?_
  intro p e s m args below meth c ls hx hb hml hown hts hN hr hlk hl hG
  have hown : s.vm.findClass RX3 = some m.cls := hown
  have hl : lv_has ls 12 [(0, .ref (bd 0)), (1, .int (nI j)), (2, .int (nI q)), (3, .int zz)] := hl
  refine lv_iload_n hx hb dX3_write_0 rfl (lv_at hl 2 rfl) ?_
  refine g_callS (As := [.int (nI q)]) (rest := []) (rm_pageOf_t hq) hx hb hml hown hts hN hG t_340 t_341 t_4 t_342 nm_X3_pageOf ⟨by decide, by decide⟩ hl.1 (Nat.le_of_ble_eq_true rfl) dX3_write_1 ⟨Nat.zero_le _, Nat.zero_le _⟩ (fun H locs hG => ?_)
  refine W.eq (g2 := F0 m 4 ls [.int (nI (q / 4))]) rfl ?_
  refine lv_istore (lv' := [(4, .int (nI (q / 4))), (0, .ref (bd 0)), (1, .int (nI j)), (2, .int (nI q)), (3, .int zz)]) hx hb dX3_write_4 hl (by decide) rfl (fun ls hl => ?_)
  refine lv_aload_n hx hb dX3_write_6 rfl (lv_at hl 1 rfl) ?_
  refine lv_iload_n hx hb dX3_write_7 rfl (lv_at hl 2 rfl) ?_
  refine lv_iload hx hb dX3_write_8 (lv_at hl 0 rfl) ?_
  refine g_callV (As := [.int (nI j), .int (nI (q / 4))]) (rest := []) (fs := [.ref (bd 1), .ref (bd 2), .ref (bd 3), .ref (bd 4), .ref (bd 5), .ref (bd 6), .int fc, .int cc]) (rm_bar_0 hj (by omega) h h2 hB) hx hb hml hown hts hN hG t_328 t_330 s_28 t_4 t_331 nm_X3_bar ⟨by decide, by decide⟩ rf_0 rfl hl.1 (Nat.le_of_ble_eq_true rfl) dX3_write_10 ⟨Nat.zero_le _, Nat.zero_le _⟩ (fun H locs hG => ?_)
  refine W.eq (g2 := F0 m 13 ls [.int 0]) rfl ?_
  refine lv_istore (lv' := [(5, .int 0), (4, .int (nI (q / 4))), (0, .ref (bd 0)), (1, .int (nI j)), (2, .int (nI q)), (3, .int zz)]) hx hb dX3_write_13 hl (by decide) rfl (fun ls hl => ?_)
  refine lv_iload hx hb dX3_write_15 (lv_at hl 0 rfl) ?_
  refine lv_if_ge (tgt := 23) hx hb dX3_write_17 rfl (fun _ => ?_) (fun hh => absurd (by decide) hh)
  refine lv_bipush (v := nI 64) hx hb dX3_write_23 (by decide) ?_
  refine lv_iload_n hx hb dX3_write_25 rfl (lv_at hl 3 rfl) ?_
  refine lv_imul hx hb dX3_write_26 ?_
  refine g_top (y := nI (64 * j)) (pk_mul 64 j) ?_
  refine lv_iload hx hb dX3_write_27 (lv_at hl 1 rfl) ?_
  refine lv_iadd hx hb dX3_write_29 ?_
  refine g_top (y := nI (64 * j + q / 4)) (nI_add _ _) ?_
  refine lv_istore (lv' := [(6, .int (nI (64 * j + q / 4))), (5, .int 0), (4, .int (nI (q / 4))), (0, .ref (bd 0)), (1, .int (nI j)), (2, .int (nI q)), (3, .int zz)]) hx hb dX3_write_30 hl (by decide) rfl (fun ls hl => ?_)
  refine lv_aload_n hx hb dX3_write_32 rfl (lv_at hl 3 rfl) ?_
  refine g_get (k := 3) (v := .ref (bd 4)) (C := RX3) (ref := RX3) (fs := [.ref (bd 1), .ref (bd 2), .ref (bd 3), .ref (bd 4), .ref (bd 5), .ref (bd 6), .int fc, .int cc]) hx hb hown hts hG gX3 rfl rf_0 (by decide) t_241 rfl rfl dX3_write_33 ?_
  refine lv_iload hx hb dX3_write_36 (lv_at hl 0 rfl) ?_
  refine g_zald (i := (64 * j + q / 4)) (t0 := 2) hx hb hG rf_4 rfl ((by omega)) (by decide) dX3_write_38 ?_
  refine g_top (y := 1) (by rw [h3]; rfl) ?_
  refine lv_if_ne (tgt := 45) hx hb dX3_write_39 rfl (fun _ => ?_) (fun hh => absurd hh (by decide))
  refine lv_aload_n hx hb dX3_write_45 rfl (lv_at hl 3 rfl) ?_
  refine g_get (k := 1) (v := .ref (bd 2)) (C := RX3) (ref := RX3) (fs := [.ref (bd 1), .ref (bd 2), .ref (bd 3), .ref (bd 4), .ref (bd 5), .ref (bd 6), .int fc, .int cc]) hx hb hown hts hG gX3 rfl rf_0 (by decide) t_239 rfl rfl dX3_write_46 ?_
  refine lv_iload hx hb dX3_write_49 (lv_at hl 0 rfl) ?_
  refine g_iald (i := (64 * j + q / 4)) (t0 := 0) hx hb hG rf_2 rfl ((by omega)) (by decide) dX3_write_51 ?_
  refine lv_iconst (v := nI 1) hx hb dX3_write_52 (by decide) ?_
  refine lv_isub hx hb dX3_write_53 ?_
  refine g_top (y := nI (fm (64 * j + q / 4) - 1)) (pk_sub (b := 1) (by omega)) ?_
  refine lv_istore (lv' := [(7, .int (nI (fm (64 * j + q / 4) - 1))), (6, .int (nI (64 * j + q / 4))), (5, .int 0), (4, .int (nI (q / 4))), (0, .ref (bd 0)), (1, .int (nI j)), (2, .int (nI q)), (3, .int zz)]) hx hb dX3_write_54 hl (by decide) rfl (fun ls hl => ?_)
  refine lv_aload_n hx hb dX3_write_56 rfl (lv_at hl 4 rfl) ?_
  refine g_get (k := 4) (v := .ref (bd 5)) (C := RX3) (ref := RX3) (fs := [.ref (bd 1), .ref (bd 2), .ref (bd 3), .ref (bd 4), .ref (bd 5), .ref (bd 6), .int fc, .int cc]) hx hb hown hts hG gX3 rfl rf_0 (by decide) t_242 rfl rfl dX3_write_57 ?_
  refine lv_iload hx hb dX3_write_60 (lv_at hl 1 rfl) ?_
  refine g_zald (i := (64 * j + q / 4)) (t0 := 2) hx hb hG rf_5 rfl ((by omega)) (by decide) dX3_write_62 ?_
  refine g_top (y := 1) (by rw [h4]; rfl) ?_
  refine lv_if_eq (tgt := 80) hx hb dX3_write_63 rfl (fun hh => absurd hh (by decide)) (fun _ => ?_)
  refine lv_aload_n hx hb dX3_write_66 rfl (lv_at hl 4 rfl) ?_
  refine lv_iload hx hb dX3_write_67 (lv_at hl 0 rfl) ?_
  refine g_callV (As := [.int (nI (fm (64 * j + q / 4) - 1))]) (rest := []) (fs := [.ref (bd 1), .ref (bd 2), .ref (bd 3), .ref (bd 4), .ref (bd 5), .ref (bd 6), .int fc, .int cc]) (rm_leads (by have := hB (64 * j + q / 4); omega) hB) hx hb hml hown hts hN hG t_268 t_270 s_20 t_4 t_271 nm_X3_leads ⟨by decide, by decide⟩ rf_0 rfl hl.1 (Nat.le_of_ble_eq_true rfl) dX3_write_69 ⟨Nat.zero_le _, Nat.zero_le _⟩ (fun H locs hG => ?_)
  refine W.eq (g2 := F0 m 72 ls [.int (nI (ldN fm (fm (64 * j + q / 4) - 1)))]) rfl ?_
  refine lv_iconst (v := nI 1) hx hb dX3_write_72 (by decide) ?_
  refine lv_icmp_le (tgt := 80) hx hb dX3_write_73 rfl (fun _ => ?_) (fun hh => absurd (nI_le (b := 1) h5 (by decide)) hh)
  refine lv_iconst (v := 0) hx hb dX3_write_80 (by decide) ?_
  refine lv_istore (lv' := [(8, .int 0), (7, .int (nI (fm (64 * j + q / 4) - 1))), (6, .int (nI (64 * j + q / 4))), (5, .int 0), (4, .int (nI (q / 4))), (0, .ref (bd 0)), (1, .int (nI j)), (2, .int (nI q)), (3, .int zz)]) hx hb dX3_write_81 hl (by decide) rfl (fun ls hl => ?_)
  refine lv_iload hx hb dX3_write_83 (lv_at hl 0 rfl) ?_
  refine lv_if_eq (tgt := 98) hx hb dX3_write_85 rfl (fun _ => ?_) (fun hh => absurd (rfl) hh)
  refine lv_iload hx hb dX3_write_98 (lv_at hl 0 rfl) ?_
  refine lv_if_eq (tgt := 107) hx hb dX3_write_100 rfl (fun _ => ?_) (fun hh => absurd (rfl) hh)
  refine lv_aload_n hx hb dX3_write_107 rfl (lv_at hl 5 rfl) ?_
  refine g_get (k := 4) (v := .ref (bd 5)) (C := RX3) (ref := RX3) (fs := [.ref (bd 1), .ref (bd 2), .ref (bd 3), .ref (bd 4), .ref (bd 5), .ref (bd 6), .int fc, .int cc]) hx hb hown hts hG gX3 rfl rf_0 (by decide) t_242 rfl rfl dX3_write_108 ?_
  refine lv_iload hx hb dX3_write_111 (lv_at hl 2 rfl) ?_
  refine g_zald (i := (64 * j + q / 4)) (t0 := 2) hx hb hG rf_5 rfl ((by omega)) (by decide) dX3_write_113 ?_
  refine g_top (y := 1) (by rw [h4]; rfl) ?_
  refine lv_if_eq (tgt := 121) hx hb dX3_write_114 rfl (fun hh => absurd hh (by decide)) (fun _ => ?_)
  refine lv_iconst (v := 1) hx hb dX3_write_117 (by decide) ?_
  refine lv_goto (tgt := 122) hx hb dX3_write_118 rfl ?_
  refine lv_istore (lv' := [(9, .int 1), (8, .int 0), (7, .int (nI (fm (64 * j + q / 4) - 1))), (6, .int (nI (64 * j + q / 4))), (5, .int 0), (4, .int (nI (q / 4))), (0, .ref (bd 0)), (1, .int (nI j)), (2, .int (nI q)), (3, .int zz)]) hx hb dX3_write_122 hl (by decide) rfl (fun ls hl => ?_)
  refine lv_iload hx hb dX3_write_124 (lv_at hl 1 rfl) ?_
  refine lv_if_eq (tgt := 195) hx hb dX3_write_126 rfl (fun _ => ?_) (fun hh => absurd (rfl) hh)
  refine lv_aload_n hx hb dX3_write_195 rfl (lv_at hl 6 rfl) ?_
  refine lv_iload hx hb dX3_write_196 (lv_at hl 0 rfl) ?_
  refine lv_if_le (tgt := 210) hx hb dX3_write_198 rfl (fun hh => absurd hh (by decide)) (fun _ => ?_)
  refine lv_aload_n hx hb dX3_write_201 rfl (lv_at hl 6 rfl) ?_
  refine g_get (k := 6) (v := .int fc) (C := RX3) (ref := RX3) (fs := [.ref (bd 1), .ref (bd 2), .ref (bd 3), .ref (bd 4), .ref (bd 5), .ref (bd 6), .int fc, .int cc]) hx hb hown hts hG gX3 rfl rf_0 (by decide) t_244 rfl rfl dX3_write_202 ?_
  refine lv_iconst (v := 1) hx hb dX3_write_205 (by decide) ?_
  refine lv_iadd hx hb dX3_write_206 ?_
  refine lv_goto (tgt := 214) hx hb dX3_write_207 rfl ?_
  refine g_put (k := 6) (v := .int (fc + 1)) (C := RX3) (ref := RX3) (ty := .int) (fs := [.ref (bd 1), .ref (bd 2), .ref (bd 3), .ref (bd 4), .ref (bd 5), .ref (bd 6), .int fc, .int cc]) (ws' := rfW bd cI cZ run fm cm wr mk wo (fc + 1) cc) tyX3 tyX3_ok nmX3 hx hb hown hts hG gX3 rfl rf_0 (by decide) t_244 rfl rfl (by decide +kernel) rfl rfl (Nat.le_of_ble_eq_true rfl) (rf_s0f _) dX3_write_214 (fun H locs hG => ?_)
  refine lv_aload_n hx hb dX3_write_217 rfl (lv_at hl 6 rfl) ?_
  refine g_get (k := 4) (v := .ref (bd 5)) (C := RX3) (ref := RX3) (fs := [.ref (bd 1), .ref (bd 2), .ref (bd 3), .ref (bd 4), .ref (bd 5), .ref (bd 6), .int (fc + 1), .int cc]) hx hb hown hts hG gX3 rfl rf_0 (by decide) t_242 rfl rfl dX3_write_218 ?_
  refine lv_iload hx hb dX3_write_221 (lv_at hl 3 rfl) ?_
  refine lv_iconst (v := bI false) hx hb dX3_write_223 (by decide) ?_
  refine g_zast (i := (64 * j + q / 4)) (x := bI false) (t0 := 2) (ws' := rfW bd cI cZ run fm cm wr (up1 mk (64 * j + q / 4) false) wo (fc + 1) cc) hx hb hG rf_5 rfl ((by omega)) (by decide) (nar_bI _) (rf_s5 _ _) dX3_write_224 (fun H locs hG => ?_)
  refine lv_aload_n hx hb dX3_write_225 rfl (lv_at hl 6 rfl) ?_
  refine g_get (k := 5) (v := .ref (bd 6)) (C := RX3) (ref := RX3) (fs := [.ref (bd 1), .ref (bd 2), .ref (bd 3), .ref (bd 4), .ref (bd 5), .ref (bd 6), .int (fc + 1), .int cc]) hx hb hown hts hG gX3 rfl rf_0 (by decide) t_243 rfl rfl dX3_write_226 ?_
  refine lv_iconst (v := nI 4) hx hb dX3_write_229 (by decide) ?_
  refine lv_aload_n hx hb dX3_write_230 rfl (lv_at hl 6 rfl) ?_
  refine g_get (k := 1) (v := .ref (bd 2)) (C := RX3) (ref := RX3) (fs := [.ref (bd 1), .ref (bd 2), .ref (bd 3), .ref (bd 4), .ref (bd 5), .ref (bd 6), .int (fc + 1), .int cc]) hx hb hown hts hG gX3 rfl rf_0 (by decide) t_239 rfl rfl dX3_write_231 ?_
  refine lv_iload hx hb dX3_write_234 (lv_at hl 3 rfl) ?_
  refine g_iald (i := (64 * j + q / 4)) (t0 := 0) hx hb hG rf_2 rfl ((by omega)) (by decide) dX3_write_236 ?_
  refine lv_iconst (v := nI 1) hx hb dX3_write_237 (by decide) ?_
  refine lv_isub hx hb dX3_write_238 ?_
  refine g_top (y := nI (fm (64 * j + q / 4) - 1)) (pk_sub (b := 1) (by omega)) ?_
  refine lv_imul hx hb dX3_write_239 ?_
  refine g_top (y := nI ((fm (64 * j + q / 4) - 1) * 4)) (by rw [pk_mul, Nat.mul_comm]) ?_
  refine lv_iload_n hx hb dX3_write_240 rfl (lv_at hl 8 rfl) ?_
  refine lv_iconst (v := nI 4) hx hb dX3_write_241 (by decide) ?_
  refine lv_irem hx hb dX3_write_242 (by decide) ?_
  refine g_top (y := nI (q % 4)) (pk_rem (d := 4) (Nat.lt_trans hq (by decide)) (by decide) (by decide)) ?_
  refine lv_iadd hx hb dX3_write_243 ?_
  refine g_top (y := nI ((fm (64 * j + q / 4) - 1) * 4 + q % 4)) (nI_add _ _) ?_
  refine lv_iload_n hx hb dX3_write_244 rfl (lv_at hl 9 rfl) ?_
  refine g_iast (i := ((fm (64 * j + q / 4) - 1) * 4 + q % 4)) (x := zz) (t0 := 0) (ws' := rfW bd cI cZ run fm cm wr (up1 mk (64 * j + q / 4) false) (upd wo ((fm (64 * j + q / 4) - 1) * 4 + q % 4) zz) (fc + 1) cc) hx hb hG rf_6 rfl ((by have := hB (64 * j + q / 4); omega)) (by decide) (rf_s6 _) dX3_write_245 (fun H locs hG => ?_)
  refine lv_iload hx hb dX3_write_246 (lv_at hl 0 rfl) ?_
  exact g_iret hx hb hr hlk hG dX3_write_248
set_option maxHeartbeats 4000000 in
set_option maxRecDepth 100000 in
theorem rp_write_8 {j q : Nat} (hj : j < 5) (hq : q < 256) (h : run j = true) (h2 : 0 < fm (64 * j + q / 4)) (hB : ∀ i, fm i ≤ 24) {zz : Int32} (h3 : wr (64 * j + q / 4) = true) (h4 : mk (64 * j + q / 4) = true) (h5 : 1 < ldN fm (fm (64 * j + q / 4) - 1)) (h6 : frR run fm = 0) : gM l yX3_write cX3_write 12 (some .int) 3 70 D cls (fpT cI cQ cZ) A (rfW bd cI cZ run fm cm wr mk wo fc cc) [.ref (bd 0), .int (nI j), .int (nI q), .int zz] (some (.int (-8))) (rfW bd cI cZ run fm cm wr mk wo fc cc) := by
  refine gM_of (by decide) (Nat.le_of_ble_eq_true rfl) ?_
  intro p e s m args below meth c ls hx hb hml hown hts hN hr hlk hl hG
  have hown : s.vm.findClass RX3 = some m.cls := hown
  have hl : lv_has ls 12 [(0, .ref (bd 0)), (1, .int (nI j)), (2, .int (nI q)), (3, .int zz)] := hl
  refine lv_iload_n hx hb dX3_write_0 rfl (lv_at hl 2 rfl) ?_
  refine g_callS (As := [.int (nI q)]) (rest := []) (rm_pageOf_t hq) hx hb hml hown hts hN hG t_340 t_341 t_4 t_342 nm_X3_pageOf ⟨by decide, by decide⟩ hl.1 (Nat.le_of_ble_eq_true rfl) dX3_write_1 ⟨Nat.zero_le _, Nat.zero_le _⟩ (fun H locs hG => ?_)
  refine W.eq (g2 := F0 m 4 ls [.int (nI (q / 4))]) rfl ?_
  refine lv_istore (lv' := [(4, .int (nI (q / 4))), (0, .ref (bd 0)), (1, .int (nI j)), (2, .int (nI q)), (3, .int zz)]) hx hb dX3_write_4 hl (by decide) rfl (fun ls hl => ?_)
  refine lv_aload_n hx hb dX3_write_6 rfl (lv_at hl 1 rfl) ?_
  refine lv_iload_n hx hb dX3_write_7 rfl (lv_at hl 2 rfl) ?_
  refine lv_iload hx hb dX3_write_8 (lv_at hl 0 rfl) ?_
  refine g_callV (As := [.int (nI j), .int (nI (q / 4))]) (rest := []) (fs := [.ref (bd 1), .ref (bd 2), .ref (bd 3), .ref (bd 4), .ref (bd 5), .ref (bd 6), .int fc, .int cc]) (rm_bar_0 hj (by omega) h h2 hB) hx hb hml hown hts hN hG t_328 t_330 s_28 t_4 t_331 nm_X3_bar ⟨by decide, by decide⟩ rf_0 rfl hl.1 (Nat.le_of_ble_eq_true rfl) dX3_write_10 ⟨Nat.zero_le _, Nat.zero_le _⟩ (fun H locs hG => ?_)
  refine W.eq (g2 := F0 m 13 ls [.int 0]) rfl ?_
  refine lv_istore (lv' := [(5, .int 0), (4, .int (nI (q / 4))), (0, .ref (bd 0)), (1, .int (nI j)), (2, .int (nI q)), (3, .int zz)]) hx hb dX3_write_13 hl (by decide) rfl (fun ls hl => ?_)
  refine lv_iload hx hb dX3_write_15 (lv_at hl 0 rfl) ?_
  refine lv_if_ge (tgt := 23) hx hb dX3_write_17 rfl (fun _ => ?_) (fun hh => absurd (by decide) hh)
  refine lv_bipush (v := nI 64) hx hb dX3_write_23 (by decide) ?_
  refine lv_iload_n hx hb dX3_write_25 rfl (lv_at hl 3 rfl) ?_
  refine lv_imul hx hb dX3_write_26 ?_
  refine g_top (y := nI (64 * j)) (pk_mul 64 j) ?_
  refine lv_iload hx hb dX3_write_27 (lv_at hl 1 rfl) ?_
  refine lv_iadd hx hb dX3_write_29 ?_
  refine g_top (y := nI (64 * j + q / 4)) (nI_add _ _) ?_
  refine lv_istore (lv' := [(6, .int (nI (64 * j + q / 4))), (5, .int 0), (4, .int (nI (q / 4))), (0, .ref (bd 0)), (1, .int (nI j)), (2, .int (nI q)), (3, .int zz)]) hx hb dX3_write_30 hl (by decide) rfl (fun ls hl => ?_)
  refine lv_aload_n hx hb dX3_write_32 rfl (lv_at hl 3 rfl) ?_
  refine g_get (k := 3) (v := .ref (bd 4)) (C := RX3) (ref := RX3) (fs := [.ref (bd 1), .ref (bd 2), .ref (bd 3), .ref (bd 4), .ref (bd 5), .ref (bd 6), .int fc, .int cc]) hx hb hown hts hG gX3 rfl rf_0 (by decide) t_241 rfl rfl dX3_write_33 ?_
  refine lv_iload hx hb dX3_write_36 (lv_at hl 0 rfl) ?_
  refine g_zald (i := (64 * j + q / 4)) (t0 := 2) hx hb hG rf_4 rfl ((by omega)) (by decide) dX3_write_38 ?_
  refine g_top (y := 1) (by rw [h3]; rfl) ?_
  refine lv_if_ne (tgt := 45) hx hb dX3_write_39 rfl (fun _ => ?_) (fun hh => absurd hh (by decide))
  refine lv_aload_n hx hb dX3_write_45 rfl (lv_at hl 3 rfl) ?_
  refine g_get (k := 1) (v := .ref (bd 2)) (C := RX3) (ref := RX3) (fs := [.ref (bd 1), .ref (bd 2), .ref (bd 3), .ref (bd 4), .ref (bd 5), .ref (bd 6), .int fc, .int cc]) hx hb hown hts hG gX3 rfl rf_0 (by decide) t_239 rfl rfl dX3_write_46 ?_
  refine lv_iload hx hb dX3_write_49 (lv_at hl 0 rfl) ?_
  refine g_iald (i := (64 * j + q / 4)) (t0 := 0) hx hb hG rf_2 rfl ((by omega)) (by decide) dX3_write_51 ?_
  refine lv_iconst (v := nI 1) hx hb dX3_write_52 (by decide) ?_
  refine lv_isub hx hb dX3_write_53 ?_
  refine g_top (y := nI (fm (64 * j + q / 4) - 1)) (pk_sub (b := 1) (by omega)) ?_
  refine lv_istore (lv' := [(7, .int (nI (fm (64 * j + q / 4) - 1))), (6, .int (nI (64 * j + q / 4))), (5, .int 0), (4, .int (nI (q / 4))), (0, .ref (bd 0)), (1, .int (nI j)), (2, .int (nI q)), (3, .int zz)]) hx hb dX3_write_54 hl (by decide) rfl (fun ls hl => ?_)
  refine lv_aload_n hx hb dX3_write_56 rfl (lv_at hl 4 rfl) ?_
  refine g_get (k := 4) (v := .ref (bd 5)) (C := RX3) (ref := RX3) (fs := [.ref (bd 1), .ref (bd 2), .ref (bd 3), .ref (bd 4), .ref (bd 5), .ref (bd 6), .int fc, .int cc]) hx hb hown hts hG gX3 rfl rf_0 (by decide) t_242 rfl rfl dX3_write_57 ?_
  refine lv_iload hx hb dX3_write_60 (lv_at hl 1 rfl) ?_
  refine g_zald (i := (64 * j + q / 4)) (t0 := 2) hx hb hG rf_5 rfl ((by omega)) (by decide) dX3_write_62 ?_
  refine g_top (y := 1) (by rw [h4]; rfl) ?_
  refine lv_if_eq (tgt := 80) hx hb dX3_write_63 rfl (fun hh => absurd hh (by decide)) (fun _ => ?_)
  refine lv_aload_n hx hb dX3_write_66 rfl (lv_at hl 4 rfl) ?_
  refine lv_iload hx hb dX3_write_67 (lv_at hl 0 rfl) ?_
  refine g_callV (As := [.int (nI (fm (64 * j + q / 4) - 1))]) (rest := []) (fs := [.ref (bd 1), .ref (bd 2), .ref (bd 3), .ref (bd 4), .ref (bd 5), .ref (bd 6), .int fc, .int cc]) (rm_leads (by have := hB (64 * j + q / 4); omega) hB) hx hb hml hown hts hN hG t_268 t_270 s_20 t_4 t_271 nm_X3_leads ⟨by decide, by decide⟩ rf_0 rfl hl.1 (Nat.le_of_ble_eq_true rfl) dX3_write_69 ⟨Nat.zero_le _, Nat.zero_le _⟩ (fun H locs hG => ?_)
  refine W.eq (g2 := F0 m 72 ls [.int (nI (ldN fm (fm (64 * j + q / 4) - 1)))]) rfl ?_
  refine lv_iconst (v := nI 1) hx hb dX3_write_72 (by decide) ?_
  refine lv_icmp_le (tgt := 80) hx hb dX3_write_73 rfl (fun hh => absurd hh (nI_ge (a := 1) (by omega) (by have := ldN_le fm (fm (64 * j + q / 4) - 1); omega))) (fun _ => ?_)
  refine lv_iconst (v := 1) hx hb dX3_write_76 (by decide) ?_
  refine lv_goto (tgt := 81) hx hb dX3_write_77 rfl ?_
  refine lv_istore (lv' := [(8, .int 1), (7, .int (nI (fm (64 * j + q / 4) - 1))), (6, .int (nI (64 * j + q / 4))), (5, .int 0), (4, .int (nI (q / 4))), (0, .ref (bd 0)), (1, .int (nI j)), (2, .int (nI q)), (3, .int zz)]) hx hb dX3_write_81 hl (by decide) rfl (fun ls hl => ?_)
  refine lv_iload hx hb dX3_write_83 (lv_at hl 0 rfl) ?_
  refine lv_if_eq (tgt := 98) hx hb dX3_write_85 rfl (fun hh => absurd hh (by decide)) (fun _ => ?_)
  refine lv_aload_n hx hb dX3_write_88 rfl (lv_at hl 5 rfl) ?_
  refine g_callV (As := []) (rest := []) (fs := [.ref (bd 1), .ref (bd 2), .ref (bd 3), .ref (bd 4), .ref (bd 5), .ref (bd 6), .int fc, .int cc]) (rm_free hB) hx hb hml hown hts hN hG t_288 t_265 t_266 t_4 t_267 nm_X3_free ⟨by decide, by decide⟩ rf_0 rfl hl.1 (Nat.le_of_ble_eq_true rfl) dX3_write_89 ⟨Nat.zero_le _, Nat.zero_le _⟩ (fun H locs hG => ?_)
  refine W.eq (g2 := F0 m 92 ls [.int (frR run fm)]) rfl ?_
  refine lv_if_ne (tgt := 98) hx hb dX3_write_92 rfl (fun hh => absurd (h6) hh) (fun _ => ?_)
  refine lv_bipush (v := (-8)) hx hb dX3_write_95 (by decide) ?_
  exact g_iret hx hb hr hlk hG dX3_write_97
set_option maxHeartbeats 4000000 in
set_option maxRecDepth 100000 in
theorem rp_write_2 {j q : Nat} (hj : j < 5) (hq : q < 256) (h : run j = true) (h2 : 0 < fm (64 * j + q / 4)) (hB : ∀ i, fm i ≤ 24) {zz : Int32} (h3 : wr (64 * j + q / 4) = true) (h4 : mk (64 * j + q / 4) = true) (h5 : 1 < ldN fm (fm (64 * j + q / 4) - 1)) (h6 : ¬ frR run fm = 0) {f : Nat} (hf : f ≤ 23) (hm : ∀ i, i < f → 0 < ldN fm i) (hu : f = 23 ∨ ldN fm f = 0) : gM l yX3_write cX3_write 12 (some .int) 3 70 D cls (fpT cI cQ cZ) A (rfW bd cI cZ run fm cm wr mk wo fc cc) [.ref (bd 0), .int (nI j), .int (nI q), .int zz] (some (.int 2)) (rfW bd cI cZ run (up1 fm (64 * j + q / 4) (f + 1)) cm wr (up1 mk (64 * j + q / 4) false) (upd (cpW wo (fm (64 * j + q / 4) - 1) f) (f * 4 + q % 4) zz) (fc + 1) (cc + 1)) := by
  refine gM_of (by decide) (Nat.le_of_ble_eq_true rfl) ?_
  intro p e s m args below meth c ls hx hb hml hown hts hN hr hlk hl hG
  have hown : s.vm.findClass RX3 = some m.cls := hown
  have hl : lv_has ls 12 [(0, .ref (bd 0)), (1, .int (nI j)), (2, .int (nI q)), (3, .int zz)] := hl
  have hbq := hB (64 * j + q / 4)
  refine lv_iload_n hx hb dX3_write_0 rfl (lv_at hl 2 rfl) ?_
  refine g_callS (As := [.int (nI q)]) (rest := []) (rm_pageOf_t hq) hx hb hml hown hts hN hG t_340 t_341 t_4 t_342 nm_X3_pageOf ⟨by decide, by decide⟩ hl.1 (Nat.le_of_ble_eq_true rfl) dX3_write_1 ⟨Nat.zero_le _, Nat.zero_le _⟩ (fun H locs hG => ?_)
  refine W.eq (g2 := F0 m 4 ls [.int (nI (q / 4))]) rfl ?_
  refine lv_istore (lv' := [(4, .int (nI (q / 4))), (0, .ref (bd 0)), (1, .int (nI j)), (2, .int (nI q)), (3, .int zz)]) hx hb dX3_write_4 hl (by decide) rfl (fun ls hl => ?_)
  refine lv_aload_n hx hb dX3_write_6 rfl (lv_at hl 1 rfl) ?_
  refine lv_iload_n hx hb dX3_write_7 rfl (lv_at hl 2 rfl) ?_
  refine lv_iload hx hb dX3_write_8 (lv_at hl 0 rfl) ?_
  refine g_callV (As := [.int (nI j), .int (nI (q / 4))]) (rest := []) (fs := [.ref (bd 1), .ref (bd 2), .ref (bd 3), .ref (bd 4), .ref (bd 5), .ref (bd 6), .int fc, .int cc]) (rm_bar_0 hj (by omega) h h2 hB) hx hb hml hown hts hN hG t_328 t_330 s_28 t_4 t_331 nm_X3_bar ⟨by decide, by decide⟩ rf_0 rfl hl.1 (Nat.le_of_ble_eq_true rfl) dX3_write_10 ⟨Nat.zero_le _, Nat.zero_le _⟩ (fun H locs hG => ?_)
  refine W.eq (g2 := F0 m 13 ls [.int 0]) rfl ?_
  refine lv_istore (lv' := [(5, .int 0), (4, .int (nI (q / 4))), (0, .ref (bd 0)), (1, .int (nI j)), (2, .int (nI q)), (3, .int zz)]) hx hb dX3_write_13 hl (by decide) rfl (fun ls hl => ?_)
  refine lv_iload hx hb dX3_write_15 (lv_at hl 0 rfl) ?_
  refine lv_if_ge (tgt := 23) hx hb dX3_write_17 rfl (fun _ => ?_) (fun hh => absurd (by decide) hh)
  refine lv_bipush (v := nI 64) hx hb dX3_write_23 (by decide) ?_
  refine lv_iload_n hx hb dX3_write_25 rfl (lv_at hl 3 rfl) ?_
  refine lv_imul hx hb dX3_write_26 ?_
  refine g_top (y := nI (64 * j)) (pk_mul 64 j) ?_
  refine lv_iload hx hb dX3_write_27 (lv_at hl 1 rfl) ?_
  refine lv_iadd hx hb dX3_write_29 ?_
  refine g_top (y := nI (64 * j + q / 4)) (nI_add _ _) ?_
  refine lv_istore (lv' := [(6, .int (nI (64 * j + q / 4))), (5, .int 0), (4, .int (nI (q / 4))), (0, .ref (bd 0)), (1, .int (nI j)), (2, .int (nI q)), (3, .int zz)]) hx hb dX3_write_30 hl (by decide) rfl (fun ls hl => ?_)
  refine lv_aload_n hx hb dX3_write_32 rfl (lv_at hl 3 rfl) ?_
  refine g_get (k := 3) (v := .ref (bd 4)) (C := RX3) (ref := RX3) (fs := [.ref (bd 1), .ref (bd 2), .ref (bd 3), .ref (bd 4), .ref (bd 5), .ref (bd 6), .int fc, .int cc]) hx hb hown hts hG gX3 rfl rf_0 (by decide) t_241 rfl rfl dX3_write_33 ?_
  refine lv_iload hx hb dX3_write_36 (lv_at hl 0 rfl) ?_
  refine g_zald (i := (64 * j + q / 4)) (t0 := 2) hx hb hG rf_4 rfl ((by omega)) (by decide) dX3_write_38 ?_
  refine g_top (y := 1) (by rw [h3]; rfl) ?_
  refine lv_if_ne (tgt := 45) hx hb dX3_write_39 rfl (fun _ => ?_) (fun hh => absurd hh (by decide))
  refine lv_aload_n hx hb dX3_write_45 rfl (lv_at hl 3 rfl) ?_
  refine g_get (k := 1) (v := .ref (bd 2)) (C := RX3) (ref := RX3) (fs := [.ref (bd 1), .ref (bd 2), .ref (bd 3), .ref (bd 4), .ref (bd 5), .ref (bd 6), .int fc, .int cc]) hx hb hown hts hG gX3 rfl rf_0 (by decide) t_239 rfl rfl dX3_write_46 ?_
  refine lv_iload hx hb dX3_write_49 (lv_at hl 0 rfl) ?_
  refine g_iald (i := (64 * j + q / 4)) (t0 := 0) hx hb hG rf_2 rfl ((by omega)) (by decide) dX3_write_51 ?_
  refine lv_iconst (v := nI 1) hx hb dX3_write_52 (by decide) ?_
  refine lv_isub hx hb dX3_write_53 ?_
  refine g_top (y := nI (fm (64 * j + q / 4) - 1)) (pk_sub (b := 1) (by omega)) ?_
  refine lv_istore (lv' := [(7, .int (nI (fm (64 * j + q / 4) - 1))), (6, .int (nI (64 * j + q / 4))), (5, .int 0), (4, .int (nI (q / 4))), (0, .ref (bd 0)), (1, .int (nI j)), (2, .int (nI q)), (3, .int zz)]) hx hb dX3_write_54 hl (by decide) rfl (fun ls hl => ?_)
  refine lv_aload_n hx hb dX3_write_56 rfl (lv_at hl 4 rfl) ?_
  refine g_get (k := 4) (v := .ref (bd 5)) (C := RX3) (ref := RX3) (fs := [.ref (bd 1), .ref (bd 2), .ref (bd 3), .ref (bd 4), .ref (bd 5), .ref (bd 6), .int fc, .int cc]) hx hb hown hts hG gX3 rfl rf_0 (by decide) t_242 rfl rfl dX3_write_57 ?_
  refine lv_iload hx hb dX3_write_60 (lv_at hl 1 rfl) ?_
  refine g_zald (i := (64 * j + q / 4)) (t0 := 2) hx hb hG rf_5 rfl ((by omega)) (by decide) dX3_write_62 ?_
  refine g_top (y := 1) (by rw [h4]; rfl) ?_
  refine lv_if_eq (tgt := 80) hx hb dX3_write_63 rfl (fun hh => absurd hh (by decide)) (fun _ => ?_)
  refine lv_aload_n hx hb dX3_write_66 rfl (lv_at hl 4 rfl) ?_
  refine lv_iload hx hb dX3_write_67 (lv_at hl 0 rfl) ?_
  refine g_callV (As := [.int (nI (fm (64 * j + q / 4) - 1))]) (rest := []) (fs := [.ref (bd 1), .ref (bd 2), .ref (bd 3), .ref (bd 4), .ref (bd 5), .ref (bd 6), .int fc, .int cc]) (rm_leads (by have := hB (64 * j + q / 4); omega) hB) hx hb hml hown hts hN hG t_268 t_270 s_20 t_4 t_271 nm_X3_leads ⟨by decide, by decide⟩ rf_0 rfl hl.1 (Nat.le_of_ble_eq_true rfl) dX3_write_69 ⟨Nat.zero_le _, Nat.zero_le _⟩ (fun H locs hG => ?_)
  refine W.eq (g2 := F0 m 72 ls [.int (nI (ldN fm (fm (64 * j + q / 4) - 1)))]) rfl ?_
  refine lv_iconst (v := nI 1) hx hb dX3_write_72 (by decide) ?_
  refine lv_icmp_le (tgt := 80) hx hb dX3_write_73 rfl (fun hh => absurd hh (nI_ge (a := 1) (by omega) (by have := ldN_le fm (fm (64 * j + q / 4) - 1); omega))) (fun _ => ?_)
  refine lv_iconst (v := 1) hx hb dX3_write_76 (by decide) ?_
  refine lv_goto (tgt := 81) hx hb dX3_write_77 rfl ?_
  refine lv_istore (lv' := [(8, .int 1), (7, .int (nI (fm (64 * j + q / 4) - 1))), (6, .int (nI (64 * j + q / 4))), (5, .int 0), (4, .int (nI (q / 4))), (0, .ref (bd 0)), (1, .int (nI j)), (2, .int (nI q)), (3, .int zz)]) hx hb dX3_write_81 hl (by decide) rfl (fun ls hl => ?_)
  refine lv_iload hx hb dX3_write_83 (lv_at hl 0 rfl) ?_
  refine lv_if_eq (tgt := 98) hx hb dX3_write_85 rfl (fun hh => absurd hh (by decide)) (fun _ => ?_)
  refine lv_aload_n hx hb dX3_write_88 rfl (lv_at hl 5 rfl) ?_
  refine g_callV (As := []) (rest := []) (fs := [.ref (bd 1), .ref (bd 2), .ref (bd 3), .ref (bd 4), .ref (bd 5), .ref (bd 6), .int fc, .int cc]) (rm_free hB) hx hb hml hown hts hN hG t_288 t_265 t_266 t_4 t_267 nm_X3_free ⟨by decide, by decide⟩ rf_0 rfl hl.1 (Nat.le_of_ble_eq_true rfl) dX3_write_89 ⟨Nat.zero_le _, Nat.zero_le _⟩ (fun H locs hG => ?_)
  refine W.eq (g2 := F0 m 92 ls [.int (frR run fm)]) rfl ?_
  refine lv_if_ne (tgt := 98) hx hb dX3_write_92 rfl (fun _ => ?_) (fun hh => absurd hh (h6))
  refine lv_iload hx hb dX3_write_98 (lv_at hl 0 rfl) ?_
  refine lv_if_eq (tgt := 107) hx hb dX3_write_100 rfl (fun hh => absurd hh (by decide)) (fun _ => ?_)
  refine lv_iconst (v := 2) hx hb dX3_write_103 (by decide) ?_
  refine lv_goto (tgt := 122) hx hb dX3_write_104 rfl ?_
  refine lv_istore (lv' := [(9, .int 2), (8, .int 1), (7, .int (nI (fm (64 * j + q / 4) - 1))), (6, .int (nI (64 * j + q / 4))), (5, .int 0), (4, .int (nI (q / 4))), (0, .ref (bd 0)), (1, .int (nI j)), (2, .int (nI q)), (3, .int zz)]) hx hb dX3_write_122 hl (by decide) rfl (fun ls hl => ?_)
  refine lv_iload hx hb dX3_write_124 (lv_at hl 1 rfl) ?_
  refine lv_if_eq (tgt := 195) hx hb dX3_write_126 rfl (fun hh => absurd hh (by decide)) (fun _ => ?_)
  refine lv_aload_n hx hb dX3_write_129 rfl (lv_at hl 6 rfl) ?_
  refine g_callV (As := []) (rest := []) (fs := [.ref (bd 1), .ref (bd 2), .ref (bd 3), .ref (bd 4), .ref (bd 5), .ref (bd 6), .int fc, .int cc]) (rm_unused hf hm hu hB) hx hb hml hown hts hN hG t_316 t_318 s_27 t_4 t_319 nm_X3_unused ⟨by decide, by decide⟩ rf_0 rfl hl.1 (Nat.le_of_ble_eq_true rfl) dX3_write_130 ⟨Nat.zero_le _, Nat.zero_le _⟩ (fun H locs hG => ?_)
  refine W.eq (g2 := F0 m 133 ls [.int (nI f)]) rfl ?_
  refine lv_istore (lv' := [(10, .int (nI f)), (9, .int 2), (8, .int 1), (7, .int (nI (fm (64 * j + q / 4) - 1))), (6, .int (nI (64 * j + q / 4))), (5, .int 0), (4, .int (nI (q / 4))), (0, .ref (bd 0)), (1, .int (nI j)), (2, .int (nI q)), (3, .int zz)]) hx hb dX3_write_133 hl (by decide) rfl (fun ls hl => ?_)
  refine lv_iconst (v := nI 0) hx hb dX3_write_135 (by decide) ?_
  refine lv_istore (lv' := [(11, .int (nI 0)), (10, .int (nI f)), (9, .int 2), (8, .int 1), (7, .int (nI (fm (64 * j + q / 4) - 1))), (6, .int (nI (64 * j + q / 4))), (5, .int 0), (4, .int (nI (q / 4))), (0, .ref (bd 0)), (1, .int (nI j)), (2, .int (nI q)), (3, .int zz)]) hx hb dX3_write_136 hl (by decide) rfl (fun ls hl => ?_)
  have loop : ∀ (n i : Nat) (H : Heap) (locs : List Loc) (ls : Array Slot), i + n = 4 → gG D cls (fpT cI cQ cZ) A s (rfW bd cI cZ run fm cm wr mk (cpN wo (fm (64 * j + q / 4) - 1) f i) fc cc) H locs → lv_has ls 12 [(11, .int (nI i)), (10, .int (nI f)), (9, .int 2), (7, .int (nI (fm (64 * j + q / 4) - 1))), (6, .int (nI (64 * j + q / 4))), (0, .ref (bd 0)), (1, .int (nI j)), (2, .int (nI q)), (3, .int zz), (8, .int 1)] → W p l e (gR 3 70) s m args below meth c H locs 0 0 (gQ below args s D cls (fpT cI cQ cZ) A (some (.int 2)) (rfW bd cI cZ run (up1 fm (64 * j + q / 4) (f + 1)) cm wr (up1 mk (64 * j + q / 4) false) (upd (cpW wo (fm (64 * j + q / 4) - 1) f) (f * 4 + q % 4) zz) (fc + 1) (cc + 1))) (F0 m 138 ls []) := by
    intro n
    induction n with
    | zero =>
      intro i H locs ls hi hG hl
      obtain rfl : i = 4 := by omega
      refine lv_iload hx hb dX3_write_138 (lv_at hl 0 rfl) ?_
      refine lv_iconst (v := nI 4) hx hb dX3_write_140 (by decide) ?_
      refine lv_icmp_ge (tgt := 174) hx hb dX3_write_141 rfl (fun _ => ?_) (fun hh => absurd (nI_le (Nat.le_refl 4) (by decide)) hh)
      refine lv_aload_n hx hb dX3_write_174 rfl (lv_at hl 5 rfl) ?_
      refine g_get (k := 1) (v := .ref (bd 2)) (C := RX3) (ref := RX3) (fs := [.ref (bd 1), .ref (bd 2), .ref (bd 3), .ref (bd 4), .ref (bd 5), .ref (bd 6), .int fc, .int cc]) hx hb hown hts hG gX3 rfl rf_0 (by decide) t_239 rfl rfl dX3_write_175 ?_
      refine lv_iload hx hb dX3_write_178 (lv_at hl 4 rfl) ?_
      refine lv_iload hx hb dX3_write_180 (lv_at hl 1 rfl) ?_
      refine lv_iconst (v := nI 1) hx hb dX3_write_182 (by decide) ?_
      refine lv_iadd hx hb dX3_write_183 ?_
      refine g_top (y := nI (f + 1)) (nI_add f 1) ?_
      refine g_iast (i := (64 * j + q / 4)) (x := nI (f + 1)) (t0 := 0) (ws' := rfW bd cI cZ run (up1 fm (64 * j + q / 4) (f + 1)) cm wr mk (cpN wo (fm (64 * j + q / 4) - 1) f 4) fc cc) hx hb hG rf_2 rfl ((by omega)) (by decide) (rf_s2 _ _) dX3_write_184 (fun H locs hG => ?_)
      refine lv_aload_n hx hb dX3_write_185 rfl (lv_at hl 5 rfl) ?_
      refine lv_dup hx hb dX3_write_186 rfl ?_
      refine g_get (k := 7) (v := .int cc) (C := RX3) (ref := RX3) (fs := [.ref (bd 1), .ref (bd 2), .ref (bd 3), .ref (bd 4), .ref (bd 5), .ref (bd 6), .int fc, .int cc]) hx hb hown hts hG gX3 rfl rf_0 (by decide) t_245 rfl rfl dX3_write_187 ?_
      refine lv_iconst (v := 1) hx hb dX3_write_190 (by decide) ?_
      refine lv_iadd hx hb dX3_write_191 ?_
      refine g_put (k := 7) (v := .int (cc + 1)) (C := RX3) (ref := RX3) (ty := .int) (fs := [.ref (bd 1), .ref (bd 2), .ref (bd 3), .ref (bd 4), .ref (bd 5), .ref (bd 6), .int fc, .int cc]) (ws' := rfW bd cI cZ run (up1 fm (64 * j + q / 4) (f + 1)) cm wr mk (cpN wo (fm (64 * j + q / 4) - 1) f 4) fc (cc + 1)) tyX3 tyX3_ok nmX3 hx hb hown hts hG gX3 rfl rf_0 (by decide) t_245 rfl rfl (by decide +kernel) rfl rfl (Nat.le_of_ble_eq_true rfl) (rf_s0c _) dX3_write_192 (fun H locs hG => ?_)
      refine lv_aload_n hx hb dX3_write_195 rfl (lv_at hl 5 rfl) ?_
      refine lv_iload hx hb dX3_write_196 (lv_at hl 2 rfl) ?_
      refine lv_if_le (tgt := 210) hx hb dX3_write_198 rfl (fun hh => absurd hh (by decide)) (fun _ => ?_)
      refine lv_aload_n hx hb dX3_write_201 rfl (lv_at hl 5 rfl) ?_
      refine g_get (k := 6) (v := .int fc) (C := RX3) (ref := RX3) (fs := [.ref (bd 1), .ref (bd 2), .ref (bd 3), .ref (bd 4), .ref (bd 5), .ref (bd 6), .int fc, .int (cc + 1)]) hx hb hown hts hG gX3 rfl rf_0 (by decide) t_244 rfl rfl dX3_write_202 ?_
      refine lv_iconst (v := 1) hx hb dX3_write_205 (by decide) ?_
      refine lv_iadd hx hb dX3_write_206 ?_
      refine lv_goto (tgt := 214) hx hb dX3_write_207 rfl ?_
      refine g_put (k := 6) (v := .int (fc + 1)) (C := RX3) (ref := RX3) (ty := .int) (fs := [.ref (bd 1), .ref (bd 2), .ref (bd 3), .ref (bd 4), .ref (bd 5), .ref (bd 6), .int fc, .int (cc + 1)]) (ws' := rfW bd cI cZ run (up1 fm (64 * j + q / 4) (f + 1)) cm wr mk (cpN wo (fm (64 * j + q / 4) - 1) f 4) (fc + 1) (cc + 1)) tyX3 tyX3_ok nmX3 hx hb hown hts hG gX3 rfl rf_0 (by decide) t_244 rfl rfl (by decide +kernel) rfl rfl (Nat.le_of_ble_eq_true rfl) (rf_s0f _) dX3_write_214 (fun H locs hG => ?_)
      refine lv_aload_n hx hb dX3_write_217 rfl (lv_at hl 5 rfl) ?_
      refine g_get (k := 4) (v := .ref (bd 5)) (C := RX3) (ref := RX3) (fs := [.ref (bd 1), .ref (bd 2), .ref (bd 3), .ref (bd 4), .ref (bd 5), .ref (bd 6), .int (fc + 1), .int (cc + 1)]) hx hb hown hts hG gX3 rfl rf_0 (by decide) t_242 rfl rfl dX3_write_218 ?_
      refine lv_iload hx hb dX3_write_221 (lv_at hl 4 rfl) ?_
      refine lv_iconst (v := bI false) hx hb dX3_write_223 (by decide) ?_
      refine g_zast (i := (64 * j + q / 4)) (x := bI false) (t0 := 2) (ws' := rfW bd cI cZ run (up1 fm (64 * j + q / 4) (f + 1)) cm wr (up1 mk (64 * j + q / 4) false) (cpN wo (fm (64 * j + q / 4) - 1) f 4) (fc + 1) (cc + 1)) hx hb hG rf_5 rfl ((by omega)) (by decide) (nar_bI _) (rf_s5 _ _) dX3_write_224 (fun H locs hG => ?_)
      refine lv_aload_n hx hb dX3_write_225 rfl (lv_at hl 5 rfl) ?_
      refine g_get (k := 5) (v := .ref (bd 6)) (C := RX3) (ref := RX3) (fs := [.ref (bd 1), .ref (bd 2), .ref (bd 3), .ref (bd 4), .ref (bd 5), .ref (bd 6), .int (fc + 1), .int (cc + 1)]) hx hb hown hts hG gX3 rfl rf_0 (by decide) t_243 rfl rfl dX3_write_226 ?_
      refine lv_iconst (v := nI 4) hx hb dX3_write_229 (by decide) ?_
      refine lv_aload_n hx hb dX3_write_230 rfl (lv_at hl 5 rfl) ?_
      refine g_get (k := 1) (v := .ref (bd 2)) (C := RX3) (ref := RX3) (fs := [.ref (bd 1), .ref (bd 2), .ref (bd 3), .ref (bd 4), .ref (bd 5), .ref (bd 6), .int (fc + 1), .int (cc + 1)]) hx hb hown hts hG gX3 rfl rf_0 (by decide) t_239 rfl rfl dX3_write_231 ?_
      refine lv_iload hx hb dX3_write_234 (lv_at hl 4 rfl) ?_
      refine g_iald (i := (64 * j + q / 4)) (t0 := 0) hx hb hG rf_2 rfl ((by omega)) (by decide) dX3_write_236 ?_
      refine g_top (y := nI (f + 1)) (by rw [up1_s]) ?_
      refine lv_iconst (v := nI 1) hx hb dX3_write_237 (by decide) ?_
      refine lv_isub hx hb dX3_write_238 ?_
      refine g_top (y := nI (f)) (pk_sub (b := 1) (by omega)) ?_
      refine lv_imul hx hb dX3_write_239 ?_
      refine g_top (y := nI (f * 4)) (by rw [pk_mul, Nat.mul_comm]) ?_
      refine lv_iload_n hx hb dX3_write_240 rfl (lv_at hl 7 rfl) ?_
      refine lv_iconst (v := nI 4) hx hb dX3_write_241 (by decide) ?_
      refine lv_irem hx hb dX3_write_242 (by decide) ?_
      refine g_top (y := nI (q % 4)) (pk_rem (d := 4) (Nat.lt_trans hq (by decide)) (by decide) (by decide)) ?_
      refine lv_iadd hx hb dX3_write_243 ?_
      refine g_top (y := nI (f * 4 + q % 4)) (nI_add _ _) ?_
      refine lv_iload_n hx hb dX3_write_244 rfl (lv_at hl 8 rfl) ?_
      refine g_iast (i := (f * 4 + q % 4)) (x := zz) (t0 := 0) (ws' := rfW bd cI cZ run (up1 fm (64 * j + q / 4) (f + 1)) cm wr (up1 mk (64 * j + q / 4) false) (upd (cpN wo (fm (64 * j + q / 4) - 1) f 4) (f * 4 + q % 4) zz) (fc + 1) (cc + 1)) hx hb hG rf_6 rfl ((by omega)) (by decide) (rf_s6 _) dX3_write_245 (fun H locs hG => ?_)
      refine lv_iload hx hb dX3_write_246 (lv_at hl 2 rfl) ?_
      exact g_iret hx hb hr hlk hG dX3_write_248
    | succ n ih =>
      intro i H locs ls hi hG hl
      have hi2 : i < 4 := by omega
      refine lv_iload hx hb dX3_write_138 (lv_at hl 0 rfl) ?_
      refine lv_iconst (v := nI 4) hx hb dX3_write_140 (by decide) ?_
      refine lv_icmp_ge (tgt := 174) hx hb dX3_write_141 rfl (fun hh => absurd hh (nI_ge hi2 (by decide))) (fun _ => ?_)
      refine lv_aload_n hx hb dX3_write_144 rfl (lv_at hl 5 rfl) ?_
      refine g_get (k := 5) (v := .ref (bd 6)) (C := RX3) (ref := RX3) (fs := [.ref (bd 1), .ref (bd 2), .ref (bd 3), .ref (bd 4), .ref (bd 5), .ref (bd 6), .int fc, .int cc]) hx hb hown hts hG gX3 rfl rf_0 (by decide) t_243 rfl rfl dX3_write_145 ?_
      refine lv_iconst (v := nI 4) hx hb dX3_write_148 (by decide) ?_
      refine lv_iload hx hb dX3_write_149 (lv_at hl 1 rfl) ?_
      refine lv_imul hx hb dX3_write_151 ?_
      refine g_top (y := nI (f * 4)) (by rw [pk_mul, Nat.mul_comm]) ?_
      refine lv_iload hx hb dX3_write_152 (lv_at hl 0 rfl) ?_
      refine lv_iadd hx hb dX3_write_154 ?_
      refine g_top (y := nI (f * 4 + i)) (nI_add _ _) ?_
      refine lv_aload_n hx hb dX3_write_155 rfl (lv_at hl 5 rfl) ?_
      refine g_get (k := 5) (v := .ref (bd 6)) (C := RX3) (ref := RX3) (fs := [.ref (bd 1), .ref (bd 2), .ref (bd 3), .ref (bd 4), .ref (bd 5), .ref (bd 6), .int fc, .int cc]) hx hb hown hts hG gX3 rfl rf_0 (by decide) t_243 rfl rfl dX3_write_156 ?_
      refine lv_iconst (v := nI 4) hx hb dX3_write_159 (by decide) ?_
      refine lv_iload hx hb dX3_write_160 (lv_at hl 3 rfl) ?_
      refine lv_imul hx hb dX3_write_162 ?_
      refine g_top (y := nI ((fm (64 * j + q / 4) - 1) * 4)) (by rw [pk_mul, Nat.mul_comm]) ?_
      refine lv_iload hx hb dX3_write_163 (lv_at hl 0 rfl) ?_
      refine lv_iadd hx hb dX3_write_165 ?_
      refine g_top (y := nI ((fm (64 * j + q / 4) - 1) * 4 + i)) (nI_add _ _) ?_
      refine g_iald (i := ((fm (64 * j + q / 4) - 1) * 4 + i)) (t0 := 0) hx hb hG rf_6 rfl ((by omega)) (by decide) dX3_write_166 ?_
      refine g_iast (i := (f * 4 + i)) (x := (cpN wo (fm (64 * j + q / 4) - 1) f i) ((fm (64 * j + q / 4) - 1) * 4 + i)) (t0 := 0) (ws' := rfW bd cI cZ run fm cm wr mk (cpN wo (fm (64 * j + q / 4) - 1) f (i + 1)) fc cc) hx hb hG rf_6 rfl ((by omega)) (by decide) (by rw [cpN_s wo _ f i hi2]; exact rf_s6 _) dX3_write_167 (fun H locs hG => ?_)
      refine lv_iinc (k := 0) (v := nI (i + 1)) (lv' := [(11, .int (nI (i + 1))), (10, .int (nI f)), (9, .int 2), (7, .int (nI (fm (64 * j + q / 4) - 1))), (6, .int (nI (64 * j + q / 4))), (0, .ref (bd 0)), (1, .int (nI j)), (2, .int (nI q)), (3, .int zz), (8, .int 1)]) hx hb dX3_write_168 hl rfl (nI_1 i) (by decide) rfl (fun ls hl => ?_)
      refine lv_goto (tgt := 138) hx hb dX3_write_171 rfl ?_
      exact ih (i + 1) _ _ _ (by omega) hG (lv_sub hl [0, 1, 2, 3, 4, 5, 6, 7, 8, 9] rfl)
  exact loop 4 0 _ _ _ rfl (by rw [cpN_0]; exact hG) (lv_sub hl [0, 1, 2, 4, 5, 8, 9, 10, 11, 3] rfl)
set_option maxHeartbeats 4000000 in
set_option maxRecDepth 100000 in
theorem rp_tables_1 {x : Int32} (h : ¬ rn run x) : gM l yX3_tables cX3_tables 2 (some .int) 2 48 D cls (fpT cI cQ cZ) A (rfW bd cI cZ run fm cm wr mk wo fc cc) [.ref (bd 0), .int x] (some (.int (-1))) (rfW bd cI cZ run fm cm wr mk wo fc cc) := by
  refine gM_of (by decide) (Nat.le_of_ble_eq_true rfl) ?_
  intro p e s m args below meth c ls hx hb hml hown hts hN hr hlk hl hG
  have hown : s.vm.findClass RX3 = some m.cls := hown
  have hl : lv_has ls 2 [(0, .ref (bd 0)), (1, .int x)] := hl
  refine lv_aload_n hx hb dX3_tables_0 rfl (lv_at hl 0 rfl) ?_
  refine lv_iload_n hx hb dX3_tables_1 rfl (lv_at hl 1 rfl) ?_
  refine g_callV (As := [.int x]) (rest := []) (fs := [.ref (bd 1), .ref (bd 2), .ref (bd 3), .ref (bd 4), .ref (bd 5), .ref (bd 6), .int fc, .int cc]) (rm_away_n h) hx hb hml hown hts hN hG t_293 t_295 s_24 t_4 t_296 nm_X3_away ⟨by decide, by decide⟩ rf_0 rfl hl.1 (Nat.le_of_ble_eq_true rfl) dX3_tables_2 ⟨Nat.zero_le _, Nat.zero_le _⟩ (fun H locs hG => ?_)
  refine W.eq (g2 := F0 m 5 ls [.int 1]) rfl ?_
  refine lv_if_eq (tgt := 12) hx hb dX3_tables_5 rfl (fun hh => absurd hh (by decide)) (fun _ => ?_)
  refine lv_iconst (v := (-1)) hx hb dX3_tables_8 (by decide) ?_
  refine lv_goto (tgt := 17) hx hb dX3_tables_9 rfl ?_
  exact g_iret hx hb hr hlk hG dX3_tables_17
set_option maxHeartbeats 4000000 in
set_option maxRecDepth 100000 in
theorem rp_tables_ok {j : Nat} (hj : j < 5) (h : run j = true) (hB : ∀ i, fm i ≤ 24)  : gM l yX3_tables cX3_tables 2 (some .int) 2 48 D cls (fpT cI cQ cZ) A (rfW bd cI cZ run fm cm wr mk wo fc cc) [.ref (bd 0), .int (nI j)] (some (.int (nI (tbN (pgS fm j))))) (rfW bd cI cZ run fm cm wr mk wo fc cc) := by
  refine gM_of (by decide) (Nat.le_of_ble_eq_true rfl) ?_
  intro p e s m args below meth c ls hx hb hml hown hts hN hr hlk hl hG
  have hown : s.vm.findClass RX3 = some m.cls := hown
  have hl : lv_has ls 2 [(0, .ref (bd 0)), (1, .int (nI j))] := hl
  refine lv_aload_n hx hb dX3_tables_0 rfl (lv_at hl 0 rfl) ?_
  refine lv_iload_n hx hb dX3_tables_1 rfl (lv_at hl 1 rfl) ?_
  refine g_callV (As := [.int (nI j)]) (rest := []) (fs := [.ref (bd 1), .ref (bd 2), .ref (bd 3), .ref (bd 4), .ref (bd 5), .ref (bd 6), .int fc, .int cc]) (rm_away_t hj h) hx hb hml hown hts hN hG t_293 t_295 s_24 t_4 t_296 nm_X3_away ⟨by decide, by decide⟩ rf_0 rfl hl.1 (Nat.le_of_ble_eq_true rfl) dX3_tables_2 ⟨Nat.zero_le _, Nat.zero_le _⟩ (fun H locs hG => ?_)
  refine W.eq (g2 := F0 m 5 ls [.int 0]) rfl ?_
  refine lv_if_eq (tgt := 12) hx hb dX3_tables_5 rfl (fun _ => ?_) (fun hh => absurd (rfl) hh)
  refine lv_aload_n hx hb dX3_tables_12 rfl (lv_at hl 0 rfl) ?_
  refine lv_iload_n hx hb dX3_tables_13 rfl (lv_at hl 1 rfl) ?_
  refine g_callV (As := [.int (nI j)]) (rest := []) (fs := [.ref (bd 1), .ref (bd 2), .ref (bd 3), .ref (bd 4), .ref (bd 5), .ref (bd 6), .int fc, .int cc]) (rm_tablesOf hj hB) hx hb hml hown hts hN hG t_272 t_274 s_21 t_4 t_275 nm_X3_tablesOf ⟨by decide, by decide⟩ rf_0 rfl hl.1 (Nat.le_of_ble_eq_true rfl) dX3_tables_14 ⟨Nat.zero_le _, Nat.zero_le _⟩ (fun H locs hG => ?_)
  refine W.eq (g2 := F0 m 17 ls [.int (nI (tbN (pgS fm j)))]) rfl ?_
  exact g_iret hx hb hr hlk hG dX3_tables_17
set_option maxHeartbeats 4000000 in
set_option maxRecDepth 100000 in
theorem rp_pages_1 {x : Int32} (h : ¬ rn run x) : gM l yX3_pages cX3_pages 4 (some .int) 1 21 D cls (fpT cI cQ cZ) A (rfW bd cI cZ run fm cm wr mk wo fc cc) [.ref (bd 0), .int x] (some (.int (-1))) (rfW bd cI cZ run fm cm wr mk wo fc cc) := by
  refine gM_of (by decide) (Nat.le_of_ble_eq_true rfl) ?_
  intro p e s m args below meth c ls hx hb hml hown hts hN hr hlk hl hG
  have hown : s.vm.findClass RX3 = some m.cls := hown
  have hl : lv_has ls 4 [(0, .ref (bd 0)), (1, .int x)] := hl
  refine lv_aload_n hx hb dX3_pages_0 rfl (lv_at hl 0 rfl) ?_
  refine lv_iload_n hx hb dX3_pages_1 rfl (lv_at hl 1 rfl) ?_
  refine g_callV (As := [.int x]) (rest := []) (fs := [.ref (bd 1), .ref (bd 2), .ref (bd 3), .ref (bd 4), .ref (bd 5), .ref (bd 6), .int fc, .int cc]) (rm_away_n h) hx hb hml hown hts hN hG t_293 t_295 s_24 t_4 t_296 nm_X3_away ⟨by decide, by decide⟩ rf_0 rfl hl.1 (Nat.le_of_ble_eq_true rfl) dX3_pages_2 ⟨Nat.zero_le _, Nat.zero_le _⟩ (fun H locs hG => ?_)
  refine W.eq (g2 := F0 m 5 ls [.int 1]) rfl ?_
  refine lv_if_eq (tgt := 10) hx hb dX3_pages_5 rfl (fun hh => absurd hh (by decide)) (fun _ => ?_)
  refine lv_iconst (v := (-1)) hx hb dX3_pages_8 (by decide) ?_
  exact g_iret hx hb hr hlk hG dX3_pages_9
set_option maxHeartbeats 4000000 in
set_option maxRecDepth 100000 in
theorem rp_pages_ok {j : Nat} (hj : j < 5) (h : run j = true) (hB : ∀ i, fm i ≤ 24)  : gM l yX3_pages cX3_pages 4 (some .int) 1 21 D cls (fpT cI cQ cZ) A (rfW bd cI cZ run fm cm wr mk wo fc cc) [.ref (bd 0), .int (nI j)] (some (.int (nI (pcN (pgS fm j) 64)))) (rfW bd cI cZ run fm cm wr mk wo fc cc) := by
  refine gM_of (by decide) (Nat.le_of_ble_eq_true rfl) ?_
  intro p e s m args below meth c ls hx hb hml hown hts hN hr hlk hl hG
  have hown : s.vm.findClass RX3 = some m.cls := hown
  have hl : lv_has ls 4 [(0, .ref (bd 0)), (1, .int (nI j))] := hl
  refine lv_aload_n hx hb dX3_pages_0 rfl (lv_at hl 0 rfl) ?_
  refine lv_iload_n hx hb dX3_pages_1 rfl (lv_at hl 1 rfl) ?_
  refine g_callV (As := [.int (nI j)]) (rest := []) (fs := [.ref (bd 1), .ref (bd 2), .ref (bd 3), .ref (bd 4), .ref (bd 5), .ref (bd 6), .int fc, .int cc]) (rm_away_t hj h) hx hb hml hown hts hN hG t_293 t_295 s_24 t_4 t_296 nm_X3_away ⟨by decide, by decide⟩ rf_0 rfl hl.1 (Nat.le_of_ble_eq_true rfl) dX3_pages_2 ⟨Nat.zero_le _, Nat.zero_le _⟩ (fun H locs hG => ?_)
  refine W.eq (g2 := F0 m 5 ls [.int 0]) rfl ?_
  refine lv_if_eq (tgt := 10) hx hb dX3_pages_5 rfl (fun _ => ?_) (fun hh => absurd (rfl) hh)
  refine lv_iconst (v := nI 0) hx hb dX3_pages_10 (by decide) ?_
  refine lv_istore_n (lv' := [(2, .int (nI 0)), (0, .ref (bd 0)), (1, .int (nI j))]) hx hb dX3_pages_11 rfl hl (by decide) rfl (fun ls hl => ?_)
  refine lv_iconst (v := nI 0) hx hb dX3_pages_12 (by decide) ?_
  refine lv_istore_n (lv' := [(3, .int (nI 0)), (2, .int (nI 0)), (0, .ref (bd 0)), (1, .int (nI j))]) hx hb dX3_pages_13 rfl hl (by decide) rfl (fun ls hl => ?_)
  have loop : ∀ (n i : Nat) (H : Heap) (locs : List Loc) (ls : Array Slot), i + n = 64 → gG D cls (fpT cI cQ cZ) A s (rfW bd cI cZ run fm cm wr mk wo fc cc) H locs → lv_has ls 4 [(3, .int (nI i)), (2, .int (nI (pcN (pgS fm j) i))), (0, .ref (bd 0)), (1, .int (nI j))] → W p l e (gR 1 21) s m args below meth c H locs 0 0 (gQ below args s D cls (fpT cI cQ cZ) A (some (.int (nI (pcN (pgS fm j) 64)))) (rfW bd cI cZ run fm cm wr mk wo fc cc)) (F0 m 14 ls []) := by
    intro n
    induction n with
    | zero =>
      intro i H locs ls hi hG hl
      obtain rfl : i = 64 := by omega
      refine lv_iload_n hx hb dX3_pages_14 rfl (lv_at hl 0 rfl) ?_
      refine lv_bipush (v := nI 64) hx hb dX3_pages_15 (by decide) ?_
      refine lv_icmp_ge (tgt := 48) hx hb dX3_pages_17 rfl (fun _ => ?_) (fun hh => absurd (nI_le (Nat.le_refl 64) (by decide)) hh)
      refine lv_iload_n hx hb dX3_pages_48 rfl (lv_at hl 1 rfl) ?_
      exact g_iret hx hb hr hlk hG dX3_pages_49
    | succ n ih =>
      intro i H locs ls hi hG hl
      have hi6 : i < 64 := by omega
      have hbi := hB (64 * j + i)
      by_cases hc : 0 < fm (64 * j + i)
      · have hu : pcN (pgS fm j) (i + 1) = pcN (pgS fm j) i + 1 := by simp [pcN, pgS, hc]
        refine lv_iload_n hx hb dX3_pages_14 rfl (lv_at hl 0 rfl) ?_
        refine lv_bipush (v := nI 64) hx hb dX3_pages_15 (by decide) ?_
        refine lv_icmp_ge (tgt := 48) hx hb dX3_pages_17 rfl (fun hh => absurd hh (nI_ge hi6 (by decide))) (fun _ => ?_)
        refine lv_aload_n hx hb dX3_pages_20 rfl (lv_at hl 2 rfl) ?_
        refine g_get (k := 1) (v := .ref (bd 2)) (C := RX3) (ref := RX3) (fs := [.ref (bd 1), .ref (bd 2), .ref (bd 3), .ref (bd 4), .ref (bd 5), .ref (bd 6), .int fc, .int cc]) hx hb hown hts hG gX3 rfl rf_0 (by decide) t_239 rfl rfl dX3_pages_21 ?_
        refine lv_bipush (v := nI 64) hx hb dX3_pages_24 (by decide) ?_
        refine lv_iload_n hx hb dX3_pages_26 rfl (lv_at hl 3 rfl) ?_
        refine lv_imul hx hb dX3_pages_27 ?_
        refine g_top (y := nI (64 * j)) (pk_mul 64 j) ?_
        refine lv_iload_n hx hb dX3_pages_28 rfl (lv_at hl 0 rfl) ?_
        refine lv_iadd hx hb dX3_pages_29 ?_
        refine g_top (y := nI (64 * j + i)) (nI_add _ _) ?_
        refine g_iald (i := (64 * j + i)) (t0 := 0) hx hb hG rf_2 rfl ((by omega)) (by decide) dX3_pages_30 ?_
        refine lv_if_le (tgt := 40) hx hb dX3_pages_31 rfl (fun hh => absurd hh (nI_gt0 hc (by omega))) (fun _ => ?_)
        refine lv_iload_n hx hb dX3_pages_34 rfl (lv_at hl 1 rfl) ?_
        refine lv_iconst (v := nI 1) hx hb dX3_pages_35 (by decide) ?_
        refine lv_iadd hx hb dX3_pages_36 ?_
        refine g_top (y := nI (pcN (pgS fm j) (i + 1))) (by rw [hu]; exact nI_add _ 1) ?_
        refine lv_goto (tgt := 41) hx hb dX3_pages_37 rfl ?_
        refine lv_istore_n (lv' := [(2, .int (nI (pcN (pgS fm j) (i + 1)))), (3, .int (nI i)), (0, .ref (bd 0)), (1, .int (nI j))]) hx hb dX3_pages_41 rfl hl (by decide) rfl (fun ls hl => ?_)
        refine lv_iinc (k := 1) (v := nI (i + 1)) (lv' := [(3, .int (nI (i + 1))), (2, .int (nI (pcN (pgS fm j) (i + 1)))), (0, .ref (bd 0)), (1, .int (nI j))]) hx hb dX3_pages_42 hl rfl (nI_1 i) (by decide) rfl (fun ls hl => ?_)
        refine lv_goto (tgt := 14) hx hb dX3_pages_45 rfl ?_
        exact ih (i + 1) _ _ _ (by omega) hG (lv_sub hl [0, 1, 2, 3] rfl)
      · have hu : pcN (pgS fm j) (i + 1) = pcN (pgS fm j) i := by simp [pcN, pgS, hc]
        refine lv_iload_n hx hb dX3_pages_14 rfl (lv_at hl 0 rfl) ?_
        refine lv_bipush (v := nI 64) hx hb dX3_pages_15 (by decide) ?_
        refine lv_icmp_ge (tgt := 48) hx hb dX3_pages_17 rfl (fun hh => absurd hh (nI_ge hi6 (by decide))) (fun _ => ?_)
        refine lv_aload_n hx hb dX3_pages_20 rfl (lv_at hl 2 rfl) ?_
        refine g_get (k := 1) (v := .ref (bd 2)) (C := RX3) (ref := RX3) (fs := [.ref (bd 1), .ref (bd 2), .ref (bd 3), .ref (bd 4), .ref (bd 5), .ref (bd 6), .int fc, .int cc]) hx hb hown hts hG gX3 rfl rf_0 (by decide) t_239 rfl rfl dX3_pages_21 ?_
        refine lv_bipush (v := nI 64) hx hb dX3_pages_24 (by decide) ?_
        refine lv_iload_n hx hb dX3_pages_26 rfl (lv_at hl 3 rfl) ?_
        refine lv_imul hx hb dX3_pages_27 ?_
        refine g_top (y := nI (64 * j)) (pk_mul 64 j) ?_
        refine lv_iload_n hx hb dX3_pages_28 rfl (lv_at hl 0 rfl) ?_
        refine lv_iadd hx hb dX3_pages_29 ?_
        refine g_top (y := nI (64 * j + i)) (nI_add _ _) ?_
        refine g_iald (i := (64 * j + i)) (t0 := 0) hx hb hG rf_2 rfl ((by omega)) (by decide) dX3_pages_30 ?_
        refine lv_if_le (tgt := 40) hx hb dX3_pages_31 rfl (fun _ => ?_) (fun hh => absurd (nI_le0 (by omega)) hh)
        refine lv_iload_n hx hb dX3_pages_40 rfl (lv_at hl 1 rfl) ?_
        refine lv_istore_n (lv' := [(2, .int (nI (pcN (pgS fm j) i))), (3, .int (nI i)), (0, .ref (bd 0)), (1, .int (nI j))]) hx hb dX3_pages_41 rfl hl (by decide) rfl (fun ls hl => ?_)
        refine lv_iinc (k := 1) (v := nI (i + 1)) (lv' := [(3, .int (nI (i + 1))), (2, .int (nI (pcN (pgS fm j) i))), (0, .ref (bd 0)), (1, .int (nI j))]) hx hb dX3_pages_42 hl rfl (nI_1 i) (by decide) rfl (fun ls hl => ?_)
        refine lv_goto (tgt := 14) hx hb dX3_pages_45 rfl ?_
        exact ih (i + 1) _ _ _ (by omega) hG (by rw [hu]; exact lv_sub hl [0, 1, 2, 3] rfl)
  exact loop 64 0 _ _ _ (by omega) hG (lv_sub hl [0, 1, 2, 3] rfl)
set_option maxHeartbeats 4000000 in
set_option maxRecDepth 100000 in
theorem rp_running  : gM l yX3_running cX3_running 3 (some .int) 0 0 D cls (fpT cI cQ cZ) A (rfW bd cI cZ run fm cm wr mk wo fc cc) [.ref (bd 0)] (some (.int (rnS run 5))) (rfW bd cI cZ run fm cm wr mk wo fc cc) := by
  refine gM_of (by decide) (Nat.le_of_ble_eq_true rfl) ?_
  intro p e s m args below meth c ls hx hb hml hown hts hN hr hlk hl hG
  have hown : s.vm.findClass RX3 = some m.cls := hown
  have hl : lv_has ls 3 [(0, .ref (bd 0))] := hl
  refine lv_iconst (v := nI 0) hx hb dX3_running_0 (by decide) ?_
  refine lv_istore_n (lv' := [(1, .int (nI 0)), (0, .ref (bd 0))]) hx hb dX3_running_1 rfl hl (by decide) rfl (fun ls hl => ?_)
  refine lv_iconst (v := nI 0) hx hb dX3_running_2 (by decide) ?_
  refine lv_istore_n (lv' := [(2, .int (nI 0)), (1, .int (nI 0)), (0, .ref (bd 0))]) hx hb dX3_running_3 rfl hl (by decide) rfl (fun ls hl => ?_)
  have loop : ∀ (n i : Nat) (ls : Array Slot), i + n = 5 → lv_has ls 3 [(2, .int (nI i)), (1, .int (rnS run i)), (0, .ref (bd 0))] → W p l e (gR 0 0) s m args below meth c s.heap [] 0 0 (gQ below args s D cls (fpT cI cQ cZ) A (some (.int (rnS run 5))) (rfW bd cI cZ run fm cm wr mk wo fc cc)) (F0 m 4 ls []) := by
    intro n
    induction n with
    | zero =>
      intro i ls hi hl
      obtain rfl : i = 5 := by omega
      refine lv_iload_n hx hb dX3_running_4 rfl (lv_at hl 0 rfl) ?_
      refine lv_iconst (v := nI 5) hx hb dX3_running_5 (by decide) ?_
      refine lv_icmp_ge (tgt := 34) hx hb dX3_running_6 rfl (fun _ => ?_) (fun hh => absurd (nI_le (Nat.le_refl 5) (by decide)) hh)
      refine lv_iload_n hx hb dX3_running_34 rfl (lv_at hl 1 rfl) ?_
      exact g_iret hx hb hr hlk hG dX3_running_35
    | succ n ih =>
      intro i ls hi hl
      have hi5 : i < 5 := by omega
      cases hc : run i
      · have hu : rnS run (i + 1) = rnS run i := by simp [rnS, hc]
        refine lv_iload_n hx hb dX3_running_4 rfl (lv_at hl 0 rfl) ?_
        refine lv_iconst (v := nI 5) hx hb dX3_running_5 (by decide) ?_
        refine lv_icmp_ge (tgt := 34) hx hb dX3_running_6 rfl (fun hh => absurd hh (nI_ge hi5 (by decide))) (fun _ => ?_)
        refine lv_aload_n hx hb dX3_running_9 rfl (lv_at hl 2 rfl) ?_
        refine g_get (k := 0) (v := .ref (bd 1)) (C := RX3) (ref := RX3) (fs := [.ref (bd 1), .ref (bd 2), .ref (bd 3), .ref (bd 4), .ref (bd 5), .ref (bd 6), .int fc, .int cc]) hx hb hown hts hG gX3 rfl rf_0 (by decide) t_238 rfl rfl dX3_running_10 ?_
        refine lv_iload_n hx hb dX3_running_13 rfl (lv_at hl 0 rfl) ?_
        refine g_zald (i := i) (t0 := 2) hx hb hG rf_1 rfl (hi5) (by decide) dX3_running_14 ?_
        refine g_top (y := 0) (by rw [hc]; rfl) ?_
        refine lv_if_eq (tgt := 26) hx hb dX3_running_15 rfl (fun _ => ?_) (fun hh => absurd (rfl) hh)
        refine lv_iload_n hx hb dX3_running_26 rfl (lv_at hl 1 rfl) ?_
        refine lv_istore_n (lv' := [(1, .int (rnS run i)), (2, .int (nI i)), (0, .ref (bd 0))]) hx hb dX3_running_27 rfl hl (by decide) rfl (fun ls hl => ?_)
        refine lv_iinc (k := 1) (v := nI (i + 1)) (lv' := [(2, .int (nI (i + 1))), (1, .int (rnS run i)), (0, .ref (bd 0))]) hx hb dX3_running_28 hl rfl (nI_1 i) (by decide) rfl (fun ls hl => ?_)
        refine lv_goto (tgt := 4) hx hb dX3_running_31 rfl ?_
        exact ih (i + 1) _ (by omega) (by rw [hu]; exact lv_sub hl [0, 1, 2] rfl)
      · have hu : rnS run (i + 1) = rnS run i + (nI 1 <<< (nI i &&& 31)) := by simp [rnS, hc]
        refine lv_iload_n hx hb dX3_running_4 rfl (lv_at hl 0 rfl) ?_
        refine lv_iconst (v := nI 5) hx hb dX3_running_5 (by decide) ?_
        refine lv_icmp_ge (tgt := 34) hx hb dX3_running_6 rfl (fun hh => absurd hh (nI_ge hi5 (by decide))) (fun _ => ?_)
        refine lv_aload_n hx hb dX3_running_9 rfl (lv_at hl 2 rfl) ?_
        refine g_get (k := 0) (v := .ref (bd 1)) (C := RX3) (ref := RX3) (fs := [.ref (bd 1), .ref (bd 2), .ref (bd 3), .ref (bd 4), .ref (bd 5), .ref (bd 6), .int fc, .int cc]) hx hb hown hts hG gX3 rfl rf_0 (by decide) t_238 rfl rfl dX3_running_10 ?_
        refine lv_iload_n hx hb dX3_running_13 rfl (lv_at hl 0 rfl) ?_
        refine g_zald (i := i) (t0 := 2) hx hb hG rf_1 rfl (hi5) (by decide) dX3_running_14 ?_
        refine g_top (y := 1) (by rw [hc]; rfl) ?_
        refine lv_if_eq (tgt := 26) hx hb dX3_running_15 rfl (fun hh => absurd hh (by decide)) (fun _ => ?_)
        refine lv_iload_n hx hb dX3_running_18 rfl (lv_at hl 1 rfl) ?_
        refine lv_iconst (v := nI 1) hx hb dX3_running_19 (by decide) ?_
        refine lv_iload_n hx hb dX3_running_20 rfl (lv_at hl 0 rfl) ?_
        refine lv_ishl hx hb dX3_running_21 ?_
        refine lv_iadd hx hb dX3_running_22 ?_
        refine lv_goto (tgt := 27) hx hb dX3_running_23 rfl ?_
        refine lv_istore_n (lv' := [(1, .int ((rnS run i) + ((nI 1) <<< ((nI i) &&& 31)))), (2, .int (nI i)), (0, .ref (bd 0))]) hx hb dX3_running_27 rfl hl (by decide) rfl (fun ls hl => ?_)
        refine lv_iinc (k := 1) (v := nI (i + 1)) (lv' := [(2, .int (nI (i + 1))), (1, .int ((rnS run i) + ((nI 1) <<< ((nI i) &&& 31)))), (0, .ref (bd 0))]) hx hb dX3_running_28 hl rfl (nI_1 i) (by decide) rfl (fun ls hl => ?_)
        refine lv_goto (tgt := 4) hx hb dX3_running_31 rfl ?_
        exact ih (i + 1) _ (by omega) (by rw [hu]; exact lv_sub hl [0, 1, 2] rfl)
  exact loop 5 0 _ (by omega) (lv_sub hl [0, 1, 2] rfl)
set_option maxHeartbeats 4000000 in
set_option maxRecDepth 100000 in
theorem rp_faults_c {zz : Int32} (h : ¬ zz = 0) : gM l yX3_faults cX3_faults 2 (some .int) 0 0 D cls (fpT cI cQ cZ) A (rfW bd cI cZ run fm cm wr mk wo fc cc) [.ref (bd 0), .int zz] (some (.int cc)) (rfW bd cI cZ run fm cm wr mk wo fc cc) := by
  refine gM_of (by decide) (Nat.le_of_ble_eq_true rfl) ?_
  intro p e s m args below meth c ls hx hb hml hown hts hN hr hlk hl hG
  have hown : s.vm.findClass RX3 = some m.cls := hown
  have hl : lv_has ls 2 [(0, .ref (bd 0)), (1, .int zz)] := hl
  refine lv_iload_n hx hb dX3_faults_0 rfl (lv_at hl 1 rfl) ?_
  refine lv_if_eq (tgt := 11) hx hb dX3_faults_1 rfl (fun hh => absurd hh (h)) (fun _ => ?_)
  refine lv_aload_n hx hb dX3_faults_4 rfl (lv_at hl 0 rfl) ?_
  refine g_get (k := 7) (v := .int cc) (C := RX3) (ref := RX3) (fs := [.ref (bd 1), .ref (bd 2), .ref (bd 3), .ref (bd 4), .ref (bd 5), .ref (bd 6), .int fc, .int cc]) hx hb hown hts hG gX3 rfl rf_0 (by decide) t_245 rfl rfl dX3_faults_5 ?_
  refine lv_goto (tgt := 15) hx hb dX3_faults_8 rfl ?_
  exact g_iret hx hb hr hlk hG dX3_faults_15
set_option maxHeartbeats 4000000 in
set_option maxRecDepth 100000 in
theorem rp_faults_a {zz : Int32} (h : zz = 0) : gM l yX3_faults cX3_faults 2 (some .int) 0 0 D cls (fpT cI cQ cZ) A (rfW bd cI cZ run fm cm wr mk wo fc cc) [.ref (bd 0), .int zz] (some (.int fc)) (rfW bd cI cZ run fm cm wr mk wo fc cc) := by
  refine gM_of (by decide) (Nat.le_of_ble_eq_true rfl) ?_
  intro p e s m args below meth c ls hx hb hml hown hts hN hr hlk hl hG
  have hown : s.vm.findClass RX3 = some m.cls := hown
  have hl : lv_has ls 2 [(0, .ref (bd 0)), (1, .int zz)] := hl
  refine lv_iload_n hx hb dX3_faults_0 rfl (lv_at hl 1 rfl) ?_
  refine lv_if_eq (tgt := 11) hx hb dX3_faults_1 rfl (fun _ => ?_) (fun hh => absurd (h) hh)
  refine lv_aload_n hx hb dX3_faults_11 rfl (lv_at hl 0 rfl) ?_
  refine g_get (k := 6) (v := .int fc) (C := RX3) (ref := RX3) (fs := [.ref (bd 1), .ref (bd 2), .ref (bd 3), .ref (bd 4), .ref (bd 5), .ref (bd 6), .int fc, .int cc]) hx hb hown hts hG gX3 rfl rf_0 (by decide) t_244 rfl rfl dX3_faults_12 ?_
  exact g_iret hx hb hr hlk hG dX3_faults_15
set_option maxHeartbeats 4000000 in
set_option maxRecDepth 100000 in
theorem rp_twin_1a {x y u v : Int32} (h : ¬ rn run x) : gM l yX3_twin cX3_twin 8 (some .int) 2 43 D cls (fpT cI cQ cZ) A (rfW bd cI cZ run fm cm wr mk wo fc cc) [.ref (bd 0), .int x, .int y, .int u, .int v] (some (.int (-1))) (rfW bd cI cZ run fm cm wr mk wo fc cc) := by
  refine gM_of (by decide) (Nat.le_of_ble_eq_true rfl) ?_
  intro p e s m args below meth c ls hx hb hml hown hts hN hr hlk hl hG
  have hown : s.vm.findClass RX3 = some m.cls := hown
  have hl : lv_has ls 8 [(0, .ref (bd 0)), (1, .int x), (2, .int y), (3, .int u), (4, .int v)] := hl
  refine lv_aload_n hx hb dX3_twin_0 rfl (lv_at hl 0 rfl) ?_
  refine lv_iload_n hx hb dX3_twin_1 rfl (lv_at hl 1 rfl) ?_
  refine g_callV (As := [.int x]) (rest := []) (fs := [.ref (bd 1), .ref (bd 2), .ref (bd 3), .ref (bd 4), .ref (bd 5), .ref (bd 6), .int fc, .int cc]) (rm_away_n h) hx hb hml hown hts hN hG t_293 t_295 s_24 t_4 t_296 nm_X3_away ⟨by decide, by decide⟩ rf_0 rfl hl.1 (Nat.le_of_ble_eq_true rfl) dX3_twin_2 ⟨Nat.zero_le _, Nat.zero_le _⟩ (fun H locs hG => ?_)
  refine W.eq (g2 := F0 m 5 ls [.int 1]) rfl ?_
  refine lv_if_ne (tgt := 16) hx hb dX3_twin_5 rfl (fun _ => ?_) (fun hh => absurd hh (by decide))
  refine lv_iconst (v := (-1)) hx hb dX3_twin_16 (by decide) ?_
  exact g_iret hx hb hr hlk hG dX3_twin_17
set_option maxHeartbeats 4000000 in
set_option maxRecDepth 100000 in
theorem rp_twin_1b {j : Nat} {y u v : Int32} (hj : j < 5) (h : run j = true) (h2 : ¬ rn run u) : gM l yX3_twin cX3_twin 8 (some .int) 2 43 D cls (fpT cI cQ cZ) A (rfW bd cI cZ run fm cm wr mk wo fc cc) [.ref (bd 0), .int (nI j), .int y, .int u, .int v] (some (.int (-1))) (rfW bd cI cZ run fm cm wr mk wo fc cc) := by
  refine gM_of (by decide) (Nat.le_of_ble_eq_true rfl) ?_
  intro p e s m args below meth c ls hx hb hml hown hts hN hr hlk hl hG
  have hown : s.vm.findClass RX3 = some m.cls := hown
  have hl : lv_has ls 8 [(0, .ref (bd 0)), (1, .int (nI j)), (2, .int y), (3, .int u), (4, .int v)] := hl
  refine lv_aload_n hx hb dX3_twin_0 rfl (lv_at hl 0 rfl) ?_
  refine lv_iload_n hx hb dX3_twin_1 rfl (lv_at hl 1 rfl) ?_
  refine g_callV (As := [.int (nI j)]) (rest := []) (fs := [.ref (bd 1), .ref (bd 2), .ref (bd 3), .ref (bd 4), .ref (bd 5), .ref (bd 6), .int fc, .int cc]) (rm_away_t hj h) hx hb hml hown hts hN hG t_293 t_295 s_24 t_4 t_296 nm_X3_away ⟨by decide, by decide⟩ rf_0 rfl hl.1 (Nat.le_of_ble_eq_true rfl) dX3_twin_2 ⟨Nat.zero_le _, Nat.zero_le _⟩ (fun H locs hG => ?_)
  refine W.eq (g2 := F0 m 5 ls [.int 0]) rfl ?_
  refine lv_if_ne (tgt := 16) hx hb dX3_twin_5 rfl (fun hh => absurd (rfl) hh) (fun _ => ?_)
  refine lv_aload_n hx hb dX3_twin_8 rfl (lv_at hl 0 rfl) ?_
  refine lv_iload_n hx hb dX3_twin_9 rfl (lv_at hl 3 rfl) ?_
  refine g_callV (As := [.int u]) (rest := []) (fs := [.ref (bd 1), .ref (bd 2), .ref (bd 3), .ref (bd 4), .ref (bd 5), .ref (bd 6), .int fc, .int cc]) (rm_away_n h2) hx hb hml hown hts hN hG t_293 t_295 s_24 t_4 t_296 nm_X3_away ⟨by decide, by decide⟩ rf_0 rfl hl.1 (Nat.le_of_ble_eq_true rfl) dX3_twin_10 ⟨Nat.zero_le _, Nat.zero_le _⟩ (fun H locs hG => ?_)
  refine W.eq (g2 := F0 m 13 ls [.int 1]) rfl ?_
  refine lv_if_eq (tgt := 18) hx hb dX3_twin_13 rfl (fun hh => absurd hh (by decide)) (fun _ => ?_)
  refine lv_iconst (v := (-1)) hx hb dX3_twin_16 (by decide) ?_
  exact g_iret hx hb hr hlk hG dX3_twin_17
set_option maxHeartbeats 4000000 in
set_option maxRecDepth 100000 in
theorem rp_twin_no {j n : Nat} {y v r : Int32} (hj : j < 5) (h : run j = true) (hn : n < 5) (h2 : run n = true) (hr0 : ¬ 0 ≤ r) (hM : gM l yX3_bar cX3_bar 3 (some .int) 1 21 D cls (fpT cI cQ cZ) A (rfW bd cI cZ run fm cm wr mk wo fc cc) [.ref (bd 0), .int (nI j), .int y] (some (.int r)) (rfW bd cI cZ run fm cm wr mk wo fc cc)) : gM l yX3_twin cX3_twin 8 (some .int) 2 43 D cls (fpT cI cQ cZ) A (rfW bd cI cZ run fm cm wr mk wo fc cc) [.ref (bd 0), .int (nI j), .int y, .int (nI n), .int v] (some (.int r)) (rfW bd cI cZ run fm cm wr mk wo fc cc) := by
  refine gM_of (by decide) (Nat.le_of_ble_eq_true rfl) ?_
  intro p e s m args below meth c ls hx hb hml hown hts hN hr hlk hl hG
  have hown : s.vm.findClass RX3 = some m.cls := hown
  have hl : lv_has ls 8 [(0, .ref (bd 0)), (1, .int (nI j)), (2, .int y), (3, .int (nI n)), (4, .int v)] := hl
  refine lv_aload_n hx hb dX3_twin_0 rfl (lv_at hl 0 rfl) ?_
  refine lv_iload_n hx hb dX3_twin_1 rfl (lv_at hl 1 rfl) ?_
  refine g_callV (As := [.int (nI j)]) (rest := []) (fs := [.ref (bd 1), .ref (bd 2), .ref (bd 3), .ref (bd 4), .ref (bd 5), .ref (bd 6), .int fc, .int cc]) (rm_away_t hj h) hx hb hml hown hts hN hG t_293 t_295 s_24 t_4 t_296 nm_X3_away ⟨by decide, by decide⟩ rf_0 rfl hl.1 (Nat.le_of_ble_eq_true rfl) dX3_twin_2 ⟨Nat.zero_le _, Nat.zero_le _⟩ (fun H locs hG => ?_)
  refine W.eq (g2 := F0 m 5 ls [.int 0]) rfl ?_
  refine lv_if_ne (tgt := 16) hx hb dX3_twin_5 rfl (fun hh => absurd (rfl) hh) (fun _ => ?_)
  refine lv_aload_n hx hb dX3_twin_8 rfl (lv_at hl 0 rfl) ?_
  refine lv_iload_n hx hb dX3_twin_9 rfl (lv_at hl 3 rfl) ?_
  refine g_callV (As := [.int (nI n)]) (rest := []) (fs := [.ref (bd 1), .ref (bd 2), .ref (bd 3), .ref (bd 4), .ref (bd 5), .ref (bd 6), .int fc, .int cc]) (rm_away_t hn h2) hx hb hml hown hts hN hG t_293 t_295 s_24 t_4 t_296 nm_X3_away ⟨by decide, by decide⟩ rf_0 rfl hl.1 (Nat.le_of_ble_eq_true rfl) dX3_twin_10 ⟨Nat.zero_le _, Nat.zero_le _⟩ (fun H locs hG => ?_)
  refine W.eq (g2 := F0 m 13 ls [.int 0]) rfl ?_
  refine lv_if_eq (tgt := 18) hx hb dX3_twin_13 rfl (fun _ => ?_) (fun hh => absurd (rfl) hh)
  refine lv_aload_n hx hb dX3_twin_18 rfl (lv_at hl 0 rfl) ?_
  refine lv_iload_n hx hb dX3_twin_19 rfl (lv_at hl 1 rfl) ?_
  refine lv_iload_n hx hb dX3_twin_20 rfl (lv_at hl 2 rfl) ?_
  refine g_callV (As := [.int (nI j), .int y]) (rest := []) (fs := [.ref (bd 1), .ref (bd 2), .ref (bd 3), .ref (bd 4), .ref (bd 5), .ref (bd 6), .int fc, .int cc]) (hM) hx hb hml hown hts hN hG t_328 t_330 s_28 t_4 t_331 nm_X3_bar ⟨by decide, by decide⟩ rf_0 rfl hl.1 (Nat.le_of_ble_eq_true rfl) dX3_twin_21 ⟨Nat.zero_le _, Nat.zero_le _⟩ (fun H locs hG => ?_)
  refine W.eq (g2 := F0 m 24 ls [.int r]) rfl ?_
  refine lv_istore (lv' := [(5, .int r), (0, .ref (bd 0)), (1, .int (nI j)), (2, .int y), (3, .int (nI n)), (4, .int v)]) hx hb dX3_twin_24 hl (by decide) rfl (fun ls hl => ?_)
  refine lv_iload hx hb dX3_twin_26 (lv_at hl 0 rfl) ?_
  refine lv_if_ge (tgt := 34) hx hb dX3_twin_28 rfl (fun hh => absurd hh (hr0)) (fun _ => ?_)
  refine lv_iload hx hb dX3_twin_31 (lv_at hl 0 rfl) ?_
  exact g_iret hx hb hr hlk hG dX3_twin_33
def loN (mt : Nat → Bool) : Nat → Nat
  | 0 => 64
  | d + 1 => if mt (63 - d) then 63 - d else loN mt d
def qI (d : Nat) : Int32 := if d < 64 then nI (63 - d) else (-1)
def twM (fm : Nat → Nat) (n f : Nat) : Nat → Bool := fun c => fm (64 * n + c) == f
set_option maxHeartbeats 4000000 in
set_option maxRecDepth 100000 in
theorem rp_twin_ok {j n k d : Nat} {v : Int32} (hj : j < 5) (h : run j = true) (hn : n < 5) (h1 : run n = true) (hk : k < 64) (h2 : 0 < fm (64 * j + k)) (hB : ∀ i, fm i ≤ 24) (hd : d ≤ 64) (hv : ∀ e, e < d → v < nI (63 - e)) (hx0 : d = 64 ∨ nI (63 - d) ≤ v) : gM l yX3_twin cX3_twin 8 (some .int) 2 43 D cls (fpT cI cQ cZ) A (rfW bd cI cZ run fm cm wr mk wo fc cc) [.ref (bd 0), .int (nI j), .int (nI k), .int (nI n), .int v] (some (.int (nI (loN (twM fm n (fm (64 * j + k))) d)))) (rfW bd cI cZ run fm cm wr mk wo fc cc) := by
  refine gM_of (by decide) (Nat.le_of_ble_eq_true rfl) ?_
  intro p e s m args below meth c ls hx hb hml hown hts hN hr hlk hl hG
  have hown : s.vm.findClass RX3 = some m.cls := hown
  have hl : lv_has ls 8 [(0, .ref (bd 0)), (1, .int (nI j)), (2, .int (nI k)), (3, .int (nI n)), (4, .int v)] := hl
  refine lv_aload_n hx hb dX3_twin_0 rfl (lv_at hl 0 rfl) ?_
  refine lv_iload_n hx hb dX3_twin_1 rfl (lv_at hl 1 rfl) ?_
  refine g_callV (As := [.int (nI j)]) (rest := []) (fs := [.ref (bd 1), .ref (bd 2), .ref (bd 3), .ref (bd 4), .ref (bd 5), .ref (bd 6), .int fc, .int cc]) (rm_away_t hj h) hx hb hml hown hts hN hG t_293 t_295 s_24 t_4 t_296 nm_X3_away ⟨by decide, by decide⟩ rf_0 rfl hl.1 (Nat.le_of_ble_eq_true rfl) dX3_twin_2 ⟨Nat.zero_le _, Nat.zero_le _⟩ (fun H locs hG => ?_)
  refine W.eq (g2 := F0 m 5 ls [.int 0]) rfl ?_
  refine lv_if_ne (tgt := 16) hx hb dX3_twin_5 rfl (fun hh => absurd (rfl) hh) (fun _ => ?_)
  refine lv_aload_n hx hb dX3_twin_8 rfl (lv_at hl 0 rfl) ?_
  refine lv_iload_n hx hb dX3_twin_9 rfl (lv_at hl 3 rfl) ?_
  refine g_callV (As := [.int (nI n)]) (rest := []) (fs := [.ref (bd 1), .ref (bd 2), .ref (bd 3), .ref (bd 4), .ref (bd 5), .ref (bd 6), .int fc, .int cc]) (rm_away_t hn h1) hx hb hml hown hts hN hG t_293 t_295 s_24 t_4 t_296 nm_X3_away ⟨by decide, by decide⟩ rf_0 rfl hl.1 (Nat.le_of_ble_eq_true rfl) dX3_twin_10 ⟨Nat.zero_le _, Nat.zero_le _⟩ (fun H locs hG => ?_)
  refine W.eq (g2 := F0 m 13 ls [.int 0]) rfl ?_
  refine lv_if_eq (tgt := 18) hx hb dX3_twin_13 rfl (fun _ => ?_) (fun hh => absurd (rfl) hh)
  refine lv_aload_n hx hb dX3_twin_18 rfl (lv_at hl 0 rfl) ?_
  refine lv_iload_n hx hb dX3_twin_19 rfl (lv_at hl 1 rfl) ?_
  refine lv_iload_n hx hb dX3_twin_20 rfl (lv_at hl 2 rfl) ?_
  refine g_callV (As := [.int (nI j), .int (nI k)]) (rest := []) (fs := [.ref (bd 1), .ref (bd 2), .ref (bd 3), .ref (bd 4), .ref (bd 5), .ref (bd 6), .int fc, .int cc]) (rm_bar_0 hj hk h h2 hB) hx hb hml hown hts hN hG t_328 t_330 s_28 t_4 t_331 nm_X3_bar ⟨by decide, by decide⟩ rf_0 rfl hl.1 (Nat.le_of_ble_eq_true rfl) dX3_twin_21 ⟨Nat.zero_le _, Nat.zero_le _⟩ (fun H locs hG => ?_)
  refine W.eq (g2 := F0 m 24 ls [.int 0]) rfl ?_
  refine lv_istore (lv' := [(5, .int 0), (0, .ref (bd 0)), (1, .int (nI j)), (2, .int (nI k)), (3, .int (nI n)), (4, .int v)]) hx hb dX3_twin_24 hl (by decide) rfl (fun ls hl => ?_)
  refine lv_iload hx hb dX3_twin_26 (lv_at hl 0 rfl) ?_
  refine lv_if_ge (tgt := 34) hx hb dX3_twin_28 rfl (fun _ => ?_) (fun hh => absurd (by decide) hh)
  refine lv_bipush (v := nI 64) hx hb dX3_twin_34 (by decide) ?_
  refine lv_istore (lv' := [(6, .int (nI 64)), (5, .int 0), (0, .ref (bd 0)), (1, .int (nI j)), (2, .int (nI k)), (3, .int (nI n)), (4, .int v)]) hx hb dX3_twin_36 hl (by decide) rfl (fun ls hl => ?_)
  refine lv_bipush (v := qI 0) hx hb dX3_twin_38 (by decide) ?_
  refine lv_istore (lv' := [(7, .int (qI 0)), (6, .int (nI 64)), (5, .int 0), (0, .ref (bd 0)), (1, .int (nI j)), (2, .int (nI k)), (3, .int (nI n)), (4, .int v)]) hx hb dX3_twin_40 hl (by decide) rfl (fun ls hl => ?_)
  have loop : ∀ (n0 i : Nat) (H : Heap) (locs : List Loc) (ls : Array Slot), i + n0 = d → gG D cls (fpT cI cQ cZ) A s (rfW bd cI cZ run fm cm wr mk wo fc cc) H locs → lv_has ls 8 [(7, .int (qI i)), (6, .int (nI (loN (twM fm n (fm (64 * j + k))) i))), (5, .int 0), (0, .ref (bd 0)), (1, .int (nI j)), (2, .int (nI k)), (3, .int (nI n)), (4, .int v)] → W p l e (gR 2 43) s m args below meth c H locs 0 0 (gQ below args s D cls (fpT cI cQ cZ) A (some (.int (nI (loN (twM fm n (fm (64 * j + k))) d)))) (rfW bd cI cZ run fm cm wr mk wo fc cc)) (F0 m 42 ls []) := by
    intro n0
    induction n0 with
    | zero =>
      intro i H locs ls hi hG hl
      obtain rfl : i = d := by omega
      by_cases h64 : i = 64
      · refine lv_iload hx hb dX3_twin_42 (lv_at hl 0 rfl) ?_
        refine g_top (y := (-1)) (by simp [qI, h64]) ?_
        refine lv_if_lt (tgt := 95) hx hb dX3_twin_44 rfl (fun _ => ?_) (fun hh => absurd (by decide) hh)
        refine lv_iload hx hb dX3_twin_95 (lv_at hl 1 rfl) ?_
        exact g_iret hx hb hr hlk hG dX3_twin_97
      · refine lv_iload hx hb dX3_twin_42 (lv_at hl 0 rfl) ?_
        refine g_top (y := nI (63 - i)) (if_pos (by omega)) ?_
        refine lv_if_lt (tgt := 95) hx hb dX3_twin_44 rfl (fun hh => absurd hh (nI_pos (by omega))) (fun _ => ?_)
        refine lv_iload hx hb dX3_twin_47 (lv_at hl 0 rfl) ?_
        refine g_top (y := nI (63 - i)) (if_pos (by omega)) ?_
        refine lv_iload hx hb dX3_twin_49 (lv_at hl 7 rfl) ?_
        refine lv_icmp_le (tgt := 95) hx hb dX3_twin_51 rfl (fun _ => ?_) (fun hh => absurd (hx0.resolve_left h64) hh)
        refine lv_iload hx hb dX3_twin_95 (lv_at hl 1 rfl) ?_
        exact g_iret hx hb hr hlk hG dX3_twin_97
    | succ n0 ih =>
      intro i H locs ls hi hG hl
      have hi6 : i < 64 := by omega
      have hq1 : qI i + Int32.ofInt (-1) = qI (i + 1) := by
        have e1 : qI i = nI (63 - i) := if_pos hi6
        rw [e1]
        by_cases h63 : i = 63
        · subst h63; decide
        · have e2 : qI (i + 1) = nI (63 - (i + 1)) := if_pos (by omega)
          rw [e2]
          exact sb_m1 (by omega)
      have hb1 := hB (64 * n + (63 - i))
      have hb2 := hB (64 * j + k)
      by_cases hc : fm (64 * n + (63 - i)) = fm (64 * j + k)
      · have hu : loN (twM fm n (fm (64 * j + k))) (i + 1) = 63 - i := by simp [loN, twM, hc]
        refine lv_iload hx hb dX3_twin_42 (lv_at hl 0 rfl) ?_
        refine g_top (y := nI (63 - i)) (if_pos hi6) ?_
        refine lv_if_lt (tgt := 95) hx hb dX3_twin_44 rfl (fun hh => absurd hh (nI_pos (by omega))) (fun _ => ?_)
        refine lv_iload hx hb dX3_twin_47 (lv_at hl 0 rfl) ?_
        refine g_top (y := nI (63 - i)) (if_pos hi6) ?_
        refine lv_iload hx hb dX3_twin_49 (lv_at hl 7 rfl) ?_
        refine lv_icmp_le (tgt := 95) hx hb dX3_twin_51 rfl (fun hh => absurd hh (Int32.not_le.mpr (hv i (by omega)))) (fun _ => ?_)
        refine lv_aload_n hx hb dX3_twin_54 rfl (lv_at hl 3 rfl) ?_
        refine g_get (k := 1) (v := .ref (bd 2)) (C := RX3) (ref := RX3) (fs := [.ref (bd 1), .ref (bd 2), .ref (bd 3), .ref (bd 4), .ref (bd 5), .ref (bd 6), .int fc, .int cc]) hx hb hown hts hG gX3 rfl rf_0 (by decide) t_239 rfl rfl dX3_twin_55 ?_
        refine lv_bipush (v := nI 64) hx hb dX3_twin_58 (by decide) ?_
        refine lv_iload_n hx hb dX3_twin_60 rfl (lv_at hl 6 rfl) ?_
        refine lv_imul hx hb dX3_twin_61 ?_
        refine g_top (y := nI (64 * n)) (pk_mul 64 n) ?_
        refine lv_iload hx hb dX3_twin_62 (lv_at hl 0 rfl) ?_
        refine g_top (y := nI (63 - i)) (if_pos hi6) ?_
        refine lv_iadd hx hb dX3_twin_64 ?_
        refine g_top (y := nI (64 * n + (63 - i))) (nI_add _ _) ?_
        refine g_iald (i := (64 * n + (63 - i))) (t0 := 0) hx hb hG rf_2 rfl ((by omega)) (by decide) dX3_twin_65 ?_
        refine lv_aload_n hx hb dX3_twin_66 rfl (lv_at hl 3 rfl) ?_
        refine g_get (k := 1) (v := .ref (bd 2)) (C := RX3) (ref := RX3) (fs := [.ref (bd 1), .ref (bd 2), .ref (bd 3), .ref (bd 4), .ref (bd 5), .ref (bd 6), .int fc, .int cc]) hx hb hown hts hG gX3 rfl rf_0 (by decide) t_239 rfl rfl dX3_twin_67 ?_
        refine lv_bipush (v := nI 64) hx hb dX3_twin_70 (by decide) ?_
        refine lv_iload_n hx hb dX3_twin_72 rfl (lv_at hl 4 rfl) ?_
        refine lv_imul hx hb dX3_twin_73 ?_
        refine g_top (y := nI (64 * j)) (pk_mul 64 j) ?_
        refine lv_iload_n hx hb dX3_twin_74 rfl (lv_at hl 5 rfl) ?_
        refine lv_iadd hx hb dX3_twin_75 ?_
        refine g_top (y := nI (64 * j + k)) (nI_add _ _) ?_
        refine g_iald (i := (64 * j + k)) (t0 := 0) hx hb hG rf_2 rfl ((by omega)) (by decide) dX3_twin_76 ?_
        refine lv_icmp_ne (tgt := 85) hx hb dX3_twin_77 rfl (fun hh => absurd (by rw [hc]) hh) (fun _ => ?_)
        refine lv_iload hx hb dX3_twin_80 (lv_at hl 0 rfl) ?_
        refine g_top (y := nI (63 - i)) (if_pos hi6) ?_
        refine lv_goto (tgt := 87) hx hb dX3_twin_82 rfl ?_
        refine lv_istore (lv' := [(6, .int (nI (63 - i))), (7, .int (qI i)), (5, .int 0), (0, .ref (bd 0)), (1, .int (nI j)), (2, .int (nI k)), (3, .int (nI n)), (4, .int v)]) hx hb dX3_twin_87 hl (by decide) rfl (fun ls hl => ?_)
        refine lv_iinc (k := 1) (v := qI (i + 1)) (lv' := [(7, .int (qI (i + 1))), (6, .int (nI (63 - i))), (5, .int 0), (0, .ref (bd 0)), (1, .int (nI j)), (2, .int (nI k)), (3, .int (nI n)), (4, .int v)]) hx hb dX3_twin_89 hl rfl (hq1) (by decide) rfl (fun ls hl => ?_)
        refine lv_goto (tgt := 42) hx hb dX3_twin_92 rfl ?_
        exact ih (i + 1) _ _ _ (by omega) hG (by rw [hu]; exact lv_sub hl [0, 1, 2, 3, 4, 5, 6, 7] rfl)
      · have hu : loN (twM fm n (fm (64 * j + k))) (i + 1) = loN (twM fm n (fm (64 * j + k))) i := by simp [loN, twM, hc]
        refine lv_iload hx hb dX3_twin_42 (lv_at hl 0 rfl) ?_
        refine g_top (y := nI (63 - i)) (if_pos hi6) ?_
        refine lv_if_lt (tgt := 95) hx hb dX3_twin_44 rfl (fun hh => absurd hh (nI_pos (by omega))) (fun _ => ?_)
        refine lv_iload hx hb dX3_twin_47 (lv_at hl 0 rfl) ?_
        refine g_top (y := nI (63 - i)) (if_pos hi6) ?_
        refine lv_iload hx hb dX3_twin_49 (lv_at hl 7 rfl) ?_
        refine lv_icmp_le (tgt := 95) hx hb dX3_twin_51 rfl (fun hh => absurd hh (Int32.not_le.mpr (hv i (by omega)))) (fun _ => ?_)
        refine lv_aload_n hx hb dX3_twin_54 rfl (lv_at hl 3 rfl) ?_
        refine g_get (k := 1) (v := .ref (bd 2)) (C := RX3) (ref := RX3) (fs := [.ref (bd 1), .ref (bd 2), .ref (bd 3), .ref (bd 4), .ref (bd 5), .ref (bd 6), .int fc, .int cc]) hx hb hown hts hG gX3 rfl rf_0 (by decide) t_239 rfl rfl dX3_twin_55 ?_
        refine lv_bipush (v := nI 64) hx hb dX3_twin_58 (by decide) ?_
        refine lv_iload_n hx hb dX3_twin_60 rfl (lv_at hl 6 rfl) ?_
        refine lv_imul hx hb dX3_twin_61 ?_
        refine g_top (y := nI (64 * n)) (pk_mul 64 n) ?_
        refine lv_iload hx hb dX3_twin_62 (lv_at hl 0 rfl) ?_
        refine g_top (y := nI (63 - i)) (if_pos hi6) ?_
        refine lv_iadd hx hb dX3_twin_64 ?_
        refine g_top (y := nI (64 * n + (63 - i))) (nI_add _ _) ?_
        refine g_iald (i := (64 * n + (63 - i))) (t0 := 0) hx hb hG rf_2 rfl ((by omega)) (by decide) dX3_twin_65 ?_
        refine lv_aload_n hx hb dX3_twin_66 rfl (lv_at hl 3 rfl) ?_
        refine g_get (k := 1) (v := .ref (bd 2)) (C := RX3) (ref := RX3) (fs := [.ref (bd 1), .ref (bd 2), .ref (bd 3), .ref (bd 4), .ref (bd 5), .ref (bd 6), .int fc, .int cc]) hx hb hown hts hG gX3 rfl rf_0 (by decide) t_239 rfl rfl dX3_twin_67 ?_
        refine lv_bipush (v := nI 64) hx hb dX3_twin_70 (by decide) ?_
        refine lv_iload_n hx hb dX3_twin_72 rfl (lv_at hl 4 rfl) ?_
        refine lv_imul hx hb dX3_twin_73 ?_
        refine g_top (y := nI (64 * j)) (pk_mul 64 j) ?_
        refine lv_iload_n hx hb dX3_twin_74 rfl (lv_at hl 5 rfl) ?_
        refine lv_iadd hx hb dX3_twin_75 ?_
        refine g_top (y := nI (64 * j + k)) (nI_add _ _) ?_
        refine g_iald (i := (64 * j + k)) (t0 := 0) hx hb hG rf_2 rfl ((by omega)) (by decide) dX3_twin_76 ?_
        refine lv_icmp_ne (tgt := 85) hx hb dX3_twin_77 rfl (fun _ => ?_) (fun hh => absurd hh (fun q => hc ((nI_eq (by omega) (by omega)).mp q)))
        refine lv_iload hx hb dX3_twin_85 (lv_at hl 1 rfl) ?_
        refine lv_istore (lv' := [(6, .int (nI (loN (twM fm n (fm (64 * j + k))) i))), (7, .int (qI i)), (5, .int 0), (0, .ref (bd 0)), (1, .int (nI j)), (2, .int (nI k)), (3, .int (nI n)), (4, .int v)]) hx hb dX3_twin_87 hl (by decide) rfl (fun ls hl => ?_)
        refine lv_iinc (k := 1) (v := qI (i + 1)) (lv' := [(7, .int (qI (i + 1))), (6, .int (nI (loN (twM fm n (fm (64 * j + k))) i))), (5, .int 0), (0, .ref (bd 0)), (1, .int (nI j)), (2, .int (nI k)), (3, .int (nI n)), (4, .int v)]) hx hb dX3_twin_89 hl rfl (hq1) (by decide) rfl (fun ls hl => ?_)
        refine lv_goto (tgt := 42) hx hb dX3_twin_92 rfl ?_
        exact ih (i + 1) _ _ _ (by omega) hG (by rw [hu]; exact lv_sub hl [0, 1, 2, 3, 4, 5, 6, 7] rfl)
  exact loop d 0 _ _ _ (by omega) hG (lv_sub hl [0, 1, 2, 3, 4, 5, 6, 7] rfl)
end CM
