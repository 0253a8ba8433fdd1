section CM
variable {l : Launch} {D : va_G} {A : Nat → Prop} {ad : Nat → Nat} {cI cQ cZ : ClassId} {run : Nat → Bool} {mp : Nat → Nat → Bool} {fr : Nat → Nat → Nat} {kd : Nat → Nat → Int32} {wd ct : Nat → Int32} {af cf : Int32}
set_option maxHeartbeats 4000000 in
set_option maxRecDepth 100000 in
theorem fp_write_no {x a z r : Int32} (hr0 : ¬ r = 0) (hM : gM l yX2_refusalOfAddress cX2_refusalOfAddress 3 (some .int) 2 43 D cls (fpT cI cQ cZ) A (fpW ad cI cQ run mp fr kd wd ct af cf) [.ref (ad 0), .int x, .int a] (some (.int r)) (fpW ad cI cQ run mp fr kd wd ct af cf)) : gM l yX2_write cX2_write 8 (some .int) 5 116 D cls (fpT cI cQ cZ) A (fpW ad cI cQ run mp fr kd wd ct af cf) [.ref (ad 0), .int x, .int a, .int z] (some (.int r)) (fpW ad cI cQ run mp fr kd wd ct af cf) := by
  refine gM_of (by decide) (Nat.le_of_ble_eq_true rfl) ?_
  intro p e s m args below meth c ls hx hb hml hown hts hN hr hlk hl hG
  have hown : s.vm.findClass RX2 = some m.cls := hown
  have hl : lv_has ls 8 [(0, .ref (ad 0)), (1, .int x), (2, .int a), (3, .int z)] := hl
  refine lv_aload_n hx hb dX2_write_0 rfl (lv_at hl 0 rfl) ?_
  refine lv_iload_n hx hb dX2_write_1 rfl (lv_at hl 1 rfl) ?_
  refine lv_iload_n hx hb dX2_write_2 rfl (lv_at hl 2 rfl) ?_
  refine g_callV (As := [.int x, .int a]) (rest := []) (fs := [.ref (ad 1), .ref (ad 2), .int af, .int cf]) (hM) hx hb hml hown hts hN hG t_177 t_179 s_17 t_1 t_180 nm_X2_refusalOfAddress ⟨by decide, by decide⟩ fp_0 rfl hl.1 (Nat.le_of_ble_eq_true rfl) dX2_write_3 ⟨Nat.zero_le _, Nat.zero_le _⟩ (fun H locs hG => ?_)
  refine W.eq (g2 := F0 m 6 ls [.int r]) rfl ?_
  refine lv_istore (lv' := [(4, .int r), (0, .ref (ad 0)), (1, .int x), (2, .int a), (3, .int z)]) hx hb dX2_write_6 hl (by decide) rfl (fun ls hl => ?_)
  refine lv_iload hx hb dX2_write_8 (lv_at hl 0 rfl) ?_
  refine lv_if_eq (tgt := 16) hx hb dX2_write_10 rfl (fun hh => absurd hh (hr0)) (fun _ => ?_)
  refine lv_iload hx hb dX2_write_13 (lv_at hl 0 rfl) ?_
  exact g_iret hx hb hr hlk hG dX2_write_15
set_option maxHeartbeats 4000000 in
set_option maxRecDepth 100000 in
theorem fp_read_no {x a r : Int32} (hr0 : ¬ r = 0) (hM : gM l yX2_refusalOfAddress cX2_refusalOfAddress 3 (some .int) 2 43 D cls (fpT cI cQ cZ) A (fpW ad cI cQ run mp fr kd wd ct af cf) [.ref (ad 0), .int x, .int a] (some (.int r)) (fpW ad cI cQ run mp fr kd wd ct af cf)) : gM l yX2_read cX2_read 4 (some .long) 3 65 D cls (fpT cI cQ cZ) A (fpW ad cI cQ run mp fr kd wd ct af cf) [.ref (ad 0), .int x, .int a] (some (.long 1099511627776)) (fpW ad cI cQ run mp fr kd wd ct af cf) := by
  refine gM_of (by decide) (Nat.le_of_ble_eq_true rfl) ?_
  intro p e s m args below meth c ls hx hb hml hown hts hN hr hlk hl hG
  have hown : s.vm.findClass RX2 = some m.cls := hown
  have hl : lv_has ls 4 [(0, .ref (ad 0)), (1, .int x), (2, .int a)] := hl
  refine lv_aload_n hx hb dX2_read_0 rfl (lv_at hl 0 rfl) ?_
  refine lv_iload_n hx hb dX2_read_1 rfl (lv_at hl 1 rfl) ?_
  refine lv_iload_n hx hb dX2_read_2 rfl (lv_at hl 2 rfl) ?_
  refine g_callV (As := [.int x, .int a]) (rest := []) (fs := [.ref (ad 1), .ref (ad 2), .int af, .int cf]) (hM) hx hb hml hown hts hN hG t_177 t_179 s_17 t_1 t_180 nm_X2_refusalOfAddress ⟨by decide, by decide⟩ fp_0 rfl hl.1 (Nat.le_of_ble_eq_true rfl) dX2_read_3 ⟨Nat.zero_le _, Nat.zero_le _⟩ (fun H locs hG => ?_)
  refine W.eq (g2 := F0 m 6 ls [.int r]) rfl ?_
  refine lv_if_eq (tgt := 13) hx hb dX2_read_6 rfl (fun hh => absurd hh (hr0)) (fun _ => ?_)
  refine lv_ldc2 (v := 1099511627776) hx hb hown (hts _ t_193) dX2_read_9 ?_
  exact g_lret hx hb hr hlk hG dX2_read_12
set_option maxHeartbeats 4000000 in
set_option maxRecDepth 100000 in
theorem fp_read_ok {j q : Nat} (hj : j < 5) (hq : q < 256) (h : run j = true) (h2 : mp j (q / 4) = true) (hf : fr j (q / 4) < 24) : gM l yX2_read cX2_read 4 (some .long) 3 65 D cls (fpT cI cQ cZ) A (fpW ad cI cQ run mp fr kd wd ct af cf) [.ref (ad 0), .int (nI j), .int (nI q)] (some (.long ((wd (fr j (q / 4) * 4 + q % 4)).toInt64))) (fpW ad cI cQ run mp fr kd wd ct af cf) := by
  refine gM_of (by decide) (Nat.le_of_ble_eq_true rfl) ?_
  intro p e s m args below meth c ls hx hb hml hown hts hN hr hlk hl hG
  have hown : s.vm.findClass RX2 = some m.cls := hown
  have hl : lv_has ls 4 [(0, .ref (ad 0)), (1, .int (nI j)), (2, .int (nI q))] := hl
  refine lv_aload_n hx hb dX2_read_0 rfl (lv_at hl 0 rfl) ?_
  refine lv_iload_n hx hb dX2_read_1 rfl (lv_at hl 1 rfl) ?_
  refine lv_iload_n hx hb dX2_read_2 rfl (lv_at hl 2 rfl) ?_
  refine g_callV (As := [.int (nI j), .int (nI q)]) (rest := []) (fs := [.ref (ad 1), .ref (ad 2), .int af, .int cf]) (fm_rA_pos (nI_pos (Nat.lt_trans hq (by decide))) (by rw [pk_div (d := 4) (Nat.lt_trans hq (by decide)) (by decide) (by decide)]; exact fm_rM_0 hj h (by omega) h2)) hx hb hml hown hts hN hG t_177 t_179 s_17 t_1 t_180 nm_X2_refusalOfAddress ⟨by decide, by decide⟩ fp_0 rfl hl.1 (Nat.le_of_ble_eq_true rfl) dX2_read_3 ⟨Nat.zero_le _, Nat.zero_le _⟩ (fun H locs hG => ?_)
  refine W.eq (g2 := F0 m 6 ls [.int 0]) rfl ?_
  refine lv_if_eq (tgt := 13) hx hb dX2_read_6 rfl (fun _ => ?_) (fun hh => absurd (rfl) hh)
  refine lv_aload_n hx hb dX2_read_13 rfl (lv_at hl 0 rfl) ?_
  refine g_get (k := 0) (v := .ref (ad 1)) (C := RX2) (ref := RX2) (fs := [.ref (ad 1), .ref (ad 2), .int af, .int cf]) hx hb hown hts hG gX2 rfl fp_0 (by decide) t_53 rfl rfl dX2_read_14 ?_
  refine lv_iload_n hx hb dX2_read_17 rfl (lv_at hl 1 rfl) ?_
  refine g_aald (i := j) (t0 := 1) hx hb hG fp_1 rfl (hj) (by decide) rfl dX2_read_18 ?_
  refine g_getN (k := 2) (v := .ref (ad (6 + 3 * j))) (C := RX0) (ref := RX0) (fs := [.int (bI (run j)), .long (en (mp j)), .ref (ad (6 + 3 * j)), .ref (ad (7 + 3 * j))]) hx hb hown hts hN hG gX0 rfl (fp_5 (hj)) (by decide) t_25 rfl rfl dX2_read_19 ?_
  refine lv_iload_n hx hb dX2_read_22 rfl (lv_at hl 2 rfl) ?_
  refine lv_iconst (v := nI 4) hx hb dX2_read_23 (by decide) ?_
  refine lv_idiv hx hb dX2_read_24 (by decide) ?_
  refine g_top (y := nI (q / 4)) (pk_div (d := 4) (Nat.lt_trans hq (by decide)) (by decide) (by decide)) ?_
  refine g_iald (i := (q / 4)) (t0 := 0) hx hb hG (fp_6 (hj)) rfl ((by omega)) (by decide) dX2_read_25 ?_
  refine lv_istore_n (lv' := [(3, .int (nI (fr j (q / 4)))), (0, .ref (ad 0)), (1, .int (nI j)), (2, .int (nI q))]) hx hb dX2_read_26 rfl hl (by decide) rfl (fun ls hl => ?_)
  refine lv_aload_n hx hb dX2_read_27 rfl (lv_at hl 1 rfl) ?_
  refine g_get (k := 1) (v := .ref (ad 2)) (C := RX2) (ref := RX2) (fs := [.ref (ad 1), .ref (ad 2), .int af, .int cf]) hx hb hown hts hG gX2 rfl fp_0 (by decide) t_54 rfl rfl dX2_read_28 ?_
  refine g_getN (k := 0) (v := .ref (ad 3)) (C := RX1) (ref := RX1) (fs := [.ref (ad 3), .ref (ad 4)]) hx hb hown hts hN hG gX1 rfl fp_2 (by decide) t_45 rfl rfl dX2_read_31 ?_
  refine lv_iload_n hx hb dX2_read_34 rfl (lv_at hl 0 rfl) ?_
  refine lv_iconst (v := nI 4) hx hb dX2_read_35 (by decide) ?_
  refine lv_imul hx hb dX2_read_36 ?_
  refine g_top (y := nI (fr j (q / 4) * 4)) (pk_mul _ 4) ?_
  refine lv_iload_n hx hb dX2_read_37 rfl (lv_at hl 3 rfl) ?_
  refine lv_iconst (v := nI 4) hx hb dX2_read_38 (by decide) ?_
  refine lv_irem hx hb dX2_read_39 (by decide) ?_
  refine g_top (y := nI (q % 4)) (pk_rem (d := 4) (Nat.lt_trans hq (by decide)) (by decide) (by decide)) ?_
  refine lv_iadd hx hb dX2_read_40 ?_
  refine g_top (y := nI (fr j (q / 4) * 4 + q % 4)) (nI_add _ _) ?_
  refine g_iald (i := (fr j (q / 4) * 4 + q % 4)) (t0 := 0) hx hb hG fp_3 rfl ((by omega)) (by decide) dX2_read_41 ?_
  refine lv_i2l (v := (wd (fr j (q / 4) * 4 + q % 4)).toInt64) hx hb dX2_read_42 rfl ?_
  exact g_lret hx hb hr hlk hG dX2_read_43
set_option maxHeartbeats 4000000 in
set_option maxRecDepth 100000 in
theorem fp_write_5 {j q : Nat} (hj : j < 5) (hq : q < 256) (h : run j = true) (h2 : mp j (q / 4) = true) {z : Int32} (h3 : kd j (q / 4) &&& 1 = 0) : gM l yX2_write cX2_write 8 (some .int) 5 116 D cls (fpT cI cQ cZ) A (fpW ad cI cQ run mp fr kd wd ct af cf) [.ref (ad 0), .int (nI j), .int (nI q), .int z] (some (.int (-5))) (fpW ad cI cQ run mp fr kd wd ct af cf) := by
  refine gM_of (by decide) (Nat.le_of_ble_eq_true rfl) ?_
  intro p e s m args below meth c ls hx hb hml hown hts hN hr hlk hl hG
  have hown : s.vm.findClass RX2 = some m.cls := hown
  have hl : lv_has ls 8 [(0, .ref (ad 0)), (1, .int (nI j)), (2, .int (nI q)), (3, .int z)] := hl
  refine lv_aload_n hx hb dX2_write_0 rfl (lv_at hl 0 rfl) ?_
  refine lv_iload_n hx hb dX2_write_1 rfl (lv_at hl 1 rfl) ?_
  refine lv_iload_n hx hb dX2_write_2 rfl (lv_at hl 2 rfl) ?_
  refine g_callV (As := [.int (nI j), .int (nI q)]) (rest := []) (fs := [.ref (ad 1), .ref (ad 2), .int af, .int cf]) (fm_rA_pos (nI_pos (Nat.lt_trans hq (by decide))) (by rw [pk_div (d := 4) (Nat.lt_trans hq (by decide)) (by decide) (by decide)]; exact fm_rM_0 hj h (by omega) h2)) hx hb hml hown hts hN hG t_177 t_179 s_17 t_1 t_180 nm_X2_refusalOfAddress ⟨by decide, by decide⟩ fp_0 rfl hl.1 (Nat.le_of_ble_eq_true rfl) dX2_write_3 ⟨Nat.zero_le _, Nat.zero_le _⟩ (fun H locs hG => ?_)
  refine W.eq (g2 := F0 m 6 ls [.int 0]) rfl ?_
  refine lv_istore (lv' := [(4, .int 0), (0, .ref (ad 0)), (1, .int (nI j)), (2, .int (nI q)), (3, .int z)]) hx hb dX2_write_6 hl (by decide) rfl (fun ls hl => ?_)
  refine lv_iload hx hb dX2_write_8 (lv_at hl 0 rfl) ?_
  refine lv_if_eq (tgt := 16) hx hb dX2_write_10 rfl (fun _ => ?_) (fun hh => absurd (rfl) hh)
  refine lv_aload_n hx hb dX2_write_16 rfl (lv_at hl 1 rfl) ?_
  refine g_get (k := 0) (v := .ref (ad 1)) (C := RX2) (ref := RX2) (fs := [.ref (ad 1), .ref (ad 2), .int af, .int cf]) hx hb hown hts hG gX2 rfl fp_0 (by decide) t_53 rfl rfl dX2_write_17 ?_
  refine lv_iload_n hx hb dX2_write_20 rfl (lv_at hl 2 rfl) ?_
  refine g_aald (i := j) (t0 := 1) hx hb hG fp_1 rfl (hj) (by decide) rfl dX2_write_21 ?_
  refine lv_astore (lv' := [(5, .ref (ad (5 + 3 * j))), (4, .int 0), (0, .ref (ad 0)), (1, .int (nI j)), (2, .int (nI q)), (3, .int z)]) hx hb dX2_write_22 hl (by decide) rfl (fun ls hl => ?_)
  refine lv_iload_n hx hb dX2_write_24 rfl (lv_at hl 4 rfl) ?_
  refine lv_iconst (v := nI 4) hx hb dX2_write_25 (by decide) ?_
  refine lv_idiv hx hb dX2_write_26 (by decide) ?_
  refine g_top (y := nI (q / 4)) (pk_div (d := 4) (Nat.lt_trans hq (by decide)) (by decide) (by decide)) ?_
  refine lv_istore (lv' := [(6, .int (nI (q / 4))), (5, .ref (ad (5 + 3 * j))), (4, .int 0), (0, .ref (ad 0)), (1, .int (nI j)), (2, .int (nI q)), (3, .int z)]) hx hb dX2_write_27 hl (by decide) rfl (fun ls hl => ?_)
  refine lv_aload hx hb dX2_write_29 (lv_at hl 1 rfl) ?_
  refine lv_iconst (v := 1) hx hb dX2_write_31 (by decide) ?_
  refine lv_iload hx hb dX2_write_32 (lv_at hl 0 rfl) ?_
  refine g_callVN (As := [.int 1, .int (nI (q / 4))]) (rest := []) (fs := [.int (bI (run j)), .long (en (mp j)), .ref (ad (6 + 3 * j)), .ref (ad (7 + 3 * j))]) (fm_is_f hj (by omega) h3) hx hb hml hown hts hN hG t_109 t_111 s_7 t_2 t_112 nm_X0_is ⟨by decide, by decide⟩ (fp_5 (hj)) rfl hl.1 (Nat.le_of_ble_eq_true rfl) dX2_write_34 ⟨Nat.zero_le _, Nat.zero_le _⟩ (fun H locs hG => ?_)
  refine W.eq (g2 := F0 m 37 ls [.int 0]) rfl ?_
  refine lv_if_ne (tgt := 43) hx hb dX2_write_37 rfl (fun hh => absurd (rfl) hh) (fun _ => ?_)
  refine lv_bipush (v := (-5)) hx hb dX2_write_40 (by decide) ?_
  exact g_iret hx hb hr hlk hG dX2_write_42
set_option maxHeartbeats 4000000 in
set_option maxRecDepth 100000 in
theorem fp_write_0 {j q : Nat} (hj : j < 5) (hq : q < 256) (h : run j = true) (h2 : mp j (q / 4) = true) {z : Int32} (h3 : ¬ kd j (q / 4) &&& 1 = 0) (h4 : kd j (q / 4) &&& 4 = 0) (hf : fr j (q / 4) < 24) : gM l yX2_write cX2_write 8 (some .int) 5 116 D cls (fpT cI cQ cZ) A (fpW ad cI cQ run mp fr kd wd ct af cf) [.ref (ad 0), .int (nI j), .int (nI q), .int z] (some (.int 0)) (fpW ad cI cQ run mp fr kd (upd wd (fr j (q / 4) * 4 + q % 4) z) ct af cf) := by
  refine gM_of (by decide) (Nat.le_of_ble_eq_true rfl) ?_
  intro p e s m args below meth c ls hx hb hml hown hts hN hr hlk hl hG
  have hown : s.vm.findClass RX2 = some m.cls := hown
  have hl : lv_has ls 8 [(0, .ref (ad 0)), (1, .int (nI j)), (2, .int (nI q)), (3, .int z)] := hl
  refine lv_aload_n hx hb dX2_write_0 rfl (lv_at hl 0 rfl) ?_
  refine lv_iload_n hx hb dX2_write_1 rfl (lv_at hl 1 rfl) ?_
  refine lv_iload_n hx hb dX2_write_2 rfl (lv_at hl 2 rfl) ?_
  refine g_callV (As := [.int (nI j), .int (nI q)]) (rest := []) (fs := [.ref (ad 1), .ref (ad 2), .int af, .int cf]) (fm_rA_pos (nI_pos (Nat.lt_trans hq (by decide))) (by rw [pk_div (d := 4) (Nat.lt_trans hq (by decide)) (by decide) (by decide)]; exact fm_rM_0 hj h (by omega) h2)) hx hb hml hown hts hN hG t_177 t_179 s_17 t_1 t_180 nm_X2_refusalOfAddress ⟨by decide, by decide⟩ fp_0 rfl hl.1 (Nat.le_of_ble_eq_true rfl) dX2_write_3 ⟨Nat.zero_le _, Nat.zero_le _⟩ (fun H locs hG => ?_)
  refine W.eq (g2 := F0 m 6 ls [.int 0]) rfl ?_
  refine lv_istore (lv' := [(4, .int 0), (0, .ref (ad 0)), (1, .int (nI j)), (2, .int (nI q)), (3, .int z)]) hx hb dX2_write_6 hl (by decide) rfl (fun ls hl => ?_)
  refine lv_iload hx hb dX2_write_8 (lv_at hl 0 rfl) ?_
  refine lv_if_eq (tgt := 16) hx hb dX2_write_10 rfl (fun _ => ?_) (fun hh => absurd (rfl) hh)
  refine lv_aload_n hx hb dX2_write_16 rfl (lv_at hl 1 rfl) ?_
  refine g_get (k := 0) (v := .ref (ad 1)) (C := RX2) (ref := RX2) (fs := [.ref (ad 1), .ref (ad 2), .int af, .int cf]) hx hb hown hts hG gX2 rfl fp_0 (by decide) t_53 rfl rfl dX2_write_17 ?_
  refine lv_iload_n hx hb dX2_write_20 rfl (lv_at hl 2 rfl) ?_
  refine g_aald (i := j) (t0 := 1) hx hb hG fp_1 rfl (hj) (by decide) rfl dX2_write_21 ?_
  refine lv_astore (lv' := [(5, .ref (ad (5 + 3 * j))), (4, .int 0), (0, .ref (ad 0)), (1, .int (nI j)), (2, .int (nI q)), (3, .int z)]) hx hb dX2_write_22 hl (by decide) rfl (fun ls hl => ?_)
  refine lv_iload_n hx hb dX2_write_24 rfl (lv_at hl 4 rfl) ?_
  refine lv_iconst (v := nI 4) hx hb dX2_write_25 (by decide) ?_
  refine lv_idiv hx hb dX2_write_26 (by decide) ?_
  refine g_top (y := nI (q / 4)) (pk_div (d := 4) (Nat.lt_trans hq (by decide)) (by decide) (by decide)) ?_
  refine lv_istore (lv' := [(6, .int (nI (q / 4))), (5, .ref (ad (5 + 3 * j))), (4, .int 0), (0, .ref (ad 0)), (1, .int (nI j)), (2, .int (nI q)), (3, .int z)]) hx hb dX2_write_27 hl (by decide) rfl (fun ls hl => ?_)
  refine lv_aload hx hb dX2_write_29 (lv_at hl 1 rfl) ?_
  refine lv_iconst (v := 1) hx hb dX2_write_31 (by decide) ?_
  refine lv_iload hx hb dX2_write_32 (lv_at hl 0 rfl) ?_
  refine g_callVN (As := [.int 1, .int (nI (q / 4))]) (rest := []) (fs := [.int (bI (run j)), .long (en (mp j)), .ref (ad (6 + 3 * j)), .ref (ad (7 + 3 * j))]) (fm_is_t hj (by omega) h3) hx hb hml hown hts hN hG t_109 t_111 s_7 t_2 t_112 nm_X0_is ⟨by decide, by decide⟩ (fp_5 (hj)) rfl hl.1 (Nat.le_of_ble_eq_true rfl) dX2_write_34 ⟨Nat.zero_le _, Nat.zero_le _⟩ (fun H locs hG => ?_)
  refine W.eq (g2 := F0 m 37 ls [.int 1]) rfl ?_
  refine lv_if_ne (tgt := 43) hx hb dX2_write_37 rfl (fun _ => ?_) (fun hh => absurd hh (by decide))
  refine lv_iconst (v := 0) hx hb dX2_write_43 (by decide) ?_
  refine lv_istore (lv' := [(7, .int 0), (6, .int (nI (q / 4))), (5, .ref (ad (5 + 3 * j))), (4, .int 0), (0, .ref (ad 0)), (1, .int (nI j)), (2, .int (nI q)), (3, .int z)]) hx hb dX2_write_44 hl (by decide) rfl (fun ls hl => ?_)
  refine lv_aload hx hb dX2_write_46 (lv_at hl 2 rfl) ?_
  refine lv_iconst (v := 4) hx hb dX2_write_48 (by decide) ?_
  refine lv_iload hx hb dX2_write_49 (lv_at hl 1 rfl) ?_
  refine g_callVN (As := [.int 4, .int (nI (q / 4))]) (rest := []) (fs := [.int (bI (run j)), .long (en (mp j)), .ref (ad (6 + 3 * j)), .ref (ad (7 + 3 * j))]) (fm_is_f hj (by omega) h4) hx hb hml hown hts hN hG t_109 t_111 s_7 t_2 t_112 nm_X0_is ⟨by decide, by decide⟩ (fp_5 (hj)) rfl hl.1 (Nat.le_of_ble_eq_true rfl) dX2_write_51 ⟨Nat.zero_le _, Nat.zero_le _⟩ (fun H locs hG => ?_)
  refine W.eq (g2 := F0 m 54 ls [.int 0]) rfl ?_
  refine lv_if_eq (tgt := 75) hx hb dX2_write_54 rfl (fun _ => ?_) (fun hh => absurd (rfl) hh)
  refine lv_aload_n hx hb dX2_write_75 rfl (lv_at hl 4 rfl) ?_
  refine g_get (k := 1) (v := .ref (ad 2)) (C := RX2) (ref := RX2) (fs := [.ref (ad 1), .ref (ad 2), .int af, .int cf]) hx hb hown hts hG gX2 rfl fp_0 (by decide) t_54 rfl rfl dX2_write_76 ?_
  refine g_getN (k := 0) (v := .ref (ad 3)) (C := RX1) (ref := RX1) (fs := [.ref (ad 3), .ref (ad 4)]) hx hb hown hts hN hG gX1 rfl fp_2 (by decide) t_45 rfl rfl dX2_write_79 ?_
  refine lv_aload hx hb dX2_write_82 (lv_at hl 2 rfl) ?_
  refine g_getN (k := 2) (v := .ref (ad (6 + 3 * j))) (C := RX0) (ref := RX0) (fs := [.int (bI (run j)), .long (en (mp j)), .ref (ad (6 + 3 * j)), .ref (ad (7 + 3 * j))]) hx hb hown hts hN hG gX0 rfl (fp_5 (hj)) (by decide) t_25 rfl rfl dX2_write_84 ?_
  refine lv_iload hx hb dX2_write_87 (lv_at hl 1 rfl) ?_
  refine g_iald (i := (q / 4)) (t0 := 0) hx hb hG (fp_6 (hj)) rfl ((by omega)) (by decide) dX2_write_89 ?_
  refine lv_iconst (v := nI 4) hx hb dX2_write_90 (by decide) ?_
  refine lv_imul hx hb dX2_write_91 ?_
  refine g_top (y := nI (fr j (q / 4) * 4)) (pk_mul _ 4) ?_
  refine lv_iload_n hx hb dX2_write_92 rfl (lv_at hl 6 rfl) ?_
  refine lv_iconst (v := nI 4) hx hb dX2_write_93 (by decide) ?_
  refine lv_irem hx hb dX2_write_94 (by decide) ?_
  refine g_top (y := nI (q % 4)) (pk_rem (d := 4) (Nat.lt_trans hq (by decide)) (by decide) (by decide)) ?_
  refine lv_iadd hx hb dX2_write_95 ?_
  refine g_top (y := nI (fr j (q / 4) * 4 + q % 4)) (nI_add _ _) ?_
  refine lv_iload_n hx hb dX2_write_96 rfl (lv_at hl 7 rfl) ?_
  refine g_iast (i := (fr j (q / 4) * 4 + q % 4)) (x := z) (t0 := 0) (ws' := fpW ad cI cQ run mp fr kd (upd wd (fr j (q / 4) * 4 + q % 4) z) ct af cf) hx hb hG fp_3 rfl ((by omega)) (by decide) (fp_s3 _) dX2_write_97 (fun H locs hG => ?_)
  refine lv_iload hx hb dX2_write_98 (lv_at hl 0 rfl) ?_
  exact g_iret hx hb hr hlk hG dX2_write_100
set_option maxHeartbeats 4000000 in
set_option maxRecDepth 100000 in
theorem fp_write_8 {j q : Nat} (hj : j < 5) (hq : q < 256) (h : run j = true) (h2 : mp j (q / 4) = true) {z : Int32} (h3 : ¬ kd j (q / 4) &&& 1 = 0) (h4 : ¬ kd j (q / 4) &&& 4 = 0) (hf : fr j (q / 4) < 24) (h5 : ¬ ct (fr j (q / 4)) ≤ 1) (h6 : ¬ 1 ≤ frF run mp ct) : gM l yX2_write cX2_write 8 (some .int) 5 116 D cls (fpT cI cQ cZ) A (fpW ad cI cQ run mp fr kd wd ct af cf) [.ref (ad 0), .int (nI j), .int (nI q), .int z] (some (.int (-8))) (fpW ad cI cQ run mp fr kd wd ct af cf) := by
  refine gM_of (by decide) (Nat.le_of_ble_eq_true rfl) ?_
  intro p e s m args below meth c ls hx hb hml hown hts hN hr hlk hl hG
  have hown : s.vm.findClass RX2 = some m.cls := hown
  have hl : lv_has ls 8 [(0, .ref (ad 0)), (1, .int (nI j)), (2, .int (nI q)), (3, .int z)] := hl
  refine lv_aload_n hx hb dX2_write_0 rfl (lv_at hl 0 rfl) ?_
  refine lv_iload_n hx hb dX2_write_1 rfl (lv_at hl 1 rfl) ?_
  refine lv_iload_n hx hb dX2_write_2 rfl (lv_at hl 2 rfl) ?_
  refine g_callV (As := [.int (nI j), .int (nI q)]) (rest := []) (fs := [.ref (ad 1), .ref (ad 2), .int af, .int cf]) (fm_rA_pos (nI_pos (Nat.lt_trans hq (by decide))) (by rw [pk_div (d := 4) (Nat.lt_trans hq (by decide)) (by decide) (by decide)]; exact fm_rM_0 hj h (by omega) h2)) hx hb hml hown hts hN hG t_177 t_179 s_17 t_1 t_180 nm_X2_refusalOfAddress ⟨by decide, by decide⟩ fp_0 rfl hl.1 (Nat.le_of_ble_eq_true rfl) dX2_write_3 ⟨Nat.zero_le _, Nat.zero_le _⟩ (fun H locs hG => ?_)
  refine W.eq (g2 := F0 m 6 ls [.int 0]) rfl ?_
  refine lv_istore (lv' := [(4, .int 0), (0, .ref (ad 0)), (1, .int (nI j)), (2, .int (nI q)), (3, .int z)]) hx hb dX2_write_6 hl (by decide) rfl (fun ls hl => ?_)
  refine lv_iload hx hb dX2_write_8 (lv_at hl 0 rfl) ?_
  refine lv_if_eq (tgt := 16) hx hb dX2_write_10 rfl (fun _ => ?_) (fun hh => absurd (rfl) hh)
  refine lv_aload_n hx hb dX2_write_16 rfl (lv_at hl 1 rfl) ?_
  refine g_get (k := 0) (v := .ref (ad 1)) (C := RX2) (ref := RX2) (fs := [.ref (ad 1), .ref (ad 2), .int af, .int cf]) hx hb hown hts hG gX2 rfl fp_0 (by decide) t_53 rfl rfl dX2_write_17 ?_
  refine lv_iload_n hx hb dX2_write_20 rfl (lv_at hl 2 rfl) ?_
  refine g_aald (i := j) (t0 := 1) hx hb hG fp_1 rfl (hj) (by decide) rfl dX2_write_21 ?_
  refine lv_astore (lv' := [(5, .ref (ad (5 + 3 * j))), (4, .int 0), (0, .ref (ad 0)), (1, .int (nI j)), (2, .int (nI q)), (3, .int z)]) hx hb dX2_write_22 hl (by decide) rfl (fun ls hl => ?_)
  refine lv_iload_n hx hb dX2_write_24 rfl (lv_at hl 4 rfl) ?_
  refine lv_iconst (v := nI 4) hx hb dX2_write_25 (by decide) ?_
  refine lv_idiv hx hb dX2_write_26 (by decide) ?_
  refine g_top (y := nI (q / 4)) (pk_div (d := 4) (Nat.lt_trans hq (by decide)) (by decide) (by decide)) ?_
  refine lv_istore (lv' := [(6, .int (nI (q / 4))), (5, .ref (ad (5 + 3 * j))), (4, .int 0), (0, .ref (ad 0)), (1, .int (nI j)), (2, .int (nI q)), (3, .int z)]) hx hb dX2_write_27 hl (by decide) rfl (fun ls hl => ?_)
  refine lv_aload hx hb dX2_write_29 (lv_at hl 1 rfl) ?_
  refine lv_iconst (v := 1) hx hb dX2_write_31 (by decide) ?_
  refine lv_iload hx hb dX2_write_32 (lv_at hl 0 rfl) ?_
  refine g_callVN (As := [.int 1, .int (nI (q / 4))]) (rest := []) (fs := [.int (bI (run j)), .long (en (mp j)), .ref (ad (6 + 3 * j)), .ref (ad (7 + 3 * j))]) (fm_is_t hj (by omega) h3) hx hb hml hown hts hN hG t_109 t_111 s_7 t_2 t_112 nm_X0_is ⟨by decide, by decide⟩ (fp_5 (hj)) rfl hl.1 (Nat.le_of_ble_eq_true rfl) dX2_write_34 ⟨Nat.zero_le _, Nat.zero_le _⟩ (fun H locs hG => ?_)
  refine W.eq (g2 := F0 m 37 ls [.int 1]) rfl ?_
  refine lv_if_ne (tgt := 43) hx hb dX2_write_37 rfl (fun _ => ?_) (fun hh => absurd hh (by decide))
  refine lv_iconst (v := 0) hx hb dX2_write_43 (by decide) ?_
  refine lv_istore (lv' := [(7, .int 0), (6, .int (nI (q / 4))), (5, .ref (ad (5 + 3 * j))), (4, .int 0), (0, .ref (ad 0)), (1, .int (nI j)), (2, .int (nI q)), (3, .int z)]) hx hb dX2_write_44 hl (by decide) rfl (fun ls hl => ?_)
  refine lv_aload hx hb dX2_write_46 (lv_at hl 2 rfl) ?_
  refine lv_iconst (v := 4) hx hb dX2_write_48 (by decide) ?_
  refine lv_iload hx hb dX2_write_49 (lv_at hl 1 rfl) ?_
  refine g_callVN (As := [.int 4, .int (nI (q / 4))]) (rest := []) (fs := [.int (bI (run j)), .long (en (mp j)), .ref (ad (6 + 3 * j)), .ref (ad (7 + 3 * j))]) (fm_is_t hj (by omega) h4) hx hb hml hown hts hN hG t_109 t_111 s_7 t_2 t_112 nm_X0_is ⟨by decide, by decide⟩ (fp_5 (hj)) rfl hl.1 (Nat.le_of_ble_eq_true rfl) dX2_write_51 ⟨Nat.zero_le _, Nat.zero_le _⟩ (fun H locs hG => ?_)
  refine W.eq (g2 := F0 m 54 ls [.int 1]) rfl ?_
  refine lv_if_eq (tgt := 75) hx hb dX2_write_54 rfl (fun hh => absurd hh (by decide)) (fun _ => ?_)
  refine lv_aload_n hx hb dX2_write_57 rfl (lv_at hl 4 rfl) ?_
  refine lv_aload hx hb dX2_write_58 (lv_at hl 2 rfl) ?_
  refine lv_iload hx hb dX2_write_60 (lv_at hl 1 rfl) ?_
  refine g_callV (As := [.ref (ad (5 + 3 * j)), .int (nI (q / 4))]) (rest := []) (fs := [.ref (ad 1), .ref (ad 2), .int af, .int cf]) (fm_rF_room hj (by omega) hf h5 h6) hx hb hml hown hts hN hG t_181 t_183 s_18 t_1 t_184 nm_X2_resolveFault ⟨by decide, by decide⟩ fp_0 rfl hl.1 (Nat.le_of_ble_eq_true rfl) dX2_write_62 ⟨Nat.zero_le _, Nat.zero_le _⟩ (fun H locs hG => ?_)
  refine W.eq (g2 := F0 m 65 ls [.int (-8)]) rfl ?_
  refine lv_istore (lv' := [(7, .int (-8)), (6, .int (nI (q / 4))), (5, .ref (ad (5 + 3 * j))), (4, .int 0), (0, .ref (ad 0)), (1, .int (nI j)), (2, .int (nI q)), (3, .int z)]) hx hb dX2_write_65 hl (by decide) rfl (fun ls hl => ?_)
  refine lv_iload hx hb dX2_write_67 (lv_at hl 0 rfl) ?_
  refine lv_if_ge (tgt := 75) hx hb dX2_write_69 rfl (fun hh => absurd hh (by decide)) (fun _ => ?_)
  refine lv_iload hx hb dX2_write_72 (lv_at hl 0 rfl) ?_
  exact g_iret hx hb hr hlk hG dX2_write_74
set_option maxHeartbeats 4000000 in
set_option maxRecDepth 100000 in
theorem fp_write_1 {j q : Nat} (hj : j < 5) (hq : q < 256) (h : run j = true) (h2 : mp j (q / 4) = true) {z : Int32} (h3 : ¬ kd j (q / 4) &&& 1 = 0) (h4 : ¬ kd j (q / 4) &&& 4 = 0) (hf : fr j (q / 4) < 24) (h5 : ct (fr j (q / 4)) ≤ 1) : gM l yX2_write cX2_write 8 (some .int) 5 116 D cls (fpT cI cQ cZ) A (fpW ad cI cQ run mp fr kd wd ct af cf) [.ref (ad 0), .int (nI j), .int (nI q), .int z] (some (.int 1)) (fpW ad cI cQ run mp fr (up1 kd j (upd (kd j) (q / 4) (kd j (q / 4) ^^^ 4))) (upd wd (fr j (q / 4) * 4 + q % 4) z) ct (af + 1) cf) := by
  refine gM_of (by decide) (Nat.le_of_ble_eq_true rfl) ?_
  intro p e s m args below meth c ls hx hb hml hown hts hN hr hlk hl hG
  have hown : s.vm.findClass RX2 = some m.cls := hown
  have hl : lv_has ls 8 [(0, .ref (ad 0)), (1, .int (nI j)), (2, .int (nI q)), (3, .int z)] := hl
  refine lv_aload_n hx hb dX2_write_0 rfl (lv_at hl 0 rfl) ?_
  refine lv_iload_n hx hb dX2_write_1 rfl (lv_at hl 1 rfl) ?_
  refine lv_iload_n hx hb dX2_write_2 rfl (lv_at hl 2 rfl) ?_
  refine g_callV (As := [.int (nI j), .int (nI q)]) (rest := []) (fs := [.ref (ad 1), .ref (ad 2), .int af, .int cf]) (fm_rA_pos (nI_pos (Nat.lt_trans hq (by decide))) (by rw [pk_div (d := 4) (Nat.lt_trans hq (by decide)) (by decide) (by decide)]; exact fm_rM_0 hj h (by omega) h2)) hx hb hml hown hts hN hG t_177 t_179 s_17 t_1 t_180 nm_X2_refusalOfAddress ⟨by decide, by decide⟩ fp_0 rfl hl.1 (Nat.le_of_ble_eq_true rfl) dX2_write_3 ⟨Nat.zero_le _, Nat.zero_le _⟩ (fun H locs hG => ?_)
  refine W.eq (g2 := F0 m 6 ls [.int 0]) rfl ?_
  refine lv_istore (lv' := [(4, .int 0), (0, .ref (ad 0)), (1, .int (nI j)), (2, .int (nI q)), (3, .int z)]) hx hb dX2_write_6 hl (by decide) rfl (fun ls hl => ?_)
  refine lv_iload hx hb dX2_write_8 (lv_at hl 0 rfl) ?_
  refine lv_if_eq (tgt := 16) hx hb dX2_write_10 rfl (fun _ => ?_) (fun hh => absurd (rfl) hh)
  refine lv_aload_n hx hb dX2_write_16 rfl (lv_at hl 1 rfl) ?_
  refine g_get (k := 0) (v := .ref (ad 1)) (C := RX2) (ref := RX2) (fs := [.ref (ad 1), .ref (ad 2), .int af, .int cf]) hx hb hown hts hG gX2 rfl fp_0 (by decide) t_53 rfl rfl dX2_write_17 ?_
  refine lv_iload_n hx hb dX2_write_20 rfl (lv_at hl 2 rfl) ?_
  refine g_aald (i := j) (t0 := 1) hx hb hG fp_1 rfl (hj) (by decide) rfl dX2_write_21 ?_
  refine lv_astore (lv' := [(5, .ref (ad (5 + 3 * j))), (4, .int 0), (0, .ref (ad 0)), (1, .int (nI j)), (2, .int (nI q)), (3, .int z)]) hx hb dX2_write_22 hl (by decide) rfl (fun ls hl => ?_)
  refine lv_iload_n hx hb dX2_write_24 rfl (lv_at hl 4 rfl) ?_
  refine lv_iconst (v := nI 4) hx hb dX2_write_25 (by decide) ?_
  refine lv_idiv hx hb dX2_write_26 (by decide) ?_
  refine g_top (y := nI (q / 4)) (pk_div (d := 4) (Nat.lt_trans hq (by decide)) (by decide) (by decide)) ?_
  refine lv_istore (lv' := [(6, .int (nI (q / 4))), (5, .ref (ad (5 + 3 * j))), (4, .int 0), (0, .ref (ad 0)), (1, .int (nI j)), (2, .int (nI q)), (3, .int z)]) hx hb dX2_write_27 hl (by decide) rfl (fun ls hl => ?_)
  refine lv_aload hx hb dX2_write_29 (lv_at hl 1 rfl) ?_
  refine lv_iconst (v := 1) hx hb dX2_write_31 (by decide) ?_
  refine lv_iload hx hb dX2_write_32 (lv_at hl 0 rfl) ?_
  refine g_callVN (As := [.int 1, .int (nI (q / 4))]) (rest := []) (fs := [.int (bI (run j)), .long (en (mp j)), .ref (ad (6 + 3 * j)), .ref (ad (7 + 3 * j))]) (fm_is_t hj (by omega) h3) hx hb hml hown hts hN hG t_109 t_111 s_7 t_2 t_112 nm_X0_is ⟨by decide, by decide⟩ (fp_5 (hj)) rfl hl.1 (Nat.le_of_ble_eq_true rfl) dX2_write_34 ⟨Nat.zero_le _, Nat.zero_le _⟩ (fun H locs hG => ?_)
  refine W.eq (g2 := F0 m 37 ls [.int 1]) rfl ?_
  refine lv_if_ne (tgt := 43) hx hb dX2_write_37 rfl (fun _ => ?_) (fun hh => absurd hh (by decide))
  refine lv_iconst (v := 0) hx hb dX2_write_43 (by decide) ?_
  refine lv_istore (lv' := [(7, .int 0), (6, .int (nI (q / 4))), (5, .ref (ad (5 + 3 * j))), (4, .int 0), (0, .ref (ad 0)), (1, .int (nI j)), (2, .int (nI q)), (3, .int z)]) hx hb dX2_write_44 hl (by decide) rfl (fun ls hl => ?_)
  refine lv_aload hx hb dX2_write_46 (lv_at hl 2 rfl) ?_
  refine lv_iconst (v := 4) hx hb dX2_write_48 (by decide) ?_
  refine lv_iload hx hb dX2_write_49 (lv_at hl 1 rfl) ?_
  refine g_callVN (As := [.int 4, .int (nI (q / 4))]) (rest := []) (fs := [.int (bI (run j)), .long (en (mp j)), .ref (ad (6 + 3 * j)), .ref (ad (7 + 3 * j))]) (fm_is_t hj (by omega) h4) hx hb hml hown hts hN hG t_109 t_111 s_7 t_2 t_112 nm_X0_is ⟨by decide, by decide⟩ (fp_5 (hj)) rfl hl.1 (Nat.le_of_ble_eq_true rfl) dX2_write_51 ⟨Nat.zero_le _, Nat.zero_le _⟩ (fun H locs hG => ?_)
  refine W.eq (g2 := F0 m 54 ls [.int 1]) rfl ?_
  refine lv_if_eq (tgt := 75) hx hb dX2_write_54 rfl (fun hh => absurd hh (by decide)) (fun _ => ?_)
  refine lv_aload_n hx hb dX2_write_57 rfl (lv_at hl 4 rfl) ?_
  refine lv_aload hx hb dX2_write_58 (lv_at hl 2 rfl) ?_
  refine lv_iload hx hb dX2_write_60 (lv_at hl 1 rfl) ?_
  refine g_callV (As := [.ref (ad (5 + 3 * j)), .int (nI (q / 4))]) (rest := []) (fs := [.ref (ad 1), .ref (ad 2), .int af, .int cf]) (fm_rF_one hj (by omega) hf h5) hx hb hml hown hts hN hG t_181 t_183 s_18 t_1 t_184 nm_X2_resolveFault ⟨by decide, by decide⟩ fp_0 rfl hl.1 (Nat.le_of_ble_eq_true rfl) dX2_write_62 ⟨Nat.zero_le _, Nat.zero_le _⟩ (fun H locs hG => ?_)
  refine W.eq (g2 := F0 m 65 ls [.int 1]) rfl ?_
  refine lv_istore (lv' := [(7, .int 1), (6, .int (nI (q / 4))), (5, .ref (ad (5 + 3 * j))), (4, .int 0), (0, .ref (ad 0)), (1, .int (nI j)), (2, .int (nI q)), (3, .int z)]) hx hb dX2_write_65 hl (by decide) rfl (fun ls hl => ?_)
  refine lv_iload hx hb dX2_write_67 (lv_at hl 0 rfl) ?_
  refine lv_if_ge (tgt := 75) hx hb dX2_write_69 rfl (fun _ => ?_) (fun hh => absurd (by decide) hh)
  refine lv_aload_n hx hb dX2_write_75 rfl (lv_at hl 4 rfl) ?_
  refine g_get (k := 1) (v := .ref (ad 2)) (C := RX2) (ref := RX2) (fs := [.ref (ad 1), .ref (ad 2), .int (af + 1), .int cf]) hx hb hown hts hG gX2 rfl fp_0 (by decide) t_54 rfl rfl dX2_write_76 ?_
  refine g_getN (k := 0) (v := .ref (ad 3)) (C := RX1) (ref := RX1) (fs := [.ref (ad 3), .ref (ad 4)]) hx hb hown hts hN hG gX1 rfl fp_2 (by decide) t_45 rfl rfl dX2_write_79 ?_
  refine lv_aload hx hb dX2_write_82 (lv_at hl 2 rfl) ?_
  refine g_getN (k := 2) (v := .ref (ad (6 + 3 * j))) (C := RX0) (ref := RX0) (fs := [.int (bI (run j)), .long (en (mp j)), .ref (ad (6 + 3 * j)), .ref (ad (7 + 3 * j))]) hx hb hown hts hN hG gX0 rfl (fp_5 (hj)) (by decide) t_25 rfl rfl dX2_write_84 ?_
  refine lv_iload hx hb dX2_write_87 (lv_at hl 1 rfl) ?_
  refine g_iald (i := (q / 4)) (t0 := 0) hx hb hG (fp_6 (hj)) rfl ((by omega)) (by decide) dX2_write_89 ?_
  refine lv_iconst (v := nI 4) hx hb dX2_write_90 (by decide) ?_
  refine lv_imul hx hb dX2_write_91 ?_
  refine g_top (y := nI (fr j (q / 4) * 4)) (pk_mul _ 4) ?_
  refine lv_iload_n hx hb dX2_write_92 rfl (lv_at hl 6 rfl) ?_
  refine lv_iconst (v := nI 4) hx hb dX2_write_93 (by decide) ?_
  refine lv_irem hx hb dX2_write_94 (by decide) ?_
  refine g_top (y := nI (q % 4)) (pk_rem (d := 4) (Nat.lt_trans hq (by decide)) (by decide) (by decide)) ?_
  refine lv_iadd hx hb dX2_write_95 ?_
  refine g_top (y := nI (fr j (q / 4) * 4 + q % 4)) (nI_add _ _) ?_
  refine lv_iload_n hx hb dX2_write_96 rfl (lv_at hl 7 rfl) ?_
  refine g_iast (i := (fr j (q / 4) * 4 + q % 4)) (x := z) (t0 := 0) (ws' := fpW ad cI cQ run mp fr (up1 kd j (upd (kd j) (q / 4) (kd j (q / 4) ^^^ 4))) (upd wd (fr j (q / 4) * 4 + q % 4) z) ct (af + 1) cf) hx hb hG fp_3 rfl ((by omega)) (by decide) (fp_s3 _) dX2_write_97 (fun H locs hG => ?_)
  refine lv_iload hx hb dX2_write_98 (lv_at hl 0 rfl) ?_
  exact g_iret hx hb hr hlk hG dX2_write_100
set_option maxHeartbeats 4000000 in
set_option maxRecDepth 100000 in
theorem fp_write_2 {j q : Nat} (hj : j < 5) (hq : q < 256) (h : run j = true) (h2 : mp j (q / 4) = true) {z : Int32} (h3 : ¬ kd j (q / 4) &&& 1 = 0) (h4 : ¬ kd j (q / 4) &&& 4 = 0) (hf : fr j (q / 4) < 24) (h5 : ¬ ct (fr j (q / 4)) ≤ 1) (h6 : 1 ≤ frF run mp ct) : gM l yX2_write cX2_write 8 (some .int) 5 116 D cls (fpT cI cQ cZ) A (fpW ad cI cQ run mp fr kd wd ct af cf) [.ref (ad 0), .int (nI j), .int (nI q), .int z] (some (.int 2)) (fpW ad cI cQ run (up1 (up1 mp j (up1 (mp j) (q / 4) false)) j (up1 ((up1 mp j (up1 (mp j) (q / 4) false)) j) (q / 4) true)) (up1 fr j (up1 (fr j) (q / 4) (unF ct 24))) (up1 (up1 kd j (upd (kd j) (q / 4) (kd j (q / 4) ^^^ 4))) j (upd ((up1 kd j (upd (kd j) (q / 4) (kd j (q / 4) ^^^ 4))) j) (q / 4) ((up1 kd j (upd (kd j) (q / 4) (kd j (q / 4) ^^^ 4))) j (q / 4)))) (upd (cpW wd (fr j (q / 4)) (unF ct 24)) (unF ct 24 * 4 + q % 4) z) (upd (upd ct (fr j (q / 4)) (ct (fr j (q / 4)) - 1)) (unF ct 24) ((upd ct (fr j (q / 4)) (ct (fr j (q / 4)) - 1)) (unF ct 24) + 1)) (af + 1) (cf + 1)) := by
  refine gM_of (by decide) (Nat.le_of_ble_eq_true rfl) ?_
  intro p e s m args below meth c ls hx hb hml hown hts hN hr hlk hl hG
  have hown : s.vm.findClass RX2 = some m.cls := hown
  have hl : lv_has ls 8 [(0, .ref (ad 0)), (1, .int (nI j)), (2, .int (nI q)), (3, .int z)] := hl
  refine lv_aload_n hx hb dX2_write_0 rfl (lv_at hl 0 rfl) ?_
  refine lv_iload_n hx hb dX2_write_1 rfl (lv_at hl 1 rfl) ?_
  refine lv_iload_n hx hb dX2_write_2 rfl (lv_at hl 2 rfl) ?_
  refine g_callV (As := [.int (nI j), .int (nI q)]) (rest := []) (fs := [.ref (ad 1), .ref (ad 2), .int af, .int cf]) (fm_rA_pos (nI_pos (Nat.lt_trans hq (by decide))) (by rw [pk_div (d := 4) (Nat.lt_trans hq (by decide)) (by decide) (by decide)]; exact fm_rM_0 hj h (by omega) h2)) hx hb hml hown hts hN hG t_177 t_179 s_17 t_1 t_180 nm_X2_refusalOfAddress ⟨by decide, by decide⟩ fp_0 rfl hl.1 (Nat.le_of_ble_eq_true rfl) dX2_write_3 ⟨Nat.zero_le _, Nat.zero_le _⟩ (fun H locs hG => ?_)
  refine W.eq (g2 := F0 m 6 ls [.int 0]) rfl ?_
  refine lv_istore (lv' := [(4, .int 0), (0, .ref (ad 0)), (1, .int (nI j)), (2, .int (nI q)), (3, .int z)]) hx hb dX2_write_6 hl (by decide) rfl (fun ls hl => ?_)
  refine lv_iload hx hb dX2_write_8 (lv_at hl 0 rfl) ?_
  refine lv_if_eq (tgt := 16) hx hb dX2_write_10 rfl (fun _ => ?_) (fun hh => absurd (rfl) hh)
  refine lv_aload_n hx hb dX2_write_16 rfl (lv_at hl 1 rfl) ?_
  refine g_get (k := 0) (v := .ref (ad 1)) (C := RX2) (ref := RX2) (fs := [.ref (ad 1), .ref (ad 2), .int af, .int cf]) hx hb hown hts hG gX2 rfl fp_0 (by decide) t_53 rfl rfl dX2_write_17 ?_
  refine lv_iload_n hx hb dX2_write_20 rfl (lv_at hl 2 rfl) ?_
  refine g_aald (i := j) (t0 := 1) hx hb hG fp_1 rfl (hj) (by decide) rfl dX2_write_21 ?_
  refine lv_astore (lv' := [(5, .ref (ad (5 + 3 * j))), (4, .int 0), (0, .ref (ad 0)), (1, .int (nI j)), (2, .int (nI q)), (3, .int z)]) hx hb dX2_write_22 hl (by decide) rfl (fun ls hl => ?_)
  refine lv_iload_n hx hb dX2_write_24 rfl (lv_at hl 4 rfl) ?_
  refine lv_iconst (v := nI 4) hx hb dX2_write_25 (by decide) ?_
  refine lv_idiv hx hb dX2_write_26 (by decide) ?_
  refine g_top (y := nI (q / 4)) (pk_div (d := 4) (Nat.lt_trans hq (by decide)) (by decide) (by decide)) ?_
  refine lv_istore (lv' := [(6, .int (nI (q / 4))), (5, .ref (ad (5 + 3 * j))), (4, .int 0), (0, .ref (ad 0)), (1, .int (nI j)), (2, .int (nI q)), (3, .int z)]) hx hb dX2_write_27 hl (by decide) rfl (fun ls hl => ?_)
  refine lv_aload hx hb dX2_write_29 (lv_at hl 1 rfl) ?_
  refine lv_iconst (v := 1) hx hb dX2_write_31 (by decide) ?_
  refine lv_iload hx hb dX2_write_32 (lv_at hl 0 rfl) ?_
  refine g_callVN (As := [.int 1, .int (nI (q / 4))]) (rest := []) (fs := [.int (bI (run j)), .long (en (mp j)), .ref (ad (6 + 3 * j)), .ref (ad (7 + 3 * j))]) (fm_is_t hj (by omega) h3) hx hb hml hown hts hN hG t_109 t_111 s_7 t_2 t_112 nm_X0_is ⟨by decide, by decide⟩ (fp_5 (hj)) rfl hl.1 (Nat.le_of_ble_eq_true rfl) dX2_write_34 ⟨Nat.zero_le _, Nat.zero_le _⟩ (fun H locs hG => ?_)
  refine W.eq (g2 := F0 m 37 ls [.int 1]) rfl ?_
  refine lv_if_ne (tgt := 43) hx hb dX2_write_37 rfl (fun _ => ?_) (fun hh => absurd hh (by decide))
  refine lv_iconst (v := 0) hx hb dX2_write_43 (by decide) ?_
  refine lv_istore (lv' := [(7, .int 0), (6, .int (nI (q / 4))), (5, .ref (ad (5 + 3 * j))), (4, .int 0), (0, .ref (ad 0)), (1, .int (nI j)), (2, .int (nI q)), (3, .int z)]) hx hb dX2_write_44 hl (by decide) rfl (fun ls hl => ?_)
  refine lv_aload hx hb dX2_write_46 (lv_at hl 2 rfl) ?_
  refine lv_iconst (v := 4) hx hb dX2_write_48 (by decide) ?_
  refine lv_iload hx hb dX2_write_49 (lv_at hl 1 rfl) ?_
  refine g_callVN (As := [.int 4, .int (nI (q / 4))]) (rest := []) (fs := [.int (bI (run j)), .long (en (mp j)), .ref (ad (6 + 3 * j)), .ref (ad (7 + 3 * j))]) (fm_is_t hj (by omega) h4) hx hb hml hown hts hN hG t_109 t_111 s_7 t_2 t_112 nm_X0_is ⟨by decide, by decide⟩ (fp_5 (hj)) rfl hl.1 (Nat.le_of_ble_eq_true rfl) dX2_write_51 ⟨Nat.zero_le _, Nat.zero_le _⟩ (fun H locs hG => ?_)
  refine W.eq (g2 := F0 m 54 ls [.int 1]) rfl ?_
  refine lv_if_eq (tgt := 75) hx hb dX2_write_54 rfl (fun hh => absurd hh (by decide)) (fun _ => ?_)
  refine lv_aload_n hx hb dX2_write_57 rfl (lv_at hl 4 rfl) ?_
  refine lv_aload hx hb dX2_write_58 (lv_at hl 2 rfl) ?_
  refine lv_iload hx hb dX2_write_60 (lv_at hl 1 rfl) ?_
  refine g_callV (As := [.ref (ad (5 + 3 * j)), .int (nI (q / 4))]) (rest := []) (fs := [.ref (ad 1), .ref (ad 2), .int af, .int cf]) (fm_rF_two hj (by omega) hf h5 h6) hx hb hml hown hts hN hG t_181 t_183 s_18 t_1 t_184 nm_X2_resolveFault ⟨by decide, by decide⟩ fp_0 rfl hl.1 (Nat.le_of_ble_eq_true rfl) dX2_write_62 ⟨Nat.zero_le _, Nat.zero_le _⟩ (fun H locs hG => ?_)
  refine W.eq (g2 := F0 m 65 ls [.int 2]) rfl ?_
  refine lv_istore (lv' := [(7, .int 2), (6, .int (nI (q / 4))), (5, .ref (ad (5 + 3 * j))), (4, .int 0), (0, .ref (ad 0)), (1, .int (nI j)), (2, .int (nI q)), (3, .int z)]) hx hb dX2_write_65 hl (by decide) rfl (fun ls hl => ?_)
  refine lv_iload hx hb dX2_write_67 (lv_at hl 0 rfl) ?_
  refine lv_if_ge (tgt := 75) hx hb dX2_write_69 rfl (fun _ => ?_) (fun hh => absurd (by decide) hh)
  refine lv_aload_n hx hb dX2_write_75 rfl (lv_at hl 4 rfl) ?_
  refine g_get (k := 1) (v := .ref (ad 2)) (C := RX2) (ref := RX2) (fs := [.ref (ad 1), .ref (ad 2), .int (af + 1), .int (cf + 1)]) hx hb hown hts hG gX2 rfl fp_0 (by decide) t_54 rfl rfl dX2_write_76 ?_
  refine g_getN (k := 0) (v := .ref (ad 3)) (C := RX1) (ref := RX1) (fs := [.ref (ad 3), .ref (ad 4)]) hx hb hown hts hN hG gX1 rfl fp_2 (by decide) t_45 rfl rfl dX2_write_79 ?_
  refine lv_aload hx hb dX2_write_82 (lv_at hl 2 rfl) ?_
  refine g_getN (k := 2) (v := .ref (ad (6 + 3 * j))) (C := RX0) (ref := RX0) (fs := [.int (bI (run j)), .long (en ((up1 (up1 mp j (up1 (mp j) (q / 4) false)) j (up1 ((up1 mp j (up1 (mp j) (q / 4) false)) j) (q / 4) true)) j)), .ref (ad (6 + 3 * j)), .ref (ad (7 + 3 * j))]) hx hb hown hts hN hG gX0 rfl (fp_5 (hj)) (by decide) t_25 rfl rfl dX2_write_84 ?_
  refine lv_iload hx hb dX2_write_87 (lv_at hl 1 rfl) ?_
  refine g_iald (i := (q / 4)) (t0 := 0) hx hb hG (fp_6 (hj)) rfl ((by omega)) (by decide) dX2_write_89 ?_
  refine g_top (y := nI (unF ct 24)) (by rw [up1_s, up1_s]) ?_
  refine lv_iconst (v := nI 4) hx hb dX2_write_90 (by decide) ?_
  refine lv_imul hx hb dX2_write_91 ?_
  refine g_top (y := nI (unF ct 24 * 4)) (pk_mul _ 4) ?_
  refine lv_iload_n hx hb dX2_write_92 rfl (lv_at hl 6 rfl) ?_
  refine lv_iconst (v := nI 4) hx hb dX2_write_93 (by decide) ?_
  refine lv_irem hx hb dX2_write_94 (by decide) ?_
  refine g_top (y := nI (q % 4)) (pk_rem (d := 4) (Nat.lt_trans hq (by decide)) (by decide) (by decide)) ?_
  refine lv_iadd hx hb dX2_write_95 ?_
  refine g_top (y := nI (unF ct 24 * 4 + q % 4)) (nI_add _ _) ?_
  refine lv_iload_n hx hb dX2_write_96 rfl (lv_at hl 7 rfl) ?_
  refine g_iast (i := (unF ct 24 * 4 + q % 4)) (x := z) (t0 := 0) (ws' := fpW ad cI cQ run (up1 (up1 mp j (up1 (mp j) (q / 4) false)) j (up1 ((up1 mp j (up1 (mp j) (q / 4) false)) j) (q / 4) true)) (up1 fr j (up1 (fr j) (q / 4) (unF ct 24))) (up1 (up1 kd j (upd (kd j) (q / 4) (kd j (q / 4) ^^^ 4))) j (upd ((up1 kd j (upd (kd j) (q / 4) (kd j (q / 4) ^^^ 4))) j) (q / 4) ((up1 kd j (upd (kd j) (q / 4) (kd j (q / 4) ^^^ 4))) j (q / 4)))) (upd (cpW wd (fr j (q / 4)) (unF ct 24)) (unF ct 24 * 4 + q % 4) z) (upd (upd ct (fr j (q / 4)) (ct (fr j (q / 4)) - 1)) (unF ct 24) ((upd ct (fr j (q / 4)) (ct (fr j (q / 4)) - 1)) (unF ct 24) + 1)) (af + 1) (cf + 1)) hx hb hG fp_3 rfl ((by have := unF_lt ct 24 (by decide); omega)) (by decide) (fp_s3 _) dX2_write_97 (fun H locs hG => ?_)
  refine lv_iload hx hb dX2_write_98 (lv_at hl 0 rfl) ?_
  exact g_iret hx hb hr hlk hG dX2_write_100
set_option maxHeartbeats 4000000 in
set_option maxRecDepth 100000 in
theorem fp_free  : gM l yX2_free cX2_free 1 (some .int) 4 90 D cls (fpT cI cQ cZ) A (fpW ad cI cQ run mp fr kd wd ct af cf) [.ref (ad 0)] (some (.int (frF run mp ct))) (fpW ad cI cQ run mp fr kd wd ct af cf) := by
  refine gM_of (by decide) (Nat.le_of_ble_eq_true rfl) ?_
  intro p e s m args below meth c ls hx hb hml hown hts hN hr hlk hl hG
  have hown : s.vm.findClass RX2 = some m.cls := hown
  have hl : lv_has ls 1 [(0, .ref (ad 0))] := hl
  refine lv_aload_n hx hb dX2_free_0 rfl (lv_at hl 0 rfl) ?_
  refine g_callV (As := []) (rest := []) (fs := [.ref (ad 1), .ref (ad 2), .int af, .int cf]) (fm_freeFrames) hx hb hml hown hts hN hG t_74 t_76 s_1 t_1 t_77 nm_X2_freeFrames ⟨by decide, by decide⟩ fp_0 rfl hl.1 (Nat.le_of_ble_eq_true rfl) dX2_free_1 ⟨Nat.zero_le _, Nat.zero_le _⟩ (fun H locs hG => ?_)
  refine W.eq (g2 := F0 m 4 ls [.int (frF run mp ct)]) rfl ?_
  exact g_iret hx hb hr hlk hG dX2_free_4
set_option maxHeartbeats 4000000 in
set_option maxRecDepth 100000 in
theorem fp_tables_1 {x : Int32} (h : ¬ rn run x) : gM l yX2_tables cX2_tables 2 (some .int) 3 68 D cls (fpT cI cQ cZ) A (fpW ad cI cQ run mp fr kd wd ct af cf) [.ref (ad 0), .int x] (some (.int (-1))) (fpW ad cI cQ run mp fr kd wd ct af cf) := by
  refine gM_of (by decide) (Nat.le_of_ble_eq_true rfl) ?_
  intro p e s m args below meth c ls hx hb hml hown hts hN hr hlk hl hG
  have hown : s.vm.findClass RX2 = some m.cls := hown
  have hl : lv_has ls 2 [(0, .ref (ad 0)), (1, .int x)] := hl
  refine lv_aload_n hx hb dX2_tables_0 rfl (lv_at hl 0 rfl) ?_
  refine lv_iload_n hx hb dX2_tables_1 rfl (lv_at hl 1 rfl) ?_
  refine g_callV (As := [.int x]) (rest := []) (fs := [.ref (ad 1), .ref (ad 2), .int af, .int cf]) (fm_isRunning_n h) hx hb hml hown hts hN hG t_97 t_99 s_4 t_1 t_100 nm_X2_isRunning ⟨by decide, by decide⟩ fp_0 rfl hl.1 (Nat.le_of_ble_eq_true rfl) dX2_tables_2 ⟨Nat.zero_le _, Nat.zero_le _⟩ (fun H locs hG => ?_)
  refine W.eq (g2 := F0 m 5 ls [.int 0]) rfl ?_
  refine lv_if_eq (tgt := 20) hx hb dX2_tables_5 rfl (fun _ => ?_) (fun hh => absurd (rfl) hh)
  refine lv_iconst (v := (-1)) hx hb dX2_tables_20 (by decide) ?_
  exact g_iret hx hb hr hlk hG dX2_tables_21
set_option maxHeartbeats 4000000 in
set_option maxRecDepth 100000 in
theorem fp_tables_ok {j : Nat} (hj : j < 5) (h : run j = true) : gM l yX2_tables cX2_tables 2 (some .int) 3 68 D cls (fpT cI cQ cZ) A (fpW ad cI cQ run mp fr kd wd ct af cf) [.ref (ad 0), .int (nI j)] (some (.int (nI (tbN (mp j))))) (fpW ad cI cQ run mp fr kd wd ct af cf) := by
  refine gM_of (by decide) (Nat.le_of_ble_eq_true rfl) ?_
  intro p e s m args below meth c ls hx hb hml hown hts hN hr hlk hl hG
  have hown : s.vm.findClass RX2 = some m.cls := hown
  have hl : lv_has ls 2 [(0, .ref (ad 0)), (1, .int (nI j))] := hl
  refine lv_aload_n hx hb dX2_tables_0 rfl (lv_at hl 0 rfl) ?_
  refine lv_iload_n hx hb dX2_tables_1 rfl (lv_at hl 1 rfl) ?_
  refine g_callV (As := [.int (nI j)]) (rest := []) (fs := [.ref (ad 1), .ref (ad 2), .int af, .int cf]) (fm_isRunning_t hj h) hx hb hml hown hts hN hG t_97 t_99 s_4 t_1 t_100 nm_X2_isRunning ⟨by decide, by decide⟩ fp_0 rfl hl.1 (Nat.le_of_ble_eq_true rfl) dX2_tables_2 ⟨Nat.zero_le _, Nat.zero_le _⟩ (fun H locs hG => ?_)
  refine W.eq (g2 := F0 m 5 ls [.int 1]) rfl ?_
  refine lv_if_eq (tgt := 20) hx hb dX2_tables_5 rfl (fun hh => absurd hh (by decide)) (fun _ => ?_)
  refine lv_aload_n hx hb dX2_tables_8 rfl (lv_at hl 0 rfl) ?_
  refine g_get (k := 0) (v := .ref (ad 1)) (C := RX2) (ref := RX2) (fs := [.ref (ad 1), .ref (ad 2), .int af, .int cf]) hx hb hown hts hG gX2 rfl fp_0 (by decide) t_53 rfl rfl dX2_tables_9 ?_
  refine lv_iload_n hx hb dX2_tables_12 rfl (lv_at hl 1 rfl) ?_
  refine g_aald (i := j) (t0 := 1) hx hb hG fp_1 rfl (hj) (by decide) rfl dX2_tables_13 ?_
  refine g_callVN (As := []) (rest := []) (fs := [.int (bI (run j)), .long (en (mp j)), .ref (ad (6 + 3 * j)), .ref (ad (7 + 3 * j))]) (fm_tableCount hj) hx hb hml hown hts hN hG t_82 t_84 s_3 t_2 t_85 nm_X0_tableCount ⟨by decide, by decide⟩ (fp_5 (hj)) rfl hl.1 (Nat.le_of_ble_eq_true rfl) dX2_tables_14 ⟨Nat.zero_le _, Nat.zero_le _⟩ (fun H locs hG => ?_)
  refine W.eq (g2 := F0 m 17 ls [.int (nI (tbN (mp j)))]) rfl ?_
  refine lv_goto (tgt := 21) hx hb dX2_tables_17 rfl ?_
  exact g_iret hx hb hr hlk hG dX2_tables_21
set_option maxHeartbeats 4000000 in
set_option maxRecDepth 100000 in
theorem fp_pages_1 {x : Int32} (h : ¬ rn run x) : gM l yX2_pages cX2_pages 2 (some .int) 1 21 D cls (fpT cI cQ cZ) A (fpW ad cI cQ run mp fr kd wd ct af cf) [.ref (ad 0), .int x] (some (.int (-1))) (fpW ad cI cQ run mp fr kd wd ct af cf) := by
  refine gM_of (by decide) (Nat.le_of_ble_eq_true rfl) ?_
  intro p e s m args below meth c ls hx hb hml hown hts hN hr hlk hl hG
  have hown : s.vm.findClass RX2 = some m.cls := hown
  have hl : lv_has ls 2 [(0, .ref (ad 0)), (1, .int x)] := hl
  refine lv_aload_n hx hb dX2_pages_0 rfl (lv_at hl 0 rfl) ?_
  refine lv_iload_n hx hb dX2_pages_1 rfl (lv_at hl 1 rfl) ?_
  refine g_callV (As := [.int x]) (rest := []) (fs := [.ref (ad 1), .ref (ad 2), .int af, .int cf]) (fm_isRunning_n h) hx hb hml hown hts hN hG t_97 t_99 s_4 t_1 t_100 nm_X2_isRunning ⟨by decide, by decide⟩ fp_0 rfl hl.1 (Nat.le_of_ble_eq_true rfl) dX2_pages_2 ⟨Nat.zero_le _, Nat.zero_le _⟩ (fun H locs hG => ?_)
  refine W.eq (g2 := F0 m 5 ls [.int 0]) rfl ?_
  refine lv_if_eq (tgt := 23) hx hb dX2_pages_5 rfl (fun _ => ?_) (fun hh => absurd (rfl) hh)
  refine lv_iconst (v := (-1)) hx hb dX2_pages_23 (by decide) ?_
  exact g_iret hx hb hr hlk hG dX2_pages_24
set_option maxHeartbeats 4000000 in
set_option maxRecDepth 100000 in
theorem fp_pages_ok {j : Nat} (hj : j < 5) (h : run j = true) : gM l yX2_pages cX2_pages 2 (some .int) 1 21 D cls (fpT cI cQ cZ) A (fpW ad cI cQ run mp fr kd wd ct af cf) [.ref (ad 0), .int (nI j)] (some (.int (bcI (en (mp j))))) (fpW ad cI cQ run mp fr kd wd ct af cf) := by
  refine gM_of (by decide) (Nat.le_of_ble_eq_true rfl) ?_
  intro p e s m args below meth c ls hx hb hml hown hts hN hr hlk hl hG
  have hown : s.vm.findClass RX2 = some m.cls := hown
  have hl : lv_has ls 2 [(0, .ref (ad 0)), (1, .int (nI j))] := hl
  refine lv_aload_n hx hb dX2_pages_0 rfl (lv_at hl 0 rfl) ?_
  refine lv_iload_n hx hb dX2_pages_1 rfl (lv_at hl 1 rfl) ?_
  refine g_callV (As := [.int (nI j)]) (rest := []) (fs := [.ref (ad 1), .ref (ad 2), .int af, .int cf]) (fm_isRunning_t hj h) hx hb hml hown hts hN hG t_97 t_99 s_4 t_1 t_100 nm_X2_isRunning ⟨by decide, by decide⟩ fp_0 rfl hl.1 (Nat.le_of_ble_eq_true rfl) dX2_pages_2 ⟨Nat.zero_le _, Nat.zero_le _⟩ (fun H locs hG => ?_)
  refine W.eq (g2 := F0 m 5 ls [.int 1]) rfl ?_
  refine lv_if_eq (tgt := 23) hx hb dX2_pages_5 rfl (fun hh => absurd hh (by decide)) (fun _ => ?_)
  refine lv_aload_n hx hb dX2_pages_8 rfl (lv_at hl 0 rfl) ?_
  refine g_get (k := 0) (v := .ref (ad 1)) (C := RX2) (ref := RX2) (fs := [.ref (ad 1), .ref (ad 2), .int af, .int cf]) hx hb hown hts hG gX2 rfl fp_0 (by decide) t_53 rfl rfl dX2_pages_9 ?_
  refine lv_iload_n hx hb dX2_pages_12 rfl (lv_at hl 1 rfl) ?_
  refine g_aald (i := j) (t0 := 1) hx hb hG fp_1 rfl (hj) (by decide) rfl dX2_pages_13 ?_
  refine g_getN (k := 1) (v := .long (en (mp j))) (C := RX0) (ref := RX0) (fs := [.int (bI (run j)), .long (en (mp j)), .ref (ad (6 + 3 * j)), .ref (ad (7 + 3 * j))]) hx hb hown hts hN hG gX0 rfl (fp_5 (hj)) (by decide) t_23 rfl rfl dX2_pages_14 ?_
  refine g_callS (As := [.long (en (mp j))]) (rest := []) (fm_bitCount) hx hb hml hown hts hN hG t_206 t_207 t_5 t_208 nm_J13_bitCount_95d88 ⟨by decide, by decide⟩ hl.1 (Nat.le_of_ble_eq_true rfl) dX2_pages_17 ⟨Nat.zero_le _, Nat.zero_le _⟩ (fun H locs hG => ?_)
  refine W.eq (g2 := F0 m 20 ls [.int (bcI (en (mp j)))]) rfl ?_
  refine lv_goto (tgt := 24) hx hb dX2_pages_20 rfl ?_
  exact g_iret hx hb hr hlk hG dX2_pages_24
set_option maxHeartbeats 4000000 in
set_option maxRecDepth 100000 in
theorem fp_faults_c {z : Int32} (h : ¬ z = 0) : gM l yX2_faults cX2_faults 2 (some .int) 0 0 D cls (fpT cI cQ cZ) A (fpW ad cI cQ run mp fr kd wd ct af cf) [.ref (ad 0), .int z] (some (.int cf)) (fpW ad cI cQ run mp fr kd wd ct af cf) := by
  refine gM_of (by decide) (Nat.le_of_ble_eq_true rfl) ?_
  intro p e s m args below meth c ls hx hb hml hown hts hN hr hlk hl hG
  have hown : s.vm.findClass RX2 = some m.cls := hown
  have hl : lv_has ls 2 [(0, .ref (ad 0)), (1, .int z)] := hl
  refine lv_iload_n hx hb dX2_faults_0 rfl (lv_at hl 1 rfl) ?_
  refine lv_if_eq (tgt := 11) hx hb dX2_faults_1 rfl (fun hh => absurd hh (h)) (fun _ => ?_)
  refine lv_aload_n hx hb dX2_faults_4 rfl (lv_at hl 0 rfl) ?_
  refine g_get (k := 3) (v := .int cf) (C := RX2) (ref := RX2) (fs := [.ref (ad 1), .ref (ad 2), .int af, .int cf]) hx hb hown hts hG gX2 rfl fp_0 (by decide) t_56 rfl rfl dX2_faults_5 ?_
  refine lv_goto (tgt := 15) hx hb dX2_faults_8 rfl ?_
  exact g_iret hx hb hr hlk hG dX2_faults_15
set_option maxHeartbeats 4000000 in
set_option maxRecDepth 100000 in
theorem fp_faults_a {z : Int32} (h : z = 0) : gM l yX2_faults cX2_faults 2 (some .int) 0 0 D cls (fpT cI cQ cZ) A (fpW ad cI cQ run mp fr kd wd ct af cf) [.ref (ad 0), .int z] (some (.int af)) (fpW ad cI cQ run mp fr kd wd ct af cf) := by
  refine gM_of (by decide) (Nat.le_of_ble_eq_true rfl) ?_
  intro p e s m args below meth c ls hx hb hml hown hts hN hr hlk hl hG
  have hown : s.vm.findClass RX2 = some m.cls := hown
  have hl : lv_has ls 2 [(0, .ref (ad 0)), (1, .int z)] := hl
  refine lv_iload_n hx hb dX2_faults_0 rfl (lv_at hl 1 rfl) ?_
  refine lv_if_eq (tgt := 11) hx hb dX2_faults_1 rfl (fun _ => ?_) (fun hh => absurd (h) hh)
  refine lv_aload_n hx hb dX2_faults_11 rfl (lv_at hl 0 rfl) ?_
  refine g_get (k := 2) (v := .int af) (C := RX2) (ref := RX2) (fs := [.ref (ad 1), .ref (ad 2), .int af, .int cf]) hx hb hown hts hG gX2 rfl fp_0 (by decide) t_55 rfl rfl dX2_faults_12 ?_
  exact g_iret hx hb hr hlk hG dX2_faults_15
def rnS (run : Nat → Bool) : Nat → Int32
  | 0 => nI 0
  | n + 1 => if run n then rnS run n + (nI 1 <<< (nI n &&& 31)) else rnS run n
set_option maxHeartbeats 4000000 in
set_option maxRecDepth 100000 in
theorem fp_running  : gM l yX2_running cX2_running 3 (some .int) 0 0 D cls (fpT cI cQ cZ) A (fpW ad cI cQ run mp fr kd wd ct af cf) [.ref (ad 0)] (some (.int (rnS run 5))) (fpW ad cI cQ run mp fr kd wd ct af cf) := by
  refine gM_of (by decide) (Nat.le_of_ble_eq_true rfl) ?_
  intro p e s m args below meth c ls hx hb hml hown hts hN hr hlk hl hG
  have hown : s.vm.findClass RX2 = some m.cls := hown
  have hl : lv_has ls 3 [(0, .ref (ad 0))] := hl
  refine lv_iconst (v := nI 0) hx hb dX2_running_0 (by decide) ?_
  refine lv_istore_n (lv' := [(1, .int (nI 0)), (0, .ref (ad 0))]) hx hb dX2_running_1 rfl hl (by decide) rfl (fun ls hl => ?_)
  refine lv_iconst (v := nI 0) hx hb dX2_running_2 (by decide) ?_
  refine lv_istore_n (lv' := [(2, .int (nI 0)), (1, .int (nI 0)), (0, .ref (ad 0))]) hx hb dX2_running_3 rfl hl (by decide) rfl (fun ls hl => ?_)
  have loop : ∀ (n i : Nat) (ls : Array Slot), i + n = 5 → lv_has ls 3 [(2, .int (nI i)), (1, .int (rnS run i)), (0, .ref (ad 0))] → W p l e (gR 0 0) s m args below meth c s.heap [] 0 0 (gQ below args s D cls (fpT cI cQ cZ) A (some (.int (rnS run 5))) (fpW ad cI cQ run mp fr kd wd ct af cf)) (F0 m 4 ls []) := by
    intro n
    induction n with
    | zero =>
      intro i ls hi hl
      obtain rfl : i = 5 := by omega
      refine lv_iload_n hx hb dX2_running_4 rfl (lv_at hl 0 rfl) ?_
      refine lv_iconst (v := nI 5) hx hb dX2_running_5 (by decide) ?_
      refine lv_icmp_ge (tgt := 33) hx hb dX2_running_6 rfl (fun _ => ?_) (fun hh => absurd (nI_le (Nat.le_refl 5) (by decide)) hh)
      refine lv_iload_n hx hb dX2_running_33 rfl (lv_at hl 1 rfl) ?_
      exact g_iret hx hb hr hlk hG dX2_running_34
    | succ n ih =>
      intro i ls hi hl
      have hi5 : i < 5 := by omega
      cases hc : run i
      · have hu : rnS run (i + 1) = rnS run i := by simp [rnS, hc]
        refine lv_iload_n hx hb dX2_running_4 rfl (lv_at hl 0 rfl) ?_
        refine lv_iconst (v := nI 5) hx hb dX2_running_5 (by decide) ?_
        refine lv_icmp_ge (tgt := 33) hx hb dX2_running_6 rfl (fun hh => absurd hh (nI_ge hi5 (by decide))) (fun _ => ?_)
        refine lv_aload_n hx hb dX2_running_9 rfl (lv_at hl 2 rfl) ?_
        refine g_get (k := 0) (v := .ref (ad 1)) (C := RX2) (ref := RX2) (fs := [.ref (ad 1), .ref (ad 2), .int af, .int cf]) hx hb hown hts hG gX2 rfl fp_0 (by decide) t_53 rfl rfl dX2_running_10 ?_
        refine lv_iload_n hx hb dX2_running_13 rfl (lv_at hl 0 rfl) ?_
        refine g_aald (i := i) (t0 := 1) hx hb hG fp_1 rfl (hi5) (by decide) rfl dX2_running_14 ?_
        refine g_getN (k := 0) (v := .int (bI (run i))) (C := RX0) (ref := RX0) (fs := [.int (bI (run i)), .long (en (mp i)), .ref (ad (6 + 3 * i)), .ref (ad (7 + 3 * i))]) hx hb hown hts hN hG gX0 rfl (fp_5 (hi5)) (by decide) t_21 rfl rfl dX2_running_15 ?_
        refine g_top (y := 0) (by rw [hc]; rfl) ?_
        refine lv_if_eq (tgt := 27) hx hb dX2_running_18 rfl (fun _ => ?_) (fun hh => absurd (rfl) hh)
        refine lv_iinc (k := 0) (v := nI (i + 1)) (lv' := [(2, .int (nI (i + 1))), (1, .int (rnS run i)), (0, .ref (ad 0))]) hx hb dX2_running_27 hl rfl (nI_1 i) (by decide) rfl (fun ls hl => ?_)
        refine lv_goto (tgt := 4) hx hb dX2_running_30 rfl ?_
        exact ih (i + 1) _ (by omega) (by rw [hu]; exact lv_sub hl [0, 1, 2] rfl)
      · have hu : rnS run (i + 1) = rnS run i + (nI 1 <<< (nI i &&& 31)) := by simp [rnS, hc]
        refine lv_iload_n hx hb dX2_running_4 rfl (lv_at hl 0 rfl) ?_
        refine lv_iconst (v := nI 5) hx hb dX2_running_5 (by decide) ?_
        refine lv_icmp_ge (tgt := 33) hx hb dX2_running_6 rfl (fun hh => absurd hh (nI_ge hi5 (by decide))) (fun _ => ?_)
        refine lv_aload_n hx hb dX2_running_9 rfl (lv_at hl 2 rfl) ?_
        refine g_get (k := 0) (v := .ref (ad 1)) (C := RX2) (ref := RX2) (fs := [.ref (ad 1), .ref (ad 2), .int af, .int cf]) hx hb hown hts hG gX2 rfl fp_0 (by decide) t_53 rfl rfl dX2_running_10 ?_
        refine lv_iload_n hx hb dX2_running_13 rfl (lv_at hl 0 rfl) ?_
        refine g_aald (i := i) (t0 := 1) hx hb hG fp_1 rfl (hi5) (by decide) rfl dX2_running_14 ?_
        refine g_getN (k := 0) (v := .int (bI (run i))) (C := RX0) (ref := RX0) (fs := [.int (bI (run i)), .long (en (mp i)), .ref (ad (6 + 3 * i)), .ref (ad (7 + 3 * i))]) hx hb hown hts hN hG gX0 rfl (fp_5 (hi5)) (by decide) t_21 rfl rfl dX2_running_15 ?_
        refine g_top (y := 1) (by rw [hc]; rfl) ?_
        refine lv_if_eq (tgt := 27) hx hb dX2_running_18 rfl (fun hh => absurd hh (by decide)) (fun _ => ?_)
        refine lv_iload_n hx hb dX2_running_21 rfl (lv_at hl 1 rfl) ?_
        refine lv_iconst (v := nI 1) hx hb dX2_running_22 (by decide) ?_
        refine lv_iload_n hx hb dX2_running_23 rfl (lv_at hl 0 rfl) ?_
        refine lv_ishl hx hb dX2_running_24 ?_
        refine lv_iadd hx hb dX2_running_25 ?_
        refine lv_istore_n (lv' := [(1, .int ((rnS run i) + ((nI 1) <<< ((nI i) &&& 31)))), (2, .int (nI i)), (0, .ref (ad 0))]) hx hb dX2_running_26 rfl hl (by decide) rfl (fun ls hl => ?_)
        refine lv_iinc (k := 1) (v := nI (i + 1)) (lv' := [(2, .int (nI (i + 1))), (1, .int ((rnS run i) + ((nI 1) <<< ((nI i) &&& 31)))), (0, .ref (ad 0))]) hx hb dX2_running_27 hl rfl (nI_1 i) (by decide) rfl (fun ls hl => ?_)
        refine lv_goto (tgt := 4) hx hb dX2_running_30 rfl ?_
        exact ih (i + 1) _ (by omega) (by rw [hu]; exact lv_sub hl [0, 1, 2] rfl)
  exact loop 5 0 _ (by omega) (lv_sub hl [0, 1, 2] rfl)
set_option maxHeartbeats 4000000 in
set_option maxRecDepth 100000 in
theorem fp_twin_1 {x y u v : Int32} (h : ¬ rn run u) : gM l yX2_twin cX2_twin 9 (some .int) 2 43 D cls (fpT cI cQ cZ) A (fpW ad cI cQ run mp fr kd wd ct af cf) [.ref (ad 0), .int x, .int y, .int u, .int v] (some (.int (-1))) (fpW ad cI cQ run mp fr kd wd ct af cf) := by
  refine gM_of (by decide) (Nat.le_of_ble_eq_true rfl) ?_
  intro p e s m args below meth c ls hx hb hml hown hts hN hr hlk hl hG
  have hown : s.vm.findClass RX2 = some m.cls := hown
  have hl : lv_has ls 9 [(0, .ref (ad 0)), (1, .int x), (2, .int y), (3, .int u), (4, .int v)] := hl
  refine lv_aload_n hx hb dX2_twin_0 rfl (lv_at hl 0 rfl) ?_
  refine lv_iload_n hx hb dX2_twin_1 rfl (lv_at hl 3 rfl) ?_
  refine g_callV (As := [.int u]) (rest := []) (fs := [.ref (ad 1), .ref (ad 2), .int af, .int cf]) (fm_isRunning_n h) hx hb hml hown hts hN hG t_97 t_99 s_4 t_1 t_100 nm_X2_isRunning ⟨by decide, by decide⟩ fp_0 rfl hl.1 (Nat.le_of_ble_eq_true rfl) dX2_twin_2 ⟨Nat.zero_le _, Nat.zero_le _⟩ (fun H locs hG => ?_)
  refine W.eq (g2 := F0 m 5 ls [.int 0]) rfl ?_
  refine lv_if_ne (tgt := 10) hx hb dX2_twin_5 rfl (fun hh => absurd (rfl) hh) (fun _ => ?_)
  refine lv_iconst (v := (-1)) hx hb dX2_twin_8 (by decide) ?_
  exact g_iret hx hb hr hlk hG dX2_twin_9
set_option maxHeartbeats 4000000 in
set_option maxRecDepth 100000 in
theorem fp_twin_no {n : Nat} {x y v r : Int32} (hn : n < 5) (h : run n = true) (hr0 : ¬ r = 0) (hM : gM l yX2_refusalOfMapped cX2_refusalOfMapped 3 (some .int) 1 21 D cls (fpT cI cQ cZ) A (fpW ad cI cQ run mp fr kd wd ct af cf) [.ref (ad 0), .int x, .int y] (some (.int r)) (fpW ad cI cQ run mp fr kd wd ct af cf)) : gM l yX2_twin cX2_twin 9 (some .int) 2 43 D cls (fpT cI cQ cZ) A (fpW ad cI cQ run mp fr kd wd ct af cf) [.ref (ad 0), .int x, .int y, .int (nI n), .int v] (some (.int r)) (fpW ad cI cQ run mp fr kd wd ct af cf) := by
  refine gM_of (by decide) (Nat.le_of_ble_eq_true rfl) ?_
  intro p e s m args below meth c ls hx hb hml hown hts hN hr hlk hl hG
  have hown : s.vm.findClass RX2 = some m.cls := hown
  have hl : lv_has ls 9 [(0, .ref (ad 0)), (1, .int x), (2, .int y), (3, .int (nI n)), (4, .int v)] := hl
  refine lv_aload_n hx hb dX2_twin_0 rfl (lv_at hl 0 rfl) ?_
  refine lv_iload_n hx hb dX2_twin_1 rfl (lv_at hl 3 rfl) ?_
  refine g_callV (As := [.int (nI n)]) (rest := []) (fs := [.ref (ad 1), .ref (ad 2), .int af, .int cf]) (fm_isRunning_t hn h) hx hb hml hown hts hN hG t_97 t_99 s_4 t_1 t_100 nm_X2_isRunning ⟨by decide, by decide⟩ fp_0 rfl hl.1 (Nat.le_of_ble_eq_true rfl) dX2_twin_2 ⟨Nat.zero_le _, Nat.zero_le _⟩ (fun H locs hG => ?_)
  refine W.eq (g2 := F0 m 5 ls [.int 1]) rfl ?_
  refine lv_if_ne (tgt := 10) hx hb dX2_twin_5 rfl (fun _ => ?_) (fun hh => absurd hh (by decide))
  refine lv_aload_n hx hb dX2_twin_10 rfl (lv_at hl 0 rfl) ?_
  refine lv_iload_n hx hb dX2_twin_11 rfl (lv_at hl 1 rfl) ?_
  refine lv_iload_n hx hb dX2_twin_12 rfl (lv_at hl 2 rfl) ?_
  refine g_callV (As := [.int x, .int y]) (rest := []) (fs := [.ref (ad 1), .ref (ad 2), .int af, .int cf]) (hM) hx hb hml hown hts hN hG t_165 t_167 s_16 t_1 t_168 nm_X2_refusalOfMapped ⟨by decide, by decide⟩ fp_0 rfl hl.1 (Nat.le_of_ble_eq_true rfl) dX2_twin_13 ⟨Nat.zero_le _, Nat.zero_le _⟩ (fun H locs hG => ?_)
  refine W.eq (g2 := F0 m 16 ls [.int r]) rfl ?_
  refine lv_istore (lv' := [(5, .int r), (0, .ref (ad 0)), (1, .int x), (2, .int y), (3, .int (nI n)), (4, .int v)]) hx hb dX2_twin_16 hl (by decide) rfl (fun ls hl => ?_)
  refine lv_iload hx hb dX2_twin_18 (lv_at hl 0 rfl) ?_
  refine lv_if_eq (tgt := 26) hx hb dX2_twin_20 rfl (fun hh => absurd hh (hr0)) (fun _ => ?_)
  refine lv_iload hx hb dX2_twin_23 (lv_at hl 0 rfl) ?_
  exact g_iret hx hb hr hlk hG dX2_twin_25
def twP (mp : Nat → Nat → Bool) (fr : Nat → Nat → Nat) (n f : Nat) (v : Int32) (i : Nat) : Prop := v < nI i ∧ mp n i = true ∧ fr n i = f
set_option maxHeartbeats 4000000 in
set_option maxRecDepth 100000 in
theorem fp_twin_none {j n k : Nat} {v : Int32} (hj : j < 5) (h : run j = true) (hn : n < 5) (h1 : run n = true) (hk : k < 64) (h2 : mp j k = true) (hf : fr j k < 24) (hfn : ∀ i, i < 64 → mp n i = true → fr n i < 24) (hm : ∀ i, i < 64 → ¬ twP mp fr n (fr j k) v i) : gM l yX2_twin cX2_twin 9 (some .int) 2 43 D cls (fpT cI cQ cZ) A (fpW ad cI cQ run mp fr kd wd ct af cf) [.ref (ad 0), .int (nI j), .int (nI k), .int (nI n), .int v] (some (.int (nI 64))) (fpW ad cI cQ run mp fr kd wd ct af cf) := by
  refine gM_of (by decide) (Nat.le_of_ble_eq_true rfl) ?_
  intro p e s m args below meth c ls hx hb hml hown hts hN hr hlk hl hG
  have hown : s.vm.findClass RX2 = some m.cls := hown
  have hl : lv_has ls 9 [(0, .ref (ad 0)), (1, .int (nI j)), (2, .int (nI k)), (3, .int (nI n)), (4, .int v)] := hl
  refine lv_aload_n hx hb dX2_twin_0 rfl (lv_at hl 0 rfl) ?_
  refine lv_iload_n hx hb dX2_twin_1 rfl (lv_at hl 3 rfl) ?_
  refine g_callV (As := [.int (nI n)]) (rest := []) (fs := [.ref (ad 1), .ref (ad 2), .int af, .int cf]) (fm_isRunning_t hn h1) hx hb hml hown hts hN hG t_97 t_99 s_4 t_1 t_100 nm_X2_isRunning ⟨by decide, by decide⟩ fp_0 rfl hl.1 (Nat.le_of_ble_eq_true rfl) dX2_twin_2 ⟨Nat.zero_le _, Nat.zero_le _⟩ (fun H locs hG => ?_)
  refine W.eq (g2 := F0 m 5 ls [.int 1]) rfl ?_
  refine lv_if_ne (tgt := 10) hx hb dX2_twin_5 rfl (fun _ => ?_) (fun hh => absurd hh (by decide))
  refine lv_aload_n hx hb dX2_twin_10 rfl (lv_at hl 0 rfl) ?_
  refine lv_iload_n hx hb dX2_twin_11 rfl (lv_at hl 1 rfl) ?_
  refine lv_iload_n hx hb dX2_twin_12 rfl (lv_at hl 2 rfl) ?_
  refine g_callV (As := [.int (nI j), .int (nI k)]) (rest := []) (fs := [.ref (ad 1), .ref (ad 2), .int af, .int cf]) (fm_rM_0 hj h hk h2) hx hb hml hown hts hN hG t_165 t_167 s_16 t_1 t_168 nm_X2_refusalOfMapped ⟨by decide, by decide⟩ fp_0 rfl hl.1 (Nat.le_of_ble_eq_true rfl) dX2_twin_13 ⟨Nat.zero_le _, Nat.zero_le _⟩ (fun H locs hG => ?_)
  refine W.eq (g2 := F0 m 16 ls [.int 0]) rfl ?_
  refine lv_istore (lv' := [(5, .int 0), (0, .ref (ad 0)), (1, .int (nI j)), (2, .int (nI k)), (3, .int (nI n)), (4, .int v)]) hx hb dX2_twin_16 hl (by decide) rfl (fun ls hl => ?_)
  refine lv_iload hx hb dX2_twin_18 (lv_at hl 0 rfl) ?_
  refine lv_if_eq (tgt := 26) hx hb dX2_twin_20 rfl (fun _ => ?_) (fun hh => absurd (rfl) hh)
  refine lv_aload_n hx hb dX2_twin_26 rfl (lv_at hl 1 rfl) ?_
  refine g_get (k := 0) (v := .ref (ad 1)) (C := RX2) (ref := RX2) (fs := [.ref (ad 1), .ref (ad 2), .int af, .int cf]) hx hb hown hts hG gX2 rfl fp_0 (by decide) t_53 rfl rfl dX2_twin_27 ?_
  refine lv_iload_n hx hb dX2_twin_30 rfl (lv_at hl 2 rfl) ?_
  refine g_aald (i := j) (t0 := 1) hx hb hG fp_1 rfl (hj) (by decide) rfl dX2_twin_31 ?_
  refine g_getN (k := 2) (v := .ref (ad (6 + 3 * j))) (C := RX0) (ref := RX0) (fs := [.int (bI (run j)), .long (en (mp j)), .ref (ad (6 + 3 * j)), .ref (ad (7 + 3 * j))]) hx hb hown hts hN hG gX0 rfl (fp_5 (hj)) (by decide) t_25 rfl rfl dX2_twin_32 ?_
  refine lv_iload_n hx hb dX2_twin_35 rfl (lv_at hl 3 rfl) ?_
  refine g_iald (i := k) (t0 := 0) hx hb hG (fp_6 (hj)) rfl (hk) (by decide) dX2_twin_36 ?_
  refine lv_istore (lv' := [(6, .int (nI (fr j k))), (5, .int 0), (0, .ref (ad 0)), (1, .int (nI j)), (2, .int (nI k)), (3, .int (nI n)), (4, .int v)]) hx hb dX2_twin_37 hl (by decide) rfl (fun ls hl => ?_)
  refine lv_aload_n hx hb dX2_twin_39 rfl (lv_at hl 2 rfl) ?_
  refine g_get (k := 0) (v := .ref (ad 1)) (C := RX2) (ref := RX2) (fs := [.ref (ad 1), .ref (ad 2), .int af, .int cf]) hx hb hown hts hG gX2 rfl fp_0 (by decide) t_53 rfl rfl dX2_twin_40 ?_
  refine lv_iload_n hx hb dX2_twin_43 rfl (lv_at hl 5 rfl) ?_
  refine g_aald (i := n) (t0 := 1) hx hb hG fp_1 rfl (hn) (by decide) rfl dX2_twin_44 ?_
  refine lv_astore (lv' := [(7, .ref (ad (5 + 3 * n))), (6, .int (nI (fr j k))), (5, .int 0), (0, .ref (ad 0)), (1, .int (nI j)), (2, .int (nI k)), (3, .int (nI n)), (4, .int v)]) hx hb dX2_twin_45 hl (by decide) rfl (fun ls hl => ?_)
  refine lv_iconst (v := nI 0) hx hb dX2_twin_47 (by decide) ?_
  refine lv_istore (lv' := [(8, .int (nI 0)), (7, .ref (ad (5 + 3 * n))), (6, .int (nI (fr j k))), (5, .int 0), (0, .ref (ad 0)), (1, .int (nI j)), (2, .int (nI k)), (3, .int (nI n)), (4, .int v)]) hx hb dX2_twin_48 hl (by decide) rfl (fun ls hl => ?_)
  have loop : ∀ (n0 i : Nat) (H : Heap) (locs : List Loc) (ls : Array Slot), i + n0 = 64 → gG D cls (fpT cI cQ cZ) A s (fpW ad cI cQ run mp fr kd wd ct af cf) H locs → lv_has ls 9 [(8, .int (nI i)), (7, .ref (ad (5 + 3 * n))), (6, .int (nI (fr j k))), (5, .int 0), (0, .ref (ad 0)), (1, .int (nI j)), (2, .int (nI k)), (3, .int (nI n)), (4, .int v)] → W p l e (gR 2 43) s m args below meth c H locs 0 0 (gQ below args s D cls (fpT cI cQ cZ) A (some (.int (nI 64))) (fpW ad cI cQ run mp fr kd wd ct af cf)) (F0 m 50 ls []) := by
    intro n0
    induction n0 with
    | zero =>
      intro i H locs ls hi hG hl
      obtain rfl : i = 64 := by omega
      refine lv_iload hx hb dX2_twin_50 (lv_at hl 0 rfl) ?_
      refine lv_bipush (v := nI 64) hx hb dX2_twin_52 (by decide) ?_
      refine lv_icmp_ge (tgt := 96) hx hb dX2_twin_54 rfl (fun _ => ?_) (fun hh => absurd (nI_le (Nat.le_refl 64) (by decide)) hh)
      refine lv_bipush (v := nI 64) hx hb dX2_twin_96 (by decide) ?_
      exact g_iret hx hb hr hlk hG dX2_twin_98
    | succ n0 ih =>
      intro i H locs ls hi hG hl
      have hi6 : i < 64 := by omega
      have hno := hm i (by omega)
      by_cases hv : v < nI i
      · cases hc : mp n i
        · refine lv_iload hx hb dX2_twin_50 (lv_at hl 0 rfl) ?_
          refine lv_bipush (v := nI 64) hx hb dX2_twin_52 (by decide) ?_
          refine lv_icmp_ge (tgt := 96) hx hb dX2_twin_54 rfl (fun hh => absurd hh (nI_ge hi6 (by decide))) (fun _ => ?_)
          refine lv_iload hx hb dX2_twin_57 (lv_at hl 0 rfl) ?_
          refine lv_iload hx hb dX2_twin_59 (lv_at hl 8 rfl) ?_
          refine lv_icmp_le (tgt := 90) hx hb dX2_twin_61 rfl (fun hh => absurd hh (Int32.not_le.mpr hv)) (fun _ => ?_)
          refine lv_aload hx hb dX2_twin_64 (lv_at hl 1 rfl) ?_
          refine lv_iload hx hb dX2_twin_66 (lv_at hl 0 rfl) ?_
          refine g_callVN (As := [.int (nI i)]) (rest := []) (fs := [.int (bI (run n)), .long (en (mp n)), .ref (ad (6 + 3 * n)), .ref (ad (7 + 3 * n))]) (fm_has_f hn hi6 hc) hx hb hml hown hts hN hG t_101 t_103 s_5 t_2 t_104 nm_X0_has ⟨by decide, by decide⟩ (fp_5 (hn)) rfl hl.1 (Nat.le_of_ble_eq_true rfl) dX2_twin_68 ⟨Nat.zero_le _, Nat.zero_le _⟩ (fun H locs hG => ?_)
          refine W.eq (g2 := F0 m 71 ls [.int 0]) rfl ?_
          refine lv_if_eq (tgt := 90) hx hb dX2_twin_71 rfl (fun _ => ?_) (fun hh => absurd (rfl) hh)
          refine lv_iinc (k := 0) (v := nI (i + 1)) (lv' := [(8, .int (nI (i + 1))), (7, .ref (ad (5 + 3 * n))), (6, .int (nI (fr j k))), (5, .int 0), (0, .ref (ad 0)), (1, .int (nI j)), (2, .int (nI k)), (3, .int (nI n)), (4, .int v)]) hx hb dX2_twin_90 hl rfl (nI_1 i) (by decide) rfl (fun ls hl => ?_)
          refine lv_goto (tgt := 50) hx hb dX2_twin_93 rfl ?_
          exact ih (i + 1) _ _ _ (by omega) hG (lv_sub hl [0, 1, 2, 3, 4, 5, 6, 7, 8] rfl)
        · refine lv_iload hx hb dX2_twin_50 (lv_at hl 0 rfl) ?_
          refine lv_bipush (v := nI 64) hx hb dX2_twin_52 (by decide) ?_
          refine lv_icmp_ge (tgt := 96) hx hb dX2_twin_54 rfl (fun hh => absurd hh (nI_ge hi6 (by decide))) (fun _ => ?_)
          refine lv_iload hx hb dX2_twin_57 (lv_at hl 0 rfl) ?_
          refine lv_iload hx hb dX2_twin_59 (lv_at hl 8 rfl) ?_
          refine lv_icmp_le (tgt := 90) hx hb dX2_twin_61 rfl (fun hh => absurd hh (Int32.not_le.mpr hv)) (fun _ => ?_)
          refine lv_aload hx hb dX2_twin_64 (lv_at hl 1 rfl) ?_
          refine lv_iload hx hb dX2_twin_66 (lv_at hl 0 rfl) ?_
          refine g_callVN (As := [.int (nI i)]) (rest := []) (fs := [.int (bI (run n)), .long (en (mp n)), .ref (ad (6 + 3 * n)), .ref (ad (7 + 3 * n))]) (fm_has_t hn hi6 hc) hx hb hml hown hts hN hG t_101 t_103 s_5 t_2 t_104 nm_X0_has ⟨by decide, by decide⟩ (fp_5 (hn)) rfl hl.1 (Nat.le_of_ble_eq_true rfl) dX2_twin_68 ⟨Nat.zero_le _, Nat.zero_le _⟩ (fun H locs hG => ?_)
          refine W.eq (g2 := F0 m 71 ls [.int 1]) rfl ?_
          refine lv_if_eq (tgt := 90) hx hb dX2_twin_71 rfl (fun hh => absurd hh (by decide)) (fun _ => ?_)
          refine lv_aload hx hb dX2_twin_74 (lv_at hl 1 rfl) ?_
          refine g_getN (k := 2) (v := .ref (ad (6 + 3 * n))) (C := RX0) (ref := RX0) (fs := [.int (bI (run n)), .long (en (mp n)), .ref (ad (6 + 3 * n)), .ref (ad (7 + 3 * n))]) hx hb hown hts hN hG gX0 rfl (fp_5 (hn)) (by decide) t_25 rfl rfl dX2_twin_76 ?_
          refine lv_iload hx hb dX2_twin_79 (lv_at hl 0 rfl) ?_
          refine g_iald (i := i) (t0 := 0) hx hb hG (fp_6 (hn)) rfl (hi6) (by decide) dX2_twin_81 ?_
          refine lv_iload hx hb dX2_twin_82 (lv_at hl 2 rfl) ?_
          refine lv_icmp_ne (tgt := 90) hx hb dX2_twin_84 rfl (fun _ => ?_) (fun hh => absurd hh (fun q => hno ⟨hv, hc, (nI_eq (Nat.lt_trans (hfn i hi6 hc) (by decide)) (Nat.lt_trans hf (by decide))).mp q⟩))
          refine lv_iinc (k := 0) (v := nI (i + 1)) (lv' := [(8, .int (nI (i + 1))), (7, .ref (ad (5 + 3 * n))), (6, .int (nI (fr j k))), (5, .int 0), (0, .ref (ad 0)), (1, .int (nI j)), (2, .int (nI k)), (3, .int (nI n)), (4, .int v)]) hx hb dX2_twin_90 hl rfl (nI_1 i) (by decide) rfl (fun ls hl => ?_)
          refine lv_goto (tgt := 50) hx hb dX2_twin_93 rfl ?_
          exact ih (i + 1) _ _ _ (by omega) hG (lv_sub hl [0, 1, 2, 3, 4, 5, 6, 7, 8] rfl)
      · refine lv_iload hx hb dX2_twin_50 (lv_at hl 0 rfl) ?_
        refine lv_bipush (v := nI 64) hx hb dX2_twin_52 (by decide) ?_
        refine lv_icmp_ge (tgt := 96) hx hb dX2_twin_54 rfl (fun hh => absurd hh (nI_ge hi6 (by decide))) (fun _ => ?_)
        refine lv_iload hx hb dX2_twin_57 (lv_at hl 0 rfl) ?_
        refine lv_iload hx hb dX2_twin_59 (lv_at hl 8 rfl) ?_
        refine lv_icmp_le (tgt := 90) hx hb dX2_twin_61 rfl (fun _ => ?_) (fun hh => absurd (Int32.not_lt.mp hv) hh)
        refine lv_iinc (k := 0) (v := nI (i + 1)) (lv' := [(8, .int (nI (i + 1))), (7, .ref (ad (5 + 3 * n))), (6, .int (nI (fr j k))), (5, .int 0), (0, .ref (ad 0)), (1, .int (nI j)), (2, .int (nI k)), (3, .int (nI n)), (4, .int v)]) hx hb dX2_twin_90 hl rfl (nI_1 i) (by decide) rfl (fun ls hl => ?_)
        refine lv_goto (tgt := 50) hx hb dX2_twin_93 rfl ?_
        exact ih (i + 1) _ _ _ (by omega) hG (lv_sub hl [0, 1, 2, 3, 4, 5, 6, 7, 8] rfl)
  exact loop 64 0 _ _ _ (by omega) hG (lv_sub hl [0, 1, 2, 3, 4, 5, 6, 7, 8] rfl)
set_option maxHeartbeats 4000000 in
set_option maxRecDepth 100000 in
theorem fp_twin_hit {j n k : Nat} {v : Int32} (hj : j < 5) (h : run j = true) (hn : n < 5) (h1 : run n = true) (hk : k < 64) (h2 : mp j k = true) (hf : fr j k < 24) (hfn : ∀ i, i < 64 → mp n i = true → fr n i < 24) {c0 : Nat} (hc6 : c0 < 64) (hc : twP mp fr n (fr j k) v c0) (hm : ∀ i, i < c0 → ¬ twP mp fr n (fr j k) v i) : gM l yX2_twin cX2_twin 9 (some .int) 2 43 D cls (fpT cI cQ cZ) A (fpW ad cI cQ run mp fr kd wd ct af cf) [.ref (ad 0), .int (nI j), .int (nI k), .int (nI n), .int v] (some (.int (nI c0))) (fpW ad cI cQ run mp fr kd wd ct af cf) := by
  refine gM_of (by decide) (Nat.le_of_ble_eq_true rfl) ?_
  intro p e s m args below meth c ls hx hb hml hown hts hN hr hlk hl hG
  have hown : s.vm.findClass RX2 = some m.cls := hown
  have hl : lv_has ls 9 [(0, .ref (ad 0)), (1, .int (nI j)), (2, .int (nI k)), (3, .int (nI n)), (4, .int v)] := hl
  refine lv_aload_n hx hb dX2_twin_0 rfl (lv_at hl 0 rfl) ?_
  refine lv_iload_n hx hb dX2_twin_1 rfl (lv_at hl 3 rfl) ?_
  refine g_callV (As := [.int (nI n)]) (rest := []) (fs := [.ref (ad 1), .ref (ad 2), .int af, .int cf]) (fm_isRunning_t hn h1) hx hb hml hown hts hN hG t_97 t_99 s_4 t_1 t_100 nm_X2_isRunning ⟨by decide, by decide⟩ fp_0 rfl hl.1 (Nat.le_of_ble_eq_true rfl) dX2_twin_2 ⟨Nat.zero_le _, Nat.zero_le _⟩ (fun H locs hG => ?_)
  refine W.eq (g2 := F0 m 5 ls [.int 1]) rfl ?_
  refine lv_if_ne (tgt := 10) hx hb dX2_twin_5 rfl (fun _ => ?_) (fun hh => absurd hh (by decide))
  refine lv_aload_n hx hb dX2_twin_10 rfl (lv_at hl 0 rfl) ?_
  refine lv_iload_n hx hb dX2_twin_11 rfl (lv_at hl 1 rfl) ?_
  refine lv_iload_n hx hb dX2_twin_12 rfl (lv_at hl 2 rfl) ?_
  refine g_callV (As := [.int (nI j), .int (nI k)]) (rest := []) (fs := [.ref (ad 1), .ref (ad 2), .int af, .int cf]) (fm_rM_0 hj h hk h2) hx hb hml hown hts hN hG t_165 t_167 s_16 t_1 t_168 nm_X2_refusalOfMapped ⟨by decide, by decide⟩ fp_0 rfl hl.1 (Nat.le_of_ble_eq_true rfl) dX2_twin_13 ⟨Nat.zero_le _, Nat.zero_le _⟩ (fun H locs hG => ?_)
  refine W.eq (g2 := F0 m 16 ls [.int 0]) rfl ?_
  refine lv_istore (lv' := [(5, .int 0), (0, .ref (ad 0)), (1, .int (nI j)), (2, .int (nI k)), (3, .int (nI n)), (4, .int v)]) hx hb dX2_twin_16 hl (by decide) rfl (fun ls hl => ?_)
  refine lv_iload hx hb dX2_twin_18 (lv_at hl 0 rfl) ?_
  refine lv_if_eq (tgt := 26) hx hb dX2_twin_20 rfl (fun _ => ?_) (fun hh => absurd (rfl) hh)
  refine lv_aload_n hx hb dX2_twin_26 rfl (lv_at hl 1 rfl) ?_
  refine g_get (k := 0) (v := .ref (ad 1)) (C := RX2) (ref := RX2) (fs := [.ref (ad 1), .ref (ad 2), .int af, .int cf]) hx hb hown hts hG gX2 rfl fp_0 (by decide) t_53 rfl rfl dX2_twin_27 ?_
  refine lv_iload_n hx hb dX2_twin_30 rfl (lv_at hl 2 rfl) ?_
  refine g_aald (i := j) (t0 := 1) hx hb hG fp_1 rfl (hj) (by decide) rfl dX2_twin_31 ?_
  refine g_getN (k := 2) (v := .ref (ad (6 + 3 * j))) (C := RX0) (ref := RX0) (fs := [.int (bI (run j)), .long (en (mp j)), .ref (ad (6 + 3 * j)), .ref (ad (7 + 3 * j))]) hx hb hown hts hN hG gX0 rfl (fp_5 (hj)) (by decide) t_25 rfl rfl dX2_twin_32 ?_
  refine lv_iload_n hx hb dX2_twin_35 rfl (lv_at hl 3 rfl) ?_
  refine g_iald (i := k) (t0 := 0) hx hb hG (fp_6 (hj)) rfl (hk) (by decide) dX2_twin_36 ?_
  refine lv_istore (lv' := [(6, .int (nI (fr j k))), (5, .int 0), (0, .ref (ad 0)), (1, .int (nI j)), (2, .int (nI k)), (3, .int (nI n)), (4, .int v)]) hx hb dX2_twin_37 hl (by decide) rfl (fun ls hl => ?_)
  refine lv_aload_n hx hb dX2_twin_39 rfl (lv_at hl 2 rfl) ?_
  refine g_get (k := 0) (v := .ref (ad 1)) (C := RX2) (ref := RX2) (fs := [.ref (ad 1), .ref (ad 2), .int af, .int cf]) hx hb hown hts hG gX2 rfl fp_0 (by decide) t_53 rfl rfl dX2_twin_40 ?_
  refine lv_iload_n hx hb dX2_twin_43 rfl (lv_at hl 5 rfl) ?_
  refine g_aald (i := n) (t0 := 1) hx hb hG fp_1 rfl (hn) (by decide) rfl dX2_twin_44 ?_
  refine lv_astore (lv' := [(7, .ref (ad (5 + 3 * n))), (6, .int (nI (fr j k))), (5, .int 0), (0, .ref (ad 0)), (1, .int (nI j)), (2, .int (nI k)), (3, .int (nI n)), (4, .int v)]) hx hb dX2_twin_45 hl (by decide) rfl (fun ls hl => ?_)
  refine lv_iconst (v := nI 0) hx hb dX2_twin_47 (by decide) ?_
  refine lv_istore (lv' := [(8, .int (nI 0)), (7, .ref (ad (5 + 3 * n))), (6, .int (nI (fr j k))), (5, .int 0), (0, .ref (ad 0)), (1, .int (nI j)), (2, .int (nI k)), (3, .int (nI n)), (4, .int v)]) hx hb dX2_twin_48 hl (by decide) rfl (fun ls hl => ?_)
  have loop : ∀ (n0 i : Nat) (H : Heap) (locs : List Loc) (ls : Array Slot), i + n0 = c0 → gG D cls (fpT cI cQ cZ) A s (fpW ad cI cQ run mp fr kd wd ct af cf) H locs → lv_has ls 9 [(8, .int (nI i)), (7, .ref (ad (5 + 3 * n))), (6, .int (nI (fr j k))), (5, .int 0), (0, .ref (ad 0)), (1, .int (nI j)), (2, .int (nI k)), (3, .int (nI n)), (4, .int v)] → W p l e (gR 2 43) s m args below meth c H locs 0 0 (gQ below args s D cls (fpT cI cQ cZ) A (some (.int (nI c0))) (fpW ad cI cQ run mp fr kd wd ct af cf)) (F0 m 50 ls []) := by
    intro n0
    induction n0 with
    | zero =>
      intro i H locs ls hi hG hl
      obtain rfl : i = c0 := by omega
      refine lv_iload hx hb dX2_twin_50 (lv_at hl 0 rfl) ?_
      refine lv_bipush (v := nI 64) hx hb dX2_twin_52 (by decide) ?_
      refine lv_icmp_ge (tgt := 96) hx hb dX2_twin_54 rfl (fun hh => absurd hh (nI_ge hc6 (by decide))) (fun _ => ?_)
      refine lv_iload hx hb dX2_twin_57 (lv_at hl 0 rfl) ?_
      refine lv_iload hx hb dX2_twin_59 (lv_at hl 8 rfl) ?_
      refine lv_icmp_le (tgt := 90) hx hb dX2_twin_61 rfl (fun hh => absurd hh (Int32.not_le.mpr hc.1)) (fun _ => ?_)
      refine lv_aload hx hb dX2_twin_64 (lv_at hl 1 rfl) ?_
      refine lv_iload hx hb dX2_twin_66 (lv_at hl 0 rfl) ?_
      refine g_callVN (As := [.int (nI i)]) (rest := []) (fs := [.int (bI (run n)), .long (en (mp n)), .ref (ad (6 + 3 * n)), .ref (ad (7 + 3 * n))]) (fm_has_t hn hc6 hc.2.1) hx hb hml hown hts hN hG t_101 t_103 s_5 t_2 t_104 nm_X0_has ⟨by decide, by decide⟩ (fp_5 (hn)) rfl hl.1 (Nat.le_of_ble_eq_true rfl) dX2_twin_68 ⟨Nat.zero_le _, Nat.zero_le _⟩ (fun H locs hG => ?_)
      refine W.eq (g2 := F0 m 71 ls [.int 1]) rfl ?_
      refine lv_if_eq (tgt := 90) hx hb dX2_twin_71 rfl (fun hh => absurd hh (by decide)) (fun _ => ?_)
      refine lv_aload hx hb dX2_twin_74 (lv_at hl 1 rfl) ?_
      refine g_getN (k := 2) (v := .ref (ad (6 + 3 * n))) (C := RX0) (ref := RX0) (fs := [.int (bI (run n)), .long (en (mp n)), .ref (ad (6 + 3 * n)), .ref (ad (7 + 3 * n))]) hx hb hown hts hN hG gX0 rfl (fp_5 (hn)) (by decide) t_25 rfl rfl dX2_twin_76 ?_
      refine lv_iload hx hb dX2_twin_79 (lv_at hl 0 rfl) ?_
      refine g_iald (i := i) (t0 := 0) hx hb hG (fp_6 (hn)) rfl (hc6) (by decide) dX2_twin_81 ?_
      refine lv_iload hx hb dX2_twin_82 (lv_at hl 2 rfl) ?_
      refine lv_icmp_ne (tgt := 90) hx hb dX2_twin_84 rfl (fun hh => absurd (by rw [hc.2.2]) hh) (fun _ => ?_)
      refine lv_iload hx hb dX2_twin_87 (lv_at hl 0 rfl) ?_
      exact g_iret hx hb hr hlk hG dX2_twin_89
    | succ n0 ih =>
      intro i H locs ls hi hG hl
      have hi6 : i < 64 := by omega
      have hno := hm i (by omega)
      by_cases hv : v < nI i
      · cases hc : mp n i
        · refine lv_iload hx hb dX2_twin_50 (lv_at hl 0 rfl) ?_
          refine lv_bipush (v := nI 64) hx hb dX2_twin_52 (by decide) ?_
          refine lv_icmp_ge (tgt := 96) hx hb dX2_twin_54 rfl (fun hh => absurd hh (nI_ge hi6 (by decide))) (fun _ => ?_)
          refine lv_iload hx hb dX2_twin_57 (lv_at hl 0 rfl) ?_
          refine lv_iload hx hb dX2_twin_59 (lv_at hl 8 rfl) ?_
          refine lv_icmp_le (tgt := 90) hx hb dX2_twin_61 rfl (fun hh => absurd hh (Int32.not_le.mpr hv)) (fun _ => ?_)
          refine lv_aload hx hb dX2_twin_64 (lv_at hl 1 rfl) ?_
          refine lv_iload hx hb dX2_twin_66 (lv_at hl 0 rfl) ?_
          refine g_callVN (As := [.int (nI i)]) (rest := []) (fs := [.int (bI (run n)), .long (en (mp n)), .ref (ad (6 + 3 * n)), .ref (ad (7 + 3 * n))]) (fm_has_f hn hi6 hc) hx hb hml hown hts hN hG t_101 t_103 s_5 t_2 t_104 nm_X0_has ⟨by decide, by decide⟩ (fp_5 (hn)) rfl hl.1 (Nat.le_of_ble_eq_true rfl) dX2_twin_68 ⟨Nat.zero_le _, Nat.zero_le _⟩ (fun H locs hG => ?_)
          refine W.eq (g2 := F0 m 71 ls [.int 0]) rfl ?_
          refine lv_if_eq (tgt := 90) hx hb dX2_twin_71 rfl (fun _ => ?_) (fun hh => absurd (rfl) hh)
          refine lv_iinc (k := 0) (v := nI (i + 1)) (lv' := [(8, .int (nI (i + 1))), (7, .ref (ad (5 + 3 * n))), (6, .int (nI (fr j k))), (5, .int 0), (0, .ref (ad 0)), (1, .int (nI j)), (2, .int (nI k)), (3, .int (nI n)), (4, .int v)]) hx hb dX2_twin_90 hl rfl (nI_1 i) (by decide) rfl (fun ls hl => ?_)
          refine lv_goto (tgt := 50) hx hb dX2_twin_93 rfl ?_
          exact ih (i + 1) _ _ _ (by omega) hG (lv_sub hl [0, 1, 2, 3, 4, 5, 6, 7, 8] rfl)
        · refine lv_iload hx hb dX2_twin_50 (lv_at hl 0 rfl) ?_
          refine lv_bipush (v := nI 64) hx hb dX2_twin_52 (by decide) ?_
          refine lv_icmp_ge (tgt := 96) hx hb dX2_twin_54 rfl (fun hh => absurd hh (nI_ge hi6 (by decide))) (fun _ => ?_)
          refine lv_iload hx hb dX2_twin_57 (lv_at hl 0 rfl) ?_
          refine lv_iload hx hb dX2_twin_59 (lv_at hl 8 rfl) ?_
          refine lv_icmp_le (tgt := 90) hx hb dX2_twin_61 rfl (fun hh => absurd hh (Int32.not_le.mpr hv)) (fun _ => ?_)
          refine lv_aload hx hb dX2_twin_64 (lv_at hl 1 rfl) ?_
          refine lv_iload hx hb dX2_twin_66 (lv_at hl 0 rfl) ?_
          refine g_callVN (As := [.int (nI i)]) (rest := []) (fs := [.int (bI (run n)), .long (en (mp n)), .ref (ad (6 + 3 * n)), .ref (ad (7 + 3 * n))]) (fm_has_t hn hi6 hc) hx hb hml hown hts hN hG t_101 t_103 s_5 t_2 t_104 nm_X0_has ⟨by decide, by decide⟩ (fp_5 (hn)) rfl hl.1 (Nat.le_of_ble_eq_true rfl) dX2_twin_68 ⟨Nat.zero_le _, Nat.zero_le _⟩ (fun H locs hG => ?_)
          refine W.eq (g2 := F0 m 71 ls [.int 1]) rfl ?_
          refine lv_if_eq (tgt := 90) hx hb dX2_twin_71 rfl (fun hh => absurd hh (by decide)) (fun _ => ?_)
          refine lv_aload hx hb dX2_twin_74 (lv_at hl 1 rfl) ?_
          refine g_getN (k := 2) (v := .ref (ad (6 + 3 * n))) (C := RX0) (ref := RX0) (fs := [.int (bI (run n)), .long (en (mp n)), .ref (ad (6 + 3 * n)), .ref (ad (7 + 3 * n))]) hx hb hown hts hN hG gX0 rfl (fp_5 (hn)) (by decide) t_25 rfl rfl dX2_twin_76 ?_
          refine lv_iload hx hb dX2_twin_79 (lv_at hl 0 rfl) ?_
          refine g_iald (i := i) (t0 := 0) hx hb hG (fp_6 (hn)) rfl (hi6) (by decide) dX2_twin_81 ?_
          refine lv_iload hx hb dX2_twin_82 (lv_at hl 2 rfl) ?_
          refine lv_icmp_ne (tgt := 90) hx hb dX2_twin_84 rfl (fun _ => ?_) (fun hh => absurd hh (fun q => hno ⟨hv, hc, (nI_eq (Nat.lt_trans (hfn i hi6 hc) (by decide)) (Nat.lt_trans hf (by decide))).mp q⟩))
          refine lv_iinc (k := 0) (v := nI (i + 1)) (lv' := [(8, .int (nI (i + 1))), (7, .ref (ad (5 + 3 * n))), (6, .int (nI (fr j k))), (5, .int 0), (0, .ref (ad 0)), (1, .int (nI j)), (2, .int (nI k)), (3, .int (nI n)), (4, .int v)]) hx hb dX2_twin_90 hl rfl (nI_1 i) (by decide) rfl (fun ls hl => ?_)
          refine lv_goto (tgt := 50) hx hb dX2_twin_93 rfl ?_
          exact ih (i + 1) _ _ _ (by omega) hG (lv_sub hl [0, 1, 2, 3, 4, 5, 6, 7, 8] rfl)
      · refine lv_iload hx hb dX2_twin_50 (lv_at hl 0 rfl) ?_
        refine lv_bipush (v := nI 64) hx hb dX2_twin_52 (by decide) ?_
        refine lv_icmp_ge (tgt := 96) hx hb dX2_twin_54 rfl (fun hh => absurd hh (nI_ge hi6 (by decide))) (fun _ => ?_)
        refine lv_iload hx hb dX2_twin_57 (lv_at hl 0 rfl) ?_
        refine lv_iload hx hb dX2_twin_59 (lv_at hl 8 rfl) ?_
        refine lv_icmp_le (tgt := 90) hx hb dX2_twin_61 rfl (fun _ => ?_) (fun hh => absurd (Int32.not_lt.mp hv) hh)
        refine lv_iinc (k := 0) (v := nI (i + 1)) (lv' := [(8, .int (nI (i + 1))), (7, .ref (ad (5 + 3 * n))), (6, .int (nI (fr j k))), (5, .int 0), (0, .ref (ad 0)), (1, .int (nI j)), (2, .int (nI k)), (3, .int (nI n)), (4, .int v)]) hx hb dX2_twin_90 hl rfl (nI_1 i) (by decide) rfl (fun ls hl => ?_)
        refine lv_goto (tgt := 50) hx hb dX2_twin_93 rfl ?_
        exact ih (i + 1) _ _ _ (by omega) hG (lv_sub hl [0, 1, 2, 3, 4, 5, 6, 7, 8] rfl)
  exact loop c0 0 _ _ _ (by omega) hG (lv_sub hl [0, 1, 2, 3, 4, 5, 6, 7, 8] rfl)
end CM
