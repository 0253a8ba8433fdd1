section CM
variable {l : Launch} {D : va_G} {A : Nat → Prop} {ad : Nat → Nat} {cI cQ cZ : ClassId} {run : Nat → Bool} {mp : Nat → Nat → Bool} {fr : Nat → Nat → Nat} {kd : Nat → Nat → Int32} {wd ct : Nat → Int32} {af cf : Int32}
set_option maxHeartbeats 4000000 in
set_option maxRecDepth 100000 in
theorem fp_map_1 {x y z : Int32} (h : ¬ rn run x) : gM l yX2_map cX2_map 7 (some .int) 4 90 D cls (fpT cI cQ cZ) A (fpW ad cI cQ run mp fr kd wd ct af cf) [.ref (ad 0), .int x, .int y, .int z] (some (.int (-1))) (fpW ad cI cQ run mp fr kd wd ct af cf) := by
  refine gM_of (by decide) (Nat.le_of_ble_eq_true rfl) ?_
  intro p e s m args below meth c ls hx hb hml hown hts hN hr hlk hl hG
  have hown : s.vm.findClass RX2 = some m.cls := hown
  have hl : lv_has ls 7 [(0, .ref (ad 0)), (1, .int x), (2, .int y), (3, .int z)] := hl
  refine lv_aload_n hx hb dX2_map_0 rfl (lv_at hl 0 rfl) ?_
  refine lv_iload_n hx hb dX2_map_1 rfl (lv_at hl 1 rfl) ?_
  refine g_callV (As := [.int x]) (rest := []) (fs := [.ref (ad 1), .ref (ad 2), .int af, .int cf]) (fm_isRunning_n h) hx hb hml hown hts hN hG t_97 t_99 s_4 t_1 t_100 nm_X2_isRunning ⟨by decide, by decide⟩ fp_0 rfl hl.1 (Nat.le_of_ble_eq_true rfl) dX2_map_2 ⟨Nat.zero_le _, Nat.zero_le _⟩ (fun H locs hG => ?_)
  refine W.eq (g2 := F0 m 5 ls [.int 0]) rfl ?_
  refine lv_if_ne (tgt := 10) hx hb dX2_map_5 rfl (fun hh => absurd (rfl) hh) (fun _ => ?_)
  refine lv_iconst (v := (-1)) hx hb dX2_map_8 (by decide) ?_
  exact g_iret hx hb hr hlk hG dX2_map_9
set_option maxHeartbeats 4000000 in
set_option maxRecDepth 100000 in
theorem fp_map_2 {j : Nat} {y z : Int32} (hj : j < 5) (h : run j = true) (h2 : ¬ pgI y) : gM l yX2_map cX2_map 7 (some .int) 4 90 D cls (fpT cI cQ cZ) A (fpW ad cI cQ run mp fr kd wd ct af cf) [.ref (ad 0), .int (nI j), .int y, .int z] (some (.int (-2))) (fpW ad cI cQ run mp fr kd wd ct af cf) := by
  refine gM_of (by decide) (Nat.le_of_ble_eq_true rfl) ?_
  intro p e s m args below meth c ls hx hb hml hown hts hN hr hlk hl hG
  have hown : s.vm.findClass RX2 = some m.cls := hown
  have hl : lv_has ls 7 [(0, .ref (ad 0)), (1, .int (nI j)), (2, .int y), (3, .int z)] := hl
  refine lv_aload_n hx hb dX2_map_0 rfl (lv_at hl 0 rfl) ?_
  refine lv_iload_n hx hb dX2_map_1 rfl (lv_at hl 1 rfl) ?_
  refine g_callV (As := [.int (nI j)]) (rest := []) (fs := [.ref (ad 1), .ref (ad 2), .int af, .int cf]) (fm_isRunning_t hj h) hx hb hml hown hts hN hG t_97 t_99 s_4 t_1 t_100 nm_X2_isRunning ⟨by decide, by decide⟩ fp_0 rfl hl.1 (Nat.le_of_ble_eq_true rfl) dX2_map_2 ⟨Nat.zero_le _, Nat.zero_le _⟩ (fun H locs hG => ?_)
  refine W.eq (g2 := F0 m 5 ls [.int 1]) rfl ?_
  refine lv_if_ne (tgt := 10) hx hb dX2_map_5 rfl (fun _ => ?_) (fun hh => absurd hh (by decide))
  refine lv_iload_n hx hb dX2_map_10 rfl (lv_at hl 2 rfl) ?_
  refine g_callS (As := [.int y]) (rest := []) (fm_isPage_n h2) hx hb hml hown hts hN hG t_142 t_143 t_1 t_144 nm_X2_isPage ⟨by decide, by decide⟩ hl.1 (Nat.le_of_ble_eq_true rfl) dX2_map_11 ⟨Nat.zero_le _, Nat.zero_le _⟩ (fun H locs hG => ?_)
  refine W.eq (g2 := F0 m 14 ls [.int 0]) rfl ?_
  refine lv_if_ne (tgt := 20) hx hb dX2_map_14 rfl (fun hh => absurd (rfl) hh) (fun _ => ?_)
  refine lv_bipush (v := (-2)) hx hb dX2_map_17 (by decide) ?_
  exact g_iret hx hb hr hlk hG dX2_map_19
set_option maxHeartbeats 4000000 in
set_option maxRecDepth 100000 in
theorem fp_map_4 {j k : Nat} (hj : j < 5) (hk : k < 64) {z : Int32} (h : run j = true) (h2 : mp j k = true) : gM l yX2_map cX2_map 7 (some .int) 4 90 D cls (fpT cI cQ cZ) A (fpW ad cI cQ run mp fr kd wd ct af cf) [.ref (ad 0), .int (nI j), .int (nI k), .int z] (some (.int (-4))) (fpW ad cI cQ run mp fr kd wd ct af cf) := by
  refine gM_of (by decide) (Nat.le_of_ble_eq_true rfl) ?_
  intro p e s m args below meth c ls hx hb hml hown hts hN hr hlk hl hG
  have hown : s.vm.findClass RX2 = some m.cls := hown
  have hl : lv_has ls 7 [(0, .ref (ad 0)), (1, .int (nI j)), (2, .int (nI k)), (3, .int z)] := hl
  refine lv_aload_n hx hb dX2_map_0 rfl (lv_at hl 0 rfl) ?_
  refine lv_iload_n hx hb dX2_map_1 rfl (lv_at hl 1 rfl) ?_
  refine g_callV (As := [.int (nI j)]) (rest := []) (fs := [.ref (ad 1), .ref (ad 2), .int af, .int cf]) (fm_isRunning_t hj h) hx hb hml hown hts hN hG t_97 t_99 s_4 t_1 t_100 nm_X2_isRunning ⟨by decide, by decide⟩ fp_0 rfl hl.1 (Nat.le_of_ble_eq_true rfl) dX2_map_2 ⟨Nat.zero_le _, Nat.zero_le _⟩ (fun H locs hG => ?_)
  refine W.eq (g2 := F0 m 5 ls [.int 1]) rfl ?_
  refine lv_if_ne (tgt := 10) hx hb dX2_map_5 rfl (fun _ => ?_) (fun hh => absurd hh (by decide))
  refine lv_iload_n hx hb dX2_map_10 rfl (lv_at hl 2 rfl) ?_
  refine g_callS (As := [.int (nI k)]) (rest := []) (fm_isPage_t hk) hx hb hml hown hts hN hG t_142 t_143 t_1 t_144 nm_X2_isPage ⟨by decide, by decide⟩ hl.1 (Nat.le_of_ble_eq_true rfl) dX2_map_11 ⟨Nat.zero_le _, Nat.zero_le _⟩ (fun H locs hG => ?_)
  refine W.eq (g2 := F0 m 14 ls [.int 1]) rfl ?_
  refine lv_if_ne (tgt := 20) hx hb dX2_map_14 rfl (fun _ => ?_) (fun hh => absurd hh (by decide))
  refine lv_aload_n hx hb dX2_map_20 rfl (lv_at hl 0 rfl) ?_
  refine g_get (k := 0) (v := .ref (ad 1)) (C := RX2) (ref := RX2) (fs := [.ref (ad 1), .ref (ad 2), .int af, .int cf]) hx hb hown hts hG gX2 rfl fp_0 (by decide) t_53 rfl rfl dX2_map_21 ?_
  refine lv_iload_n hx hb dX2_map_24 rfl (lv_at hl 1 rfl) ?_
  refine g_aald (i := j) (t0 := 1) hx hb hG fp_1 rfl (hj) (by decide) rfl dX2_map_25 ?_
  refine lv_astore (lv' := [(4, .ref (ad (5 + 3 * j))), (0, .ref (ad 0)), (1, .int (nI j)), (2, .int (nI k)), (3, .int z)]) hx hb dX2_map_26 hl (by decide) rfl (fun ls hl => ?_)
  refine lv_aload hx hb dX2_map_28 (lv_at hl 0 rfl) ?_
  refine lv_iload_n hx hb dX2_map_30 rfl (lv_at hl 3 rfl) ?_
  refine g_callVN (As := [.int (nI k)]) (rest := []) (fs := [.int (bI (run j)), .long (en (mp j)), .ref (ad (6 + 3 * j)), .ref (ad (7 + 3 * j))]) (fm_has_t hj hk h2) hx hb hml hown hts hN hG t_101 t_103 s_5 t_2 t_104 nm_X0_has ⟨by decide, by decide⟩ (fp_5 (hj)) rfl hl.1 (Nat.le_of_ble_eq_true rfl) dX2_map_31 ⟨Nat.zero_le _, Nat.zero_le _⟩ (fun H locs hG => ?_)
  refine W.eq (g2 := F0 m 34 ls [.int 1]) rfl ?_
  refine lv_if_eq (tgt := 40) hx hb dX2_map_34 rfl (fun hh => absurd hh (by decide)) (fun _ => ?_)
  refine lv_bipush (v := (-4)) hx hb dX2_map_37 (by decide) ?_
  exact g_iret hx hb hr hlk hG dX2_map_39
set_option maxHeartbeats 4000000 in
set_option maxRecDepth 100000 in
theorem fp_map_8 {j k : Nat} (hj : j < 5) (hk : k < 64) {z : Int32} (h : run j = true) (h2 : mp j k = false) (h3 : ¬ 1 + (nI (tbN (up1 (mp j) k true)) - nI (tbN (mp j))) ≤ frF run mp ct) : gM l yX2_map cX2_map 7 (some .int) 4 90 D cls (fpT cI cQ cZ) A (fpW ad cI cQ run mp fr kd wd ct af cf) [.ref (ad 0), .int (nI j), .int (nI k), .int z] (some (.int (-8))) (fpW ad cI cQ run mp fr kd wd ct af cf) := by
  refine gM_of (by decide) (Nat.le_of_ble_eq_true rfl) ?_
  intro p e s m args below meth c ls hx hb hml hown hts hN hr hlk hl hG
  have hown : s.vm.findClass RX2 = some m.cls := hown
  have hl : lv_has ls 7 [(0, .ref (ad 0)), (1, .int (nI j)), (2, .int (nI k)), (3, .int z)] := hl
  refine lv_aload_n hx hb dX2_map_0 rfl (lv_at hl 0 rfl) ?_
  refine lv_iload_n hx hb dX2_map_1 rfl (lv_at hl 1 rfl) ?_
  refine g_callV (As := [.int (nI j)]) (rest := []) (fs := [.ref (ad 1), .ref (ad 2), .int af, .int cf]) (fm_isRunning_t hj h) hx hb hml hown hts hN hG t_97 t_99 s_4 t_1 t_100 nm_X2_isRunning ⟨by decide, by decide⟩ fp_0 rfl hl.1 (Nat.le_of_ble_eq_true rfl) dX2_map_2 ⟨Nat.zero_le _, Nat.zero_le _⟩ (fun H locs hG => ?_)
  refine W.eq (g2 := F0 m 5 ls [.int 1]) rfl ?_
  refine lv_if_ne (tgt := 10) hx hb dX2_map_5 rfl (fun _ => ?_) (fun hh => absurd hh (by decide))
  refine lv_iload_n hx hb dX2_map_10 rfl (lv_at hl 2 rfl) ?_
  refine g_callS (As := [.int (nI k)]) (rest := []) (fm_isPage_t hk) hx hb hml hown hts hN hG t_142 t_143 t_1 t_144 nm_X2_isPage ⟨by decide, by decide⟩ hl.1 (Nat.le_of_ble_eq_true rfl) dX2_map_11 ⟨Nat.zero_le _, Nat.zero_le _⟩ (fun H locs hG => ?_)
  refine W.eq (g2 := F0 m 14 ls [.int 1]) rfl ?_
  refine lv_if_ne (tgt := 20) hx hb dX2_map_14 rfl (fun _ => ?_) (fun hh => absurd hh (by decide))
  refine lv_aload_n hx hb dX2_map_20 rfl (lv_at hl 0 rfl) ?_
  refine g_get (k := 0) (v := .ref (ad 1)) (C := RX2) (ref := RX2) (fs := [.ref (ad 1), .ref (ad 2), .int af, .int cf]) hx hb hown hts hG gX2 rfl fp_0 (by decide) t_53 rfl rfl dX2_map_21 ?_
  refine lv_iload_n hx hb dX2_map_24 rfl (lv_at hl 1 rfl) ?_
  refine g_aald (i := j) (t0 := 1) hx hb hG fp_1 rfl (hj) (by decide) rfl dX2_map_25 ?_
  refine lv_astore (lv' := [(4, .ref (ad (5 + 3 * j))), (0, .ref (ad 0)), (1, .int (nI j)), (2, .int (nI k)), (3, .int z)]) hx hb dX2_map_26 hl (by decide) rfl (fun ls hl => ?_)
  refine lv_aload hx hb dX2_map_28 (lv_at hl 0 rfl) ?_
  refine lv_iload_n hx hb dX2_map_30 rfl (lv_at hl 3 rfl) ?_
  refine g_callVN (As := [.int (nI k)]) (rest := []) (fs := [.int (bI (run j)), .long (en (mp j)), .ref (ad (6 + 3 * j)), .ref (ad (7 + 3 * j))]) (fm_has_f hj hk h2) hx hb hml hown hts hN hG t_101 t_103 s_5 t_2 t_104 nm_X0_has ⟨by decide, by decide⟩ (fp_5 (hj)) rfl hl.1 (Nat.le_of_ble_eq_true rfl) dX2_map_31 ⟨Nat.zero_le _, Nat.zero_le _⟩ (fun H locs hG => ?_)
  refine W.eq (g2 := F0 m 34 ls [.int 0]) rfl ?_
  refine lv_if_eq (tgt := 40) hx hb dX2_map_34 rfl (fun _ => ?_) (fun hh => absurd (rfl) hh)
  refine lv_iconst (v := 1) hx hb dX2_map_40 (by decide) ?_
  refine lv_aload hx hb dX2_map_41 (lv_at hl 0 rfl) ?_
  refine lv_iload_n hx hb dX2_map_43 rfl (lv_at hl 3 rfl) ?_
  refine g_callVN (As := [.int (nI k)]) (rest := [.int 1]) (fs := [.int (bI (run j)), .long (en (mp j)), .ref (ad (6 + 3 * j)), .ref (ad (7 + 3 * j))]) (fm_tablesToAdd hj hk) hx hb hml hown hts hN hG t_145 t_147 s_13 t_2 t_148 nm_X0_tablesToAdd ⟨by decide, by decide⟩ (fp_5 (hj)) rfl hl.1 (Nat.le_of_ble_eq_true rfl) dX2_map_44 ⟨Nat.zero_le _, Nat.zero_le _⟩ (fun H locs hG => ?_)
  refine W.eq (g2 := F0 m 47 ls [.int (nI (tbN (up1 (mp j) k true)) - nI (tbN (mp j))), .int 1]) rfl ?_
  refine lv_iadd hx hb dX2_map_47 ?_
  refine lv_istore (lv' := [(5, .int (1 + (nI (tbN (up1 (mp j) k true)) - nI (tbN (mp j))))), (4, .ref (ad (5 + 3 * j))), (0, .ref (ad 0)), (1, .int (nI j)), (2, .int (nI k)), (3, .int z)]) hx hb dX2_map_48 hl (by decide) rfl (fun ls hl => ?_)
  refine lv_aload_n hx hb dX2_map_50 rfl (lv_at hl 2 rfl) ?_
  refine g_callV (As := []) (rest := []) (fs := [.ref (ad 1), .ref (ad 2), .int af, .int cf]) (fm_freeFrames) hx hb hml hown hts hN hG t_74 t_76 s_1 t_1 t_77 nm_X2_freeFrames ⟨by decide, by decide⟩ fp_0 rfl hl.1 (Nat.le_of_ble_eq_true rfl) dX2_map_51 ⟨Nat.zero_le _, Nat.zero_le _⟩ (fun H locs hG => ?_)
  refine W.eq (g2 := F0 m 54 ls [.int (frF run mp ct)]) rfl ?_
  refine lv_iload hx hb dX2_map_54 (lv_at hl 0 rfl) ?_
  refine lv_icmp_ge (tgt := 62) hx hb dX2_map_56 rfl (fun hh => absurd hh (h3)) (fun _ => ?_)
  refine lv_bipush (v := (-8)) hx hb dX2_map_59 (by decide) ?_
  exact g_iret hx hb hr hlk hG dX2_map_61
set_option maxHeartbeats 4000000 in
set_option maxRecDepth 100000 in
theorem fp_map_c {j k : Nat} (hj : j < 5) (hk : k < 64) {z : Int32} (h : run j = true) (h2 : mp j k = false) (h3 : 1 + (nI (tbN (up1 (mp j) k true)) - nI (tbN (mp j))) ≤ frF run mp ct) (h4 : ¬ z = 0) : gM l yX2_map cX2_map 7 (some .int) 4 90 D cls (fpT cI cQ cZ) A (fpW ad cI cQ run mp fr kd wd ct af cf) [.ref (ad 0), .int (nI j), .int (nI k), .int z] (some (.int (1 + (nI (tbN (up1 (mp j) k true)) - nI (tbN (mp j)))))) (fpW ad cI cQ run (up1 mp j (up1 (mp j) k true)) (up1 fr j (up1 (fr j) k (unF ct 24))) (up1 kd j (upd (kd j) k 3)) (blW wd (unF ct 24)) (upd ct (unF ct 24) (ct (unF ct 24) + 1)) af cf) := by
  refine gM_of (by decide) (Nat.le_of_ble_eq_true rfl) ?_
  intro p e s m args below meth c ls hx hb hml hown hts hN hr hlk hl hG
  have hown : s.vm.findClass RX2 = some m.cls := hown
  have hl : lv_has ls 7 [(0, .ref (ad 0)), (1, .int (nI j)), (2, .int (nI k)), (3, .int z)] := hl
  refine lv_aload_n hx hb dX2_map_0 rfl (lv_at hl 0 rfl) ?_
  refine lv_iload_n hx hb dX2_map_1 rfl (lv_at hl 1 rfl) ?_
  refine g_callV (As := [.int (nI j)]) (rest := []) (fs := [.ref (ad 1), .ref (ad 2), .int af, .int cf]) (fm_isRunning_t hj h) hx hb hml hown hts hN hG t_97 t_99 s_4 t_1 t_100 nm_X2_isRunning ⟨by decide, by decide⟩ fp_0 rfl hl.1 (Nat.le_of_ble_eq_true rfl) dX2_map_2 ⟨Nat.zero_le _, Nat.zero_le _⟩ (fun H locs hG => ?_)
  refine W.eq (g2 := F0 m 5 ls [.int 1]) rfl ?_
  refine lv_if_ne (tgt := 10) hx hb dX2_map_5 rfl (fun _ => ?_) (fun hh => absurd hh (by decide))
  refine lv_iload_n hx hb dX2_map_10 rfl (lv_at hl 2 rfl) ?_
  refine g_callS (As := [.int (nI k)]) (rest := []) (fm_isPage_t hk) hx hb hml hown hts hN hG t_142 t_143 t_1 t_144 nm_X2_isPage ⟨by decide, by decide⟩ hl.1 (Nat.le_of_ble_eq_true rfl) dX2_map_11 ⟨Nat.zero_le _, Nat.zero_le _⟩ (fun H locs hG => ?_)
  refine W.eq (g2 := F0 m 14 ls [.int 1]) rfl ?_
  refine lv_if_ne (tgt := 20) hx hb dX2_map_14 rfl (fun _ => ?_) (fun hh => absurd hh (by decide))
  refine lv_aload_n hx hb dX2_map_20 rfl (lv_at hl 0 rfl) ?_
  refine g_get (k := 0) (v := .ref (ad 1)) (C := RX2) (ref := RX2) (fs := [.ref (ad 1), .ref (ad 2), .int af, .int cf]) hx hb hown hts hG gX2 rfl fp_0 (by decide) t_53 rfl rfl dX2_map_21 ?_
  refine lv_iload_n hx hb dX2_map_24 rfl (lv_at hl 1 rfl) ?_
  refine g_aald (i := j) (t0 := 1) hx hb hG fp_1 rfl (hj) (by decide) rfl dX2_map_25 ?_
  refine lv_astore (lv' := [(4, .ref (ad (5 + 3 * j))), (0, .ref (ad 0)), (1, .int (nI j)), (2, .int (nI k)), (3, .int z)]) hx hb dX2_map_26 hl (by decide) rfl (fun ls hl => ?_)
  refine lv_aload hx hb dX2_map_28 (lv_at hl 0 rfl) ?_
  refine lv_iload_n hx hb dX2_map_30 rfl (lv_at hl 3 rfl) ?_
  refine g_callVN (As := [.int (nI k)]) (rest := []) (fs := [.int (bI (run j)), .long (en (mp j)), .ref (ad (6 + 3 * j)), .ref (ad (7 + 3 * j))]) (fm_has_f hj hk h2) hx hb hml hown hts hN hG t_101 t_103 s_5 t_2 t_104 nm_X0_has ⟨by decide, by decide⟩ (fp_5 (hj)) rfl hl.1 (Nat.le_of_ble_eq_true rfl) dX2_map_31 ⟨Nat.zero_le _, Nat.zero_le _⟩ (fun H locs hG => ?_)
  refine W.eq (g2 := F0 m 34 ls [.int 0]) rfl ?_
  refine lv_if_eq (tgt := 40) hx hb dX2_map_34 rfl (fun _ => ?_) (fun hh => absurd (rfl) hh)
  refine lv_iconst (v := 1) hx hb dX2_map_40 (by decide) ?_
  refine lv_aload hx hb dX2_map_41 (lv_at hl 0 rfl) ?_
  refine lv_iload_n hx hb dX2_map_43 rfl (lv_at hl 3 rfl) ?_
  refine g_callVN (As := [.int (nI k)]) (rest := [.int 1]) (fs := [.int (bI (run j)), .long (en (mp j)), .ref (ad (6 + 3 * j)), .ref (ad (7 + 3 * j))]) (fm_tablesToAdd hj hk) hx hb hml hown hts hN hG t_145 t_147 s_13 t_2 t_148 nm_X0_tablesToAdd ⟨by decide, by decide⟩ (fp_5 (hj)) rfl hl.1 (Nat.le_of_ble_eq_true rfl) dX2_map_44 ⟨Nat.zero_le _, Nat.zero_le _⟩ (fun H locs hG => ?_)
  refine W.eq (g2 := F0 m 47 ls [.int (nI (tbN (up1 (mp j) k true)) - nI (tbN (mp j))), .int 1]) rfl ?_
  refine lv_iadd hx hb dX2_map_47 ?_
  refine lv_istore (lv' := [(5, .int (1 + (nI (tbN (up1 (mp j) k true)) - nI (tbN (mp j))))), (4, .ref (ad (5 + 3 * j))), (0, .ref (ad 0)), (1, .int (nI j)), (2, .int (nI k)), (3, .int z)]) hx hb dX2_map_48 hl (by decide) rfl (fun ls hl => ?_)
  refine lv_aload_n hx hb dX2_map_50 rfl (lv_at hl 2 rfl) ?_
  refine g_callV (As := []) (rest := []) (fs := [.ref (ad 1), .ref (ad 2), .int af, .int cf]) (fm_freeFrames) hx hb hml hown hts hN hG t_74 t_76 s_1 t_1 t_77 nm_X2_freeFrames ⟨by decide, by decide⟩ fp_0 rfl hl.1 (Nat.le_of_ble_eq_true rfl) dX2_map_51 ⟨Nat.zero_le _, Nat.zero_le _⟩ (fun H locs hG => ?_)
  refine W.eq (g2 := F0 m 54 ls [.int (frF run mp ct)]) rfl ?_
  refine lv_iload hx hb dX2_map_54 (lv_at hl 0 rfl) ?_
  refine lv_icmp_ge (tgt := 62) hx hb dX2_map_56 rfl (fun _ => ?_) (fun hh => absurd (h3) hh)
  refine lv_aload_n hx hb dX2_map_62 rfl (lv_at hl 2 rfl) ?_
  refine g_get (k := 1) (v := .ref (ad 2)) (C := RX2) (ref := RX2) (fs := [.ref (ad 1), .ref (ad 2), .int af, .int cf]) hx hb hown hts hG gX2 rfl fp_0 (by decide) t_54 rfl rfl dX2_map_63 ?_
  refine g_callVN (As := []) (rest := []) (fs := [.ref (ad 3), .ref (ad 4)]) (fm_unusedFrame) hx hb hml hown hts hN hG t_149 t_151 s_14 t_3 t_152 nm_X1_unusedFrame ⟨by decide, by decide⟩ fp_2 rfl hl.1 (Nat.le_of_ble_eq_true rfl) dX2_map_66 ⟨Nat.zero_le _, Nat.zero_le _⟩ (fun H locs hG => ?_)
  refine W.eq (g2 := F0 m 69 ls [.int (nI (unF ct 24))]) rfl ?_
  refine lv_istore (lv' := [(6, .int (nI (unF ct 24))), (5, .int (1 + (nI (tbN (up1 (mp j) k true)) - nI (tbN (mp j))))), (4, .ref (ad (5 + 3 * j))), (0, .ref (ad 0)), (1, .int (nI j)), (2, .int (nI k)), (3, .int z)]) hx hb dX2_map_69 hl (by decide) rfl (fun ls hl => ?_)
  refine lv_aload_n hx hb dX2_map_71 rfl (lv_at hl 3 rfl) ?_
  refine g_get (k := 1) (v := .ref (ad 2)) (C := RX2) (ref := RX2) (fs := [.ref (ad 1), .ref (ad 2), .int af, .int cf]) hx hb hown hts hG gX2 rfl fp_0 (by decide) t_54 rfl rfl dX2_map_72 ?_
  refine lv_iload hx hb dX2_map_75 (lv_at hl 0 rfl) ?_
  refine g_callVN (As := [.int (nI (unF ct 24))]) (rest := []) (fs := [.ref (ad 3), .ref (ad 4)]) (fm_blank (unF_lt ct 24 (by decide))) hx hb hml hown hts hN hG t_153 t_155 s_15 t_3 t_156 nm_X1_blank ⟨by decide, by decide⟩ fp_2 rfl hl.1 (Nat.le_of_ble_eq_true rfl) dX2_map_77 ⟨Nat.zero_le _, Nat.zero_le _⟩ (fun H locs hG => ?_)
  refine W.eq (g2 := F0 m 80 ls []) rfl ?_
  refine lv_aload_n hx hb dX2_map_80 rfl (lv_at hl 3 rfl) ?_
  refine lv_aload hx hb dX2_map_81 (lv_at hl 2 rfl) ?_
  refine lv_iload_n hx hb dX2_map_83 rfl (lv_at hl 5 rfl) ?_
  refine lv_iload hx hb dX2_map_84 (lv_at hl 0 rfl) ?_
  refine lv_iload_n hx hb dX2_map_86 rfl (lv_at hl 6 rfl) ?_
  refine lv_if_eq (tgt := 94) hx hb dX2_map_87 rfl (fun hh => absurd hh (h4)) (fun _ => ?_)
  refine lv_iconst (v := 3) hx hb dX2_map_90 (by decide) ?_
  refine lv_goto (tgt := 95) hx hb dX2_map_91 rfl ?_
  refine g_callV (As := [.ref (ad (5 + 3 * j)), .int (nI k), .int (nI (unF ct 24)), .int 3]) (rest := []) (fs := [.ref (ad 1), .ref (ad 2), .int af, .int cf]) (fm_startMapping hj hk (unF_lt ct 24 (by decide))) hx hb hml hown hts hN hG t_117 t_119 s_9 t_1 t_120 nm_X2_startMapping ⟨by decide, by decide⟩ fp_0 rfl hl.1 (Nat.le_of_ble_eq_true rfl) dX2_map_95 ⟨Nat.zero_le _, Nat.zero_le _⟩ (fun H locs hG => ?_)
  refine W.eq (g2 := F0 m 98 ls []) rfl ?_
  refine lv_iload hx hb dX2_map_98 (lv_at hl 1 rfl) ?_
  exact g_iret hx hb hr hlk hG dX2_map_100
set_option maxHeartbeats 4000000 in
set_option maxRecDepth 100000 in
theorem fp_map_p {j k : Nat} (hj : j < 5) (hk : k < 64) {z : Int32} (h : run j = true) (h2 : mp j k = false) (h3 : 1 + (nI (tbN (up1 (mp j) k true)) - nI (tbN (mp j))) ≤ frF run mp ct) (h4 : z = 0) : gM l yX2_map cX2_map 7 (some .int) 4 90 D cls (fpT cI cQ cZ) A (fpW ad cI cQ run mp fr kd wd ct af cf) [.ref (ad 0), .int (nI j), .int (nI k), .int z] (some (.int (1 + (nI (tbN (up1 (mp j) k true)) - nI (tbN (mp j)))))) (fpW ad cI cQ run (up1 mp j (up1 (mp j) k true)) (up1 fr j (up1 (fr j) k (unF ct 24))) (up1 kd j (upd (kd j) k 1)) (blW wd (unF ct 24)) (upd ct (unF ct 24) (ct (unF ct 24) + 1)) af cf) := by
  refine gM_of (by decide) (Nat.le_of_ble_eq_true rfl) ?_
  intro p e s m args below meth c ls hx hb hml hown hts hN hr hlk hl hG
  have hown : s.vm.findClass RX2 = some m.cls := hown
  have hl : lv_has ls 7 [(0, .ref (ad 0)), (1, .int (nI j)), (2, .int (nI k)), (3, .int z)] := hl
  refine lv_aload_n hx hb dX2_map_0 rfl (lv_at hl 0 rfl) ?_
  refine lv_iload_n hx hb dX2_map_1 rfl (lv_at hl 1 rfl) ?_
  refine g_callV (As := [.int (nI j)]) (rest := []) (fs := [.ref (ad 1), .ref (ad 2), .int af, .int cf]) (fm_isRunning_t hj h) hx hb hml hown hts hN hG t_97 t_99 s_4 t_1 t_100 nm_X2_isRunning ⟨by decide, by decide⟩ fp_0 rfl hl.1 (Nat.le_of_ble_eq_true rfl) dX2_map_2 ⟨Nat.zero_le _, Nat.zero_le _⟩ (fun H locs hG => ?_)
  refine W.eq (g2 := F0 m 5 ls [.int 1]) rfl ?_
  refine lv_if_ne (tgt := 10) hx hb dX2_map_5 rfl (fun _ => ?_) (fun hh => absurd hh (by decide))
  refine lv_iload_n hx hb dX2_map_10 rfl (lv_at hl 2 rfl) ?_
  refine g_callS (As := [.int (nI k)]) (rest := []) (fm_isPage_t hk) hx hb hml hown hts hN hG t_142 t_143 t_1 t_144 nm_X2_isPage ⟨by decide, by decide⟩ hl.1 (Nat.le_of_ble_eq_true rfl) dX2_map_11 ⟨Nat.zero_le _, Nat.zero_le _⟩ (fun H locs hG => ?_)
  refine W.eq (g2 := F0 m 14 ls [.int 1]) rfl ?_
  refine lv_if_ne (tgt := 20) hx hb dX2_map_14 rfl (fun _ => ?_) (fun hh => absurd hh (by decide))
  refine lv_aload_n hx hb dX2_map_20 rfl (lv_at hl 0 rfl) ?_
  refine g_get (k := 0) (v := .ref (ad 1)) (C := RX2) (ref := RX2) (fs := [.ref (ad 1), .ref (ad 2), .int af, .int cf]) hx hb hown hts hG gX2 rfl fp_0 (by decide) t_53 rfl rfl dX2_map_21 ?_
  refine lv_iload_n hx hb dX2_map_24 rfl (lv_at hl 1 rfl) ?_
  refine g_aald (i := j) (t0 := 1) hx hb hG fp_1 rfl (hj) (by decide) rfl dX2_map_25 ?_
  refine lv_astore (lv' := [(4, .ref (ad (5 + 3 * j))), (0, .ref (ad 0)), (1, .int (nI j)), (2, .int (nI k)), (3, .int z)]) hx hb dX2_map_26 hl (by decide) rfl (fun ls hl => ?_)
  refine lv_aload hx hb dX2_map_28 (lv_at hl 0 rfl) ?_
  refine lv_iload_n hx hb dX2_map_30 rfl (lv_at hl 3 rfl) ?_
  refine g_callVN (As := [.int (nI k)]) (rest := []) (fs := [.int (bI (run j)), .long (en (mp j)), .ref (ad (6 + 3 * j)), .ref (ad (7 + 3 * j))]) (fm_has_f hj hk h2) hx hb hml hown hts hN hG t_101 t_103 s_5 t_2 t_104 nm_X0_has ⟨by decide, by decide⟩ (fp_5 (hj)) rfl hl.1 (Nat.le_of_ble_eq_true rfl) dX2_map_31 ⟨Nat.zero_le _, Nat.zero_le _⟩ (fun H locs hG => ?_)
  refine W.eq (g2 := F0 m 34 ls [.int 0]) rfl ?_
  refine lv_if_eq (tgt := 40) hx hb dX2_map_34 rfl (fun _ => ?_) (fun hh => absurd (rfl) hh)
  refine lv_iconst (v := 1) hx hb dX2_map_40 (by decide) ?_
  refine lv_aload hx hb dX2_map_41 (lv_at hl 0 rfl) ?_
  refine lv_iload_n hx hb dX2_map_43 rfl (lv_at hl 3 rfl) ?_
  refine g_callVN (As := [.int (nI k)]) (rest := [.int 1]) (fs := [.int (bI (run j)), .long (en (mp j)), .ref (ad (6 + 3 * j)), .ref (ad (7 + 3 * j))]) (fm_tablesToAdd hj hk) hx hb hml hown hts hN hG t_145 t_147 s_13 t_2 t_148 nm_X0_tablesToAdd ⟨by decide, by decide⟩ (fp_5 (hj)) rfl hl.1 (Nat.le_of_ble_eq_true rfl) dX2_map_44 ⟨Nat.zero_le _, Nat.zero_le _⟩ (fun H locs hG => ?_)
  refine W.eq (g2 := F0 m 47 ls [.int (nI (tbN (up1 (mp j) k true)) - nI (tbN (mp j))), .int 1]) rfl ?_
  refine lv_iadd hx hb dX2_map_47 ?_
  refine lv_istore (lv' := [(5, .int (1 + (nI (tbN (up1 (mp j) k true)) - nI (tbN (mp j))))), (4, .ref (ad (5 + 3 * j))), (0, .ref (ad 0)), (1, .int (nI j)), (2, .int (nI k)), (3, .int z)]) hx hb dX2_map_48 hl (by decide) rfl (fun ls hl => ?_)
  refine lv_aload_n hx hb dX2_map_50 rfl (lv_at hl 2 rfl) ?_
  refine g_callV (As := []) (rest := []) (fs := [.ref (ad 1), .ref (ad 2), .int af, .int cf]) (fm_freeFrames) hx hb hml hown hts hN hG t_74 t_76 s_1 t_1 t_77 nm_X2_freeFrames ⟨by decide, by decide⟩ fp_0 rfl hl.1 (Nat.le_of_ble_eq_true rfl) dX2_map_51 ⟨Nat.zero_le _, Nat.zero_le _⟩ (fun H locs hG => ?_)
  refine W.eq (g2 := F0 m 54 ls [.int (frF run mp ct)]) rfl ?_
  refine lv_iload hx hb dX2_map_54 (lv_at hl 0 rfl) ?_
  refine lv_icmp_ge (tgt := 62) hx hb dX2_map_56 rfl (fun _ => ?_) (fun hh => absurd (h3) hh)
  refine lv_aload_n hx hb dX2_map_62 rfl (lv_at hl 2 rfl) ?_
  refine g_get (k := 1) (v := .ref (ad 2)) (C := RX2) (ref := RX2) (fs := [.ref (ad 1), .ref (ad 2), .int af, .int cf]) hx hb hown hts hG gX2 rfl fp_0 (by decide) t_54 rfl rfl dX2_map_63 ?_
  refine g_callVN (As := []) (rest := []) (fs := [.ref (ad 3), .ref (ad 4)]) (fm_unusedFrame) hx hb hml hown hts hN hG t_149 t_151 s_14 t_3 t_152 nm_X1_unusedFrame ⟨by decide, by decide⟩ fp_2 rfl hl.1 (Nat.le_of_ble_eq_true rfl) dX2_map_66 ⟨Nat.zero_le _, Nat.zero_le _⟩ (fun H locs hG => ?_)
  refine W.eq (g2 := F0 m 69 ls [.int (nI (unF ct 24))]) rfl ?_
  refine lv_istore (lv' := [(6, .int (nI (unF ct 24))), (5, .int (1 + (nI (tbN (up1 (mp j) k true)) - nI (tbN (mp j))))), (4, .ref (ad (5 + 3 * j))), (0, .ref (ad 0)), (1, .int (nI j)), (2, .int (nI k)), (3, .int z)]) hx hb dX2_map_69 hl (by decide) rfl (fun ls hl => ?_)
  refine lv_aload_n hx hb dX2_map_71 rfl (lv_at hl 3 rfl) ?_
  refine g_get (k := 1) (v := .ref (ad 2)) (C := RX2) (ref := RX2) (fs := [.ref (ad 1), .ref (ad 2), .int af, .int cf]) hx hb hown hts hG gX2 rfl fp_0 (by decide) t_54 rfl rfl dX2_map_72 ?_
  refine lv_iload hx hb dX2_map_75 (lv_at hl 0 rfl) ?_
  refine g_callVN (As := [.int (nI (unF ct 24))]) (rest := []) (fs := [.ref (ad 3), .ref (ad 4)]) (fm_blank (unF_lt ct 24 (by decide))) hx hb hml hown hts hN hG t_153 t_155 s_15 t_3 t_156 nm_X1_blank ⟨by decide, by decide⟩ fp_2 rfl hl.1 (Nat.le_of_ble_eq_true rfl) dX2_map_77 ⟨Nat.zero_le _, Nat.zero_le _⟩ (fun H locs hG => ?_)
  refine W.eq (g2 := F0 m 80 ls []) rfl ?_
  refine lv_aload_n hx hb dX2_map_80 rfl (lv_at hl 3 rfl) ?_
  refine lv_aload hx hb dX2_map_81 (lv_at hl 2 rfl) ?_
  refine lv_iload_n hx hb dX2_map_83 rfl (lv_at hl 5 rfl) ?_
  refine lv_iload hx hb dX2_map_84 (lv_at hl 0 rfl) ?_
  refine lv_iload_n hx hb dX2_map_86 rfl (lv_at hl 6 rfl) ?_
  refine lv_if_eq (tgt := 94) hx hb dX2_map_87 rfl (fun _ => ?_) (fun hh => absurd (h4) hh)
  refine lv_iconst (v := 1) hx hb dX2_map_94 (by decide) ?_
  refine g_callV (As := [.ref (ad (5 + 3 * j)), .int (nI k), .int (nI (unF ct 24)), .int 1]) (rest := []) (fs := [.ref (ad 1), .ref (ad 2), .int af, .int cf]) (fm_startMapping hj hk (unF_lt ct 24 (by decide))) hx hb hml hown hts hN hG t_117 t_119 s_9 t_1 t_120 nm_X2_startMapping ⟨by decide, by decide⟩ fp_0 rfl hl.1 (Nat.le_of_ble_eq_true rfl) dX2_map_95 ⟨Nat.zero_le _, Nat.zero_le _⟩ (fun H locs hG => ?_)
  refine W.eq (g2 := F0 m 98 ls []) rfl ?_
  refine lv_iload hx hb dX2_map_98 (lv_at hl 1 rfl) ?_
  exact g_iret hx hb hr hlk hG dX2_map_100
set_option maxHeartbeats 4000000 in
set_option maxRecDepth 100000 in
theorem fp_attach_1a {x y u v : Int32} (h : ¬ rn run x) : gM l yX2_attach cX2_attach 9 (some .int) 4 90 D cls (fpT cI cQ cZ) A (fpW ad cI cQ run mp fr kd wd ct af cf) [.ref (ad 0), .int x, .int y, .int u, .int v] (some (.int (-1))) (fpW ad cI cQ run mp fr kd wd ct af cf) := by
  refine gM_of (by decide) (Nat.le_of_ble_eq_true rfl) ?_
  intro p e s m args below meth c ls hx hb hml hown hts hN hr hlk hl hG
  have hown : s.vm.findClass RX2 = some m.cls := hown
  have hl : lv_has ls 9 [(0, .ref (ad 0)), (1, .int x), (2, .int y), (3, .int u), (4, .int v)] := hl
  refine lv_aload_n hx hb dX2_attach_0 rfl (lv_at hl 0 rfl) ?_
  refine lv_iload_n hx hb dX2_attach_1 rfl (lv_at hl 1 rfl) ?_
  refine g_callV (As := [.int x]) (rest := []) (fs := [.ref (ad 1), .ref (ad 2), .int af, .int cf]) (fm_isRunning_n h) hx hb hml hown hts hN hG t_97 t_99 s_4 t_1 t_100 nm_X2_isRunning ⟨by decide, by decide⟩ fp_0 rfl hl.1 (Nat.le_of_ble_eq_true rfl) dX2_attach_2 ⟨Nat.zero_le _, Nat.zero_le _⟩ (fun H locs hG => ?_)
  refine W.eq (g2 := F0 m 5 ls [.int 0]) rfl ?_
  refine lv_if_eq (tgt := 16) hx hb dX2_attach_5 rfl (fun _ => ?_) (fun hh => absurd (rfl) hh)
  refine lv_iconst (v := (-1)) hx hb dX2_attach_16 (by decide) ?_
  exact g_iret hx hb hr hlk hG dX2_attach_17
set_option maxHeartbeats 4000000 in
set_option maxRecDepth 100000 in
theorem fp_attach_1b {j : Nat} {y u v : Int32} (hj : j < 5) (h : run j = true) (h2 : ¬ rn run u) : gM l yX2_attach cX2_attach 9 (some .int) 4 90 D cls (fpT cI cQ cZ) A (fpW ad cI cQ run mp fr kd wd ct af cf) [.ref (ad 0), .int (nI j), .int y, .int u, .int v] (some (.int (-1))) (fpW ad cI cQ run mp fr kd wd ct af cf) := by
  refine gM_of (by decide) (Nat.le_of_ble_eq_true rfl) ?_
  intro p e s m args below meth c ls hx hb hml hown hts hN hr hlk hl hG
  have hown : s.vm.findClass RX2 = some m.cls := hown
  have hl : lv_has ls 9 [(0, .ref (ad 0)), (1, .int (nI j)), (2, .int y), (3, .int u), (4, .int v)] := hl
  refine lv_aload_n hx hb dX2_attach_0 rfl (lv_at hl 0 rfl) ?_
  refine lv_iload_n hx hb dX2_attach_1 rfl (lv_at hl 1 rfl) ?_
  refine g_callV (As := [.int (nI j)]) (rest := []) (fs := [.ref (ad 1), .ref (ad 2), .int af, .int cf]) (fm_isRunning_t hj h) hx hb hml hown hts hN hG t_97 t_99 s_4 t_1 t_100 nm_X2_isRunning ⟨by decide, by decide⟩ fp_0 rfl hl.1 (Nat.le_of_ble_eq_true rfl) dX2_attach_2 ⟨Nat.zero_le _, Nat.zero_le _⟩ (fun H locs hG => ?_)
  refine W.eq (g2 := F0 m 5 ls [.int 1]) rfl ?_
  refine lv_if_eq (tgt := 16) hx hb dX2_attach_5 rfl (fun hh => absurd hh (by decide)) (fun _ => ?_)
  refine lv_aload_n hx hb dX2_attach_8 rfl (lv_at hl 0 rfl) ?_
  refine lv_iload_n hx hb dX2_attach_9 rfl (lv_at hl 3 rfl) ?_
  refine g_callV (As := [.int u]) (rest := []) (fs := [.ref (ad 1), .ref (ad 2), .int af, .int cf]) (fm_isRunning_n h2) hx hb hml hown hts hN hG t_97 t_99 s_4 t_1 t_100 nm_X2_isRunning ⟨by decide, by decide⟩ fp_0 rfl hl.1 (Nat.le_of_ble_eq_true rfl) dX2_attach_10 ⟨Nat.zero_le _, Nat.zero_le _⟩ (fun H locs hG => ?_)
  refine W.eq (g2 := F0 m 13 ls [.int 0]) rfl ?_
  refine lv_if_ne (tgt := 18) hx hb dX2_attach_13 rfl (fun hh => absurd (rfl) hh) (fun _ => ?_)
  refine lv_iconst (v := (-1)) hx hb dX2_attach_16 (by decide) ?_
  exact g_iret hx hb hr hlk hG dX2_attach_17
set_option maxHeartbeats 4000000 in
set_option maxRecDepth 100000 in
theorem fp_attach_2a {j n : Nat} (hj : j < 5) (h : run j = true) (hn : n < 5) (h2 : run n = true) {y v : Int32} (h3 : ¬ pgI y) : gM l yX2_attach cX2_attach 9 (some .int) 4 90 D cls (fpT cI cQ cZ) A (fpW ad cI cQ run mp fr kd wd ct af cf) [.ref (ad 0), .int (nI j), .int y, .int (nI n), .int v] (some (.int (-2))) (fpW ad cI cQ run mp fr kd wd ct af cf) := by
  refine gM_of (by decide) (Nat.le_of_ble_eq_true rfl) ?_
  intro p e s m args below meth c ls hx hb hml hown hts hN hr hlk hl hG
  have hown : s.vm.findClass RX2 = some m.cls := hown
  have hl : lv_has ls 9 [(0, .ref (ad 0)), (1, .int (nI j)), (2, .int y), (3, .int (nI n)), (4, .int v)] := hl
  refine lv_aload_n hx hb dX2_attach_0 rfl (lv_at hl 0 rfl) ?_
  refine lv_iload_n hx hb dX2_attach_1 rfl (lv_at hl 1 rfl) ?_
  refine g_callV (As := [.int (nI j)]) (rest := []) (fs := [.ref (ad 1), .ref (ad 2), .int af, .int cf]) (fm_isRunning_t hj h) hx hb hml hown hts hN hG t_97 t_99 s_4 t_1 t_100 nm_X2_isRunning ⟨by decide, by decide⟩ fp_0 rfl hl.1 (Nat.le_of_ble_eq_true rfl) dX2_attach_2 ⟨Nat.zero_le _, Nat.zero_le _⟩ (fun H locs hG => ?_)
  refine W.eq (g2 := F0 m 5 ls [.int 1]) rfl ?_
  refine lv_if_eq (tgt := 16) hx hb dX2_attach_5 rfl (fun hh => absurd hh (by decide)) (fun _ => ?_)
  refine lv_aload_n hx hb dX2_attach_8 rfl (lv_at hl 0 rfl) ?_
  refine lv_iload_n hx hb dX2_attach_9 rfl (lv_at hl 3 rfl) ?_
  refine g_callV (As := [.int (nI n)]) (rest := []) (fs := [.ref (ad 1), .ref (ad 2), .int af, .int cf]) (fm_isRunning_t hn h2) hx hb hml hown hts hN hG t_97 t_99 s_4 t_1 t_100 nm_X2_isRunning ⟨by decide, by decide⟩ fp_0 rfl hl.1 (Nat.le_of_ble_eq_true rfl) dX2_attach_10 ⟨Nat.zero_le _, Nat.zero_le _⟩ (fun H locs hG => ?_)
  refine W.eq (g2 := F0 m 13 ls [.int 1]) rfl ?_
  refine lv_if_ne (tgt := 18) hx hb dX2_attach_13 rfl (fun _ => ?_) (fun hh => absurd hh (by decide))
  refine lv_iload_n hx hb dX2_attach_18 rfl (lv_at hl 2 rfl) ?_
  refine g_callS (As := [.int y]) (rest := []) (fm_isPage_n h3) hx hb hml hown hts hN hG t_142 t_143 t_1 t_144 nm_X2_isPage ⟨by decide, by decide⟩ hl.1 (Nat.le_of_ble_eq_true rfl) dX2_attach_19 ⟨Nat.zero_le _, Nat.zero_le _⟩ (fun H locs hG => ?_)
  refine W.eq (g2 := F0 m 22 ls [.int 0]) rfl ?_
  refine lv_if_eq (tgt := 33) hx hb dX2_attach_22 rfl (fun _ => ?_) (fun hh => absurd (rfl) hh)
  refine lv_bipush (v := (-2)) hx hb dX2_attach_33 (by decide) ?_
  exact g_iret hx hb hr hlk hG dX2_attach_35
set_option maxHeartbeats 4000000 in
set_option maxRecDepth 100000 in
theorem fp_attach_2b {j n : Nat} (hj : j < 5) (h : run j = true) (hn : n < 5) (h2 : run n = true) {k : Nat} {v : Int32} (hk : k < 64) (h3 : ¬ pgI v) : gM l yX2_attach cX2_attach 9 (some .int) 4 90 D cls (fpT cI cQ cZ) A (fpW ad cI cQ run mp fr kd wd ct af cf) [.ref (ad 0), .int (nI j), .int (nI k), .int (nI n), .int v] (some (.int (-2))) (fpW ad cI cQ run mp fr kd wd ct af cf) := by
  refine gM_of (by decide) (Nat.le_of_ble_eq_true rfl) ?_
  intro p e s m args below meth c ls hx hb hml hown hts hN hr hlk hl hG
  have hown : s.vm.findClass RX2 = some m.cls := hown
  have hl : lv_has ls 9 [(0, .ref (ad 0)), (1, .int (nI j)), (2, .int (nI k)), (3, .int (nI n)), (4, .int v)] := hl
  refine lv_aload_n hx hb dX2_attach_0 rfl (lv_at hl 0 rfl) ?_
  refine lv_iload_n hx hb dX2_attach_1 rfl (lv_at hl 1 rfl) ?_
  refine g_callV (As := [.int (nI j)]) (rest := []) (fs := [.ref (ad 1), .ref (ad 2), .int af, .int cf]) (fm_isRunning_t hj h) hx hb hml hown hts hN hG t_97 t_99 s_4 t_1 t_100 nm_X2_isRunning ⟨by decide, by decide⟩ fp_0 rfl hl.1 (Nat.le_of_ble_eq_true rfl) dX2_attach_2 ⟨Nat.zero_le _, Nat.zero_le _⟩ (fun H locs hG => ?_)
  refine W.eq (g2 := F0 m 5 ls [.int 1]) rfl ?_
  refine lv_if_eq (tgt := 16) hx hb dX2_attach_5 rfl (fun hh => absurd hh (by decide)) (fun _ => ?_)
  refine lv_aload_n hx hb dX2_attach_8 rfl (lv_at hl 0 rfl) ?_
  refine lv_iload_n hx hb dX2_attach_9 rfl (lv_at hl 3 rfl) ?_
  refine g_callV (As := [.int (nI n)]) (rest := []) (fs := [.ref (ad 1), .ref (ad 2), .int af, .int cf]) (fm_isRunning_t hn h2) hx hb hml hown hts hN hG t_97 t_99 s_4 t_1 t_100 nm_X2_isRunning ⟨by decide, by decide⟩ fp_0 rfl hl.1 (Nat.le_of_ble_eq_true rfl) dX2_attach_10 ⟨Nat.zero_le _, Nat.zero_le _⟩ (fun H locs hG => ?_)
  refine W.eq (g2 := F0 m 13 ls [.int 1]) rfl ?_
  refine lv_if_ne (tgt := 18) hx hb dX2_attach_13 rfl (fun _ => ?_) (fun hh => absurd hh (by decide))
  refine lv_iload_n hx hb dX2_attach_18 rfl (lv_at hl 2 rfl) ?_
  refine g_callS (As := [.int (nI k)]) (rest := []) (fm_isPage_t hk) hx hb hml hown hts hN hG t_142 t_143 t_1 t_144 nm_X2_isPage ⟨by decide, by decide⟩ hl.1 (Nat.le_of_ble_eq_true rfl) dX2_attach_19 ⟨Nat.zero_le _, Nat.zero_le _⟩ (fun H locs hG => ?_)
  refine W.eq (g2 := F0 m 22 ls [.int 1]) rfl ?_
  refine lv_if_eq (tgt := 33) hx hb dX2_attach_22 rfl (fun hh => absurd hh (by decide)) (fun _ => ?_)
  refine lv_iload hx hb dX2_attach_25 (lv_at hl 4 rfl) ?_
  refine g_callS (As := [.int v]) (rest := []) (fm_isPage_n h3) hx hb hml hown hts hN hG t_142 t_143 t_1 t_144 nm_X2_isPage ⟨by decide, by decide⟩ hl.1 (Nat.le_of_ble_eq_true rfl) dX2_attach_27 ⟨Nat.zero_le _, Nat.zero_le _⟩ (fun H locs hG => ?_)
  refine W.eq (g2 := F0 m 30 ls [.int 0]) rfl ?_
  refine lv_if_ne (tgt := 36) hx hb dX2_attach_30 rfl (fun hh => absurd (rfl) hh) (fun _ => ?_)
  refine lv_bipush (v := (-2)) hx hb dX2_attach_33 (by decide) ?_
  exact g_iret hx hb hr hlk hG dX2_attach_35
set_option maxHeartbeats 4000000 in
set_option maxRecDepth 100000 in
theorem fp_attach_3 {j n : Nat} (hj : j < 5) (h : run j = true) (hn : n < 5) (h2 : run n = true) {k i : Nat} (hk : k < 64) (hi : i < 64) (h3 : mp n i = false) : gM l yX2_attach cX2_attach 9 (some .int) 4 90 D cls (fpT cI cQ cZ) A (fpW ad cI cQ run mp fr kd wd ct af cf) [.ref (ad 0), .int (nI j), .int (nI k), .int (nI n), .int (nI i)] (some (.int (-3))) (fpW ad cI cQ run mp fr kd wd ct af cf) := by
  refine gM_of (by decide) (Nat.le_of_ble_eq_true rfl) ?_
  intro p e s m args below meth c ls hx hb hml hown hts hN hr hlk hl hG
  have hown : s.vm.findClass RX2 = some m.cls := hown
  have hl : lv_has ls 9 [(0, .ref (ad 0)), (1, .int (nI j)), (2, .int (nI k)), (3, .int (nI n)), (4, .int (nI i))] := hl
  refine lv_aload_n hx hb dX2_attach_0 rfl (lv_at hl 0 rfl) ?_
  refine lv_iload_n hx hb dX2_attach_1 rfl (lv_at hl 1 rfl) ?_
  refine g_callV (As := [.int (nI j)]) (rest := []) (fs := [.ref (ad 1), .ref (ad 2), .int af, .int cf]) (fm_isRunning_t hj h) hx hb hml hown hts hN hG t_97 t_99 s_4 t_1 t_100 nm_X2_isRunning ⟨by decide, by decide⟩ fp_0 rfl hl.1 (Nat.le_of_ble_eq_true rfl) dX2_attach_2 ⟨Nat.zero_le _, Nat.zero_le _⟩ (fun H locs hG => ?_)
  refine W.eq (g2 := F0 m 5 ls [.int 1]) rfl ?_
  refine lv_if_eq (tgt := 16) hx hb dX2_attach_5 rfl (fun hh => absurd hh (by decide)) (fun _ => ?_)
  refine lv_aload_n hx hb dX2_attach_8 rfl (lv_at hl 0 rfl) ?_
  refine lv_iload_n hx hb dX2_attach_9 rfl (lv_at hl 3 rfl) ?_
  refine g_callV (As := [.int (nI n)]) (rest := []) (fs := [.ref (ad 1), .ref (ad 2), .int af, .int cf]) (fm_isRunning_t hn h2) hx hb hml hown hts hN hG t_97 t_99 s_4 t_1 t_100 nm_X2_isRunning ⟨by decide, by decide⟩ fp_0 rfl hl.1 (Nat.le_of_ble_eq_true rfl) dX2_attach_10 ⟨Nat.zero_le _, Nat.zero_le _⟩ (fun H locs hG => ?_)
  refine W.eq (g2 := F0 m 13 ls [.int 1]) rfl ?_
  refine lv_if_ne (tgt := 18) hx hb dX2_attach_13 rfl (fun _ => ?_) (fun hh => absurd hh (by decide))
  refine lv_iload_n hx hb dX2_attach_18 rfl (lv_at hl 2 rfl) ?_
  refine g_callS (As := [.int (nI k)]) (rest := []) (fm_isPage_t hk) hx hb hml hown hts hN hG t_142 t_143 t_1 t_144 nm_X2_isPage ⟨by decide, by decide⟩ hl.1 (Nat.le_of_ble_eq_true rfl) dX2_attach_19 ⟨Nat.zero_le _, Nat.zero_le _⟩ (fun H locs hG => ?_)
  refine W.eq (g2 := F0 m 22 ls [.int 1]) rfl ?_
  refine lv_if_eq (tgt := 33) hx hb dX2_attach_22 rfl (fun hh => absurd hh (by decide)) (fun _ => ?_)
  refine lv_iload hx hb dX2_attach_25 (lv_at hl 4 rfl) ?_
  refine g_callS (As := [.int (nI i)]) (rest := []) (fm_isPage_t hi) hx hb hml hown hts hN hG t_142 t_143 t_1 t_144 nm_X2_isPage ⟨by decide, by decide⟩ hl.1 (Nat.le_of_ble_eq_true rfl) dX2_attach_27 ⟨Nat.zero_le _, Nat.zero_le _⟩ (fun H locs hG => ?_)
  refine W.eq (g2 := F0 m 30 ls [.int 1]) rfl ?_
  refine lv_if_ne (tgt := 36) hx hb dX2_attach_30 rfl (fun _ => ?_) (fun hh => absurd hh (by decide))
  refine lv_aload_n hx hb dX2_attach_36 rfl (lv_at hl 0 rfl) ?_
  refine g_get (k := 0) (v := .ref (ad 1)) (C := RX2) (ref := RX2) (fs := [.ref (ad 1), .ref (ad 2), .int af, .int cf]) hx hb hown hts hG gX2 rfl fp_0 (by decide) t_53 rfl rfl dX2_attach_37 ?_
  refine lv_iload_n hx hb dX2_attach_40 rfl (lv_at hl 1 rfl) ?_
  refine g_aald (i := j) (t0 := 1) hx hb hG fp_1 rfl (hj) (by decide) rfl dX2_attach_41 ?_
  refine lv_astore (lv' := [(5, .ref (ad (5 + 3 * j))), (0, .ref (ad 0)), (1, .int (nI j)), (2, .int (nI k)), (3, .int (nI n)), (4, .int (nI i))]) hx hb dX2_attach_42 hl (by decide) rfl (fun ls hl => ?_)
  refine lv_aload_n hx hb dX2_attach_44 rfl (lv_at hl 1 rfl) ?_
  refine g_get (k := 0) (v := .ref (ad 1)) (C := RX2) (ref := RX2) (fs := [.ref (ad 1), .ref (ad 2), .int af, .int cf]) hx hb hown hts hG gX2 rfl fp_0 (by decide) t_53 rfl rfl dX2_attach_45 ?_
  refine lv_iload_n hx hb dX2_attach_48 rfl (lv_at hl 4 rfl) ?_
  refine g_aald (i := n) (t0 := 1) hx hb hG fp_1 rfl (hn) (by decide) rfl dX2_attach_49 ?_
  refine lv_astore (lv' := [(6, .ref (ad (5 + 3 * n))), (5, .ref (ad (5 + 3 * j))), (0, .ref (ad 0)), (1, .int (nI j)), (2, .int (nI k)), (3, .int (nI n)), (4, .int (nI i))]) hx hb dX2_attach_50 hl (by decide) rfl (fun ls hl => ?_)
  refine lv_aload hx hb dX2_attach_52 (lv_at hl 0 rfl) ?_
  refine lv_iload hx hb dX2_attach_54 (lv_at hl 6 rfl) ?_
  refine g_callVN (As := [.int (nI i)]) (rest := []) (fs := [.int (bI (run n)), .long (en (mp n)), .ref (ad (6 + 3 * n)), .ref (ad (7 + 3 * n))]) (fm_has_f hn hi h3) hx hb hml hown hts hN hG t_101 t_103 s_5 t_2 t_104 nm_X0_has ⟨by decide, by decide⟩ (fp_5 (hn)) rfl hl.1 (Nat.le_of_ble_eq_true rfl) dX2_attach_56 ⟨Nat.zero_le _, Nat.zero_le _⟩ (fun H locs hG => ?_)
  refine W.eq (g2 := F0 m 59 ls [.int 0]) rfl ?_
  refine lv_if_ne (tgt := 65) hx hb dX2_attach_59 rfl (fun hh => absurd (rfl) hh) (fun _ => ?_)
  refine lv_bipush (v := (-3)) hx hb dX2_attach_62 (by decide) ?_
  exact g_iret hx hb hr hlk hG dX2_attach_64
set_option maxHeartbeats 4000000 in
set_option maxRecDepth 100000 in
theorem fp_attach_4 {j n : Nat} (hj : j < 5) (h : run j = true) (hn : n < 5) (h2 : run n = true) {k i : Nat} (hk : k < 64) (hi : i < 64) (h3 : mp n i = true) (h4 : mp j k = true) : gM l yX2_attach cX2_attach 9 (some .int) 4 90 D cls (fpT cI cQ cZ) A (fpW ad cI cQ run mp fr kd wd ct af cf) [.ref (ad 0), .int (nI j), .int (nI k), .int (nI n), .int (nI i)] (some (.int (-4))) (fpW ad cI cQ run mp fr kd wd ct af cf) := by
  refine gM_of (by decide) (Nat.le_of_ble_eq_true rfl) ?_
  intro p e s m args below meth c ls hx hb hml hown hts hN hr hlk hl hG
  have hown : s.vm.findClass RX2 = some m.cls := hown
  have hl : lv_has ls 9 [(0, .ref (ad 0)), (1, .int (nI j)), (2, .int (nI k)), (3, .int (nI n)), (4, .int (nI i))] := hl
  refine lv_aload_n hx hb dX2_attach_0 rfl (lv_at hl 0 rfl) ?_
  refine lv_iload_n hx hb dX2_attach_1 rfl (lv_at hl 1 rfl) ?_
  refine g_callV (As := [.int (nI j)]) (rest := []) (fs := [.ref (ad 1), .ref (ad 2), .int af, .int cf]) (fm_isRunning_t hj h) hx hb hml hown hts hN hG t_97 t_99 s_4 t_1 t_100 nm_X2_isRunning ⟨by decide, by decide⟩ fp_0 rfl hl.1 (Nat.le_of_ble_eq_true rfl) dX2_attach_2 ⟨Nat.zero_le _, Nat.zero_le _⟩ (fun H locs hG => ?_)
  refine W.eq (g2 := F0 m 5 ls [.int 1]) rfl ?_
  refine lv_if_eq (tgt := 16) hx hb dX2_attach_5 rfl (fun hh => absurd hh (by decide)) (fun _ => ?_)
  refine lv_aload_n hx hb dX2_attach_8 rfl (lv_at hl 0 rfl) ?_
  refine lv_iload_n hx hb dX2_attach_9 rfl (lv_at hl 3 rfl) ?_
  refine g_callV (As := [.int (nI n)]) (rest := []) (fs := [.ref (ad 1), .ref (ad 2), .int af, .int cf]) (fm_isRunning_t hn h2) hx hb hml hown hts hN hG t_97 t_99 s_4 t_1 t_100 nm_X2_isRunning ⟨by decide, by decide⟩ fp_0 rfl hl.1 (Nat.le_of_ble_eq_true rfl) dX2_attach_10 ⟨Nat.zero_le _, Nat.zero_le _⟩ (fun H locs hG => ?_)
  refine W.eq (g2 := F0 m 13 ls [.int 1]) rfl ?_
  refine lv_if_ne (tgt := 18) hx hb dX2_attach_13 rfl (fun _ => ?_) (fun hh => absurd hh (by decide))
  refine lv_iload_n hx hb dX2_attach_18 rfl (lv_at hl 2 rfl) ?_
  refine g_callS (As := [.int (nI k)]) (rest := []) (fm_isPage_t hk) hx hb hml hown hts hN hG t_142 t_143 t_1 t_144 nm_X2_isPage ⟨by decide, by decide⟩ hl.1 (Nat.le_of_ble_eq_true rfl) dX2_attach_19 ⟨Nat.zero_le _, Nat.zero_le _⟩ (fun H locs hG => ?_)
  refine W.eq (g2 := F0 m 22 ls [.int 1]) rfl ?_
  refine lv_if_eq (tgt := 33) hx hb dX2_attach_22 rfl (fun hh => absurd hh (by decide)) (fun _ => ?_)
  refine lv_iload hx hb dX2_attach_25 (lv_at hl 4 rfl) ?_
  refine g_callS (As := [.int (nI i)]) (rest := []) (fm_isPage_t hi) hx hb hml hown hts hN hG t_142 t_143 t_1 t_144 nm_X2_isPage ⟨by decide, by decide⟩ hl.1 (Nat.le_of_ble_eq_true rfl) dX2_attach_27 ⟨Nat.zero_le _, Nat.zero_le _⟩ (fun H locs hG => ?_)
  refine W.eq (g2 := F0 m 30 ls [.int 1]) rfl ?_
  refine lv_if_ne (tgt := 36) hx hb dX2_attach_30 rfl (fun _ => ?_) (fun hh => absurd hh (by decide))
  refine lv_aload_n hx hb dX2_attach_36 rfl (lv_at hl 0 rfl) ?_
  refine g_get (k := 0) (v := .ref (ad 1)) (C := RX2) (ref := RX2) (fs := [.ref (ad 1), .ref (ad 2), .int af, .int cf]) hx hb hown hts hG gX2 rfl fp_0 (by decide) t_53 rfl rfl dX2_attach_37 ?_
  refine lv_iload_n hx hb dX2_attach_40 rfl (lv_at hl 1 rfl) ?_
  refine g_aald (i := j) (t0 := 1) hx hb hG fp_1 rfl (hj) (by decide) rfl dX2_attach_41 ?_
  refine lv_astore (lv' := [(5, .ref (ad (5 + 3 * j))), (0, .ref (ad 0)), (1, .int (nI j)), (2, .int (nI k)), (3, .int (nI n)), (4, .int (nI i))]) hx hb dX2_attach_42 hl (by decide) rfl (fun ls hl => ?_)
  refine lv_aload_n hx hb dX2_attach_44 rfl (lv_at hl 1 rfl) ?_
  refine g_get (k := 0) (v := .ref (ad 1)) (C := RX2) (ref := RX2) (fs := [.ref (ad 1), .ref (ad 2), .int af, .int cf]) hx hb hown hts hG gX2 rfl fp_0 (by decide) t_53 rfl rfl dX2_attach_45 ?_
  refine lv_iload_n hx hb dX2_attach_48 rfl (lv_at hl 4 rfl) ?_
  refine g_aald (i := n) (t0 := 1) hx hb hG fp_1 rfl (hn) (by decide) rfl dX2_attach_49 ?_
  refine lv_astore (lv' := [(6, .ref (ad (5 + 3 * n))), (5, .ref (ad (5 + 3 * j))), (0, .ref (ad 0)), (1, .int (nI j)), (2, .int (nI k)), (3, .int (nI n)), (4, .int (nI i))]) hx hb dX2_attach_50 hl (by decide) rfl (fun ls hl => ?_)
  refine lv_aload hx hb dX2_attach_52 (lv_at hl 0 rfl) ?_
  refine lv_iload hx hb dX2_attach_54 (lv_at hl 6 rfl) ?_
  refine g_callVN (As := [.int (nI i)]) (rest := []) (fs := [.int (bI (run n)), .long (en (mp n)), .ref (ad (6 + 3 * n)), .ref (ad (7 + 3 * n))]) (fm_has_t hn hi h3) hx hb hml hown hts hN hG t_101 t_103 s_5 t_2 t_104 nm_X0_has ⟨by decide, by decide⟩ (fp_5 (hn)) rfl hl.1 (Nat.le_of_ble_eq_true rfl) dX2_attach_56 ⟨Nat.zero_le _, Nat.zero_le _⟩ (fun H locs hG => ?_)
  refine W.eq (g2 := F0 m 59 ls [.int 1]) rfl ?_
  refine lv_if_ne (tgt := 65) hx hb dX2_attach_59 rfl (fun _ => ?_) (fun hh => absurd hh (by decide))
  refine lv_aload hx hb dX2_attach_65 (lv_at hl 1 rfl) ?_
  refine lv_iload_n hx hb dX2_attach_67 rfl (lv_at hl 4 rfl) ?_
  refine g_callVN (As := [.int (nI k)]) (rest := []) (fs := [.int (bI (run j)), .long (en (mp j)), .ref (ad (6 + 3 * j)), .ref (ad (7 + 3 * j))]) (fm_has_t hj hk h4) hx hb hml hown hts hN hG t_101 t_103 s_5 t_2 t_104 nm_X0_has ⟨by decide, by decide⟩ (fp_5 (hj)) rfl hl.1 (Nat.le_of_ble_eq_true rfl) dX2_attach_68 ⟨Nat.zero_le _, Nat.zero_le _⟩ (fun H locs hG => ?_)
  refine W.eq (g2 := F0 m 71 ls [.int 1]) rfl ?_
  refine lv_if_eq (tgt := 77) hx hb dX2_attach_71 rfl (fun hh => absurd hh (by decide)) (fun _ => ?_)
  refine lv_bipush (v := (-4)) hx hb dX2_attach_74 (by decide) ?_
  exact g_iret hx hb hr hlk hG dX2_attach_76
set_option maxHeartbeats 4000000 in
set_option maxRecDepth 100000 in
theorem fp_attach_6 {j n : Nat} (hj : j < 5) (h : run j = true) (hn : n < 5) (h2 : run n = true) {k i : Nat} (hk : k < 64) (hi : i < 64) (h3 : mp n i = true) (h4 : mp j k = false) (h5 : kd n i &&& 2 = 0) : gM l yX2_attach cX2_attach 9 (some .int) 4 90 D cls (fpT cI cQ cZ) A (fpW ad cI cQ run mp fr kd wd ct af cf) [.ref (ad 0), .int (nI j), .int (nI k), .int (nI n), .int (nI i)] (some (.int (-6))) (fpW ad cI cQ run mp fr kd wd ct af cf) := by
  refine gM_of (by decide) (Nat.le_of_ble_eq_true rfl) ?_
  intro p e s m args below meth c ls hx hb hml hown hts hN hr hlk hl hG
  have hown : s.vm.findClass RX2 = some m.cls := hown
  have hl : lv_has ls 9 [(0, .ref (ad 0)), (1, .int (nI j)), (2, .int (nI k)), (3, .int (nI n)), (4, .int (nI i))] := hl
  refine lv_aload_n hx hb dX2_attach_0 rfl (lv_at hl 0 rfl) ?_
  refine lv_iload_n hx hb dX2_attach_1 rfl (lv_at hl 1 rfl) ?_
  refine g_callV (As := [.int (nI j)]) (rest := []) (fs := [.ref (ad 1), .ref (ad 2), .int af, .int cf]) (fm_isRunning_t hj h) hx hb hml hown hts hN hG t_97 t_99 s_4 t_1 t_100 nm_X2_isRunning ⟨by decide, by decide⟩ fp_0 rfl hl.1 (Nat.le_of_ble_eq_true rfl) dX2_attach_2 ⟨Nat.zero_le _, Nat.zero_le _⟩ (fun H locs hG => ?_)
  refine W.eq (g2 := F0 m 5 ls [.int 1]) rfl ?_
  refine lv_if_eq (tgt := 16) hx hb dX2_attach_5 rfl (fun hh => absurd hh (by decide)) (fun _ => ?_)
  refine lv_aload_n hx hb dX2_attach_8 rfl (lv_at hl 0 rfl) ?_
  refine lv_iload_n hx hb dX2_attach_9 rfl (lv_at hl 3 rfl) ?_
  refine g_callV (As := [.int (nI n)]) (rest := []) (fs := [.ref (ad 1), .ref (ad 2), .int af, .int cf]) (fm_isRunning_t hn h2) hx hb hml hown hts hN hG t_97 t_99 s_4 t_1 t_100 nm_X2_isRunning ⟨by decide, by decide⟩ fp_0 rfl hl.1 (Nat.le_of_ble_eq_true rfl) dX2_attach_10 ⟨Nat.zero_le _, Nat.zero_le _⟩ (fun H locs hG => ?_)
  refine W.eq (g2 := F0 m 13 ls [.int 1]) rfl ?_
  refine lv_if_ne (tgt := 18) hx hb dX2_attach_13 rfl (fun _ => ?_) (fun hh => absurd hh (by decide))
  refine lv_iload_n hx hb dX2_attach_18 rfl (lv_at hl 2 rfl) ?_
  refine g_callS (As := [.int (nI k)]) (rest := []) (fm_isPage_t hk) hx hb hml hown hts hN hG t_142 t_143 t_1 t_144 nm_X2_isPage ⟨by decide, by decide⟩ hl.1 (Nat.le_of_ble_eq_true rfl) dX2_attach_19 ⟨Nat.zero_le _, Nat.zero_le _⟩ (fun H locs hG => ?_)
  refine W.eq (g2 := F0 m 22 ls [.int 1]) rfl ?_
  refine lv_if_eq (tgt := 33) hx hb dX2_attach_22 rfl (fun hh => absurd hh (by decide)) (fun _ => ?_)
  refine lv_iload hx hb dX2_attach_25 (lv_at hl 4 rfl) ?_
  refine g_callS (As := [.int (nI i)]) (rest := []) (fm_isPage_t hi) hx hb hml hown hts hN hG t_142 t_143 t_1 t_144 nm_X2_isPage ⟨by decide, by decide⟩ hl.1 (Nat.le_of_ble_eq_true rfl) dX2_attach_27 ⟨Nat.zero_le _, Nat.zero_le _⟩ (fun H locs hG => ?_)
  refine W.eq (g2 := F0 m 30 ls [.int 1]) rfl ?_
  refine lv_if_ne (tgt := 36) hx hb dX2_attach_30 rfl (fun _ => ?_) (fun hh => absurd hh (by decide))
  refine lv_aload_n hx hb dX2_attach_36 rfl (lv_at hl 0 rfl) ?_
  refine g_get (k := 0) (v := .ref (ad 1)) (C := RX2) (ref := RX2) (fs := [.ref (ad 1), .ref (ad 2), .int af, .int cf]) hx hb hown hts hG gX2 rfl fp_0 (by decide) t_53 rfl rfl dX2_attach_37 ?_
  refine lv_iload_n hx hb dX2_attach_40 rfl (lv_at hl 1 rfl) ?_
  refine g_aald (i := j) (t0 := 1) hx hb hG fp_1 rfl (hj) (by decide) rfl dX2_attach_41 ?_
  refine lv_astore (lv' := [(5, .ref (ad (5 + 3 * j))), (0, .ref (ad 0)), (1, .int (nI j)), (2, .int (nI k)), (3, .int (nI n)), (4, .int (nI i))]) hx hb dX2_attach_42 hl (by decide) rfl (fun ls hl => ?_)
  refine lv_aload_n hx hb dX2_attach_44 rfl (lv_at hl 1 rfl) ?_
  refine g_get (k := 0) (v := .ref (ad 1)) (C := RX2) (ref := RX2) (fs := [.ref (ad 1), .ref (ad 2), .int af, .int cf]) hx hb hown hts hG gX2 rfl fp_0 (by decide) t_53 rfl rfl dX2_attach_45 ?_
  refine lv_iload_n hx hb dX2_attach_48 rfl (lv_at hl 4 rfl) ?_
  refine g_aald (i := n) (t0 := 1) hx hb hG fp_1 rfl (hn) (by decide) rfl dX2_attach_49 ?_
  refine lv_astore (lv' := [(6, .ref (ad (5 + 3 * n))), (5, .ref (ad (5 + 3 * j))), (0, .ref (ad 0)), (1, .int (nI j)), (2, .int (nI k)), (3, .int (nI n)), (4, .int (nI i))]) hx hb dX2_attach_50 hl (by decide) rfl (fun ls hl => ?_)
  refine lv_aload hx hb dX2_attach_52 (lv_at hl 0 rfl) ?_
  refine lv_iload hx hb dX2_attach_54 (lv_at hl 6 rfl) ?_
  refine g_callVN (As := [.int (nI i)]) (rest := []) (fs := [.int (bI (run n)), .long (en (mp n)), .ref (ad (6 + 3 * n)), .ref (ad (7 + 3 * n))]) (fm_has_t hn hi h3) hx hb hml hown hts hN hG t_101 t_103 s_5 t_2 t_104 nm_X0_has ⟨by decide, by decide⟩ (fp_5 (hn)) rfl hl.1 (Nat.le_of_ble_eq_true rfl) dX2_attach_56 ⟨Nat.zero_le _, Nat.zero_le _⟩ (fun H locs hG => ?_)
  refine W.eq (g2 := F0 m 59 ls [.int 1]) rfl ?_
  refine lv_if_ne (tgt := 65) hx hb dX2_attach_59 rfl (fun _ => ?_) (fun hh => absurd hh (by decide))
  refine lv_aload hx hb dX2_attach_65 (lv_at hl 1 rfl) ?_
  refine lv_iload_n hx hb dX2_attach_67 rfl (lv_at hl 4 rfl) ?_
  refine g_callVN (As := [.int (nI k)]) (rest := []) (fs := [.int (bI (run j)), .long (en (mp j)), .ref (ad (6 + 3 * j)), .ref (ad (7 + 3 * j))]) (fm_has_f hj hk h4) hx hb hml hown hts hN hG t_101 t_103 s_5 t_2 t_104 nm_X0_has ⟨by decide, by decide⟩ (fp_5 (hj)) rfl hl.1 (Nat.le_of_ble_eq_true rfl) dX2_attach_68 ⟨Nat.zero_le _, Nat.zero_le _⟩ (fun H locs hG => ?_)
  refine W.eq (g2 := F0 m 71 ls [.int 0]) rfl ?_
  refine lv_if_eq (tgt := 77) hx hb dX2_attach_71 rfl (fun _ => ?_) (fun hh => absurd (rfl) hh)
  refine lv_aload hx hb dX2_attach_77 (lv_at hl 0 rfl) ?_
  refine lv_iconst (v := 2) hx hb dX2_attach_79 (by decide) ?_
  refine lv_iload hx hb dX2_attach_80 (lv_at hl 6 rfl) ?_
  refine g_callVN (As := [.int 2, .int (nI i)]) (rest := []) (fs := [.int (bI (run n)), .long (en (mp n)), .ref (ad (6 + 3 * n)), .ref (ad (7 + 3 * n))]) (fm_is_f hn hi h5) hx hb hml hown hts hN hG t_109 t_111 s_7 t_2 t_112 nm_X0_is ⟨by decide, by decide⟩ (fp_5 (hn)) rfl hl.1 (Nat.le_of_ble_eq_true rfl) dX2_attach_82 ⟨Nat.zero_le _, Nat.zero_le _⟩ (fun H locs hG => ?_)
  refine W.eq (g2 := F0 m 85 ls [.int 0]) rfl ?_
  refine lv_if_ne (tgt := 91) hx hb dX2_attach_85 rfl (fun hh => absurd (rfl) hh) (fun _ => ?_)
  refine lv_bipush (v := (-6)) hx hb dX2_attach_88 (by decide) ?_
  exact g_iret hx hb hr hlk hG dX2_attach_90
set_option maxHeartbeats 4000000 in
set_option maxRecDepth 100000 in
theorem fp_attach_8 {j n : Nat} (hj : j < 5) (h : run j = true) (hn : n < 5) (h2 : run n = true) {k i : Nat} (hk : k < 64) (hi : i < 64) (h3 : mp n i = true) (h4 : mp j k = false) (h5 : ¬ kd n i &&& 2 = 0) (h6 : ¬ (nI (tbN (up1 (mp j) k true)) - nI (tbN (mp j))) ≤ frF run mp ct) : gM l yX2_attach cX2_attach 9 (some .int) 4 90 D cls (fpT cI cQ cZ) A (fpW ad cI cQ run mp fr kd wd ct af cf) [.ref (ad 0), .int (nI j), .int (nI k), .int (nI n), .int (nI i)] (some (.int (-8))) (fpW ad cI cQ run mp fr kd wd ct af cf) := by
  refine gM_of (by decide) (Nat.le_of_ble_eq_true rfl) ?_
  intro p e s m args below meth c ls hx hb hml hown hts hN hr hlk hl hG
  have hown : s.vm.findClass RX2 = some m.cls := hown
  have hl : lv_has ls 9 [(0, .ref (ad 0)), (1, .int (nI j)), (2, .int (nI k)), (3, .int (nI n)), (4, .int (nI i))] := hl
  refine lv_aload_n hx hb dX2_attach_0 rfl (lv_at hl 0 rfl) ?_
  refine lv_iload_n hx hb dX2_attach_1 rfl (lv_at hl 1 rfl) ?_
  refine g_callV (As := [.int (nI j)]) (rest := []) (fs := [.ref (ad 1), .ref (ad 2), .int af, .int cf]) (fm_isRunning_t hj h) hx hb hml hown hts hN hG t_97 t_99 s_4 t_1 t_100 nm_X2_isRunning ⟨by decide, by decide⟩ fp_0 rfl hl.1 (Nat.le_of_ble_eq_true rfl) dX2_attach_2 ⟨Nat.zero_le _, Nat.zero_le _⟩ (fun H locs hG => ?_)
  refine W.eq (g2 := F0 m 5 ls [.int 1]) rfl ?_
  refine lv_if_eq (tgt := 16) hx hb dX2_attach_5 rfl (fun hh => absurd hh (by decide)) (fun _ => ?_)
  refine lv_aload_n hx hb dX2_attach_8 rfl (lv_at hl 0 rfl) ?_
  refine lv_iload_n hx hb dX2_attach_9 rfl (lv_at hl 3 rfl) ?_
  refine g_callV (As := [.int (nI n)]) (rest := []) (fs := [.ref (ad 1), .ref (ad 2), .int af, .int cf]) (fm_isRunning_t hn h2) hx hb hml hown hts hN hG t_97 t_99 s_4 t_1 t_100 nm_X2_isRunning ⟨by decide, by decide⟩ fp_0 rfl hl.1 (Nat.le_of_ble_eq_true rfl) dX2_attach_10 ⟨Nat.zero_le _, Nat.zero_le _⟩ (fun H locs hG => ?_)
  refine W.eq (g2 := F0 m 13 ls [.int 1]) rfl ?_
  refine lv_if_ne (tgt := 18) hx hb dX2_attach_13 rfl (fun _ => ?_) (fun hh => absurd hh (by decide))
  refine lv_iload_n hx hb dX2_attach_18 rfl (lv_at hl 2 rfl) ?_
  refine g_callS (As := [.int (nI k)]) (rest := []) (fm_isPage_t hk) hx hb hml hown hts hN hG t_142 t_143 t_1 t_144 nm_X2_isPage ⟨by decide, by decide⟩ hl.1 (Nat.le_of_ble_eq_true rfl) dX2_attach_19 ⟨Nat.zero_le _, Nat.zero_le _⟩ (fun H locs hG => ?_)
  refine W.eq (g2 := F0 m 22 ls [.int 1]) rfl ?_
  refine lv_if_eq (tgt := 33) hx hb dX2_attach_22 rfl (fun hh => absurd hh (by decide)) (fun _ => ?_)
  refine lv_iload hx hb dX2_attach_25 (lv_at hl 4 rfl) ?_
  refine g_callS (As := [.int (nI i)]) (rest := []) (fm_isPage_t hi) hx hb hml hown hts hN hG t_142 t_143 t_1 t_144 nm_X2_isPage ⟨by decide, by decide⟩ hl.1 (Nat.le_of_ble_eq_true rfl) dX2_attach_27 ⟨Nat.zero_le _, Nat.zero_le _⟩ (fun H locs hG => ?_)
  refine W.eq (g2 := F0 m 30 ls [.int 1]) rfl ?_
  refine lv_if_ne (tgt := 36) hx hb dX2_attach_30 rfl (fun _ => ?_) (fun hh => absurd hh (by decide))
  refine lv_aload_n hx hb dX2_attach_36 rfl (lv_at hl 0 rfl) ?_
  refine g_get (k := 0) (v := .ref (ad 1)) (C := RX2) (ref := RX2) (fs := [.ref (ad 1), .ref (ad 2), .int af, .int cf]) hx hb hown hts hG gX2 rfl fp_0 (by decide) t_53 rfl rfl dX2_attach_37 ?_
  refine lv_iload_n hx hb dX2_attach_40 rfl (lv_at hl 1 rfl) ?_
  refine g_aald (i := j) (t0 := 1) hx hb hG fp_1 rfl (hj) (by decide) rfl dX2_attach_41 ?_
  refine lv_astore (lv' := [(5, .ref (ad (5 + 3 * j))), (0, .ref (ad 0)), (1, .int (nI j)), (2, .int (nI k)), (3, .int (nI n)), (4, .int (nI i))]) hx hb dX2_attach_42 hl (by decide) rfl (fun ls hl => ?_)
  refine lv_aload_n hx hb dX2_attach_44 rfl (lv_at hl 1 rfl) ?_
  refine g_get (k := 0) (v := .ref (ad 1)) (C := RX2) (ref := RX2) (fs := [.ref (ad 1), .ref (ad 2), .int af, .int cf]) hx hb hown hts hG gX2 rfl fp_0 (by decide) t_53 rfl rfl dX2_attach_45 ?_
  refine lv_iload_n hx hb dX2_attach_48 rfl (lv_at hl 4 rfl) ?_
  refine g_aald (i := n) (t0 := 1) hx hb hG fp_1 rfl (hn) (by decide) rfl dX2_attach_49 ?_
  refine lv_astore (lv' := [(6, .ref (ad (5 + 3 * n))), (5, .ref (ad (5 + 3 * j))), (0, .ref (ad 0)), (1, .int (nI j)), (2, .int (nI k)), (3, .int (nI n)), (4, .int (nI i))]) hx hb dX2_attach_50 hl (by decide) rfl (fun ls hl => ?_)
  refine lv_aload hx hb dX2_attach_52 (lv_at hl 0 rfl) ?_
  refine lv_iload hx hb dX2_attach_54 (lv_at hl 6 rfl) ?_
  refine g_callVN (As := [.int (nI i)]) (rest := []) (fs := [.int (bI (run n)), .long (en (mp n)), .ref (ad (6 + 3 * n)), .ref (ad (7 + 3 * n))]) (fm_has_t hn hi h3) hx hb hml hown hts hN hG t_101 t_103 s_5 t_2 t_104 nm_X0_has ⟨by decide, by decide⟩ (fp_5 (hn)) rfl hl.1 (Nat.le_of_ble_eq_true rfl) dX2_attach_56 ⟨Nat.zero_le _, Nat.zero_le _⟩ (fun H locs hG => ?_)
  refine W.eq (g2 := F0 m 59 ls [.int 1]) rfl ?_
  refine lv_if_ne (tgt := 65) hx hb dX2_attach_59 rfl (fun _ => ?_) (fun hh => absurd hh (by decide))
  refine lv_aload hx hb dX2_attach_65 (lv_at hl 1 rfl) ?_
  refine lv_iload_n hx hb dX2_attach_67 rfl (lv_at hl 4 rfl) ?_
  refine g_callVN (As := [.int (nI k)]) (rest := []) (fs := [.int (bI (run j)), .long (en (mp j)), .ref (ad (6 + 3 * j)), .ref (ad (7 + 3 * j))]) (fm_has_f hj hk h4) hx hb hml hown hts hN hG t_101 t_103 s_5 t_2 t_104 nm_X0_has ⟨by decide, by decide⟩ (fp_5 (hj)) rfl hl.1 (Nat.le_of_ble_eq_true rfl) dX2_attach_68 ⟨Nat.zero_le _, Nat.zero_le _⟩ (fun H locs hG => ?_)
  refine W.eq (g2 := F0 m 71 ls [.int 0]) rfl ?_
  refine lv_if_eq (tgt := 77) hx hb dX2_attach_71 rfl (fun _ => ?_) (fun hh => absurd (rfl) hh)
  refine lv_aload hx hb dX2_attach_77 (lv_at hl 0 rfl) ?_
  refine lv_iconst (v := 2) hx hb dX2_attach_79 (by decide) ?_
  refine lv_iload hx hb dX2_attach_80 (lv_at hl 6 rfl) ?_
  refine g_callVN (As := [.int 2, .int (nI i)]) (rest := []) (fs := [.int (bI (run n)), .long (en (mp n)), .ref (ad (6 + 3 * n)), .ref (ad (7 + 3 * n))]) (fm_is_t hn hi h5) hx hb hml hown hts hN hG t_109 t_111 s_7 t_2 t_112 nm_X0_is ⟨by decide, by decide⟩ (fp_5 (hn)) rfl hl.1 (Nat.le_of_ble_eq_true rfl) dX2_attach_82 ⟨Nat.zero_le _, Nat.zero_le _⟩ (fun H locs hG => ?_)
  refine W.eq (g2 := F0 m 85 ls [.int 1]) rfl ?_
  refine lv_if_ne (tgt := 91) hx hb dX2_attach_85 rfl (fun _ => ?_) (fun hh => absurd hh (by decide))
  refine lv_aload hx hb dX2_attach_91 (lv_at hl 1 rfl) ?_
  refine lv_iload_n hx hb dX2_attach_93 rfl (lv_at hl 4 rfl) ?_
  refine g_callVN (As := [.int (nI k)]) (rest := []) (fs := [.int (bI (run j)), .long (en (mp j)), .ref (ad (6 + 3 * j)), .ref (ad (7 + 3 * j))]) (fm_tablesToAdd hj hk) hx hb hml hown hts hN hG t_145 t_147 s_13 t_2 t_148 nm_X0_tablesToAdd ⟨by decide, by decide⟩ (fp_5 (hj)) rfl hl.1 (Nat.le_of_ble_eq_true rfl) dX2_attach_94 ⟨Nat.zero_le _, Nat.zero_le _⟩ (fun H locs hG => ?_)
  refine W.eq (g2 := F0 m 97 ls [.int (nI (tbN (up1 (mp j) k true)) - nI (tbN (mp j)))]) rfl ?_
  refine lv_istore (lv' := [(7, .int (nI (tbN (up1 (mp j) k true)) - nI (tbN (mp j)))), (6, .ref (ad (5 + 3 * n))), (5, .ref (ad (5 + 3 * j))), (0, .ref (ad 0)), (1, .int (nI j)), (2, .int (nI k)), (3, .int (nI n)), (4, .int (nI i))]) hx hb dX2_attach_97 hl (by decide) rfl (fun ls hl => ?_)
  refine lv_aload_n hx hb dX2_attach_99 rfl (lv_at hl 3 rfl) ?_
  refine g_callV (As := []) (rest := []) (fs := [.ref (ad 1), .ref (ad 2), .int af, .int cf]) (fm_freeFrames) hx hb hml hown hts hN hG t_74 t_76 s_1 t_1 t_77 nm_X2_freeFrames ⟨by decide, by decide⟩ fp_0 rfl hl.1 (Nat.le_of_ble_eq_true rfl) dX2_attach_100 ⟨Nat.zero_le _, Nat.zero_le _⟩ (fun H locs hG => ?_)
  refine W.eq (g2 := F0 m 103 ls [.int (frF run mp ct)]) rfl ?_
  refine lv_iload hx hb dX2_attach_103 (lv_at hl 0 rfl) ?_
  refine lv_icmp_ge (tgt := 111) hx hb dX2_attach_105 rfl (fun hh => absurd hh (h6)) (fun _ => ?_)
  refine lv_bipush (v := (-8)) hx hb dX2_attach_108 (by decide) ?_
  exact g_iret hx hb hr hlk hG dX2_attach_110
set_option maxHeartbeats 4000000 in
set_option maxRecDepth 100000 in
theorem fp_attach_w {j n : Nat} (hj : j < 5) (h : run j = true) (hn : n < 5) (h2 : run n = true) {k i : Nat} (hk : k < 64) (hi : i < 64) (h3 : mp n i = true) (h4 : mp j k = false) (h5 : ¬ kd n i &&& 2 = 0) (h6 : (nI (tbN (up1 (mp j) k true)) - nI (tbN (mp j))) ≤ frF run mp ct) (hf : fr n i < 24) (h7 : ¬ kd n i &&& 1 = 0) : gM l yX2_attach cX2_attach 9 (some .int) 4 90 D cls (fpT cI cQ cZ) A (fpW ad cI cQ run mp fr kd wd ct af cf) [.ref (ad 0), .int (nI j), .int (nI k), .int (nI n), .int (nI i)] (some (.int (nI (tbN (up1 (mp j) k true)) - nI (tbN (mp j))))) (fpW ad cI cQ run (up1 mp j (up1 (mp j) k true)) (up1 fr j (up1 (fr j) k (fr n i))) (up1 kd j (upd (kd j) k 3)) wd (upd ct (fr n i) (ct (fr n i) + 1)) af cf) := by
  refine gM_of (by decide) (Nat.le_of_ble_eq_true rfl) ?_
  intro p e s m args below meth c ls hx hb hml hown hts hN hr hlk hl hG
  have hown : s.vm.findClass RX2 = some m.cls := hown
  have hl : lv_has ls 9 [(0, .ref (ad 0)), (1, .int (nI j)), (2, .int (nI k)), (3, .int (nI n)), (4, .int (nI i))] := hl
  refine lv_aload_n hx hb dX2_attach_0 rfl (lv_at hl 0 rfl) ?_
  refine lv_iload_n hx hb dX2_attach_1 rfl (lv_at hl 1 rfl) ?_
  refine g_callV (As := [.int (nI j)]) (rest := []) (fs := [.ref (ad 1), .ref (ad 2), .int af, .int cf]) (fm_isRunning_t hj h) hx hb hml hown hts hN hG t_97 t_99 s_4 t_1 t_100 nm_X2_isRunning ⟨by decide, by decide⟩ fp_0 rfl hl.1 (Nat.le_of_ble_eq_true rfl) dX2_attach_2 ⟨Nat.zero_le _, Nat.zero_le _⟩ (fun H locs hG => ?_)
  refine W.eq (g2 := F0 m 5 ls [.int 1]) rfl ?_
  refine lv_if_eq (tgt := 16) hx hb dX2_attach_5 rfl (fun hh => absurd hh (by decide)) (fun _ => ?_)
  refine lv_aload_n hx hb dX2_attach_8 rfl (lv_at hl 0 rfl) ?_
  refine lv_iload_n hx hb dX2_attach_9 rfl (lv_at hl 3 rfl) ?_
  refine g_callV (As := [.int (nI n)]) (rest := []) (fs := [.ref (ad 1), .ref (ad 2), .int af, .int cf]) (fm_isRunning_t hn h2) hx hb hml hown hts hN hG t_97 t_99 s_4 t_1 t_100 nm_X2_isRunning ⟨by decide, by decide⟩ fp_0 rfl hl.1 (Nat.le_of_ble_eq_true rfl) dX2_attach_10 ⟨Nat.zero_le _, Nat.zero_le _⟩ (fun H locs hG => ?_)
  refine W.eq (g2 := F0 m 13 ls [.int 1]) rfl ?_
  refine lv_if_ne (tgt := 18) hx hb dX2_attach_13 rfl (fun _ => ?_) (fun hh => absurd hh (by decide))
  refine lv_iload_n hx hb dX2_attach_18 rfl (lv_at hl 2 rfl) ?_
  refine g_callS (As := [.int (nI k)]) (rest := []) (fm_isPage_t hk) hx hb hml hown hts hN hG t_142 t_143 t_1 t_144 nm_X2_isPage ⟨by decide, by decide⟩ hl.1 (Nat.le_of_ble_eq_true rfl) dX2_attach_19 ⟨Nat.zero_le _, Nat.zero_le _⟩ (fun H locs hG => ?_)
  refine W.eq (g2 := F0 m 22 ls [.int 1]) rfl ?_
  refine lv_if_eq (tgt := 33) hx hb dX2_attach_22 rfl (fun hh => absurd hh (by decide)) (fun _ => ?_)
  refine lv_iload hx hb dX2_attach_25 (lv_at hl 4 rfl) ?_
  refine g_callS (As := [.int (nI i)]) (rest := []) (fm_isPage_t hi) hx hb hml hown hts hN hG t_142 t_143 t_1 t_144 nm_X2_isPage ⟨by decide, by decide⟩ hl.1 (Nat.le_of_ble_eq_true rfl) dX2_attach_27 ⟨Nat.zero_le _, Nat.zero_le _⟩ (fun H locs hG => ?_)
  refine W.eq (g2 := F0 m 30 ls [.int 1]) rfl ?_
  refine lv_if_ne (tgt := 36) hx hb dX2_attach_30 rfl (fun _ => ?_) (fun hh => absurd hh (by decide))
  refine lv_aload_n hx hb dX2_attach_36 rfl (lv_at hl 0 rfl) ?_
  refine g_get (k := 0) (v := .ref (ad 1)) (C := RX2) (ref := RX2) (fs := [.ref (ad 1), .ref (ad 2), .int af, .int cf]) hx hb hown hts hG gX2 rfl fp_0 (by decide) t_53 rfl rfl dX2_attach_37 ?_
  refine lv_iload_n hx hb dX2_attach_40 rfl (lv_at hl 1 rfl) ?_
  refine g_aald (i := j) (t0 := 1) hx hb hG fp_1 rfl (hj) (by decide) rfl dX2_attach_41 ?_
  refine lv_astore (lv' := [(5, .ref (ad (5 + 3 * j))), (0, .ref (ad 0)), (1, .int (nI j)), (2, .int (nI k)), (3, .int (nI n)), (4, .int (nI i))]) hx hb dX2_attach_42 hl (by decide) rfl (fun ls hl => ?_)
  refine lv_aload_n hx hb dX2_attach_44 rfl (lv_at hl 1 rfl) ?_
  refine g_get (k := 0) (v := .ref (ad 1)) (C := RX2) (ref := RX2) (fs := [.ref (ad 1), .ref (ad 2), .int af, .int cf]) hx hb hown hts hG gX2 rfl fp_0 (by decide) t_53 rfl rfl dX2_attach_45 ?_
  refine lv_iload_n hx hb dX2_attach_48 rfl (lv_at hl 4 rfl) ?_
  refine g_aald (i := n) (t0 := 1) hx hb hG fp_1 rfl (hn) (by decide) rfl dX2_attach_49 ?_
  refine lv_astore (lv' := [(6, .ref (ad (5 + 3 * n))), (5, .ref (ad (5 + 3 * j))), (0, .ref (ad 0)), (1, .int (nI j)), (2, .int (nI k)), (3, .int (nI n)), (4, .int (nI i))]) hx hb dX2_attach_50 hl (by decide) rfl (fun ls hl => ?_)
  refine lv_aload hx hb dX2_attach_52 (lv_at hl 0 rfl) ?_
  refine lv_iload hx hb dX2_attach_54 (lv_at hl 6 rfl) ?_
  refine g_callVN (As := [.int (nI i)]) (rest := []) (fs := [.int (bI (run n)), .long (en (mp n)), .ref (ad (6 + 3 * n)), .ref (ad (7 + 3 * n))]) (fm_has_t hn hi h3) hx hb hml hown hts hN hG t_101 t_103 s_5 t_2 t_104 nm_X0_has ⟨by decide, by decide⟩ (fp_5 (hn)) rfl hl.1 (Nat.le_of_ble_eq_true rfl) dX2_attach_56 ⟨Nat.zero_le _, Nat.zero_le _⟩ (fun H locs hG => ?_)
  refine W.eq (g2 := F0 m 59 ls [.int 1]) rfl ?_
  refine lv_if_ne (tgt := 65) hx hb dX2_attach_59 rfl (fun _ => ?_) (fun hh => absurd hh (by decide))
  refine lv_aload hx hb dX2_attach_65 (lv_at hl 1 rfl) ?_
  refine lv_iload_n hx hb dX2_attach_67 rfl (lv_at hl 4 rfl) ?_
  refine g_callVN (As := [.int (nI k)]) (rest := []) (fs := [.int (bI (run j)), .long (en (mp j)), .ref (ad (6 + 3 * j)), .ref (ad (7 + 3 * j))]) (fm_has_f hj hk h4) hx hb hml hown hts hN hG t_101 t_103 s_5 t_2 t_104 nm_X0_has ⟨by decide, by decide⟩ (fp_5 (hj)) rfl hl.1 (Nat.le_of_ble_eq_true rfl) dX2_attach_68 ⟨Nat.zero_le _, Nat.zero_le _⟩ (fun H locs hG => ?_)
  refine W.eq (g2 := F0 m 71 ls [.int 0]) rfl ?_
  refine lv_if_eq (tgt := 77) hx hb dX2_attach_71 rfl (fun _ => ?_) (fun hh => absurd (rfl) hh)
  refine lv_aload hx hb dX2_attach_77 (lv_at hl 0 rfl) ?_
  refine lv_iconst (v := 2) hx hb dX2_attach_79 (by decide) ?_
  refine lv_iload hx hb dX2_attach_80 (lv_at hl 6 rfl) ?_
  refine g_callVN (As := [.int 2, .int (nI i)]) (rest := []) (fs := [.int (bI (run n)), .long (en (mp n)), .ref (ad (6 + 3 * n)), .ref (ad (7 + 3 * n))]) (fm_is_t hn hi h5) hx hb hml hown hts hN hG t_109 t_111 s_7 t_2 t_112 nm_X0_is ⟨by decide, by decide⟩ (fp_5 (hn)) rfl hl.1 (Nat.le_of_ble_eq_true rfl) dX2_attach_82 ⟨Nat.zero_le _, Nat.zero_le _⟩ (fun H locs hG => ?_)
  refine W.eq (g2 := F0 m 85 ls [.int 1]) rfl ?_
  refine lv_if_ne (tgt := 91) hx hb dX2_attach_85 rfl (fun _ => ?_) (fun hh => absurd hh (by decide))
  refine lv_aload hx hb dX2_attach_91 (lv_at hl 1 rfl) ?_
  refine lv_iload_n hx hb dX2_attach_93 rfl (lv_at hl 4 rfl) ?_
  refine g_callVN (As := [.int (nI k)]) (rest := []) (fs := [.int (bI (run j)), .long (en (mp j)), .ref (ad (6 + 3 * j)), .ref (ad (7 + 3 * j))]) (fm_tablesToAdd hj hk) hx hb hml hown hts hN hG t_145 t_147 s_13 t_2 t_148 nm_X0_tablesToAdd ⟨by decide, by decide⟩ (fp_5 (hj)) rfl hl.1 (Nat.le_of_ble_eq_true rfl) dX2_attach_94 ⟨Nat.zero_le _, Nat.zero_le _⟩ (fun H locs hG => ?_)
  refine W.eq (g2 := F0 m 97 ls [.int (nI (tbN (up1 (mp j) k true)) - nI (tbN (mp j)))]) rfl ?_
  refine lv_istore (lv' := [(7, .int (nI (tbN (up1 (mp j) k true)) - nI (tbN (mp j)))), (6, .ref (ad (5 + 3 * n))), (5, .ref (ad (5 + 3 * j))), (0, .ref (ad 0)), (1, .int (nI j)), (2, .int (nI k)), (3, .int (nI n)), (4, .int (nI i))]) hx hb dX2_attach_97 hl (by decide) rfl (fun ls hl => ?_)
  refine lv_aload_n hx hb dX2_attach_99 rfl (lv_at hl 3 rfl) ?_
  refine g_callV (As := []) (rest := []) (fs := [.ref (ad 1), .ref (ad 2), .int af, .int cf]) (fm_freeFrames) hx hb hml hown hts hN hG t_74 t_76 s_1 t_1 t_77 nm_X2_freeFrames ⟨by decide, by decide⟩ fp_0 rfl hl.1 (Nat.le_of_ble_eq_true rfl) dX2_attach_100 ⟨Nat.zero_le _, Nat.zero_le _⟩ (fun H locs hG => ?_)
  refine W.eq (g2 := F0 m 103 ls [.int (frF run mp ct)]) rfl ?_
  refine lv_iload hx hb dX2_attach_103 (lv_at hl 0 rfl) ?_
  refine lv_icmp_ge (tgt := 111) hx hb dX2_attach_105 rfl (fun _ => ?_) (fun hh => absurd (h6) hh)
  refine lv_aload hx hb dX2_attach_111 (lv_at hl 1 rfl) ?_
  refine lv_iconst (v := 1) hx hb dX2_attach_113 (by decide) ?_
  refine lv_iload hx hb dX2_attach_114 (lv_at hl 7 rfl) ?_
  refine g_callVN (As := [.int 1, .int (nI i)]) (rest := []) (fs := [.int (bI (run n)), .long (en (mp n)), .ref (ad (6 + 3 * n)), .ref (ad (7 + 3 * n))]) (fm_is_t hn hi h7) hx hb hml hown hts hN hG t_109 t_111 s_7 t_2 t_112 nm_X0_is ⟨by decide, by decide⟩ (fp_5 (hn)) rfl hl.1 (Nat.le_of_ble_eq_true rfl) dX2_attach_116 ⟨Nat.zero_le _, Nat.zero_le _⟩ (fun H locs hG => ?_)
  refine W.eq (g2 := F0 m 119 ls [.int 1]) rfl ?_
  refine lv_if_eq (tgt := 126) hx hb dX2_attach_119 rfl (fun hh => absurd hh (by decide)) (fun _ => ?_)
  refine lv_iconst (v := 3) hx hb dX2_attach_122 (by decide) ?_
  refine lv_goto (tgt := 127) hx hb dX2_attach_123 rfl ?_
  refine lv_istore (lv' := [(8, .int 3), (7, .int (nI (tbN (up1 (mp j) k true)) - nI (tbN (mp j)))), (6, .ref (ad (5 + 3 * n))), (5, .ref (ad (5 + 3 * j))), (0, .ref (ad 0)), (1, .int (nI j)), (2, .int (nI k)), (3, .int (nI n)), (4, .int (nI i))]) hx hb dX2_attach_127 hl (by decide) rfl (fun ls hl => ?_)
  refine lv_aload_n hx hb dX2_attach_129 rfl (lv_at hl 4 rfl) ?_
  refine lv_aload hx hb dX2_attach_130 (lv_at hl 3 rfl) ?_
  refine lv_iload_n hx hb dX2_attach_132 rfl (lv_at hl 6 rfl) ?_
  refine lv_aload hx hb dX2_attach_133 (lv_at hl 2 rfl) ?_
  refine g_getN (k := 2) (v := .ref (ad (6 + 3 * n))) (C := RX0) (ref := RX0) (fs := [.int (bI (run n)), .long (en (mp n)), .ref (ad (6 + 3 * n)), .ref (ad (7 + 3 * n))]) hx hb hown hts hN hG gX0 rfl (fp_5 (hn)) (by decide) t_25 rfl rfl dX2_attach_135 ?_
  refine lv_iload hx hb dX2_attach_138 (lv_at hl 8 rfl) ?_
  refine g_iald (i := i) (t0 := 0) hx hb hG (fp_6 (hn)) rfl (hi) (by decide) dX2_attach_140 ?_
  refine lv_iload hx hb dX2_attach_141 (lv_at hl 0 rfl) ?_
  refine g_callV (As := [.ref (ad (5 + 3 * j)), .int (nI k), .int (nI (fr n i)), .int 3]) (rest := []) (fs := [.ref (ad 1), .ref (ad 2), .int af, .int cf]) (fm_startMapping hj hk hf) hx hb hml hown hts hN hG t_117 t_119 s_9 t_1 t_120 nm_X2_startMapping ⟨by decide, by decide⟩ fp_0 rfl hl.1 (Nat.le_of_ble_eq_true rfl) dX2_attach_143 ⟨Nat.zero_le _, Nat.zero_le _⟩ (fun H locs hG => ?_)
  refine W.eq (g2 := F0 m 146 ls []) rfl ?_
  refine lv_iload hx hb dX2_attach_146 (lv_at hl 1 rfl) ?_
  exact g_iret hx hb hr hlk hG dX2_attach_148
set_option maxHeartbeats 4000000 in
set_option maxRecDepth 100000 in
theorem fp_attach_r {j n : Nat} (hj : j < 5) (h : run j = true) (hn : n < 5) (h2 : run n = true) {k i : Nat} (hk : k < 64) (hi : i < 64) (h3 : mp n i = true) (h4 : mp j k = false) (h5 : ¬ kd n i &&& 2 = 0) (h6 : (nI (tbN (up1 (mp j) k true)) - nI (tbN (mp j))) ≤ frF run mp ct) (hf : fr n i < 24) (h7 : kd n i &&& 1 = 0) : gM l yX2_attach cX2_attach 9 (some .int) 4 90 D cls (fpT cI cQ cZ) A (fpW ad cI cQ run mp fr kd wd ct af cf) [.ref (ad 0), .int (nI j), .int (nI k), .int (nI n), .int (nI i)] (some (.int (nI (tbN (up1 (mp j) k true)) - nI (tbN (mp j))))) (fpW ad cI cQ run (up1 mp j (up1 (mp j) k true)) (up1 fr j (up1 (fr j) k (fr n i))) (up1 kd j (upd (kd j) k 2)) wd (upd ct (fr n i) (ct (fr n i) + 1)) af cf) := by
  refine gM_of (by decide) (Nat.le_of_ble_eq_true rfl) ?_
  intro p e s m args below meth c ls hx hb hml hown hts hN hr hlk hl hG
  have hown : s.vm.findClass RX2 = some m.cls := hown
  have hl : lv_has ls 9 [(0, .ref (ad 0)), (1, .int (nI j)), (2, .int (nI k)), (3, .int (nI n)), (4, .int (nI i))] := hl
  refine lv_aload_n hx hb dX2_attach_0 rfl (lv_at hl 0 rfl) ?_
  refine lv_iload_n hx hb dX2_attach_1 rfl (lv_at hl 1 rfl) ?_
  refine g_callV (As := [.int (nI j)]) (rest := []) (fs := [.ref (ad 1), .ref (ad 2), .int af, .int cf]) (fm_isRunning_t hj h) hx hb hml hown hts hN hG t_97 t_99 s_4 t_1 t_100 nm_X2_isRunning ⟨by decide, by decide⟩ fp_0 rfl hl.1 (Nat.le_of_ble_eq_true rfl) dX2_attach_2 ⟨Nat.zero_le _, Nat.zero_le _⟩ (fun H locs hG => ?_)
  refine W.eq (g2 := F0 m 5 ls [.int 1]) rfl ?_
  refine lv_if_eq (tgt := 16) hx hb dX2_attach_5 rfl (fun hh => absurd hh (by decide)) (fun _ => ?_)
  refine lv_aload_n hx hb dX2_attach_8 rfl (lv_at hl 0 rfl) ?_
  refine lv_iload_n hx hb dX2_attach_9 rfl (lv_at hl 3 rfl) ?_
  refine g_callV (As := [.int (nI n)]) (rest := []) (fs := [.ref (ad 1), .ref (ad 2), .int af, .int cf]) (fm_isRunning_t hn h2) hx hb hml hown hts hN hG t_97 t_99 s_4 t_1 t_100 nm_X2_isRunning ⟨by decide, by decide⟩ fp_0 rfl hl.1 (Nat.le_of_ble_eq_true rfl) dX2_attach_10 ⟨Nat.zero_le _, Nat.zero_le _⟩ (fun H locs hG => ?_)
  refine W.eq (g2 := F0 m 13 ls [.int 1]) rfl ?_
  refine lv_if_ne (tgt := 18) hx hb dX2_attach_13 rfl (fun _ => ?_) (fun hh => absurd hh (by decide))
  refine lv_iload_n hx hb dX2_attach_18 rfl (lv_at hl 2 rfl) ?_
  refine g_callS (As := [.int (nI k)]) (rest := []) (fm_isPage_t hk) hx hb hml hown hts hN hG t_142 t_143 t_1 t_144 nm_X2_isPage ⟨by decide, by decide⟩ hl.1 (Nat.le_of_ble_eq_true rfl) dX2_attach_19 ⟨Nat.zero_le _, Nat.zero_le _⟩ (fun H locs hG => ?_)
  refine W.eq (g2 := F0 m 22 ls [.int 1]) rfl ?_
  refine lv_if_eq (tgt := 33) hx hb dX2_attach_22 rfl (fun hh => absurd hh (by decide)) (fun _ => ?_)
  refine lv_iload hx hb dX2_attach_25 (lv_at hl 4 rfl) ?_
  refine g_callS (As := [.int (nI i)]) (rest := []) (fm_isPage_t hi) hx hb hml hown hts hN hG t_142 t_143 t_1 t_144 nm_X2_isPage ⟨by decide, by decide⟩ hl.1 (Nat.le_of_ble_eq_true rfl) dX2_attach_27 ⟨Nat.zero_le _, Nat.zero_le _⟩ (fun H locs hG => ?_)
  refine W.eq (g2 := F0 m 30 ls [.int 1]) rfl ?_
  refine lv_if_ne (tgt := 36) hx hb dX2_attach_30 rfl (fun _ => ?_) (fun hh => absurd hh (by decide))
  refine lv_aload_n hx hb dX2_attach_36 rfl (lv_at hl 0 rfl) ?_
  refine g_get (k := 0) (v := .ref (ad 1)) (C := RX2) (ref := RX2) (fs := [.ref (ad 1), .ref (ad 2), .int af, .int cf]) hx hb hown hts hG gX2 rfl fp_0 (by decide) t_53 rfl rfl dX2_attach_37 ?_
  refine lv_iload_n hx hb dX2_attach_40 rfl (lv_at hl 1 rfl) ?_
  refine g_aald (i := j) (t0 := 1) hx hb hG fp_1 rfl (hj) (by decide) rfl dX2_attach_41 ?_
  refine lv_astore (lv' := [(5, .ref (ad (5 + 3 * j))), (0, .ref (ad 0)), (1, .int (nI j)), (2, .int (nI k)), (3, .int (nI n)), (4, .int (nI i))]) hx hb dX2_attach_42 hl (by decide) rfl (fun ls hl => ?_)
  refine lv_aload_n hx hb dX2_attach_44 rfl (lv_at hl 1 rfl) ?_
  refine g_get (k := 0) (v := .ref (ad 1)) (C := RX2) (ref := RX2) (fs := [.ref (ad 1), .ref (ad 2), .int af, .int cf]) hx hb hown hts hG gX2 rfl fp_0 (by decide) t_53 rfl rfl dX2_attach_45 ?_
  refine lv_iload_n hx hb dX2_attach_48 rfl (lv_at hl 4 rfl) ?_
  refine g_aald (i := n) (t0 := 1) hx hb hG fp_1 rfl (hn) (by decide) rfl dX2_attach_49 ?_
  refine lv_astore (lv' := [(6, .ref (ad (5 + 3 * n))), (5, .ref (ad (5 + 3 * j))), (0, .ref (ad 0)), (1, .int (nI j)), (2, .int (nI k)), (3, .int (nI n)), (4, .int (nI i))]) hx hb dX2_attach_50 hl (by decide) rfl (fun ls hl => ?_)
  refine lv_aload hx hb dX2_attach_52 (lv_at hl 0 rfl) ?_
  refine lv_iload hx hb dX2_attach_54 (lv_at hl 6 rfl) ?_
  refine g_callVN (As := [.int (nI i)]) (rest := []) (fs := [.int (bI (run n)), .long (en (mp n)), .ref (ad (6 + 3 * n)), .ref (ad (7 + 3 * n))]) (fm_has_t hn hi h3) hx hb hml hown hts hN hG t_101 t_103 s_5 t_2 t_104 nm_X0_has ⟨by decide, by decide⟩ (fp_5 (hn)) rfl hl.1 (Nat.le_of_ble_eq_true rfl) dX2_attach_56 ⟨Nat.zero_le _, Nat.zero_le _⟩ (fun H locs hG => ?_)
  refine W.eq (g2 := F0 m 59 ls [.int 1]) rfl ?_
  refine lv_if_ne (tgt := 65) hx hb dX2_attach_59 rfl (fun _ => ?_) (fun hh => absurd hh (by decide))
  refine lv_aload hx hb dX2_attach_65 (lv_at hl 1 rfl) ?_
  refine lv_iload_n hx hb dX2_attach_67 rfl (lv_at hl 4 rfl) ?_
  refine g_callVN (As := [.int (nI k)]) (rest := []) (fs := [.int (bI (run j)), .long (en (mp j)), .ref (ad (6 + 3 * j)), .ref (ad (7 + 3 * j))]) (fm_has_f hj hk h4) hx hb hml hown hts hN hG t_101 t_103 s_5 t_2 t_104 nm_X0_has ⟨by decide, by decide⟩ (fp_5 (hj)) rfl hl.1 (Nat.le_of_ble_eq_true rfl) dX2_attach_68 ⟨Nat.zero_le _, Nat.zero_le _⟩ (fun H locs hG => ?_)
  refine W.eq (g2 := F0 m 71 ls [.int 0]) rfl ?_
  refine lv_if_eq (tgt := 77) hx hb dX2_attach_71 rfl (fun _ => ?_) (fun hh => absurd (rfl) hh)
  refine lv_aload hx hb dX2_attach_77 (lv_at hl 0 rfl) ?_
  refine lv_iconst (v := 2) hx hb dX2_attach_79 (by decide) ?_
  refine lv_iload hx hb dX2_attach_80 (lv_at hl 6 rfl) ?_
  refine g_callVN (As := [.int 2, .int (nI i)]) (rest := []) (fs := [.int (bI (run n)), .long (en (mp n)), .ref (ad (6 + 3 * n)), .ref (ad (7 + 3 * n))]) (fm_is_t hn hi h5) hx hb hml hown hts hN hG t_109 t_111 s_7 t_2 t_112 nm_X0_is ⟨by decide, by decide⟩ (fp_5 (hn)) rfl hl.1 (Nat.le_of_ble_eq_true rfl) dX2_attach_82 ⟨Nat.zero_le _, Nat.zero_le _⟩ (fun H locs hG => ?_)
  refine W.eq (g2 := F0 m 85 ls [.int 1]) rfl ?_
  refine lv_if_ne (tgt := 91) hx hb dX2_attach_85 rfl (fun _ => ?_) (fun hh => absurd hh (by decide))
  refine lv_aload hx hb dX2_attach_91 (lv_at hl 1 rfl) ?_
  refine lv_iload_n hx hb dX2_attach_93 rfl (lv_at hl 4 rfl) ?_
  refine g_callVN (As := [.int (nI k)]) (rest := []) (fs := [.int (bI (run j)), .long (en (mp j)), .ref (ad (6 + 3 * j)), .ref (ad (7 + 3 * j))]) (fm_tablesToAdd hj hk) hx hb hml hown hts hN hG t_145 t_147 s_13 t_2 t_148 nm_X0_tablesToAdd ⟨by decide, by decide⟩ (fp_5 (hj)) rfl hl.1 (Nat.le_of_ble_eq_true rfl) dX2_attach_94 ⟨Nat.zero_le _, Nat.zero_le _⟩ (fun H locs hG => ?_)
  refine W.eq (g2 := F0 m 97 ls [.int (nI (tbN (up1 (mp j) k true)) - nI (tbN (mp j)))]) rfl ?_
  refine lv_istore (lv' := [(7, .int (nI (tbN (up1 (mp j) k true)) - nI (tbN (mp j)))), (6, .ref (ad (5 + 3 * n))), (5, .ref (ad (5 + 3 * j))), (0, .ref (ad 0)), (1, .int (nI j)), (2, .int (nI k)), (3, .int (nI n)), (4, .int (nI i))]) hx hb dX2_attach_97 hl (by decide) rfl (fun ls hl => ?_)
  refine lv_aload_n hx hb dX2_attach_99 rfl (lv_at hl 3 rfl) ?_
  refine g_callV (As := []) (rest := []) (fs := [.ref (ad 1), .ref (ad 2), .int af, .int cf]) (fm_freeFrames) hx hb hml hown hts hN hG t_74 t_76 s_1 t_1 t_77 nm_X2_freeFrames ⟨by decide, by decide⟩ fp_0 rfl hl.1 (Nat.le_of_ble_eq_true rfl) dX2_attach_100 ⟨Nat.zero_le _, Nat.zero_le _⟩ (fun H locs hG => ?_)
  refine W.eq (g2 := F0 m 103 ls [.int (frF run mp ct)]) rfl ?_
  refine lv_iload hx hb dX2_attach_103 (lv_at hl 0 rfl) ?_
  refine lv_icmp_ge (tgt := 111) hx hb dX2_attach_105 rfl (fun _ => ?_) (fun hh => absurd (h6) hh)
  refine lv_aload hx hb dX2_attach_111 (lv_at hl 1 rfl) ?_
  refine lv_iconst (v := 1) hx hb dX2_attach_113 (by decide) ?_
  refine lv_iload hx hb dX2_attach_114 (lv_at hl 7 rfl) ?_
  refine g_callVN (As := [.int 1, .int (nI i)]) (rest := []) (fs := [.int (bI (run n)), .long (en (mp n)), .ref (ad (6 + 3 * n)), .ref (ad (7 + 3 * n))]) (fm_is_f hn hi h7) hx hb hml hown hts hN hG t_109 t_111 s_7 t_2 t_112 nm_X0_is ⟨by decide, by decide⟩ (fp_5 (hn)) rfl hl.1 (Nat.le_of_ble_eq_true rfl) dX2_attach_116 ⟨Nat.zero_le _, Nat.zero_le _⟩ (fun H locs hG => ?_)
  refine W.eq (g2 := F0 m 119 ls [.int 0]) rfl ?_
  refine lv_if_eq (tgt := 126) hx hb dX2_attach_119 rfl (fun _ => ?_) (fun hh => absurd (rfl) hh)
  refine lv_iconst (v := 2) hx hb dX2_attach_126 (by decide) ?_
  refine lv_istore (lv' := [(8, .int 2), (7, .int (nI (tbN (up1 (mp j) k true)) - nI (tbN (mp j)))), (6, .ref (ad (5 + 3 * n))), (5, .ref (ad (5 + 3 * j))), (0, .ref (ad 0)), (1, .int (nI j)), (2, .int (nI k)), (3, .int (nI n)), (4, .int (nI i))]) hx hb dX2_attach_127 hl (by decide) rfl (fun ls hl => ?_)
  refine lv_aload_n hx hb dX2_attach_129 rfl (lv_at hl 4 rfl) ?_
  refine lv_aload hx hb dX2_attach_130 (lv_at hl 3 rfl) ?_
  refine lv_iload_n hx hb dX2_attach_132 rfl (lv_at hl 6 rfl) ?_
  refine lv_aload hx hb dX2_attach_133 (lv_at hl 2 rfl) ?_
  refine g_getN (k := 2) (v := .ref (ad (6 + 3 * n))) (C := RX0) (ref := RX0) (fs := [.int (bI (run n)), .long (en (mp n)), .ref (ad (6 + 3 * n)), .ref (ad (7 + 3 * n))]) hx hb hown hts hN hG gX0 rfl (fp_5 (hn)) (by decide) t_25 rfl rfl dX2_attach_135 ?_
  refine lv_iload hx hb dX2_attach_138 (lv_at hl 8 rfl) ?_
  refine g_iald (i := i) (t0 := 0) hx hb hG (fp_6 (hn)) rfl (hi) (by decide) dX2_attach_140 ?_
  refine lv_iload hx hb dX2_attach_141 (lv_at hl 0 rfl) ?_
  refine g_callV (As := [.ref (ad (5 + 3 * j)), .int (nI k), .int (nI (fr n i)), .int 2]) (rest := []) (fs := [.ref (ad 1), .ref (ad 2), .int af, .int cf]) (fm_startMapping hj hk hf) hx hb hml hown hts hN hG t_117 t_119 s_9 t_1 t_120 nm_X2_startMapping ⟨by decide, by decide⟩ fp_0 rfl hl.1 (Nat.le_of_ble_eq_true rfl) dX2_attach_143 ⟨Nat.zero_le _, Nat.zero_le _⟩ (fun H locs hG => ?_)
  refine W.eq (g2 := F0 m 146 ls []) rfl ?_
  refine lv_iload hx hb dX2_attach_146 (lv_at hl 1 rfl) ?_
  exact g_iret hx hb hr hlk hG dX2_attach_148
set_option maxHeartbeats 4000000 in
set_option maxRecDepth 100000 in
theorem fp_unmap_no {x y  r : Int32} (hr0 : ¬ r = 0) (hM : gM l yX2_refusalOfMapped cX2_refusalOfMapped 3 (some .int) 1 21 D cls (fpT cI cQ cZ) A (fpW ad cI cQ run mp fr kd wd ct af cf) [.ref (ad 0), .int x, .int y] (some (.int r)) (fpW ad cI cQ run mp fr kd wd ct af cf)) : gM l yX2_unmap cX2_unmap 5 (some .int) 4 90 D cls (fpT cI cQ cZ) A (fpW ad cI cQ run mp fr kd wd ct af cf) [.ref (ad 0), .int x, .int y] (some (.int r)) (fpW ad cI cQ run mp fr kd wd ct af cf) := by
  refine gM_of (by decide) (Nat.le_of_ble_eq_true rfl) ?_
  intro p e s m args below meth c ls hx hb hml hown hts hN hr hlk hl hG
  have hown : s.vm.findClass RX2 = some m.cls := hown
  have hl : lv_has ls 5 [(0, .ref (ad 0)), (1, .int x), (2, .int y)] := hl
  refine lv_aload_n hx hb dX2_unmap_0 rfl (lv_at hl 0 rfl) ?_
  refine lv_iload_n hx hb dX2_unmap_1 rfl (lv_at hl 1 rfl) ?_
  refine lv_iload_n hx hb dX2_unmap_2 rfl (lv_at hl 2 rfl) ?_
  refine g_callV (As := [.int x, .int y]) (rest := []) (fs := [.ref (ad 1), .ref (ad 2), .int af, .int cf]) (hM) hx hb hml hown hts hN hG t_165 t_167 s_16 t_1 t_168 nm_X2_refusalOfMapped ⟨by decide, by decide⟩ fp_0 rfl hl.1 (Nat.le_of_ble_eq_true rfl) dX2_unmap_3 ⟨Nat.zero_le _, Nat.zero_le _⟩ (fun H locs hG => ?_)
  refine W.eq (g2 := F0 m 6 ls [.int r]) rfl ?_
  refine lv_istore_n (lv' := [(3, .int r), (0, .ref (ad 0)), (1, .int x), (2, .int y)]) hx hb dX2_unmap_6 rfl hl (by decide) rfl (fun ls hl => ?_)
  refine lv_iload_n hx hb dX2_unmap_7 rfl (lv_at hl 0 rfl) ?_
  refine lv_if_eq (tgt := 13) hx hb dX2_unmap_8 rfl (fun hh => absurd hh (hr0)) (fun _ => ?_)
  refine lv_iload_n hx hb dX2_unmap_11 rfl (lv_at hl 0 rfl) ?_
  exact g_iret hx hb hr hlk hG dX2_unmap_12
set_option maxHeartbeats 4000000 in
set_option maxRecDepth 100000 in
theorem fp_count_no {x y  r : Int32} (hr0 : ¬ r = 0) (hM : gM l yX2_refusalOfMapped cX2_refusalOfMapped 3 (some .int) 1 21 D cls (fpT cI cQ cZ) A (fpW ad cI cQ run mp fr kd wd ct af cf) [.ref (ad 0), .int x, .int y] (some (.int r)) (fpW ad cI cQ run mp fr kd wd ct af cf)) : gM l yX2_count cX2_count 4 (some .int) 2 43 D cls (fpT cI cQ cZ) A (fpW ad cI cQ run mp fr kd wd ct af cf) [.ref (ad 0), .int x, .int y] (some (.int r)) (fpW ad cI cQ run mp fr kd wd ct af cf) := by
  refine gM_of (by decide) (Nat.le_of_ble_eq_true rfl) ?_
  intro p e s m args below meth c ls hx hb hml hown hts hN hr hlk hl hG
  have hown : s.vm.findClass RX2 = some m.cls := hown
  have hl : lv_has ls 4 [(0, .ref (ad 0)), (1, .int x), (2, .int y)] := hl
  refine lv_aload_n hx hb dX2_count_0 rfl (lv_at hl 0 rfl) ?_
  refine lv_iload_n hx hb dX2_count_1 rfl (lv_at hl 1 rfl) ?_
  refine lv_iload_n hx hb dX2_count_2 rfl (lv_at hl 2 rfl) ?_
  refine g_callV (As := [.int x, .int y]) (rest := []) (fs := [.ref (ad 1), .ref (ad 2), .int af, .int cf]) (hM) hx hb hml hown hts hN hG t_165 t_167 s_16 t_1 t_168 nm_X2_refusalOfMapped ⟨by decide, by decide⟩ fp_0 rfl hl.1 (Nat.le_of_ble_eq_true rfl) dX2_count_3 ⟨Nat.zero_le _, Nat.zero_le _⟩ (fun H locs hG => ?_)
  refine W.eq (g2 := F0 m 6 ls [.int r]) rfl ?_
  refine lv_istore_n (lv' := [(3, .int r), (0, .ref (ad 0)), (1, .int x), (2, .int y)]) hx hb dX2_count_6 rfl hl (by decide) rfl (fun ls hl => ?_)
  refine lv_iload_n hx hb dX2_count_7 rfl (lv_at hl 0 rfl) ?_
  refine lv_if_eq (tgt := 13) hx hb dX2_count_8 rfl (fun hh => absurd hh (hr0)) (fun _ => ?_)
  refine lv_iload_n hx hb dX2_count_11 rfl (lv_at hl 0 rfl) ?_
  exact g_iret hx hb hr hlk hG dX2_count_12
set_option maxHeartbeats 4000000 in
set_option maxRecDepth 100000 in
theorem fp_mapping_no {x y  r : Int32} (hr0 : ¬ r = 0) (hM : gM l yX2_refusalOfMapped cX2_refusalOfMapped 3 (some .int) 1 21 D cls (fpT cI cQ cZ) A (fpW ad cI cQ run mp fr kd wd ct af cf) [.ref (ad 0), .int x, .int y] (some (.int r)) (fpW ad cI cQ run mp fr kd wd ct af cf)) : gM l yX2_mapping cX2_mapping 4 (some .int) 2 43 D cls (fpT cI cQ cZ) A (fpW ad cI cQ run mp fr kd wd ct af cf) [.ref (ad 0), .int x, .int y] (some (.int r)) (fpW ad cI cQ run mp fr kd wd ct af cf) := by
  refine gM_of (by decide) (Nat.le_of_ble_eq_true rfl) ?_
  intro p e s m args below meth c ls hx hb hml hown hts hN hr hlk hl hG
  have hown : s.vm.findClass RX2 = some m.cls := hown
  have hl : lv_has ls 4 [(0, .ref (ad 0)), (1, .int x), (2, .int y)] := hl
  refine lv_aload_n hx hb dX2_mapping_0 rfl (lv_at hl 0 rfl) ?_
  refine lv_iload_n hx hb dX2_mapping_1 rfl (lv_at hl 1 rfl) ?_
  refine lv_iload_n hx hb dX2_mapping_2 rfl (lv_at hl 2 rfl) ?_
  refine g_callV (As := [.int x, .int y]) (rest := []) (fs := [.ref (ad 1), .ref (ad 2), .int af, .int cf]) (hM) hx hb hml hown hts hN hG t_165 t_167 s_16 t_1 t_168 nm_X2_refusalOfMapped ⟨by decide, by decide⟩ fp_0 rfl hl.1 (Nat.le_of_ble_eq_true rfl) dX2_mapping_3 ⟨Nat.zero_le _, Nat.zero_le _⟩ (fun H locs hG => ?_)
  refine W.eq (g2 := F0 m 6 ls [.int r]) rfl ?_
  refine lv_istore_n (lv' := [(3, .int r), (0, .ref (ad 0)), (1, .int x), (2, .int y)]) hx hb dX2_mapping_6 rfl hl (by decide) rfl (fun ls hl => ?_)
  refine lv_iload_n hx hb dX2_mapping_7 rfl (lv_at hl 0 rfl) ?_
  refine lv_if_eq (tgt := 13) hx hb dX2_mapping_8 rfl (fun hh => absurd hh (hr0)) (fun _ => ?_)
  refine lv_iload_n hx hb dX2_mapping_11 rfl (lv_at hl 0 rfl) ?_
  exact g_iret hx hb hr hlk hG dX2_mapping_12
set_option maxHeartbeats 4000000 in
set_option maxRecDepth 100000 in
theorem fp_protect_no {x y z r : Int32} (hr0 : ¬ r = 0) (hM : gM l yX2_refusalOfMapped cX2_refusalOfMapped 3 (some .int) 1 21 D cls (fpT cI cQ cZ) A (fpW ad cI cQ run mp fr kd wd ct af cf) [.ref (ad 0), .int x, .int y] (some (.int r)) (fpW ad cI cQ run mp fr kd wd ct af cf)) : gM l yX2_protect cX2_protect 6 (some .int) 2 43 D cls (fpT cI cQ cZ) A (fpW ad cI cQ run mp fr kd wd ct af cf) [.ref (ad 0), .int x, .int y, .int z] (some (.int r)) (fpW ad cI cQ run mp fr kd wd ct af cf) := by
  refine gM_of (by decide) (Nat.le_of_ble_eq_true rfl) ?_
  intro p e s m args below meth c ls hx hb hml hown hts hN hr hlk hl hG
  have hown : s.vm.findClass RX2 = some m.cls := hown
  have hl : lv_has ls 6 [(0, .ref (ad 0)), (1, .int x), (2, .int y), (3, .int z)] := hl
  refine lv_aload_n hx hb dX2_protect_0 rfl (lv_at hl 0 rfl) ?_
  refine lv_iload_n hx hb dX2_protect_1 rfl (lv_at hl 1 rfl) ?_
  refine lv_iload_n hx hb dX2_protect_2 rfl (lv_at hl 2 rfl) ?_
  refine g_callV (As := [.int x, .int y]) (rest := []) (fs := [.ref (ad 1), .ref (ad 2), .int af, .int cf]) (hM) hx hb hml hown hts hN hG t_165 t_167 s_16 t_1 t_168 nm_X2_refusalOfMapped ⟨by decide, by decide⟩ fp_0 rfl hl.1 (Nat.le_of_ble_eq_true rfl) dX2_protect_3 ⟨Nat.zero_le _, Nat.zero_le _⟩ (fun H locs hG => ?_)
  refine W.eq (g2 := F0 m 6 ls [.int r]) rfl ?_
  refine lv_istore (lv' := [(4, .int r), (0, .ref (ad 0)), (1, .int x), (2, .int y), (3, .int z)]) hx hb dX2_protect_6 hl (by decide) rfl (fun ls hl => ?_)
  refine lv_iload hx hb dX2_protect_8 (lv_at hl 0 rfl) ?_
  refine lv_if_eq (tgt := 16) hx hb dX2_protect_10 rfl (fun hh => absurd hh (hr0)) (fun _ => ?_)
  refine lv_iload hx hb dX2_protect_13 (lv_at hl 0 rfl) ?_
  exact g_iret hx hb hr hlk hG dX2_protect_15
set_option maxHeartbeats 4000000 in
set_option maxRecDepth 100000 in
theorem fp_unmap_ok {j k : Nat} (hj : j < 5) (hk : k < 64) (h : run j = true) (h2 : mp j k = true) (hf : fr j k < 24) : gM l yX2_unmap cX2_unmap 5 (some .int) 4 90 D cls (fpT cI cQ cZ) A (fpW ad cI cQ run mp fr kd wd ct af cf) [.ref (ad 0), .int (nI j), .int (nI k)] (some (.int (frF run (up1 mp j (up1 (mp j) k false)) (upd ct (fr j k) (ct (fr j k) - 1)) - frF run mp ct))) (fpW ad cI cQ run (up1 mp j (up1 (mp j) k false)) fr kd wd (upd ct (fr j k) (ct (fr j k) - 1)) af cf) := by
  refine gM_of (by decide) (Nat.le_of_ble_eq_true rfl) ?_
  intro p e s m args below meth c ls hx hb hml hown hts hN hr hlk hl hG
  have hown : s.vm.findClass RX2 = some m.cls := hown
  have hl : lv_has ls 5 [(0, .ref (ad 0)), (1, .int (nI j)), (2, .int (nI k))] := hl
  refine lv_aload_n hx hb dX2_unmap_0 rfl (lv_at hl 0 rfl) ?_
  refine lv_iload_n hx hb dX2_unmap_1 rfl (lv_at hl 1 rfl) ?_
  refine lv_iload_n hx hb dX2_unmap_2 rfl (lv_at hl 2 rfl) ?_
  refine g_callV (As := [.int (nI j), .int (nI k)]) (rest := []) (fs := [.ref (ad 1), .ref (ad 2), .int af, .int cf]) (fm_rM_0 hj h hk h2) hx hb hml hown hts hN hG t_165 t_167 s_16 t_1 t_168 nm_X2_refusalOfMapped ⟨by decide, by decide⟩ fp_0 rfl hl.1 (Nat.le_of_ble_eq_true rfl) dX2_unmap_3 ⟨Nat.zero_le _, Nat.zero_le _⟩ (fun H locs hG => ?_)
  refine W.eq (g2 := F0 m 6 ls [.int 0]) rfl ?_
  refine lv_istore_n (lv' := [(3, .int 0), (0, .ref (ad 0)), (1, .int (nI j)), (2, .int (nI k))]) hx hb dX2_unmap_6 rfl hl (by decide) rfl (fun ls hl => ?_)
  refine lv_iload_n hx hb dX2_unmap_7 rfl (lv_at hl 0 rfl) ?_
  refine lv_if_eq (tgt := 13) hx hb dX2_unmap_8 rfl (fun _ => ?_) (fun hh => absurd (rfl) hh)
  refine lv_aload_n hx hb dX2_unmap_13 rfl (lv_at hl 1 rfl) ?_
  refine g_callV (As := []) (rest := []) (fs := [.ref (ad 1), .ref (ad 2), .int af, .int cf]) (fm_freeFrames) hx hb hml hown hts hN hG t_74 t_76 s_1 t_1 t_77 nm_X2_freeFrames ⟨by decide, by decide⟩ fp_0 rfl hl.1 (Nat.le_of_ble_eq_true rfl) dX2_unmap_14 ⟨Nat.zero_le _, Nat.zero_le _⟩ (fun H locs hG => ?_)
  refine W.eq (g2 := F0 m 17 ls [.int (frF run mp ct)]) rfl ?_
  refine lv_istore (lv' := [(4, .int (frF run mp ct)), (3, .int 0), (0, .ref (ad 0)), (1, .int (nI j)), (2, .int (nI k))]) hx hb dX2_unmap_17 hl (by decide) rfl (fun ls hl => ?_)
  refine lv_aload_n hx hb dX2_unmap_19 rfl (lv_at hl 2 rfl) ?_
  refine lv_aload_n hx hb dX2_unmap_20 rfl (lv_at hl 2 rfl) ?_
  refine g_get (k := 0) (v := .ref (ad 1)) (C := RX2) (ref := RX2) (fs := [.ref (ad 1), .ref (ad 2), .int af, .int cf]) hx hb hown hts hG gX2 rfl fp_0 (by decide) t_53 rfl rfl dX2_unmap_21 ?_
  refine lv_iload_n hx hb dX2_unmap_24 rfl (lv_at hl 3 rfl) ?_
  refine g_aald (i := j) (t0 := 1) hx hb hG fp_1 rfl (hj) (by decide) rfl dX2_unmap_25 ?_
  refine lv_iload_n hx hb dX2_unmap_26 rfl (lv_at hl 4 rfl) ?_
  refine g_callV (As := [.ref (ad (5 + 3 * j)), .int (nI k)]) (rest := []) (fs := [.ref (ad 1), .ref (ad 2), .int af, .int cf]) (fm_endMapping hj hk hf) hx hb hml hown hts hN hG t_129 t_131 s_11 t_1 t_132 nm_X2_endMapping ⟨by decide, by decide⟩ fp_0 rfl hl.1 (Nat.le_of_ble_eq_true rfl) dX2_unmap_27 ⟨Nat.zero_le _, Nat.zero_le _⟩ (fun H locs hG => ?_)
  refine W.eq (g2 := F0 m 30 ls []) rfl ?_
  refine lv_aload_n hx hb dX2_unmap_30 rfl (lv_at hl 2 rfl) ?_
  refine g_callV (As := []) (rest := []) (fs := [.ref (ad 1), .ref (ad 2), .int af, .int cf]) (fm_freeFrames) hx hb hml hown hts hN hG t_74 t_76 s_1 t_1 t_77 nm_X2_freeFrames ⟨by decide, by decide⟩ fp_0 rfl hl.1 (Nat.le_of_ble_eq_true rfl) dX2_unmap_31 ⟨Nat.zero_le _, Nat.zero_le _⟩ (fun H locs hG => ?_)
  refine W.eq (g2 := F0 m 34 ls [.int (frF run (up1 mp j (up1 (mp j) k false)) (upd ct (fr j k) (ct (fr j k) - 1)))]) rfl ?_
  refine lv_iload hx hb dX2_unmap_34 (lv_at hl 0 rfl) ?_
  refine lv_isub hx hb dX2_unmap_36 ?_
  exact g_iret hx hb hr hlk hG dX2_unmap_37
set_option maxHeartbeats 4000000 in
set_option maxRecDepth 100000 in
theorem fp_count_ok {j k : Nat} (hj : j < 5) (hk : k < 64) (h : run j = true) (h2 : mp j k = true) (hf : fr j k < 24) : gM l yX2_count cX2_count 4 (some .int) 2 43 D cls (fpT cI cQ cZ) A (fpW ad cI cQ run mp fr kd wd ct af cf) [.ref (ad 0), .int (nI j), .int (nI k)] (some (.int (ct (fr j k)))) (fpW ad cI cQ run mp fr kd wd ct af cf) := by
  refine gM_of (by decide) (Nat.le_of_ble_eq_true rfl) ?_
  intro p e s m args below meth c ls hx hb hml hown hts hN hr hlk hl hG
  have hown : s.vm.findClass RX2 = some m.cls := hown
  have hl : lv_has ls 4 [(0, .ref (ad 0)), (1, .int (nI j)), (2, .int (nI k))] := hl
  refine lv_aload_n hx hb dX2_count_0 rfl (lv_at hl 0 rfl) ?_
  refine lv_iload_n hx hb dX2_count_1 rfl (lv_at hl 1 rfl) ?_
  refine lv_iload_n hx hb dX2_count_2 rfl (lv_at hl 2 rfl) ?_
  refine g_callV (As := [.int (nI j), .int (nI k)]) (rest := []) (fs := [.ref (ad 1), .ref (ad 2), .int af, .int cf]) (fm_rM_0 hj h hk h2) hx hb hml hown hts hN hG t_165 t_167 s_16 t_1 t_168 nm_X2_refusalOfMapped ⟨by decide, by decide⟩ fp_0 rfl hl.1 (Nat.le_of_ble_eq_true rfl) dX2_count_3 ⟨Nat.zero_le _, Nat.zero_le _⟩ (fun H locs hG => ?_)
  refine W.eq (g2 := F0 m 6 ls [.int 0]) rfl ?_
  refine lv_istore_n (lv' := [(3, .int 0), (0, .ref (ad 0)), (1, .int (nI j)), (2, .int (nI k))]) hx hb dX2_count_6 rfl hl (by decide) rfl (fun ls hl => ?_)
  refine lv_iload_n hx hb dX2_count_7 rfl (lv_at hl 0 rfl) ?_
  refine lv_if_eq (tgt := 13) hx hb dX2_count_8 rfl (fun _ => ?_) (fun hh => absurd (rfl) hh)
  refine lv_aload_n hx hb dX2_count_13 rfl (lv_at hl 1 rfl) ?_
  refine g_get (k := 1) (v := .ref (ad 2)) (C := RX2) (ref := RX2) (fs := [.ref (ad 1), .ref (ad 2), .int af, .int cf]) hx hb hown hts hG gX2 rfl fp_0 (by decide) t_54 rfl rfl dX2_count_14 ?_
  refine g_getN (k := 1) (v := .ref (ad 4)) (C := RX1) (ref := RX1) (fs := [.ref (ad 3), .ref (ad 4)]) hx hb hown hts hN hG gX1 rfl fp_2 (by decide) t_47 rfl rfl dX2_count_17 ?_
  refine lv_aload_n hx hb dX2_count_20 rfl (lv_at hl 1 rfl) ?_
  refine g_get (k := 0) (v := .ref (ad 1)) (C := RX2) (ref := RX2) (fs := [.ref (ad 1), .ref (ad 2), .int af, .int cf]) hx hb hown hts hG gX2 rfl fp_0 (by decide) t_53 rfl rfl dX2_count_21 ?_
  refine lv_iload_n hx hb dX2_count_24 rfl (lv_at hl 2 rfl) ?_
  refine g_aald (i := j) (t0 := 1) hx hb hG fp_1 rfl (hj) (by decide) rfl dX2_count_25 ?_
  refine g_getN (k := 2) (v := .ref (ad (6 + 3 * j))) (C := RX0) (ref := RX0) (fs := [.int (bI (run j)), .long (en (mp j)), .ref (ad (6 + 3 * j)), .ref (ad (7 + 3 * j))]) hx hb hown hts hN hG gX0 rfl (fp_5 (hj)) (by decide) t_25 rfl rfl dX2_count_26 ?_
  refine lv_iload_n hx hb dX2_count_29 rfl (lv_at hl 3 rfl) ?_
  refine g_iald (i := k) (t0 := 0) hx hb hG (fp_6 (hj)) rfl (hk) (by decide) dX2_count_30 ?_
  refine g_iald (i := (fr j k)) (t0 := 0) hx hb hG fp_4 rfl (hf) (by decide) dX2_count_31 ?_
  exact g_iret hx hb hr hlk hG dX2_count_32
set_option maxHeartbeats 4000000 in
set_option maxRecDepth 100000 in
theorem fp_mapping_ok {j k : Nat} (hj : j < 5) (hk : k < 64) (h : run j = true) (h2 : mp j k = true)  : gM l yX2_mapping cX2_mapping 4 (some .int) 2 43 D cls (fpT cI cQ cZ) A (fpW ad cI cQ run mp fr kd wd ct af cf) [.ref (ad 0), .int (nI j), .int (nI k)] (some (.int (kd j k))) (fpW ad cI cQ run mp fr kd wd ct af cf) := by
  refine gM_of (by decide) (Nat.le_of_ble_eq_true rfl) ?_
  intro p e s m args below meth c ls hx hb hml hown hts hN hr hlk hl hG
  have hown : s.vm.findClass RX2 = some m.cls := hown
  have hl : lv_has ls 4 [(0, .ref (ad 0)), (1, .int (nI j)), (2, .int (nI k))] := hl
  refine lv_aload_n hx hb dX2_mapping_0 rfl (lv_at hl 0 rfl) ?_
  refine lv_iload_n hx hb dX2_mapping_1 rfl (lv_at hl 1 rfl) ?_
  refine lv_iload_n hx hb dX2_mapping_2 rfl (lv_at hl 2 rfl) ?_
  refine g_callV (As := [.int (nI j), .int (nI k)]) (rest := []) (fs := [.ref (ad 1), .ref (ad 2), .int af, .int cf]) (fm_rM_0 hj h hk h2) hx hb hml hown hts hN hG t_165 t_167 s_16 t_1 t_168 nm_X2_refusalOfMapped ⟨by decide, by decide⟩ fp_0 rfl hl.1 (Nat.le_of_ble_eq_true rfl) dX2_mapping_3 ⟨Nat.zero_le _, Nat.zero_le _⟩ (fun H locs hG => ?_)
  refine W.eq (g2 := F0 m 6 ls [.int 0]) rfl ?_
  refine lv_istore_n (lv' := [(3, .int 0), (0, .ref (ad 0)), (1, .int (nI j)), (2, .int (nI k))]) hx hb dX2_mapping_6 rfl hl (by decide) rfl (fun ls hl => ?_)
  refine lv_iload_n hx hb dX2_mapping_7 rfl (lv_at hl 0 rfl) ?_
  refine lv_if_eq (tgt := 13) hx hb dX2_mapping_8 rfl (fun _ => ?_) (fun hh => absurd (rfl) hh)
  refine lv_aload_n hx hb dX2_mapping_13 rfl (lv_at hl 1 rfl) ?_
  refine g_get (k := 0) (v := .ref (ad 1)) (C := RX2) (ref := RX2) (fs := [.ref (ad 1), .ref (ad 2), .int af, .int cf]) hx hb hown hts hG gX2 rfl fp_0 (by decide) t_53 rfl rfl dX2_mapping_14 ?_
  refine lv_iload_n hx hb dX2_mapping_17 rfl (lv_at hl 2 rfl) ?_
  refine g_aald (i := j) (t0 := 1) hx hb hG fp_1 rfl (hj) (by decide) rfl dX2_mapping_18 ?_
  refine g_getN (k := 3) (v := .ref (ad (7 + 3 * j))) (C := RX0) (ref := RX0) (fs := [.int (bI (run j)), .long (en (mp j)), .ref (ad (6 + 3 * j)), .ref (ad (7 + 3 * j))]) hx hb hown hts hN hG gX0 rfl (fp_5 (hj)) (by decide) t_27 rfl rfl dX2_mapping_19 ?_
  refine lv_iload_n hx hb dX2_mapping_22 rfl (lv_at hl 3 rfl) ?_
  refine g_iald (i := k) (t0 := 0) hx hb hG (fp_7 (hj)) rfl (hk) (by decide) dX2_mapping_23 ?_
  exact g_iret hx hb hr hlk hG dX2_mapping_24
set_option maxHeartbeats 4000000 in
set_option maxRecDepth 100000 in
theorem fp_protect_t0 {j k : Nat} (hj : j < 5) (hk : k < 64) (h : run j = true) (h2 : mp j k = true) {z : Int32} (h3 : ¬ kd j k &&& 1 = 0) (h4 : z = 1) : gM l yX2_protect cX2_protect 6 (some .int) 2 43 D cls (fpT cI cQ cZ) A (fpW ad cI cQ run mp fr kd wd ct af cf) [.ref (ad 0), .int (nI j), .int (nI k), .int z] (some (.int 0)) (fpW ad cI cQ run mp fr kd wd ct af cf) := by
  refine gM_of (by decide) (Nat.le_of_ble_eq_true rfl) ?_
  intro p e s m args below meth c ls hx hb hml hown hts hN hr hlk hl hG
  have hown : s.vm.findClass RX2 = some m.cls := hown
  have hl : lv_has ls 6 [(0, .ref (ad 0)), (1, .int (nI j)), (2, .int (nI k)), (3, .int z)] := hl
  refine lv_aload_n hx hb dX2_protect_0 rfl (lv_at hl 0 rfl) ?_
  refine lv_iload_n hx hb dX2_protect_1 rfl (lv_at hl 1 rfl) ?_
  refine lv_iload_n hx hb dX2_protect_2 rfl (lv_at hl 2 rfl) ?_
  refine g_callV (As := [.int (nI j), .int (nI k)]) (rest := []) (fs := [.ref (ad 1), .ref (ad 2), .int af, .int cf]) (fm_rM_0 hj h hk h2) hx hb hml hown hts hN hG t_165 t_167 s_16 t_1 t_168 nm_X2_refusalOfMapped ⟨by decide, by decide⟩ fp_0 rfl hl.1 (Nat.le_of_ble_eq_true rfl) dX2_protect_3 ⟨Nat.zero_le _, Nat.zero_le _⟩ (fun H locs hG => ?_)
  refine W.eq (g2 := F0 m 6 ls [.int 0]) rfl ?_
  refine lv_istore (lv' := [(4, .int 0), (0, .ref (ad 0)), (1, .int (nI j)), (2, .int (nI k)), (3, .int z)]) hx hb dX2_protect_6 hl (by decide) rfl (fun ls hl => ?_)
  refine lv_iload hx hb dX2_protect_8 (lv_at hl 0 rfl) ?_
  refine lv_if_eq (tgt := 16) hx hb dX2_protect_10 rfl (fun _ => ?_) (fun hh => absurd (rfl) hh)
  refine lv_aload_n hx hb dX2_protect_16 rfl (lv_at hl 1 rfl) ?_
  refine g_get (k := 0) (v := .ref (ad 1)) (C := RX2) (ref := RX2) (fs := [.ref (ad 1), .ref (ad 2), .int af, .int cf]) hx hb hown hts hG gX2 rfl fp_0 (by decide) t_53 rfl rfl dX2_protect_17 ?_
  refine lv_iload_n hx hb dX2_protect_20 rfl (lv_at hl 2 rfl) ?_
  refine g_aald (i := j) (t0 := 1) hx hb hG fp_1 rfl (hj) (by decide) rfl dX2_protect_21 ?_
  refine lv_astore (lv' := [(5, .ref (ad (5 + 3 * j))), (4, .int 0), (0, .ref (ad 0)), (1, .int (nI j)), (2, .int (nI k)), (3, .int z)]) hx hb dX2_protect_22 hl (by decide) rfl (fun ls hl => ?_)
  refine lv_aload hx hb dX2_protect_24 (lv_at hl 0 rfl) ?_
  refine lv_iconst (v := 1) hx hb dX2_protect_26 (by decide) ?_
  refine lv_iload_n hx hb dX2_protect_27 rfl (lv_at hl 4 rfl) ?_
  refine g_callVN (As := [.int 1, .int (nI k)]) (rest := []) (fs := [.int (bI (run j)), .long (en (mp j)), .ref (ad (6 + 3 * j)), .ref (ad (7 + 3 * j))]) (fm_is_t hj hk h3) hx hb hml hown hts hN hG t_109 t_111 s_7 t_2 t_112 nm_X0_is ⟨by decide, by decide⟩ (fp_5 (hj)) rfl hl.1 (Nat.le_of_ble_eq_true rfl) dX2_protect_28 ⟨Nat.zero_le _, Nat.zero_le _⟩ (fun H locs hG => ?_)
  refine W.eq (g2 := F0 m 31 ls [.int 1]) rfl ?_
  refine lv_iload_n hx hb dX2_protect_31 rfl (lv_at hl 5 rfl) ?_
  refine lv_icmp_ne (tgt := 37) hx hb dX2_protect_32 rfl (fun hh => absurd (h4.symm) hh) (fun _ => ?_)
  refine lv_iconst (v := 0) hx hb dX2_protect_35 (by decide) ?_
  exact g_iret hx hb hr hlk hG dX2_protect_36
set_option maxHeartbeats 4000000 in
set_option maxRecDepth 100000 in
theorem fp_protect_f0 {j k : Nat} (hj : j < 5) (hk : k < 64) (h : run j = true) (h2 : mp j k = true) {z : Int32} (h3 : kd j k &&& 1 = 0) (h4 : z = 0) : gM l yX2_protect cX2_protect 6 (some .int) 2 43 D cls (fpT cI cQ cZ) A (fpW ad cI cQ run mp fr kd wd ct af cf) [.ref (ad 0), .int (nI j), .int (nI k), .int z] (some (.int 0)) (fpW ad cI cQ run mp fr kd wd ct af cf) := by
  refine gM_of (by decide) (Nat.le_of_ble_eq_true rfl) ?_
  intro p e s m args below meth c ls hx hb hml hown hts hN hr hlk hl hG
  have hown : s.vm.findClass RX2 = some m.cls := hown
  have hl : lv_has ls 6 [(0, .ref (ad 0)), (1, .int (nI j)), (2, .int (nI k)), (3, .int z)] := hl
  refine lv_aload_n hx hb dX2_protect_0 rfl (lv_at hl 0 rfl) ?_
  refine lv_iload_n hx hb dX2_protect_1 rfl (lv_at hl 1 rfl) ?_
  refine lv_iload_n hx hb dX2_protect_2 rfl (lv_at hl 2 rfl) ?_
  refine g_callV (As := [.int (nI j), .int (nI k)]) (rest := []) (fs := [.ref (ad 1), .ref (ad 2), .int af, .int cf]) (fm_rM_0 hj h hk h2) hx hb hml hown hts hN hG t_165 t_167 s_16 t_1 t_168 nm_X2_refusalOfMapped ⟨by decide, by decide⟩ fp_0 rfl hl.1 (Nat.le_of_ble_eq_true rfl) dX2_protect_3 ⟨Nat.zero_le _, Nat.zero_le _⟩ (fun H locs hG => ?_)
  refine W.eq (g2 := F0 m 6 ls [.int 0]) rfl ?_
  refine lv_istore (lv' := [(4, .int 0), (0, .ref (ad 0)), (1, .int (nI j)), (2, .int (nI k)), (3, .int z)]) hx hb dX2_protect_6 hl (by decide) rfl (fun ls hl => ?_)
  refine lv_iload hx hb dX2_protect_8 (lv_at hl 0 rfl) ?_
  refine lv_if_eq (tgt := 16) hx hb dX2_protect_10 rfl (fun _ => ?_) (fun hh => absurd (rfl) hh)
  refine lv_aload_n hx hb dX2_protect_16 rfl (lv_at hl 1 rfl) ?_
  refine g_get (k := 0) (v := .ref (ad 1)) (C := RX2) (ref := RX2) (fs := [.ref (ad 1), .ref (ad 2), .int af, .int cf]) hx hb hown hts hG gX2 rfl fp_0 (by decide) t_53 rfl rfl dX2_protect_17 ?_
  refine lv_iload_n hx hb dX2_protect_20 rfl (lv_at hl 2 rfl) ?_
  refine g_aald (i := j) (t0 := 1) hx hb hG fp_1 rfl (hj) (by decide) rfl dX2_protect_21 ?_
  refine lv_astore (lv' := [(5, .ref (ad (5 + 3 * j))), (4, .int 0), (0, .ref (ad 0)), (1, .int (nI j)), (2, .int (nI k)), (3, .int z)]) hx hb dX2_protect_22 hl (by decide) rfl (fun ls hl => ?_)
  refine lv_aload hx hb dX2_protect_24 (lv_at hl 0 rfl) ?_
  refine lv_iconst (v := 1) hx hb dX2_protect_26 (by decide) ?_
  refine lv_iload_n hx hb dX2_protect_27 rfl (lv_at hl 4 rfl) ?_
  refine g_callVN (As := [.int 1, .int (nI k)]) (rest := []) (fs := [.int (bI (run j)), .long (en (mp j)), .ref (ad (6 + 3 * j)), .ref (ad (7 + 3 * j))]) (fm_is_f hj hk h3) hx hb hml hown hts hN hG t_109 t_111 s_7 t_2 t_112 nm_X0_is ⟨by decide, by decide⟩ (fp_5 (hj)) rfl hl.1 (Nat.le_of_ble_eq_true rfl) dX2_protect_28 ⟨Nat.zero_le _, Nat.zero_le _⟩ (fun H locs hG => ?_)
  refine W.eq (g2 := F0 m 31 ls [.int 0]) rfl ?_
  refine lv_iload_n hx hb dX2_protect_31 rfl (lv_at hl 5 rfl) ?_
  refine lv_icmp_ne (tgt := 37) hx hb dX2_protect_32 rfl (fun hh => absurd (h4.symm) hh) (fun _ => ?_)
  refine lv_iconst (v := 0) hx hb dX2_protect_35 (by decide) ?_
  exact g_iret hx hb hr hlk hG dX2_protect_36
set_option maxHeartbeats 4000000 in
set_option maxRecDepth 100000 in
theorem fp_protect_t1 {j k : Nat} (hj : j < 5) (hk : k < 64) (h : run j = true) (h2 : mp j k = true) {z : Int32} (h3 : ¬ kd j k &&& 1 = 0) (h4 : ¬ z = 1) : gM l yX2_protect cX2_protect 6 (some .int) 2 43 D cls (fpT cI cQ cZ) A (fpW ad cI cQ run mp fr kd wd ct af cf) [.ref (ad 0), .int (nI j), .int (nI k), .int z] (some (.int 1)) (fpW ad cI cQ run mp fr (up1 kd j (upd (kd j) k (kd j k ^^^ 1))) wd ct af cf) := by
  refine gM_of (by decide) (Nat.le_of_ble_eq_true rfl) ?_
  intro p e s m args below meth c ls hx hb hml hown hts hN hr hlk hl hG
  have hown : s.vm.findClass RX2 = some m.cls := hown
  have hl : lv_has ls 6 [(0, .ref (ad 0)), (1, .int (nI j)), (2, .int (nI k)), (3, .int z)] := hl
  refine lv_aload_n hx hb dX2_protect_0 rfl (lv_at hl 0 rfl) ?_
  refine lv_iload_n hx hb dX2_protect_1 rfl (lv_at hl 1 rfl) ?_
  refine lv_iload_n hx hb dX2_protect_2 rfl (lv_at hl 2 rfl) ?_
  refine g_callV (As := [.int (nI j), .int (nI k)]) (rest := []) (fs := [.ref (ad 1), .ref (ad 2), .int af, .int cf]) (fm_rM_0 hj h hk h2) hx hb hml hown hts hN hG t_165 t_167 s_16 t_1 t_168 nm_X2_refusalOfMapped ⟨by decide, by decide⟩ fp_0 rfl hl.1 (Nat.le_of_ble_eq_true rfl) dX2_protect_3 ⟨Nat.zero_le _, Nat.zero_le _⟩ (fun H locs hG => ?_)
  refine W.eq (g2 := F0 m 6 ls [.int 0]) rfl ?_
  refine lv_istore (lv' := [(4, .int 0), (0, .ref (ad 0)), (1, .int (nI j)), (2, .int (nI k)), (3, .int z)]) hx hb dX2_protect_6 hl (by decide) rfl (fun ls hl => ?_)
  refine lv_iload hx hb dX2_protect_8 (lv_at hl 0 rfl) ?_
  refine lv_if_eq (tgt := 16) hx hb dX2_protect_10 rfl (fun _ => ?_) (fun hh => absurd (rfl) hh)
  refine lv_aload_n hx hb dX2_protect_16 rfl (lv_at hl 1 rfl) ?_
  refine g_get (k := 0) (v := .ref (ad 1)) (C := RX2) (ref := RX2) (fs := [.ref (ad 1), .ref (ad 2), .int af, .int cf]) hx hb hown hts hG gX2 rfl fp_0 (by decide) t_53 rfl rfl dX2_protect_17 ?_
  refine lv_iload_n hx hb dX2_protect_20 rfl (lv_at hl 2 rfl) ?_
  refine g_aald (i := j) (t0 := 1) hx hb hG fp_1 rfl (hj) (by decide) rfl dX2_protect_21 ?_
  refine lv_astore (lv' := [(5, .ref (ad (5 + 3 * j))), (4, .int 0), (0, .ref (ad 0)), (1, .int (nI j)), (2, .int (nI k)), (3, .int z)]) hx hb dX2_protect_22 hl (by decide) rfl (fun ls hl => ?_)
  refine lv_aload hx hb dX2_protect_24 (lv_at hl 0 rfl) ?_
  refine lv_iconst (v := 1) hx hb dX2_protect_26 (by decide) ?_
  refine lv_iload_n hx hb dX2_protect_27 rfl (lv_at hl 4 rfl) ?_
  refine g_callVN (As := [.int 1, .int (nI k)]) (rest := []) (fs := [.int (bI (run j)), .long (en (mp j)), .ref (ad (6 + 3 * j)), .ref (ad (7 + 3 * j))]) (fm_is_t hj hk h3) hx hb hml hown hts hN hG t_109 t_111 s_7 t_2 t_112 nm_X0_is ⟨by decide, by decide⟩ (fp_5 (hj)) rfl hl.1 (Nat.le_of_ble_eq_true rfl) dX2_protect_28 ⟨Nat.zero_le _, Nat.zero_le _⟩ (fun H locs hG => ?_)
  refine W.eq (g2 := F0 m 31 ls [.int 1]) rfl ?_
  refine lv_iload_n hx hb dX2_protect_31 rfl (lv_at hl 5 rfl) ?_
  refine lv_icmp_ne (tgt := 37) hx hb dX2_protect_32 rfl (fun _ => ?_) (fun hh => absurd hh (fun q => h4 q.symm))
  refine lv_aload hx hb dX2_protect_37 (lv_at hl 0 rfl) ?_
  refine lv_iconst (v := 1) hx hb dX2_protect_39 (by decide) ?_
  refine lv_iload_n hx hb dX2_protect_40 rfl (lv_at hl 4 rfl) ?_
  refine g_callVN (As := [.int 1, .int (nI k)]) (rest := []) (fs := [.int (bI (run j)), .long (en (mp j)), .ref (ad (6 + 3 * j)), .ref (ad (7 + 3 * j))]) (fm_turn hj hk) hx hb hml hown hts hN hG t_113 t_115 s_8 t_2 t_116 nm_X0_turn ⟨by decide, by decide⟩ (fp_5 (hj)) rfl hl.1 (Nat.le_of_ble_eq_true rfl) dX2_protect_41 ⟨Nat.zero_le _, Nat.zero_le _⟩ (fun H locs hG => ?_)
  refine W.eq (g2 := F0 m 44 ls []) rfl ?_
  refine lv_iconst (v := 1) hx hb dX2_protect_44 (by decide) ?_
  exact g_iret hx hb hr hlk hG dX2_protect_45
set_option maxHeartbeats 4000000 in
set_option maxRecDepth 100000 in
theorem fp_protect_f1 {j k : Nat} (hj : j < 5) (hk : k < 64) (h : run j = true) (h2 : mp j k = true) {z : Int32} (h3 : kd j k &&& 1 = 0) (h4 : ¬ z = 0) : gM l yX2_protect cX2_protect 6 (some .int) 2 43 D cls (fpT cI cQ cZ) A (fpW ad cI cQ run mp fr kd wd ct af cf) [.ref (ad 0), .int (nI j), .int (nI k), .int z] (some (.int 1)) (fpW ad cI cQ run mp fr (up1 kd j (upd (kd j) k (kd j k ^^^ 1))) wd ct af cf) := by
  refine gM_of (by decide) (Nat.le_of_ble_eq_true rfl) ?_
  intro p e s m args below meth c ls hx hb hml hown hts hN hr hlk hl hG
  have hown : s.vm.findClass RX2 = some m.cls := hown
  have hl : lv_has ls 6 [(0, .ref (ad 0)), (1, .int (nI j)), (2, .int (nI k)), (3, .int z)] := hl
  refine lv_aload_n hx hb dX2_protect_0 rfl (lv_at hl 0 rfl) ?_
  refine lv_iload_n hx hb dX2_protect_1 rfl (lv_at hl 1 rfl) ?_
  refine lv_iload_n hx hb dX2_protect_2 rfl (lv_at hl 2 rfl) ?_
  refine g_callV (As := [.int (nI j), .int (nI k)]) (rest := []) (fs := [.ref (ad 1), .ref (ad 2), .int af, .int cf]) (fm_rM_0 hj h hk h2) hx hb hml hown hts hN hG t_165 t_167 s_16 t_1 t_168 nm_X2_refusalOfMapped ⟨by decide, by decide⟩ fp_0 rfl hl.1 (Nat.le_of_ble_eq_true rfl) dX2_protect_3 ⟨Nat.zero_le _, Nat.zero_le _⟩ (fun H locs hG => ?_)
  refine W.eq (g2 := F0 m 6 ls [.int 0]) rfl ?_
  refine lv_istore (lv' := [(4, .int 0), (0, .ref (ad 0)), (1, .int (nI j)), (2, .int (nI k)), (3, .int z)]) hx hb dX2_protect_6 hl (by decide) rfl (fun ls hl => ?_)
  refine lv_iload hx hb dX2_protect_8 (lv_at hl 0 rfl) ?_
  refine lv_if_eq (tgt := 16) hx hb dX2_protect_10 rfl (fun _ => ?_) (fun hh => absurd (rfl) hh)
  refine lv_aload_n hx hb dX2_protect_16 rfl (lv_at hl 1 rfl) ?_
  refine g_get (k := 0) (v := .ref (ad 1)) (C := RX2) (ref := RX2) (fs := [.ref (ad 1), .ref (ad 2), .int af, .int cf]) hx hb hown hts hG gX2 rfl fp_0 (by decide) t_53 rfl rfl dX2_protect_17 ?_
  refine lv_iload_n hx hb dX2_protect_20 rfl (lv_at hl 2 rfl) ?_
  refine g_aald (i := j) (t0 := 1) hx hb hG fp_1 rfl (hj) (by decide) rfl dX2_protect_21 ?_
  refine lv_astore (lv' := [(5, .ref (ad (5 + 3 * j))), (4, .int 0), (0, .ref (ad 0)), (1, .int (nI j)), (2, .int (nI k)), (3, .int z)]) hx hb dX2_protect_22 hl (by decide) rfl (fun ls hl => ?_)
  refine lv_aload hx hb dX2_protect_24 (lv_at hl 0 rfl) ?_
  refine lv_iconst (v := 1) hx hb dX2_protect_26 (by decide) ?_
  refine lv_iload_n hx hb dX2_protect_27 rfl (lv_at hl 4 rfl) ?_
  refine g_callVN (As := [.int 1, .int (nI k)]) (rest := []) (fs := [.int (bI (run j)), .long (en (mp j)), .ref (ad (6 + 3 * j)), .ref (ad (7 + 3 * j))]) (fm_is_f hj hk h3) hx hb hml hown hts hN hG t_109 t_111 s_7 t_2 t_112 nm_X0_is ⟨by decide, by decide⟩ (fp_5 (hj)) rfl hl.1 (Nat.le_of_ble_eq_true rfl) dX2_protect_28 ⟨Nat.zero_le _, Nat.zero_le _⟩ (fun H locs hG => ?_)
  refine W.eq (g2 := F0 m 31 ls [.int 0]) rfl ?_
  refine lv_iload_n hx hb dX2_protect_31 rfl (lv_at hl 5 rfl) ?_
  refine lv_icmp_ne (tgt := 37) hx hb dX2_protect_32 rfl (fun _ => ?_) (fun hh => absurd hh (fun q => h4 q.symm))
  refine lv_aload hx hb dX2_protect_37 (lv_at hl 0 rfl) ?_
  refine lv_iconst (v := 1) hx hb dX2_protect_39 (by decide) ?_
  refine lv_iload_n hx hb dX2_protect_40 rfl (lv_at hl 4 rfl) ?_
  refine g_callVN (As := [.int 1, .int (nI k)]) (rest := []) (fs := [.int (bI (run j)), .long (en (mp j)), .ref (ad (6 + 3 * j)), .ref (ad (7 + 3 * j))]) (fm_turn hj hk) hx hb hml hown hts hN hG t_113 t_115 s_8 t_2 t_116 nm_X0_turn ⟨by decide, by decide⟩ (fp_5 (hj)) rfl hl.1 (Nat.le_of_ble_eq_true rfl) dX2_protect_41 ⟨Nat.zero_le _, Nat.zero_le _⟩ (fun H locs hG => ?_)
  refine W.eq (g2 := F0 m 44 ls []) rfl ?_
  refine lv_iconst (v := 1) hx hb dX2_protect_44 (by decide) ?_
  exact g_iret hx hb hr hlk hG dX2_protect_45
end CM
