section CM
variable {l : Launch} {D : va_G} {A : Nat → Prop} {ad : Nat → Nat} {cI cQ cZ : ClassId} {run : Nat → Bool} {mp : Nat → Nat → Bool} {fr : Nat → Nat → Nat} {kd : Nat → Nat → Int32} {wd ct : Nat → Int32} {af cf : Int32}
set_option maxHeartbeats 4000000 in
set_option maxRecDepth 100000 in
theorem fp_spawn_full (h : ∀ i, i < 5 → run i = true) : gM l yX2_spawn cX2_spawn 2 (some .int) 4 90 D cls (fpT cI cQ cZ) A (fpW ad cI cQ run mp fr kd wd ct af cf) [.ref (ad 0)] (some (.int (-7))) (fpW ad cI cQ run mp fr kd wd ct af cf) := by
  refine gM_of (by decide) (Nat.le_of_ble_eq_true rfl) ?_
  intro p e s m args below meth c ls hx hb hml hown hts hN hr hlk hl hG
  have hown : s.vm.findClass RX2 = some m.cls := hown
  have hl : lv_has ls 2 [(0, .ref (ad 0))] := hl
  refine lv_aload_n hx hb dX2_spawn_0 rfl (lv_at hl 0 rfl) ?_
  refine g_callV (As := []) (rest := []) (fs := [.ref (ad 1), .ref (ad 2), .int af, .int cf]) (fm_leastIdle_n h) hx hb hml hown hts hN hG t_70 t_72 s_0 t_1 t_73 nm_X2_leastIdle ⟨by decide, by decide⟩ fp_0 rfl hl.1 (Nat.le_of_ble_eq_true rfl) dX2_spawn_1 ⟨Nat.zero_le _, Nat.zero_le _⟩ (fun H locs hG => ?_)
  refine W.eq (g2 := F0 m 4 ls [.int (-1)]) rfl ?_
  refine lv_istore_n (lv' := [(1, .int (-1)), (0, .ref (ad 0))]) hx hb dX2_spawn_4 rfl hl (by decide) rfl (fun ls hl => ?_)
  refine lv_iload_n hx hb dX2_spawn_5 rfl (lv_at hl 0 rfl) ?_
  refine lv_if_ge (tgt := 12) hx hb dX2_spawn_6 rfl (fun hh => absurd hh (by decide)) (fun _ => ?_)
  refine lv_bipush (v := (-7)) hx hb dX2_spawn_9 (by decide) ?_
  exact g_iret hx hb hr hlk hG dX2_spawn_11
set_option maxHeartbeats 4000000 in
set_option maxRecDepth 100000 in
theorem fp_spawn_room {j : Nat} (hj : j < 5) (h : run j = false) (hm : ∀ i, i < j → run i = true) (h2 : ¬ nI 1 ≤ frF run mp ct) : gM l yX2_spawn cX2_spawn 2 (some .int) 4 90 D cls (fpT cI cQ cZ) A (fpW ad cI cQ run mp fr kd wd ct af cf) [.ref (ad 0)] (some (.int (-8))) (fpW ad cI cQ run mp fr kd wd ct af cf) := by
  refine gM_of (by decide) (Nat.le_of_ble_eq_true rfl) ?_
  intro p e s m args below meth c ls hx hb hml hown hts hN hr hlk hl hG
  have hown : s.vm.findClass RX2 = some m.cls := hown
  have hl : lv_has ls 2 [(0, .ref (ad 0))] := hl
  refine lv_aload_n hx hb dX2_spawn_0 rfl (lv_at hl 0 rfl) ?_
  refine g_callV (As := []) (rest := []) (fs := [.ref (ad 1), .ref (ad 2), .int af, .int cf]) (fm_leastIdle_t hj h hm) hx hb hml hown hts hN hG t_70 t_72 s_0 t_1 t_73 nm_X2_leastIdle ⟨by decide, by decide⟩ fp_0 rfl hl.1 (Nat.le_of_ble_eq_true rfl) dX2_spawn_1 ⟨Nat.zero_le _, Nat.zero_le _⟩ (fun H locs hG => ?_)
  refine W.eq (g2 := F0 m 4 ls [.int (nI j)]) rfl ?_
  refine lv_istore_n (lv' := [(1, .int (nI j)), (0, .ref (ad 0))]) hx hb dX2_spawn_4 rfl hl (by decide) rfl (fun ls hl => ?_)
  refine lv_iload_n hx hb dX2_spawn_5 rfl (lv_at hl 0 rfl) ?_
  refine lv_if_ge (tgt := 12) hx hb dX2_spawn_6 rfl (fun _ => ?_) (fun hh => absurd (nI_pos' (Nat.lt_trans hj (by decide))) hh)
  refine lv_aload_n hx hb dX2_spawn_12 rfl (lv_at hl 1 rfl) ?_
  refine g_callV (As := []) (rest := []) (fs := [.ref (ad 1), .ref (ad 2), .int af, .int cf]) (fm_freeFrames) hx hb hml hown hts hN hG t_74 t_76 s_1 t_1 t_77 nm_X2_freeFrames ⟨by decide, by decide⟩ fp_0 rfl hl.1 (Nat.le_of_ble_eq_true rfl) dX2_spawn_13 ⟨Nat.zero_le _, Nat.zero_le _⟩ (fun H locs hG => ?_)
  refine W.eq (g2 := F0 m 16 ls [.int (frF run mp ct)]) rfl ?_
  refine lv_lconst (v := 0) hx hb dX2_spawn_16 (by decide) ?_
  refine g_callSN (As := [.long 0]) (rest := [.int (frF run mp ct)]) (fm_tables0) hx hb hml hown hts hN hG t_92 t_87 t_2 t_88 nm_X0_tablesFor ⟨by decide, by decide⟩ hl.1 (Nat.le_of_ble_eq_true rfl) dX2_spawn_17 ⟨Nat.zero_le _, Nat.zero_le _⟩ (fun H locs hG => ?_)
  refine W.eq (g2 := F0 m 20 ls [.int (nI 1), .int (frF run mp ct)]) rfl ?_
  refine lv_icmp_ge (tgt := 26) hx hb dX2_spawn_20 rfl (fun hh => absurd hh (h2)) (fun _ => ?_)
  refine lv_bipush (v := (-8)) hx hb dX2_spawn_23 (by decide) ?_
  exact g_iret hx hb hr hlk hG dX2_spawn_25
set_option maxHeartbeats 4000000 in
set_option maxRecDepth 100000 in
theorem fp_spawn_ok {j : Nat} (hj : j < 5) (h : run j = false) (hm : ∀ i, i < j → run i = true) (h2 : nI 1 ≤ frF run mp ct) : gM l yX2_spawn cX2_spawn 2 (some .int) 4 90 D cls (fpT cI cQ cZ) A (fpW ad cI cQ run mp fr kd wd ct af cf) [.ref (ad 0)] (some (.int (nI j))) (fpW ad cI cQ (up1 run j true) mp fr kd wd ct af cf) := by
  refine gM_of (by decide) (Nat.le_of_ble_eq_true rfl) ?_
  intro p e s m args below meth c ls hx hb hml hown hts hN hr hlk hl hG
  have hown : s.vm.findClass RX2 = some m.cls := hown
  have hl : lv_has ls 2 [(0, .ref (ad 0))] := hl
  refine lv_aload_n hx hb dX2_spawn_0 rfl (lv_at hl 0 rfl) ?_
  refine g_callV (As := []) (rest := []) (fs := [.ref (ad 1), .ref (ad 2), .int af, .int cf]) (fm_leastIdle_t hj h hm) hx hb hml hown hts hN hG t_70 t_72 s_0 t_1 t_73 nm_X2_leastIdle ⟨by decide, by decide⟩ fp_0 rfl hl.1 (Nat.le_of_ble_eq_true rfl) dX2_spawn_1 ⟨Nat.zero_le _, Nat.zero_le _⟩ (fun H locs hG => ?_)
  refine W.eq (g2 := F0 m 4 ls [.int (nI j)]) rfl ?_
  refine lv_istore_n (lv' := [(1, .int (nI j)), (0, .ref (ad 0))]) hx hb dX2_spawn_4 rfl hl (by decide) rfl (fun ls hl => ?_)
  refine lv_iload_n hx hb dX2_spawn_5 rfl (lv_at hl 0 rfl) ?_
  refine lv_if_ge (tgt := 12) hx hb dX2_spawn_6 rfl (fun _ => ?_) (fun hh => absurd (nI_pos' (Nat.lt_trans hj (by decide))) hh)
  refine lv_aload_n hx hb dX2_spawn_12 rfl (lv_at hl 1 rfl) ?_
  refine g_callV (As := []) (rest := []) (fs := [.ref (ad 1), .ref (ad 2), .int af, .int cf]) (fm_freeFrames) hx hb hml hown hts hN hG t_74 t_76 s_1 t_1 t_77 nm_X2_freeFrames ⟨by decide, by decide⟩ fp_0 rfl hl.1 (Nat.le_of_ble_eq_true rfl) dX2_spawn_13 ⟨Nat.zero_le _, Nat.zero_le _⟩ (fun H locs hG => ?_)
  refine W.eq (g2 := F0 m 16 ls [.int (frF run mp ct)]) rfl ?_
  refine lv_lconst (v := 0) hx hb dX2_spawn_16 (by decide) ?_
  refine g_callSN (As := [.long 0]) (rest := [.int (frF run mp ct)]) (fm_tables0) hx hb hml hown hts hN hG t_92 t_87 t_2 t_88 nm_X0_tablesFor ⟨by decide, by decide⟩ hl.1 (Nat.le_of_ble_eq_true rfl) dX2_spawn_17 ⟨Nat.zero_le _, Nat.zero_le _⟩ (fun H locs hG => ?_)
  refine W.eq (g2 := F0 m 20 ls [.int (nI 1), .int (frF run mp ct)]) rfl ?_
  refine lv_icmp_ge (tgt := 26) hx hb dX2_spawn_20 rfl (fun _ => ?_) (fun hh => absurd (h2) hh)
  refine lv_aload_n hx hb dX2_spawn_26 rfl (lv_at hl 1 rfl) ?_
  refine g_get (k := 0) (v := .ref (ad 1)) (C := RX2) (ref := RX2) (fs := [.ref (ad 1), .ref (ad 2), .int af, .int cf]) hx hb hown hts hG gX2 rfl fp_0 (by decide) t_53 rfl rfl dX2_spawn_27 ?_
  refine lv_iload_n hx hb dX2_spawn_30 rfl (lv_at hl 0 rfl) ?_
  refine g_aald (i := j) (t0 := 1) hx hb hG fp_1 rfl (hj) (by decide) rfl dX2_spawn_31 ?_
  refine lv_iconst (v := 1) hx hb dX2_spawn_32 (by decide) ?_
  refine g_putN (k := 0) (v := .int 1) (C := RX0) (ref := RX0) (ty := .boolean) (fs := [.int (bI (run j)), .long (en (mp j)), .ref (ad (6 + 3 * j)), .ref (ad (7 + 3 * j))]) (ws' := fpW ad cI cQ (up1 run j true) mp fr kd wd ct af cf) tyX0 tyX0_ok nmX0 hx hb hown hts hN hG gX0 rfl (fp_5 (hj)) (by decide) t_21 rfl rfl (by decide +kernel) rfl rfl (Nat.le_of_ble_eq_true rfl) (fp_s5r hj true) dX2_spawn_33 (fun H locs hG => ?_)
  refine lv_iload_n hx hb dX2_spawn_36 rfl (lv_at hl 0 rfl) ?_
  exact g_iret hx hb hr hlk hG dX2_spawn_37
def fkS (j n : Nat) (mp : Nat → Nat → Bool) (fr : Nat → Nat → Nat) (kd : Nat → Nat → Int32) (ct : Nat → Int32) : Nat → (Nat → Nat → Bool) × (Nat → Nat → Nat) × (Nat → Nat → Int32) × (Nat → Int32)
  | 0 => (mp, fr, kd, ct)
  | i + 1 => if (fkS j n mp fr kd ct i).1 j i then
      (up1 (fkS j n mp fr kd ct i).1 n (up1 ((fkS j n mp fr kd ct i).1 n) i true),
       up1 (fkS j n mp fr kd ct i).2.1 n (up1 ((fkS j n mp fr kd ct i).2.1 n) i ((fkS j n mp fr kd ct i).2.1 j i)),
       up1 (shK (fkS j n mp fr kd ct i).2.2.1 j i) n (upd (shK (fkS j n mp fr kd ct i).2.2.1 j i n) i (shK (fkS j n mp fr kd ct i).2.2.1 j i j i)),
       upd (fkS j n mp fr kd ct i).2.2.2 ((fkS j n mp fr kd ct i).2.1 j i) ((fkS j n mp fr kd ct i).2.2.2 ((fkS j n mp fr kd ct i).2.1 j i) + 1))
    else fkS j n mp fr kd ct i
set_option maxHeartbeats 4000000 in
set_option maxRecDepth 100000 in
theorem fp_fork_1 {x : Int32} (h : ¬ rn run x) : gM l yX2_fork cX2_fork 6 (some .int) 4 90 D cls (fpT cI cQ cZ) A (fpW ad cI cQ run mp fr kd wd ct af cf) [.ref (ad 0), .int x] (some (.int (-1))) (fpW ad cI cQ run mp fr kd wd ct af cf) := by
  refine gM_of (by decide) (Nat.le_of_ble_eq_true rfl) ?_
  intro p e s m args below meth c ls hx hb hml hown hts hN hr hlk hl hG
  have hown : s.vm.findClass RX2 = some m.cls := hown
  have hl : lv_has ls 6 [(0, .ref (ad 0)), (1, .int x)] := hl
  refine lv_aload_n hx hb dX2_fork_0 rfl (lv_at hl 0 rfl) ?_
  refine lv_iload_n hx hb dX2_fork_1 rfl (lv_at hl 1 rfl) ?_
  refine g_callV (As := [.int x]) (rest := []) (fs := [.ref (ad 1), .ref (ad 2), .int af, .int cf]) (fm_isRunning_n h) hx hb hml hown hts hN hG t_97 t_99 s_4 t_1 t_100 nm_X2_isRunning ⟨by decide, by decide⟩ fp_0 rfl hl.1 (Nat.le_of_ble_eq_true rfl) dX2_fork_2 ⟨Nat.zero_le _, Nat.zero_le _⟩ (fun H locs hG => ?_)
  refine W.eq (g2 := F0 m 5 ls [.int 0]) rfl ?_
  refine lv_if_ne (tgt := 10) hx hb dX2_fork_5 rfl (fun hh => absurd (rfl) hh) (fun _ => ?_)
  refine lv_iconst (v := (-1)) hx hb dX2_fork_8 (by decide) ?_
  exact g_iret hx hb hr hlk hG dX2_fork_9
set_option maxHeartbeats 4000000 in
set_option maxRecDepth 100000 in
theorem fp_fork_full {j : Nat} (hj : j < 5) (h : run j = true) (hm : ∀ i, i < 5 → run i = true) : gM l yX2_fork cX2_fork 6 (some .int) 4 90 D cls (fpT cI cQ cZ) A (fpW ad cI cQ run mp fr kd wd ct af cf) [.ref (ad 0), .int (nI j)] (some (.int (-7))) (fpW ad cI cQ run mp fr kd wd ct af cf) := by
  refine gM_of (by decide) (Nat.le_of_ble_eq_true rfl) ?_
  intro p e s m args below meth c ls hx hb hml hown hts hN hr hlk hl hG
  have hown : s.vm.findClass RX2 = some m.cls := hown
  have hl : lv_has ls 6 [(0, .ref (ad 0)), (1, .int (nI j))] := hl
  refine lv_aload_n hx hb dX2_fork_0 rfl (lv_at hl 0 rfl) ?_
  refine lv_iload_n hx hb dX2_fork_1 rfl (lv_at hl 1 rfl) ?_
  refine g_callV (As := [.int (nI j)]) (rest := []) (fs := [.ref (ad 1), .ref (ad 2), .int af, .int cf]) (fm_isRunning_t hj h) hx hb hml hown hts hN hG t_97 t_99 s_4 t_1 t_100 nm_X2_isRunning ⟨by decide, by decide⟩ fp_0 rfl hl.1 (Nat.le_of_ble_eq_true rfl) dX2_fork_2 ⟨Nat.zero_le _, Nat.zero_le _⟩ (fun H locs hG => ?_)
  refine W.eq (g2 := F0 m 5 ls [.int 1]) rfl ?_
  refine lv_if_ne (tgt := 10) hx hb dX2_fork_5 rfl (fun _ => ?_) (fun hh => absurd hh (by decide))
  refine lv_aload_n hx hb dX2_fork_10 rfl (lv_at hl 0 rfl) ?_
  refine g_callV (As := []) (rest := []) (fs := [.ref (ad 1), .ref (ad 2), .int af, .int cf]) (fm_leastIdle_n hm) hx hb hml hown hts hN hG t_70 t_72 s_0 t_1 t_73 nm_X2_leastIdle ⟨by decide, by decide⟩ fp_0 rfl hl.1 (Nat.le_of_ble_eq_true rfl) dX2_fork_11 ⟨Nat.zero_le _, Nat.zero_le _⟩ (fun H locs hG => ?_)
  refine W.eq (g2 := F0 m 14 ls [.int (-1)]) rfl ?_
  refine lv_istore_n (lv' := [(2, .int (-1)), (0, .ref (ad 0)), (1, .int (nI j))]) hx hb dX2_fork_14 rfl hl (by decide) rfl (fun ls hl => ?_)
  refine lv_iload_n hx hb dX2_fork_15 rfl (lv_at hl 0 rfl) ?_
  refine lv_if_ge (tgt := 22) hx hb dX2_fork_16 rfl (fun hh => absurd hh (by decide)) (fun _ => ?_)
  refine lv_bipush (v := (-7)) hx hb dX2_fork_19 (by decide) ?_
  exact g_iret hx hb hr hlk hG dX2_fork_21
set_option maxHeartbeats 4000000 in
set_option maxRecDepth 100000 in
theorem fp_fork_room {j n : Nat} (hj : j < 5) (h : run j = true) (hn : n < 5) (hn0 : run n = false) (hm : ∀ i, i < n → run i = true) (h2 : ¬ nI (tbN (mp j)) ≤ frF run mp ct) : gM l yX2_fork cX2_fork 6 (some .int) 4 90 D cls (fpT cI cQ cZ) A (fpW ad cI cQ run mp fr kd wd ct af cf) [.ref (ad 0), .int (nI j)] (some (.int (-8))) (fpW ad cI cQ run mp fr kd wd ct af cf) := by
  refine gM_of (by decide) (Nat.le_of_ble_eq_true rfl) ?_
  intro p e s m args below meth c ls hx hb hml hown hts hN hr hlk hl hG
  have hown : s.vm.findClass RX2 = some m.cls := hown
  have hl : lv_has ls 6 [(0, .ref (ad 0)), (1, .int (nI j))] := hl
  refine lv_aload_n hx hb dX2_fork_0 rfl (lv_at hl 0 rfl) ?_
  refine lv_iload_n hx hb dX2_fork_1 rfl (lv_at hl 1 rfl) ?_
  refine g_callV (As := [.int (nI j)]) (rest := []) (fs := [.ref (ad 1), .ref (ad 2), .int af, .int cf]) (fm_isRunning_t hj h) hx hb hml hown hts hN hG t_97 t_99 s_4 t_1 t_100 nm_X2_isRunning ⟨by decide, by decide⟩ fp_0 rfl hl.1 (Nat.le_of_ble_eq_true rfl) dX2_fork_2 ⟨Nat.zero_le _, Nat.zero_le _⟩ (fun H locs hG => ?_)
  refine W.eq (g2 := F0 m 5 ls [.int 1]) rfl ?_
  refine lv_if_ne (tgt := 10) hx hb dX2_fork_5 rfl (fun _ => ?_) (fun hh => absurd hh (by decide))
  refine lv_aload_n hx hb dX2_fork_10 rfl (lv_at hl 0 rfl) ?_
  refine g_callV (As := []) (rest := []) (fs := [.ref (ad 1), .ref (ad 2), .int af, .int cf]) (fm_leastIdle_t hn hn0 hm) hx hb hml hown hts hN hG t_70 t_72 s_0 t_1 t_73 nm_X2_leastIdle ⟨by decide, by decide⟩ fp_0 rfl hl.1 (Nat.le_of_ble_eq_true rfl) dX2_fork_11 ⟨Nat.zero_le _, Nat.zero_le _⟩ (fun H locs hG => ?_)
  refine W.eq (g2 := F0 m 14 ls [.int (nI n)]) rfl ?_
  refine lv_istore_n (lv' := [(2, .int (nI n)), (0, .ref (ad 0)), (1, .int (nI j))]) hx hb dX2_fork_14 rfl hl (by decide) rfl (fun ls hl => ?_)
  refine lv_iload_n hx hb dX2_fork_15 rfl (lv_at hl 0 rfl) ?_
  refine lv_if_ge (tgt := 22) hx hb dX2_fork_16 rfl (fun _ => ?_) (fun hh => absurd (nI_pos' (Nat.lt_trans hn (by decide))) hh)
  refine lv_aload_n hx hb dX2_fork_22 rfl (lv_at hl 1 rfl) ?_
  refine g_get (k := 0) (v := .ref (ad 1)) (C := RX2) (ref := RX2) (fs := [.ref (ad 1), .ref (ad 2), .int af, .int cf]) hx hb hown hts hG gX2 rfl fp_0 (by decide) t_53 rfl rfl dX2_fork_23 ?_
  refine lv_iload_n hx hb dX2_fork_26 rfl (lv_at hl 2 rfl) ?_
  refine g_aald (i := j) (t0 := 1) hx hb hG fp_1 rfl (hj) (by decide) rfl dX2_fork_27 ?_
  refine lv_astore_n (lv' := [(3, .ref (ad (5 + 3 * j))), (2, .int (nI n)), (0, .ref (ad 0)), (1, .int (nI j))]) hx hb dX2_fork_28 rfl hl (by decide) rfl (fun ls hl => ?_)
  refine lv_aload_n hx hb dX2_fork_29 rfl (lv_at hl 2 rfl) ?_
  refine g_callV (As := []) (rest := []) (fs := [.ref (ad 1), .ref (ad 2), .int af, .int cf]) (fm_freeFrames) hx hb hml hown hts hN hG t_74 t_76 s_1 t_1 t_77 nm_X2_freeFrames ⟨by decide, by decide⟩ fp_0 rfl hl.1 (Nat.le_of_ble_eq_true rfl) dX2_fork_30 ⟨Nat.zero_le _, Nat.zero_le _⟩ (fun H locs hG => ?_)
  refine W.eq (g2 := F0 m 33 ls [.int (frF run mp ct)]) rfl ?_
  refine lv_aload_n hx hb dX2_fork_33 rfl (lv_at hl 0 rfl) ?_
  refine g_callVN (As := []) (rest := [.int (frF run mp ct)]) (fs := [.int (bI (run j)), .long (en (mp j)), .ref (ad (6 + 3 * j)), .ref (ad (7 + 3 * j))]) (fm_tableCount hj) hx hb hml hown hts hN hG t_82 t_84 s_3 t_2 t_85 nm_X0_tableCount ⟨by decide, by decide⟩ (fp_5 (hj)) rfl hl.1 (Nat.le_of_ble_eq_true rfl) dX2_fork_34 ⟨Nat.zero_le _, Nat.zero_le _⟩ (fun H locs hG => ?_)
  refine W.eq (g2 := F0 m 37 ls [.int (nI (tbN (mp j))), .int (frF run mp ct)]) rfl ?_
  refine lv_icmp_ge (tgt := 43) hx hb dX2_fork_37 rfl (fun hh => absurd hh (h2)) (fun _ => ?_)
  refine lv_bipush (v := (-8)) hx hb dX2_fork_40 (by decide) ?_
  exact g_iret hx hb hr hlk hG dX2_fork_42
set_option maxHeartbeats 4000000 in
set_option maxRecDepth 100000 in
theorem fp_fork_ok {j n : Nat} (hj : j < 5) (h : run j = true) (hn : n < 5) (hn0 : run n = false) (hm : ∀ i, i < n → run i = true) (h2 : nI (tbN (mp j)) ≤ frF run mp ct) (hf : ∀ i, i < 64 → (fkS j n mp fr kd ct i).1 j i = true → (fkS j n mp fr kd ct i).2.1 j i < 24) : gM l yX2_fork cX2_fork 6 (some .int) 4 90 D cls (fpT cI cQ cZ) A (fpW ad cI cQ run mp fr kd wd ct af cf) [.ref (ad 0), .int (nI j)] (some (.int (nI n))) (fpW ad cI cQ (up1 run n true) ((fkS j n mp fr kd ct 64).1) ((fkS j n mp fr kd ct 64).2.1) ((fkS j n mp fr kd ct 64).2.2.1) wd ((fkS j n mp fr kd ct 64).2.2.2) af cf) := by
  refine gM_of (by decide) (Nat.le_of_ble_eq_true rfl) ?_
  intro p e s m args below meth c ls hx hb hml hown hts hN hr hlk hl hG
  have hown : s.vm.findClass RX2 = some m.cls := hown
  have hl : lv_has ls 6 [(0, .ref (ad 0)), (1, .int (nI j))] := hl
  refine lv_aload_n hx hb dX2_fork_0 rfl (lv_at hl 0 rfl) ?_
  refine lv_iload_n hx hb dX2_fork_1 rfl (lv_at hl 1 rfl) ?_
  refine g_callV (As := [.int (nI j)]) (rest := []) (fs := [.ref (ad 1), .ref (ad 2), .int af, .int cf]) (fm_isRunning_t hj h) hx hb hml hown hts hN hG t_97 t_99 s_4 t_1 t_100 nm_X2_isRunning ⟨by decide, by decide⟩ fp_0 rfl hl.1 (Nat.le_of_ble_eq_true rfl) dX2_fork_2 ⟨Nat.zero_le _, Nat.zero_le _⟩ (fun H locs hG => ?_)
  refine W.eq (g2 := F0 m 5 ls [.int 1]) rfl ?_
  refine lv_if_ne (tgt := 10) hx hb dX2_fork_5 rfl (fun _ => ?_) (fun hh => absurd hh (by decide))
  refine lv_aload_n hx hb dX2_fork_10 rfl (lv_at hl 0 rfl) ?_
  refine g_callV (As := []) (rest := []) (fs := [.ref (ad 1), .ref (ad 2), .int af, .int cf]) (fm_leastIdle_t hn hn0 hm) hx hb hml hown hts hN hG t_70 t_72 s_0 t_1 t_73 nm_X2_leastIdle ⟨by decide, by decide⟩ fp_0 rfl hl.1 (Nat.le_of_ble_eq_true rfl) dX2_fork_11 ⟨Nat.zero_le _, Nat.zero_le _⟩ (fun H locs hG => ?_)
  refine W.eq (g2 := F0 m 14 ls [.int (nI n)]) rfl ?_
  refine lv_istore_n (lv' := [(2, .int (nI n)), (0, .ref (ad 0)), (1, .int (nI j))]) hx hb dX2_fork_14 rfl hl (by decide) rfl (fun ls hl => ?_)
  refine lv_iload_n hx hb dX2_fork_15 rfl (lv_at hl 0 rfl) ?_
  refine lv_if_ge (tgt := 22) hx hb dX2_fork_16 rfl (fun _ => ?_) (fun hh => absurd (nI_pos' (Nat.lt_trans hn (by decide))) hh)
  refine lv_aload_n hx hb dX2_fork_22 rfl (lv_at hl 1 rfl) ?_
  refine g_get (k := 0) (v := .ref (ad 1)) (C := RX2) (ref := RX2) (fs := [.ref (ad 1), .ref (ad 2), .int af, .int cf]) hx hb hown hts hG gX2 rfl fp_0 (by decide) t_53 rfl rfl dX2_fork_23 ?_
  refine lv_iload_n hx hb dX2_fork_26 rfl (lv_at hl 2 rfl) ?_
  refine g_aald (i := j) (t0 := 1) hx hb hG fp_1 rfl (hj) (by decide) rfl dX2_fork_27 ?_
  refine lv_astore_n (lv' := [(3, .ref (ad (5 + 3 * j))), (2, .int (nI n)), (0, .ref (ad 0)), (1, .int (nI j))]) hx hb dX2_fork_28 rfl hl (by decide) rfl (fun ls hl => ?_)
  refine lv_aload_n hx hb dX2_fork_29 rfl (lv_at hl 2 rfl) ?_
  refine g_callV (As := []) (rest := []) (fs := [.ref (ad 1), .ref (ad 2), .int af, .int cf]) (fm_freeFrames) hx hb hml hown hts hN hG t_74 t_76 s_1 t_1 t_77 nm_X2_freeFrames ⟨by decide, by decide⟩ fp_0 rfl hl.1 (Nat.le_of_ble_eq_true rfl) dX2_fork_30 ⟨Nat.zero_le _, Nat.zero_le _⟩ (fun H locs hG => ?_)
  refine W.eq (g2 := F0 m 33 ls [.int (frF run mp ct)]) rfl ?_
  refine lv_aload_n hx hb dX2_fork_33 rfl (lv_at hl 0 rfl) ?_
  refine g_callVN (As := []) (rest := [.int (frF run mp ct)]) (fs := [.int (bI (run j)), .long (en (mp j)), .ref (ad (6 + 3 * j)), .ref (ad (7 + 3 * j))]) (fm_tableCount hj) hx hb hml hown hts hN hG t_82 t_84 s_3 t_2 t_85 nm_X0_tableCount ⟨by decide, by decide⟩ (fp_5 (hj)) rfl hl.1 (Nat.le_of_ble_eq_true rfl) dX2_fork_34 ⟨Nat.zero_le _, Nat.zero_le _⟩ (fun H locs hG => ?_)
  refine W.eq (g2 := F0 m 37 ls [.int (nI (tbN (mp j))), .int (frF run mp ct)]) rfl ?_
  refine lv_icmp_ge (tgt := 43) hx hb dX2_fork_37 rfl (fun _ => ?_) (fun hh => absurd (h2) hh)
  refine lv_aload_n hx hb dX2_fork_43 rfl (lv_at hl 2 rfl) ?_
  refine g_get (k := 0) (v := .ref (ad 1)) (C := RX2) (ref := RX2) (fs := [.ref (ad 1), .ref (ad 2), .int af, .int cf]) hx hb hown hts hG gX2 rfl fp_0 (by decide) t_53 rfl rfl dX2_fork_44 ?_
  refine lv_iload_n hx hb dX2_fork_47 rfl (lv_at hl 1 rfl) ?_
  refine g_aald (i := n) (t0 := 1) hx hb hG fp_1 rfl (hn) (by decide) rfl dX2_fork_48 ?_
  refine lv_astore (lv' := [(4, .ref (ad (5 + 3 * n))), (3, .ref (ad (5 + 3 * j))), (2, .int (nI n)), (0, .ref (ad 0)), (1, .int (nI j))]) hx hb dX2_fork_49 hl (by decide) rfl (fun ls hl => ?_)
  refine lv_aload hx hb dX2_fork_51 (lv_at hl 0 rfl) ?_
  refine lv_iconst (v := 1) hx hb dX2_fork_53 (by decide) ?_
  refine g_putN (k := 0) (v := .int 1) (C := RX0) (ref := RX0) (ty := .boolean) (fs := [.int (bI (run n)), .long (en (mp n)), .ref (ad (6 + 3 * n)), .ref (ad (7 + 3 * n))]) (ws' := fpW ad cI cQ (up1 run n true) mp fr kd wd ct af cf) tyX0 tyX0_ok nmX0 hx hb hown hts hN hG gX0 rfl (fp_5 (hn)) (by decide) t_21 rfl rfl (by decide +kernel) rfl rfl (Nat.le_of_ble_eq_true rfl) (fp_s5r hn true) dX2_fork_54 (fun H locs hG => ?_)
  refine lv_iconst (v := nI 0) hx hb dX2_fork_57 (by decide) ?_
  refine lv_istore (lv' := [(5, .int (nI 0)), (4, .ref (ad (5 + 3 * n))), (3, .ref (ad (5 + 3 * j))), (2, .int (nI n)), (0, .ref (ad 0)), (1, .int (nI j))]) hx hb dX2_fork_58 hl (by decide) rfl (fun ls hl => ?_)
  have loop : ∀ (n0 i : Nat) (H : Heap) (locs : List Loc) (ls : Array Slot), i + n0 = 64 → gG D cls (fpT cI cQ cZ) A s (fpW ad cI cQ (up1 run n true) ((fkS j n mp fr kd ct i).1) ((fkS j n mp fr kd ct i).2.1) ((fkS j n mp fr kd ct i).2.2.1) wd ((fkS j n mp fr kd ct i).2.2.2) af cf) H locs → lv_has ls 6 [(5, .int (nI i)), (4, .ref (ad (5 + 3 * n))), (3, .ref (ad (5 + 3 * j))), (2, .int (nI n)), (1, .int (nI j)), (0, .ref (ad 0))] → W p l e (gR 4 90) s m args below meth c H locs 0 0 (gQ below args s D cls (fpT cI cQ cZ) A (some (.int (nI n))) (fpW ad cI cQ (up1 run n true) ((fkS j n mp fr kd ct 64).1) ((fkS j n mp fr kd ct 64).2.1) ((fkS j n mp fr kd ct 64).2.2.1) wd ((fkS j n mp fr kd ct 64).2.2.2) af cf)) (F0 m 60 ls []) := by
    intro n0
    induction n0 with
    | zero =>
      intro i H locs ls hi hG hl
      obtain rfl : i = 64 := by omega
      refine lv_iload hx hb dX2_fork_60 (lv_at hl 0 rfl) ?_
      refine lv_bipush (v := nI 64) hx hb dX2_fork_62 (by decide) ?_
      refine lv_icmp_ge (tgt := 91) hx hb dX2_fork_64 rfl (fun _ => ?_) (fun hh => absurd (nI_le (Nat.le_refl 64) (by decide)) hh)
      refine lv_iload_n hx hb dX2_fork_91 rfl (lv_at hl 3 rfl) ?_
      exact g_iret hx hb hr hlk hG dX2_fork_92
    | succ n0 ih =>
      intro i H locs ls hi hG hl
      have hi6 : i < 64 := by omega
      cases hc : (fkS j n mp fr kd ct i).1 j i
      · have hu : fkS j n mp fr kd ct (i + 1) = fkS j n mp fr kd ct i := by simp [fkS, hc]
        refine lv_iload hx hb dX2_fork_60 (lv_at hl 0 rfl) ?_
        refine lv_bipush (v := nI 64) hx hb dX2_fork_62 (by decide) ?_
        refine lv_icmp_ge (tgt := 91) hx hb dX2_fork_64 rfl (fun hh => absurd hh (nI_ge hi6 (by decide))) (fun _ => ?_)
        refine lv_aload_n hx hb dX2_fork_67 rfl (lv_at hl 2 rfl) ?_
        refine lv_iload hx hb dX2_fork_68 (lv_at hl 0 rfl) ?_
        refine g_callVN (As := [.int (nI i)]) (rest := []) (fs := [.int (bI ((up1 run n true) j)), .long (en (((fkS j n mp fr kd ct i).1) j)), .ref (ad (6 + 3 * j)), .ref (ad (7 + 3 * j))]) (fm_has_f hj hi6 hc) hx hb hml hown hts hN hG t_101 t_103 s_5 t_2 t_104 nm_X0_has ⟨by decide, by decide⟩ (fp_5 (hj)) rfl hl.1 (Nat.le_of_ble_eq_true rfl) dX2_fork_70 ⟨Nat.zero_le _, Nat.zero_le _⟩ (fun H locs hG => ?_)
        refine W.eq (g2 := F0 m 73 ls [.int 0]) rfl ?_
        refine lv_if_eq (tgt := 85) hx hb dX2_fork_73 rfl (fun _ => ?_) (fun hh => absurd (rfl) hh)
        refine lv_iinc (k := 0) (v := nI (i + 1)) (lv' := [(5, .int (nI (i + 1))), (4, .ref (ad (5 + 3 * n))), (3, .ref (ad (5 + 3 * j))), (2, .int (nI n)), (1, .int (nI j)), (0, .ref (ad 0))]) hx hb dX2_fork_85 hl rfl (nI_1 i) (by decide) rfl (fun ls hl => ?_)
        refine lv_goto (tgt := 60) hx hb dX2_fork_88 rfl ?_
        exact ih (i + 1) _ _ _ (by omega) (by rw [hu]; exact hG) (lv_sub hl [0, 1, 2, 3, 4, 5] rfl)
      · have hu : fkS j n mp fr kd ct (i + 1) = _ := if_pos hc
        refine lv_iload hx hb dX2_fork_60 (lv_at hl 0 rfl) ?_
        refine lv_bipush (v := nI 64) hx hb dX2_fork_62 (by decide) ?_
        refine lv_icmp_ge (tgt := 91) hx hb dX2_fork_64 rfl (fun hh => absurd hh (nI_ge hi6 (by decide))) (fun _ => ?_)
        refine lv_aload_n hx hb dX2_fork_67 rfl (lv_at hl 2 rfl) ?_
        refine lv_iload hx hb dX2_fork_68 (lv_at hl 0 rfl) ?_
        refine g_callVN (As := [.int (nI i)]) (rest := []) (fs := [.int (bI ((up1 run n true) j)), .long (en (((fkS j n mp fr kd ct i).1) j)), .ref (ad (6 + 3 * j)), .ref (ad (7 + 3 * j))]) (fm_has_t hj hi6 hc) hx hb hml hown hts hN hG t_101 t_103 s_5 t_2 t_104 nm_X0_has ⟨by decide, by decide⟩ (fp_5 (hj)) rfl hl.1 (Nat.le_of_ble_eq_true rfl) dX2_fork_70 ⟨Nat.zero_le _, Nat.zero_le _⟩ (fun H locs hG => ?_)
        refine W.eq (g2 := F0 m 73 ls [.int 1]) rfl ?_
        refine lv_if_eq (tgt := 85) hx hb dX2_fork_73 rfl (fun hh => absurd hh (by decide)) (fun _ => ?_)
        refine lv_aload_n hx hb dX2_fork_76 rfl (lv_at hl 5 rfl) ?_
        refine lv_aload_n hx hb dX2_fork_77 rfl (lv_at hl 2 rfl) ?_
        refine lv_aload hx hb dX2_fork_78 (lv_at hl 1 rfl) ?_
        refine lv_iload hx hb dX2_fork_80 (lv_at hl 0 rfl) ?_
        refine g_callV (As := [.ref (ad (5 + 3 * j)), .ref (ad (5 + 3 * n)), .int (nI i)]) (rest := []) (fs := [.ref (ad 1), .ref (ad 2), .int af, .int cf]) (fm_sharePage hj hn hi6 (hf i hi6 hc)) hx hb hml hown hts hN hG t_105 t_107 s_6 t_1 t_108 nm_X2_sharePage ⟨by decide, by decide⟩ fp_0 rfl hl.1 (Nat.le_of_ble_eq_true rfl) dX2_fork_82 ⟨Nat.zero_le _, Nat.zero_le _⟩ (fun H locs hG => ?_)
        refine W.eq (g2 := F0 m 85 ls []) rfl ?_
        refine lv_iinc (k := 0) (v := nI (i + 1)) (lv' := [(5, .int (nI (i + 1))), (4, .ref (ad (5 + 3 * n))), (3, .ref (ad (5 + 3 * j))), (2, .int (nI n)), (1, .int (nI j)), (0, .ref (ad 0))]) hx hb dX2_fork_85 hl rfl (nI_1 i) (by decide) rfl (fun ls hl => ?_)
        refine lv_goto (tgt := 60) hx hb dX2_fork_88 rfl ?_
        exact ih (i + 1) _ _ _ (by omega) (by rw [hu]; exact hG) (lv_sub hl [0, 1, 2, 3, 4, 5] rfl)
  exact loop 64 0 _ _ _ (by omega) hG (lv_sub hl [0, 1, 2, 3, 5, 4] rfl)
def exS (j : Nat) (fr : Nat → Nat → Nat) (mp : Nat → Nat → Bool) (ct : Nat → Int32) : Nat → (Nat → Nat → Bool) × (Nat → Int32)
  | 0 => (mp, ct)
  | i + 1 => if (exS j fr mp ct i).1 j i then
      (up1 (exS j fr mp ct i).1 j (up1 ((exS j fr mp ct i).1 j) i false), upd (exS j fr mp ct i).2 (fr j i) ((exS j fr mp ct i).2 (fr j i) - 1))
    else exS j fr mp ct i
set_option maxHeartbeats 4000000 in
set_option maxRecDepth 100000 in
theorem fp_exit_1 {x : Int32} (h : ¬ rn run x) : gM l yX2_exit cX2_exit 5 (some .int) 4 90 D cls (fpT cI cQ cZ) A (fpW ad cI cQ run mp fr kd wd ct af cf) [.ref (ad 0), .int x] (some (.int (-1))) (fpW ad cI cQ run mp fr kd wd ct af cf) := by
  refine gM_of (by decide) (Nat.le_of_ble_eq_true rfl) ?_
  intro p e s m args below meth c ls hx hb hml hown hts hN hr hlk hl hG
  have hown : s.vm.findClass RX2 = some m.cls := hown
  have hl : lv_has ls 5 [(0, .ref (ad 0)), (1, .int x)] := hl
  refine lv_aload_n hx hb dX2_exit_0 rfl (lv_at hl 0 rfl) ?_
  refine lv_iload_n hx hb dX2_exit_1 rfl (lv_at hl 1 rfl) ?_
  refine g_callV (As := [.int x]) (rest := []) (fs := [.ref (ad 1), .ref (ad 2), .int af, .int cf]) (fm_isRunning_n h) hx hb hml hown hts hN hG t_97 t_99 s_4 t_1 t_100 nm_X2_isRunning ⟨by decide, by decide⟩ fp_0 rfl hl.1 (Nat.le_of_ble_eq_true rfl) dX2_exit_2 ⟨Nat.zero_le _, Nat.zero_le _⟩ (fun H locs hG => ?_)
  refine W.eq (g2 := F0 m 5 ls [.int 0]) rfl ?_
  refine lv_if_ne (tgt := 10) hx hb dX2_exit_5 rfl (fun hh => absurd (rfl) hh) (fun _ => ?_)
  refine lv_iconst (v := (-1)) hx hb dX2_exit_8 (by decide) ?_
  exact g_iret hx hb hr hlk hG dX2_exit_9
set_option maxHeartbeats 4000000 in
set_option maxRecDepth 100000 in
theorem fp_exit_ok {j : Nat} (hj : j < 5) (h : run j = true) (hf : ∀ i, i < 64 → (exS j fr mp ct i).1 j i = true → fr j i < 24) : gM l yX2_exit cX2_exit 5 (some .int) 4 90 D cls (fpT cI cQ cZ) A (fpW ad cI cQ run mp fr kd wd ct af cf) [.ref (ad 0), .int (nI j)] (some (.int (frF (up1 run j false) (exS j fr mp ct 64).1 (exS j fr mp ct 64).2 - frF run mp ct))) (fpW ad cI cQ (up1 run j false) ((exS j fr mp ct 64).1) fr kd wd ((exS j fr mp ct 64).2) af cf) := by
  refine gM_of (by decide) (Nat.le_of_ble_eq_true rfl) ?_
  intro p e s m args below meth c ls hx hb hml hown hts hN hr hlk hl hG
  have hown : s.vm.findClass RX2 = some m.cls := hown
  have hl : lv_has ls 5 [(0, .ref (ad 0)), (1, .int (nI j))] := hl
  refine lv_aload_n hx hb dX2_exit_0 rfl (lv_at hl 0 rfl) ?_
  refine lv_iload_n hx hb dX2_exit_1 rfl (lv_at hl 1 rfl) ?_
  refine g_callV (As := [.int (nI j)]) (rest := []) (fs := [.ref (ad 1), .ref (ad 2), .int af, .int cf]) (fm_isRunning_t hj h) hx hb hml hown hts hN hG t_97 t_99 s_4 t_1 t_100 nm_X2_isRunning ⟨by decide, by decide⟩ fp_0 rfl hl.1 (Nat.le_of_ble_eq_true rfl) dX2_exit_2 ⟨Nat.zero_le _, Nat.zero_le _⟩ (fun H locs hG => ?_)
  refine W.eq (g2 := F0 m 5 ls [.int 1]) rfl ?_
  refine lv_if_ne (tgt := 10) hx hb dX2_exit_5 rfl (fun _ => ?_) (fun hh => absurd hh (by decide))
  refine lv_aload_n hx hb dX2_exit_10 rfl (lv_at hl 0 rfl) ?_
  refine g_callV (As := []) (rest := []) (fs := [.ref (ad 1), .ref (ad 2), .int af, .int cf]) (fm_freeFrames) hx hb hml hown hts hN hG t_74 t_76 s_1 t_1 t_77 nm_X2_freeFrames ⟨by decide, by decide⟩ fp_0 rfl hl.1 (Nat.le_of_ble_eq_true rfl) dX2_exit_11 ⟨Nat.zero_le _, Nat.zero_le _⟩ (fun H locs hG => ?_)
  refine W.eq (g2 := F0 m 14 ls [.int (frF run mp ct)]) rfl ?_
  refine lv_istore_n (lv' := [(2, .int (frF run mp ct)), (0, .ref (ad 0)), (1, .int (nI j))]) hx hb dX2_exit_14 rfl hl (by decide) rfl (fun ls hl => ?_)
  refine lv_aload_n hx hb dX2_exit_15 rfl (lv_at hl 1 rfl) ?_
  refine g_get (k := 0) (v := .ref (ad 1)) (C := RX2) (ref := RX2) (fs := [.ref (ad 1), .ref (ad 2), .int af, .int cf]) hx hb hown hts hG gX2 rfl fp_0 (by decide) t_53 rfl rfl dX2_exit_16 ?_
  refine lv_iload_n hx hb dX2_exit_19 rfl (lv_at hl 2 rfl) ?_
  refine g_aald (i := j) (t0 := 1) hx hb hG fp_1 rfl (hj) (by decide) rfl dX2_exit_20 ?_
  refine lv_astore_n (lv' := [(3, .ref (ad (5 + 3 * j))), (2, .int (frF run mp ct)), (0, .ref (ad 0)), (1, .int (nI j))]) hx hb dX2_exit_21 rfl hl (by decide) rfl (fun ls hl => ?_)
  refine lv_iconst (v := nI 0) hx hb dX2_exit_22 (by decide) ?_
  refine lv_istore (lv' := [(4, .int (nI 0)), (3, .ref (ad (5 + 3 * j))), (2, .int (frF run mp ct)), (0, .ref (ad 0)), (1, .int (nI j))]) hx hb dX2_exit_23 hl (by decide) rfl (fun ls hl => ?_)
  have loop : ∀ (n i : Nat) (H : Heap) (locs : List Loc) (ls : Array Slot), i + n = 64 → gG D cls (fpT cI cQ cZ) A s (fpW ad cI cQ run ((exS j fr mp ct i).1) fr kd wd ((exS j fr mp ct i).2) af cf) H locs → lv_has ls 5 [(4, .int (nI i)), (3, .ref (ad (5 + 3 * j))), (2, .int (frF run mp ct)), (1, .int (nI j)), (0, .ref (ad 0))] → W p l e (gR 4 90) s m args below meth c H locs 0 0 (gQ below args s D cls (fpT cI cQ cZ) A (some (.int (frF (up1 run j false) (exS j fr mp ct 64).1 (exS j fr mp ct 64).2 - frF run mp ct))) (fpW ad cI cQ (up1 run j false) ((exS j fr mp ct 64).1) fr kd wd ((exS j fr mp ct 64).2) af cf)) (F0 m 25 ls []) := by
    intro n
    induction n with
    | zero =>
      intro i H locs ls hi hG hl
      obtain rfl : i = 64 := by omega
      refine lv_iload hx hb dX2_exit_25 (lv_at hl 0 rfl) ?_
      refine lv_bipush (v := nI 64) hx hb dX2_exit_27 (by decide) ?_
      refine lv_icmp_ge (tgt := 54) hx hb dX2_exit_29 rfl (fun _ => ?_) (fun hh => absurd (nI_le (Nat.le_refl 64) (by decide)) hh)
      refine lv_aload_n hx hb dX2_exit_54 rfl (lv_at hl 1 rfl) ?_
      refine lv_iconst (v := 0) hx hb dX2_exit_55 (by decide) ?_
      refine g_putN (k := 0) (v := .int 0) (C := RX0) (ref := RX0) (ty := .boolean) (fs := [.int (bI (run j)), .long (en (((exS j fr mp ct 64).1) j)), .ref (ad (6 + 3 * j)), .ref (ad (7 + 3 * j))]) (ws' := fpW ad cI cQ (up1 run j false) ((exS j fr mp ct 64).1) fr kd wd ((exS j fr mp ct 64).2) af cf) tyX0 tyX0_ok nmX0 hx hb hown hts hN hG gX0 rfl (fp_5 (hj)) (by decide) t_21 rfl rfl (by decide +kernel) rfl rfl (Nat.le_of_ble_eq_true rfl) (fp_s5r hj false) dX2_exit_56 (fun H locs hG => ?_)
      refine lv_aload_n hx hb dX2_exit_59 rfl (lv_at hl 4 rfl) ?_
      refine g_callV (As := []) (rest := []) (fs := [.ref (ad 1), .ref (ad 2), .int af, .int cf]) (fm_freeFrames) hx hb hml hown hts hN hG t_74 t_76 s_1 t_1 t_77 nm_X2_freeFrames ⟨by decide, by decide⟩ fp_0 rfl hl.1 (Nat.le_of_ble_eq_true rfl) dX2_exit_60 ⟨Nat.zero_le _, Nat.zero_le _⟩ (fun H locs hG => ?_)
      refine W.eq (g2 := F0 m 63 ls [.int (frF (up1 run j false) (exS j fr mp ct 64).1 (exS j fr mp ct 64).2)]) rfl ?_
      refine lv_iload_n hx hb dX2_exit_63 rfl (lv_at hl 2 rfl) ?_
      refine lv_isub hx hb dX2_exit_64 ?_
      exact g_iret hx hb hr hlk hG dX2_exit_65
    | succ n ih =>
      intro i H locs ls hi hG hl
      have hi6 : i < 64 := by omega
      cases hc : (exS j fr mp ct i).1 j i
      · have hu : exS j fr mp ct (i + 1) = exS j fr mp ct i := by simp [exS, hc]
        refine lv_iload hx hb dX2_exit_25 (lv_at hl 0 rfl) ?_
        refine lv_bipush (v := nI 64) hx hb dX2_exit_27 (by decide) ?_
        refine lv_icmp_ge (tgt := 54) hx hb dX2_exit_29 rfl (fun hh => absurd hh (nI_ge hi6 (by decide))) (fun _ => ?_)
        refine lv_aload_n hx hb dX2_exit_32 rfl (lv_at hl 1 rfl) ?_
        refine lv_iload hx hb dX2_exit_33 (lv_at hl 0 rfl) ?_
        refine g_callVN (As := [.int (nI i)]) (rest := []) (fs := [.int (bI (run j)), .long (en (((exS j fr mp ct i).1) j)), .ref (ad (6 + 3 * j)), .ref (ad (7 + 3 * j))]) (fm_has_f hj hi6 hc) hx hb hml hown hts hN hG t_101 t_103 s_5 t_2 t_104 nm_X0_has ⟨by decide, by decide⟩ (fp_5 (hj)) rfl hl.1 (Nat.le_of_ble_eq_true rfl) dX2_exit_35 ⟨Nat.zero_le _, Nat.zero_le _⟩ (fun H locs hG => ?_)
        refine W.eq (g2 := F0 m 38 ls [.int 0]) rfl ?_
        refine lv_if_eq (tgt := 48) hx hb dX2_exit_38 rfl (fun _ => ?_) (fun hh => absurd (rfl) hh)
        refine lv_iinc (k := 0) (v := nI (i + 1)) (lv' := [(4, .int (nI (i + 1))), (3, .ref (ad (5 + 3 * j))), (2, .int (frF run mp ct)), (1, .int (nI j)), (0, .ref (ad 0))]) hx hb dX2_exit_48 hl rfl (nI_1 i) (by decide) rfl (fun ls hl => ?_)
        refine lv_goto (tgt := 25) hx hb dX2_exit_51 rfl ?_
        exact ih (i + 1) _ _ _ (by omega) (by rw [hu]; exact hG) (lv_sub hl [0, 1, 2, 3, 4] rfl)
      · have hu : exS j fr mp ct (i + 1) = _ := if_pos hc
        refine lv_iload hx hb dX2_exit_25 (lv_at hl 0 rfl) ?_
        refine lv_bipush (v := nI 64) hx hb dX2_exit_27 (by decide) ?_
        refine lv_icmp_ge (tgt := 54) hx hb dX2_exit_29 rfl (fun hh => absurd hh (nI_ge hi6 (by decide))) (fun _ => ?_)
        refine lv_aload_n hx hb dX2_exit_32 rfl (lv_at hl 1 rfl) ?_
        refine lv_iload hx hb dX2_exit_33 (lv_at hl 0 rfl) ?_
        refine g_callVN (As := [.int (nI i)]) (rest := []) (fs := [.int (bI (run j)), .long (en (((exS j fr mp ct i).1) j)), .ref (ad (6 + 3 * j)), .ref (ad (7 + 3 * j))]) (fm_has_t hj hi6 hc) hx hb hml hown hts hN hG t_101 t_103 s_5 t_2 t_104 nm_X0_has ⟨by decide, by decide⟩ (fp_5 (hj)) rfl hl.1 (Nat.le_of_ble_eq_true rfl) dX2_exit_35 ⟨Nat.zero_le _, Nat.zero_le _⟩ (fun H locs hG => ?_)
        refine W.eq (g2 := F0 m 38 ls [.int 1]) rfl ?_
        refine lv_if_eq (tgt := 48) hx hb dX2_exit_38 rfl (fun hh => absurd hh (by decide)) (fun _ => ?_)
        refine lv_aload_n hx hb dX2_exit_41 rfl (lv_at hl 4 rfl) ?_
        refine lv_aload_n hx hb dX2_exit_42 rfl (lv_at hl 1 rfl) ?_
        refine lv_iload hx hb dX2_exit_43 (lv_at hl 0 rfl) ?_
        refine g_callV (As := [.ref (ad (5 + 3 * j)), .int (nI i)]) (rest := []) (fs := [.ref (ad 1), .ref (ad 2), .int af, .int cf]) (fm_endMapping hj hi6 (hf i hi6 hc)) hx hb hml hown hts hN hG t_129 t_131 s_11 t_1 t_132 nm_X2_endMapping ⟨by decide, by decide⟩ fp_0 rfl hl.1 (Nat.le_of_ble_eq_true rfl) dX2_exit_45 ⟨Nat.zero_le _, Nat.zero_le _⟩ (fun H locs hG => ?_)
        refine W.eq (g2 := F0 m 48 ls []) rfl ?_
        refine lv_iinc (k := 0) (v := nI (i + 1)) (lv' := [(4, .int (nI (i + 1))), (3, .ref (ad (5 + 3 * j))), (2, .int (frF run mp ct)), (1, .int (nI j)), (0, .ref (ad 0))]) hx hb dX2_exit_48 hl rfl (nI_1 i) (by decide) rfl (fun ls hl => ?_)
        refine lv_goto (tgt := 25) hx hb dX2_exit_51 rfl ?_
        exact ih (i + 1) _ _ _ (by omega) (by rw [hu]; exact hG) (lv_sub hl [0, 1, 2, 3, 4] rfl)
  exact loop 64 0 _ _ _ (by omega) hG (lv_sub hl [0, 1, 2, 4, 3] rfl)
end CM
