section CM
variable {l : Launch} {D : va_G} {A : Nat → Prop} {ad : Nat → Nat} {cI cQ cZ : ClassId} {run : Nat → Bool} {mp : Nat → Nat → Bool} {fr : Nat → Nat → Nat} {kd : Nat → Nat → Int32} {wd ct : Nat → Int32} {af cf : Int32}
def rn (run : Nat → Bool) (x : Int32) : Prop := ∃ j, j < 5 ∧ x = nI j ∧ run j = true
def pgI (x : Int32) : Prop := ∃ k, k < 64 ∧ x = nI k
def frL (run : Nat → Bool) (mp : Nat → Nat → Bool) (u : Int32) : Nat → Int32
  | 0 => u
  | n + 1 => if run n then frL run mp u n - nI (tbN (mp n)) else frL run mp u n
def frF (run : Nat → Bool) (mp : Nat → Nat → Bool) (ct : Nat → Int32) : Int32 := frL run mp (nI 24 - nI (usN ct 24)) 5
set_option maxHeartbeats 4000000 in
set_option maxRecDepth 100000 in
theorem fm_isRunning_t {j : Nat} (hj : j < 5) (h : run j = true) : gM l yX2_isRunning cX2_isRunning 2 (some .boolean) 0 0 D cls (fpT cI cQ cZ) A (fpW ad cI cQ run mp fr kd wd ct af cf) [.ref (ad 0), .int (nI j)] (some (.int 1)) (fpW ad cI cQ run mp fr kd wd ct af cf) := by
  refine gM_of (by decide) (Nat.le_of_ble_eq_true rfl) ?_
  intro p e s m args below meth c ls hx hb hml hown hts hN hr hlk hl hG
  have hown : s.vm.findClass RX2 = some m.cls := hown
  have hl : lv_has ls 2 [(0, .ref (ad 0)), (1, .int (nI j))] := hl
  refine lv_iload_n hx hb dX2_isRunning_0 rfl (lv_at hl 1 rfl) ?_
  refine lv_if_lt (tgt := 25) hx hb dX2_isRunning_1 rfl (fun hh => absurd hh (nI_pos (Nat.lt_trans hj (by decide)))) (fun _ => ?_)
  refine lv_iload_n hx hb dX2_isRunning_4 rfl (lv_at hl 1 rfl) ?_
  refine lv_iconst (v := nI 5) hx hb dX2_isRunning_5 (by decide) ?_
  refine lv_icmp_ge (tgt := 25) hx hb dX2_isRunning_6 rfl (fun hh => absurd hh (nI_ge hj (by decide))) (fun _ => ?_)
  refine lv_aload_n hx hb dX2_isRunning_9 rfl (lv_at hl 0 rfl) ?_
  refine g_get (k := 0) (v := .ref (ad 1)) (C := RX2) (ref := RX2) (fs := [.ref (ad 1), .ref (ad 2), .int af, .int cf]) hx hb hown hts hG gX2 rfl fp_0 (by decide) t_53 rfl rfl dX2_isRunning_10 ?_
  refine lv_iload_n hx hb dX2_isRunning_13 rfl (lv_at hl 1 rfl) ?_
  refine g_aald (i := j) (t0 := 1) hx hb hG fp_1 rfl (hj) (by decide) rfl dX2_isRunning_14 ?_
  refine g_getN (k := 0) (v := .int (bI (run j))) (C := RX0) (ref := RX0) (fs := [.int (bI (run j)), .long (en (mp j)), .ref (ad (6 + 3 * j)), .ref (ad (7 + 3 * j))]) hx hb hown hts hN hG gX0 rfl (fp_5 (hj)) (by decide) t_21 rfl rfl dX2_isRunning_15 ?_
  refine g_top (y := 1) (by rw [h]; rfl) ?_
  refine lv_if_eq (tgt := 25) hx hb dX2_isRunning_18 rfl (fun hh => absurd hh (by decide)) (fun _ => ?_)
  refine lv_iconst (v := 1) hx hb dX2_isRunning_21 (by decide) ?_
  refine lv_goto (tgt := 26) hx hb dX2_isRunning_22 rfl ?_
  exact g_zret hx hb hr (rfl) hlk hG dX2_isRunning_26
set_option maxHeartbeats 4000000 in
set_option maxRecDepth 100000 in
theorem fm_isRunning_f {j : Nat} (hj : j < 5) (h : run j = false) : gM l yX2_isRunning cX2_isRunning 2 (some .boolean) 0 0 D cls (fpT cI cQ cZ) A (fpW ad cI cQ run mp fr kd wd ct af cf) [.ref (ad 0), .int (nI j)] (some (.int 0)) (fpW ad cI cQ run mp fr kd wd ct af cf) := by
  refine gM_of (by decide) (Nat.le_of_ble_eq_true rfl) ?_
  intro p e s m args below meth c ls hx hb hml hown hts hN hr hlk hl hG
  have hown : s.vm.findClass RX2 = some m.cls := hown
  have hl : lv_has ls 2 [(0, .ref (ad 0)), (1, .int (nI j))] := hl
  refine lv_iload_n hx hb dX2_isRunning_0 rfl (lv_at hl 1 rfl) ?_
  refine lv_if_lt (tgt := 25) hx hb dX2_isRunning_1 rfl (fun hh => absurd hh (nI_pos (Nat.lt_trans hj (by decide)))) (fun _ => ?_)
  refine lv_iload_n hx hb dX2_isRunning_4 rfl (lv_at hl 1 rfl) ?_
  refine lv_iconst (v := nI 5) hx hb dX2_isRunning_5 (by decide) ?_
  refine lv_icmp_ge (tgt := 25) hx hb dX2_isRunning_6 rfl (fun hh => absurd hh (nI_ge hj (by decide))) (fun _ => ?_)
  refine lv_aload_n hx hb dX2_isRunning_9 rfl (lv_at hl 0 rfl) ?_
  refine g_get (k := 0) (v := .ref (ad 1)) (C := RX2) (ref := RX2) (fs := [.ref (ad 1), .ref (ad 2), .int af, .int cf]) hx hb hown hts hG gX2 rfl fp_0 (by decide) t_53 rfl rfl dX2_isRunning_10 ?_
  refine lv_iload_n hx hb dX2_isRunning_13 rfl (lv_at hl 1 rfl) ?_
  refine g_aald (i := j) (t0 := 1) hx hb hG fp_1 rfl (hj) (by decide) rfl dX2_isRunning_14 ?_
  refine g_getN (k := 0) (v := .int (bI (run j))) (C := RX0) (ref := RX0) (fs := [.int (bI (run j)), .long (en (mp j)), .ref (ad (6 + 3 * j)), .ref (ad (7 + 3 * j))]) hx hb hown hts hN hG gX0 rfl (fp_5 (hj)) (by decide) t_21 rfl rfl dX2_isRunning_15 ?_
  refine g_top (y := 0) (by rw [h]; rfl) ?_
  refine lv_if_eq (tgt := 25) hx hb dX2_isRunning_18 rfl (fun _ => ?_) (fun hh => absurd (rfl) hh)
  refine lv_iconst (v := 0) hx hb dX2_isRunning_25 (by decide) ?_
  exact g_zret hx hb hr (rfl) hlk hG dX2_isRunning_26
set_option maxHeartbeats 4000000 in
set_option maxRecDepth 100000 in
theorem fm_isRunning_neg {x : Int32} (h : x < 0) : gM l yX2_isRunning cX2_isRunning 2 (some .boolean) 0 0 D cls (fpT cI cQ cZ) A (fpW ad cI cQ run mp fr kd wd ct af cf) [.ref (ad 0), .int x] (some (.int 0)) (fpW ad cI cQ run mp fr kd wd ct af cf) := by
  refine gM_of (by decide) (Nat.le_of_ble_eq_true rfl) ?_
  intro p e s m args below meth c ls hx hb hml hown hts hN hr hlk hl hG
  have hown : s.vm.findClass RX2 = some m.cls := hown
  have hl : lv_has ls 2 [(0, .ref (ad 0)), (1, .int x)] := hl
  refine lv_iload_n hx hb dX2_isRunning_0 rfl (lv_at hl 1 rfl) ?_
  refine lv_if_lt (tgt := 25) hx hb dX2_isRunning_1 rfl (fun _ => ?_) (fun hh => absurd (h) hh)
  refine lv_iconst (v := 0) hx hb dX2_isRunning_25 (by decide) ?_
  exact g_zret hx hb hr (rfl) hlk hG dX2_isRunning_26
set_option maxHeartbeats 4000000 in
set_option maxRecDepth 100000 in
theorem fm_isRunning_big {x : Int32} (h0 : ¬ x < 0) (h : nI 5 ≤ x) : gM l yX2_isRunning cX2_isRunning 2 (some .boolean) 0 0 D cls (fpT cI cQ cZ) A (fpW ad cI cQ run mp fr kd wd ct af cf) [.ref (ad 0), .int x] (some (.int 0)) (fpW ad cI cQ run mp fr kd wd ct af cf) := by
  refine gM_of (by decide) (Nat.le_of_ble_eq_true rfl) ?_
  intro p e s m args below meth c ls hx hb hml hown hts hN hr hlk hl hG
  have hown : s.vm.findClass RX2 = some m.cls := hown
  have hl : lv_has ls 2 [(0, .ref (ad 0)), (1, .int x)] := hl
  refine lv_iload_n hx hb dX2_isRunning_0 rfl (lv_at hl 1 rfl) ?_
  refine lv_if_lt (tgt := 25) hx hb dX2_isRunning_1 rfl (fun hh => absurd hh (h0)) (fun _ => ?_)
  refine lv_iload_n hx hb dX2_isRunning_4 rfl (lv_at hl 1 rfl) ?_
  refine lv_iconst (v := nI 5) hx hb dX2_isRunning_5 (by decide) ?_
  refine lv_icmp_ge (tgt := 25) hx hb dX2_isRunning_6 rfl (fun _ => ?_) (fun hh => absurd (h) hh)
  refine lv_iconst (v := 0) hx hb dX2_isRunning_25 (by decide) ?_
  exact g_zret hx hb hr (rfl) hlk hG dX2_isRunning_26
set_option maxHeartbeats 4000000 in
set_option maxRecDepth 100000 in
theorem fm_isRunning_n {x : Int32} (h : ¬ rn run x) : gM l yX2_isRunning cX2_isRunning 2 (some .boolean) 0 0 D cls (fpT cI cQ cZ) A (fpW ad cI cQ run mp fr kd wd ct af cf) [.ref (ad 0), .int x] (some (.int 0)) (fpW ad cI cQ run mp fr kd wd ct af cf) := by
  by_cases h0 : x < 0
  · exact fm_isRunning_neg h0
  rcases pk_ix x (n := 5) (by decide) with h1 | h1 | ⟨j, hj, rfl⟩
  · exact absurd h1 h0
  · exact fm_isRunning_big h0 h1
  cases hr : run j
  · exact fm_isRunning_f hj hr
  · exact absurd ⟨j, hj, rfl, hr⟩ h
set_option maxHeartbeats 4000000 in
set_option maxRecDepth 100000 in
theorem fm_isPage_t {k : Nat} (hk : k < 64) {ws : va_W} : gM l yX2_isPage cX2_isPage 1 (some .boolean) 0 0 D cls (fpT cI cQ cZ) A (ws) [.int (nI k)] (some (.int 1)) (ws) := by
  refine gM_of (by decide) (Nat.le_of_ble_eq_true rfl) ?_
  intro p e s m args below meth c ls hx hb hml hown hts hN hr hlk hl hG
  have hown : s.vm.findClass RX2 = some m.cls := hown
  have hl : lv_has ls 1 [(0, .int (nI k))] := hl
  refine lv_iload_n hx hb dX2_isPage_0 rfl (lv_at hl 0 rfl) ?_
  refine lv_if_lt (tgt := 14) hx hb dX2_isPage_1 rfl (fun hh => absurd hh (nI_pos (Nat.lt_trans hk (by decide)))) (fun _ => ?_)
  refine lv_iload_n hx hb dX2_isPage_4 rfl (lv_at hl 0 rfl) ?_
  refine lv_bipush (v := nI 64) hx hb dX2_isPage_5 (by decide) ?_
  refine lv_icmp_ge (tgt := 14) hx hb dX2_isPage_7 rfl (fun hh => absurd hh (nI_ge hk (by decide))) (fun _ => ?_)
  refine lv_iconst (v := 1) hx hb dX2_isPage_10 (by decide) ?_
  refine lv_goto (tgt := 15) hx hb dX2_isPage_11 rfl ?_
  exact g_zret hx hb hr (rfl) hlk hG dX2_isPage_15
set_option maxHeartbeats 4000000 in
set_option maxRecDepth 100000 in
theorem fm_isPage_neg {x : Int32} (h : x < 0) {ws : va_W} : gM l yX2_isPage cX2_isPage 1 (some .boolean) 0 0 D cls (fpT cI cQ cZ) A (ws) [.int x] (some (.int 0)) (ws) := by
  refine gM_of (by decide) (Nat.le_of_ble_eq_true rfl) ?_
  intro p e s m args below meth c ls hx hb hml hown hts hN hr hlk hl hG
  have hown : s.vm.findClass RX2 = some m.cls := hown
  have hl : lv_has ls 1 [(0, .int x)] := hl
  refine lv_iload_n hx hb dX2_isPage_0 rfl (lv_at hl 0 rfl) ?_
  refine lv_if_lt (tgt := 14) hx hb dX2_isPage_1 rfl (fun _ => ?_) (fun hh => absurd (h) hh)
  refine lv_iconst (v := 0) hx hb dX2_isPage_14 (by decide) ?_
  exact g_zret hx hb hr (rfl) hlk hG dX2_isPage_15
set_option maxHeartbeats 4000000 in
set_option maxRecDepth 100000 in
theorem fm_isPage_big {x : Int32} (h0 : ¬ x < 0) (h : nI 64 ≤ x) {ws : va_W} : gM l yX2_isPage cX2_isPage 1 (some .boolean) 0 0 D cls (fpT cI cQ cZ) A (ws) [.int x] (some (.int 0)) (ws) := by
  refine gM_of (by decide) (Nat.le_of_ble_eq_true rfl) ?_
  intro p e s m args below meth c ls hx hb hml hown hts hN hr hlk hl hG
  have hown : s.vm.findClass RX2 = some m.cls := hown
  have hl : lv_has ls 1 [(0, .int x)] := hl
  refine lv_iload_n hx hb dX2_isPage_0 rfl (lv_at hl 0 rfl) ?_
  refine lv_if_lt (tgt := 14) hx hb dX2_isPage_1 rfl (fun hh => absurd hh (h0)) (fun _ => ?_)
  refine lv_iload_n hx hb dX2_isPage_4 rfl (lv_at hl 0 rfl) ?_
  refine lv_bipush (v := nI 64) hx hb dX2_isPage_5 (by decide) ?_
  refine lv_icmp_ge (tgt := 14) hx hb dX2_isPage_7 rfl (fun _ => ?_) (fun hh => absurd (h) hh)
  refine lv_iconst (v := 0) hx hb dX2_isPage_14 (by decide) ?_
  exact g_zret hx hb hr (rfl) hlk hG dX2_isPage_15
set_option maxHeartbeats 4000000 in
set_option maxRecDepth 100000 in
theorem fm_isPage_n {x : Int32} (h : ¬ pgI x) {ws : va_W} : gM l yX2_isPage cX2_isPage 1 (some .boolean) 0 0 D cls (fpT cI cQ cZ) A (ws) [.int x] (some (.int 0)) (ws) := by
  by_cases h0 : x < 0
  · exact fm_isPage_neg h0
  rcases pk_ix x (n := 64) (by decide) with h1 | h1 | ⟨k, hk, rfl⟩
  · exact absurd h1 h0
  · exact fm_isPage_big h0 h1
  · exact absurd ⟨k, hk, rfl⟩ h
set_option maxHeartbeats 4000000 in
set_option maxRecDepth 100000 in
theorem fm_rM_1 {x y : Int32} (h : ¬ rn run x) : gM l yX2_refusalOfMapped cX2_refusalOfMapped 3 (some .int) 1 21 D cls (fpT cI cQ cZ) A (fpW ad cI cQ run mp fr kd wd ct af cf) [.ref (ad 0), .int x, .int y] (some (.int (-1))) (fpW ad cI cQ run mp fr kd wd ct af cf) := by
  refine gM_of (by decide) (Nat.le_of_ble_eq_true rfl) ?_
  intro p e s m args below meth c ls hx hb hml hown hts hN hr hlk hl hG
  have hown : s.vm.findClass RX2 = some m.cls := hown
  have hl : lv_has ls 3 [(0, .ref (ad 0)), (1, .int x), (2, .int y)] := hl
  refine lv_aload_n hx hb dX2_refusalOfMapped_0 rfl (lv_at hl 0 rfl) ?_
  refine lv_iload_n hx hb dX2_refusalOfMapped_1 rfl (lv_at hl 1 rfl) ?_
  refine g_callV (As := [.int x]) (rest := []) (fs := [.ref (ad 1), .ref (ad 2), .int af, .int cf]) (fm_isRunning_n h) hx hb hml hown hts hN hG t_97 t_99 s_4 t_1 t_100 nm_X2_isRunning ⟨by decide, by decide⟩ fp_0 rfl hl.1 (Nat.le_of_ble_eq_true rfl) dX2_refusalOfMapped_2 ⟨Nat.zero_le _, Nat.zero_le _⟩ (fun H locs hG => ?_)
  refine W.eq (g2 := F0 m 5 ls [.int 0]) rfl ?_
  refine lv_if_ne (tgt := 10) hx hb dX2_refusalOfMapped_5 rfl (fun hh => absurd (rfl) hh) (fun _ => ?_)
  refine lv_iconst (v := (-1)) hx hb dX2_refusalOfMapped_8 (by decide) ?_
  exact g_iret hx hb hr hlk hG dX2_refusalOfMapped_9
set_option maxHeartbeats 4000000 in
set_option maxRecDepth 100000 in
theorem fm_rM_2 {j : Nat} {y : Int32} (hj : j < 5) (h : run j = true) (h2 : ¬ pgI y) : gM l yX2_refusalOfMapped cX2_refusalOfMapped 3 (some .int) 1 21 D cls (fpT cI cQ cZ) A (fpW ad cI cQ run mp fr kd wd ct af cf) [.ref (ad 0), .int (nI j), .int y] (some (.int (-2))) (fpW ad cI cQ run mp fr kd wd ct af cf) := by
  refine gM_of (by decide) (Nat.le_of_ble_eq_true rfl) ?_
  intro p e s m args below meth c ls hx hb hml hown hts hN hr hlk hl hG
  have hown : s.vm.findClass RX2 = some m.cls := hown
  have hl : lv_has ls 3 [(0, .ref (ad 0)), (1, .int (nI j)), (2, .int y)] := hl
  refine lv_aload_n hx hb dX2_refusalOfMapped_0 rfl (lv_at hl 0 rfl) ?_
  refine lv_iload_n hx hb dX2_refusalOfMapped_1 rfl (lv_at hl 1 rfl) ?_
  refine g_callV (As := [.int (nI j)]) (rest := []) (fs := [.ref (ad 1), .ref (ad 2), .int af, .int cf]) (fm_isRunning_t hj h) hx hb hml hown hts hN hG t_97 t_99 s_4 t_1 t_100 nm_X2_isRunning ⟨by decide, by decide⟩ fp_0 rfl hl.1 (Nat.le_of_ble_eq_true rfl) dX2_refusalOfMapped_2 ⟨Nat.zero_le _, Nat.zero_le _⟩ (fun H locs hG => ?_)
  refine W.eq (g2 := F0 m 5 ls [.int 1]) rfl ?_
  refine lv_if_ne (tgt := 10) hx hb dX2_refusalOfMapped_5 rfl (fun _ => ?_) (fun hh => absurd hh (by decide))
  refine lv_iload_n hx hb dX2_refusalOfMapped_10 rfl (lv_at hl 2 rfl) ?_
  refine g_callS (As := [.int y]) (rest := []) (fm_isPage_n h2) hx hb hml hown hts hN hG t_142 t_143 t_1 t_144 nm_X2_isPage ⟨by decide, by decide⟩ hl.1 (Nat.le_of_ble_eq_true rfl) dX2_refusalOfMapped_11 ⟨Nat.zero_le _, Nat.zero_le _⟩ (fun H locs hG => ?_)
  refine W.eq (g2 := F0 m 14 ls [.int 0]) rfl ?_
  refine lv_if_ne (tgt := 20) hx hb dX2_refusalOfMapped_14 rfl (fun hh => absurd (rfl) hh) (fun _ => ?_)
  refine lv_bipush (v := (-2)) hx hb dX2_refusalOfMapped_17 (by decide) ?_
  exact g_iret hx hb hr hlk hG dX2_refusalOfMapped_19
set_option maxHeartbeats 4000000 in
set_option maxRecDepth 100000 in
theorem fm_rM_3 {j k : Nat} (hj : j < 5) (h : run j = true) (hk : k < 64) (h2 : mp j k = false) : gM l yX2_refusalOfMapped cX2_refusalOfMapped 3 (some .int) 1 21 D cls (fpT cI cQ cZ) A (fpW ad cI cQ run mp fr kd wd ct af cf) [.ref (ad 0), .int (nI j), .int (nI k)] (some (.int (-3))) (fpW ad cI cQ run mp fr kd wd ct af cf) := by
  refine gM_of (by decide) (Nat.le_of_ble_eq_true rfl) ?_
  intro p e s m args below meth c ls hx hb hml hown hts hN hr hlk hl hG
  have hown : s.vm.findClass RX2 = some m.cls := hown
  have hl : lv_has ls 3 [(0, .ref (ad 0)), (1, .int (nI j)), (2, .int (nI k))] := hl
  refine lv_aload_n hx hb dX2_refusalOfMapped_0 rfl (lv_at hl 0 rfl) ?_
  refine lv_iload_n hx hb dX2_refusalOfMapped_1 rfl (lv_at hl 1 rfl) ?_
  refine g_callV (As := [.int (nI j)]) (rest := []) (fs := [.ref (ad 1), .ref (ad 2), .int af, .int cf]) (fm_isRunning_t hj h) hx hb hml hown hts hN hG t_97 t_99 s_4 t_1 t_100 nm_X2_isRunning ⟨by decide, by decide⟩ fp_0 rfl hl.1 (Nat.le_of_ble_eq_true rfl) dX2_refusalOfMapped_2 ⟨Nat.zero_le _, Nat.zero_le _⟩ (fun H locs hG => ?_)
  refine W.eq (g2 := F0 m 5 ls [.int 1]) rfl ?_
  refine lv_if_ne (tgt := 10) hx hb dX2_refusalOfMapped_5 rfl (fun _ => ?_) (fun hh => absurd hh (by decide))
  refine lv_iload_n hx hb dX2_refusalOfMapped_10 rfl (lv_at hl 2 rfl) ?_
  refine g_callS (As := [.int (nI k)]) (rest := []) (fm_isPage_t hk) hx hb hml hown hts hN hG t_142 t_143 t_1 t_144 nm_X2_isPage ⟨by decide, by decide⟩ hl.1 (Nat.le_of_ble_eq_true rfl) dX2_refusalOfMapped_11 ⟨Nat.zero_le _, Nat.zero_le _⟩ (fun H locs hG => ?_)
  refine W.eq (g2 := F0 m 14 ls [.int 1]) rfl ?_
  refine lv_if_ne (tgt := 20) hx hb dX2_refusalOfMapped_14 rfl (fun _ => ?_) (fun hh => absurd hh (by decide))
  refine lv_aload_n hx hb dX2_refusalOfMapped_20 rfl (lv_at hl 0 rfl) ?_
  refine g_get (k := 0) (v := .ref (ad 1)) (C := RX2) (ref := RX2) (fs := [.ref (ad 1), .ref (ad 2), .int af, .int cf]) hx hb hown hts hG gX2 rfl fp_0 (by decide) t_53 rfl rfl dX2_refusalOfMapped_21 ?_
  refine lv_iload_n hx hb dX2_refusalOfMapped_24 rfl (lv_at hl 1 rfl) ?_
  refine g_aald (i := j) (t0 := 1) hx hb hG fp_1 rfl (hj) (by decide) rfl dX2_refusalOfMapped_25 ?_
  refine lv_iload_n hx hb dX2_refusalOfMapped_26 rfl (lv_at hl 2 rfl) ?_
  refine g_callVN (As := [.int (nI k)]) (rest := []) (fs := [.int (bI (run j)), .long (en (mp j)), .ref (ad (6 + 3 * j)), .ref (ad (7 + 3 * j))]) (fm_has_f hj hk h2) hx hb hml hown hts hN hG t_101 t_103 s_5 t_2 t_104 nm_X0_has ⟨by decide, by decide⟩ (fp_5 (hj)) rfl hl.1 (Nat.le_of_ble_eq_true rfl) dX2_refusalOfMapped_27 ⟨Nat.zero_le _, Nat.zero_le _⟩ (fun H locs hG => ?_)
  refine W.eq (g2 := F0 m 30 ls [.int 0]) rfl ?_
  refine lv_if_eq (tgt := 37) hx hb dX2_refusalOfMapped_30 rfl (fun _ => ?_) (fun hh => absurd (rfl) hh)
  refine lv_bipush (v := (-3)) hx hb dX2_refusalOfMapped_37 (by decide) ?_
  exact g_iret hx hb hr hlk hG dX2_refusalOfMapped_39
set_option maxHeartbeats 4000000 in
set_option maxRecDepth 100000 in
theorem fm_rM_0 {j k : Nat} (hj : j < 5) (h : run j = true) (hk : k < 64) (h2 : mp j k = true) : gM l yX2_refusalOfMapped cX2_refusalOfMapped 3 (some .int) 1 21 D cls (fpT cI cQ cZ) A (fpW ad cI cQ run mp fr kd wd ct af cf) [.ref (ad 0), .int (nI j), .int (nI k)] (some (.int 0)) (fpW ad cI cQ run mp fr kd wd ct af cf) := by
  refine gM_of (by decide) (Nat.le_of_ble_eq_true rfl) ?_
  intro p e s m args below meth c ls hx hb hml hown hts hN hr hlk hl hG
  have hown : s.vm.findClass RX2 = some m.cls := hown
  have hl : lv_has ls 3 [(0, .ref (ad 0)), (1, .int (nI j)), (2, .int (nI k))] := hl
  refine lv_aload_n hx hb dX2_refusalOfMapped_0 rfl (lv_at hl 0 rfl) ?_
  refine lv_iload_n hx hb dX2_refusalOfMapped_1 rfl (lv_at hl 1 rfl) ?_
  refine g_callV (As := [.int (nI j)]) (rest := []) (fs := [.ref (ad 1), .ref (ad 2), .int af, .int cf]) (fm_isRunning_t hj h) hx hb hml hown hts hN hG t_97 t_99 s_4 t_1 t_100 nm_X2_isRunning ⟨by decide, by decide⟩ fp_0 rfl hl.1 (Nat.le_of_ble_eq_true rfl) dX2_refusalOfMapped_2 ⟨Nat.zero_le _, Nat.zero_le _⟩ (fun H locs hG => ?_)
  refine W.eq (g2 := F0 m 5 ls [.int 1]) rfl ?_
  refine lv_if_ne (tgt := 10) hx hb dX2_refusalOfMapped_5 rfl (fun _ => ?_) (fun hh => absurd hh (by decide))
  refine lv_iload_n hx hb dX2_refusalOfMapped_10 rfl (lv_at hl 2 rfl) ?_
  refine g_callS (As := [.int (nI k)]) (rest := []) (fm_isPage_t hk) hx hb hml hown hts hN hG t_142 t_143 t_1 t_144 nm_X2_isPage ⟨by decide, by decide⟩ hl.1 (Nat.le_of_ble_eq_true rfl) dX2_refusalOfMapped_11 ⟨Nat.zero_le _, Nat.zero_le _⟩ (fun H locs hG => ?_)
  refine W.eq (g2 := F0 m 14 ls [.int 1]) rfl ?_
  refine lv_if_ne (tgt := 20) hx hb dX2_refusalOfMapped_14 rfl (fun _ => ?_) (fun hh => absurd hh (by decide))
  refine lv_aload_n hx hb dX2_refusalOfMapped_20 rfl (lv_at hl 0 rfl) ?_
  refine g_get (k := 0) (v := .ref (ad 1)) (C := RX2) (ref := RX2) (fs := [.ref (ad 1), .ref (ad 2), .int af, .int cf]) hx hb hown hts hG gX2 rfl fp_0 (by decide) t_53 rfl rfl dX2_refusalOfMapped_21 ?_
  refine lv_iload_n hx hb dX2_refusalOfMapped_24 rfl (lv_at hl 1 rfl) ?_
  refine g_aald (i := j) (t0 := 1) hx hb hG fp_1 rfl (hj) (by decide) rfl dX2_refusalOfMapped_25 ?_
  refine lv_iload_n hx hb dX2_refusalOfMapped_26 rfl (lv_at hl 2 rfl) ?_
  refine g_callVN (As := [.int (nI k)]) (rest := []) (fs := [.int (bI (run j)), .long (en (mp j)), .ref (ad (6 + 3 * j)), .ref (ad (7 + 3 * j))]) (fm_has_t hj hk h2) hx hb hml hown hts hN hG t_101 t_103 s_5 t_2 t_104 nm_X0_has ⟨by decide, by decide⟩ (fp_5 (hj)) rfl hl.1 (Nat.le_of_ble_eq_true rfl) dX2_refusalOfMapped_27 ⟨Nat.zero_le _, Nat.zero_le _⟩ (fun H locs hG => ?_)
  refine W.eq (g2 := F0 m 30 ls [.int 1]) rfl ?_
  refine lv_if_eq (tgt := 37) hx hb dX2_refusalOfMapped_30 rfl (fun hh => absurd hh (by decide)) (fun _ => ?_)
  refine lv_iconst (v := 0) hx hb dX2_refusalOfMapped_33 (by decide) ?_
  refine lv_goto (tgt := 39) hx hb dX2_refusalOfMapped_34 rfl ?_
  exact g_iret hx hb hr hlk hG dX2_refusalOfMapped_39
set_option maxHeartbeats 4000000 in
set_option maxRecDepth 100000 in
theorem fm_rA_neg {x a r : Int32} (h : a < 0) (hM : gM l yX2_refusalOfMapped cX2_refusalOfMapped 3 (some .int) 1 21 D cls (fpT cI cQ cZ) A (fpW ad cI cQ run mp fr kd wd ct af cf) [.ref (ad 0), .int x, .int (-1)] (some (.int r)) (fpW ad cI cQ run mp fr kd wd ct af cf)) : gM l yX2_refusalOfAddress cX2_refusalOfAddress 3 (some .int) 2 43 D cls (fpT cI cQ cZ) A (fpW ad cI cQ run mp fr kd wd ct af cf) [.ref (ad 0), .int x, .int a] (some (.int r)) (fpW ad cI cQ run mp fr kd wd ct af cf) := by
  refine gM_of (by decide) (Nat.le_of_ble_eq_true rfl) ?_
  intro p e s m args below meth c ls hx hb hml hown hts hN hr hlk hl hG
  have hown : s.vm.findClass RX2 = some m.cls := hown
  have hl : lv_has ls 3 [(0, .ref (ad 0)), (1, .int x), (2, .int a)] := hl
  refine lv_aload_n hx hb dX2_refusalOfAddress_0 rfl (lv_at hl 0 rfl) ?_
  refine lv_iload_n hx hb dX2_refusalOfAddress_1 rfl (lv_at hl 1 rfl) ?_
  refine lv_iload_n hx hb dX2_refusalOfAddress_2 rfl (lv_at hl 2 rfl) ?_
  refine lv_if_ge (tgt := 10) hx hb dX2_refusalOfAddress_3 rfl (fun hh => absurd hh (Int32.not_le.mpr h)) (fun _ => ?_)
  refine lv_iconst (v := (-1)) hx hb dX2_refusalOfAddress_6 (by decide) ?_
  refine lv_goto (tgt := 13) hx hb dX2_refusalOfAddress_7 rfl ?_
  refine g_callV (As := [.int x, .int (-1)]) (rest := []) (fs := [.ref (ad 1), .ref (ad 2), .int af, .int cf]) (hM) hx hb hml hown hts hN hG t_165 t_167 s_16 t_1 t_168 nm_X2_refusalOfMapped ⟨by decide, by decide⟩ fp_0 rfl hl.1 (Nat.le_of_ble_eq_true rfl) dX2_refusalOfAddress_13 ⟨Nat.zero_le _, Nat.zero_le _⟩ (fun H locs hG => ?_)
  refine W.eq (g2 := F0 m 16 ls [.int r]) rfl ?_
  exact g_iret hx hb hr hlk hG dX2_refusalOfAddress_16
set_option maxHeartbeats 4000000 in
set_option maxRecDepth 100000 in
theorem fm_rA_pos {x a r : Int32} (h : ¬ a < 0) (hM : gM l yX2_refusalOfMapped cX2_refusalOfMapped 3 (some .int) 1 21 D cls (fpT cI cQ cZ) A (fpW ad cI cQ run mp fr kd wd ct af cf) [.ref (ad 0), .int x, .int (a / nI 4)] (some (.int r)) (fpW ad cI cQ run mp fr kd wd ct af cf)) : gM l yX2_refusalOfAddress cX2_refusalOfAddress 3 (some .int) 2 43 D cls (fpT cI cQ cZ) A (fpW ad cI cQ run mp fr kd wd ct af cf) [.ref (ad 0), .int x, .int a] (some (.int r)) (fpW ad cI cQ run mp fr kd wd ct af cf) := by
  refine gM_of (by decide) (Nat.le_of_ble_eq_true rfl) ?_
  intro p e s m args below meth c ls hx hb hml hown hts hN hr hlk hl hG
  have hown : s.vm.findClass RX2 = some m.cls := hown
  have hl : lv_has ls 3 [(0, .ref (ad 0)), (1, .int x), (2, .int a)] := hl
  refine lv_aload_n hx hb dX2_refusalOfAddress_0 rfl (lv_at hl 0 rfl) ?_
  refine lv_iload_n hx hb dX2_refusalOfAddress_1 rfl (lv_at hl 1 rfl) ?_
  refine lv_iload_n hx hb dX2_refusalOfAddress_2 rfl (lv_at hl 2 rfl) ?_
  refine lv_if_ge (tgt := 10) hx hb dX2_refusalOfAddress_3 rfl (fun _ => ?_) (fun hh => absurd (Int32.not_lt.mp h) hh)
  refine lv_iload_n hx hb dX2_refusalOfAddress_10 rfl (lv_at hl 2 rfl) ?_
  refine lv_iconst (v := nI 4) hx hb dX2_refusalOfAddress_11 (by decide) ?_
  refine lv_idiv hx hb dX2_refusalOfAddress_12 (by decide) ?_
  refine g_callV (As := [.int x, .int (a / (nI 4))]) (rest := []) (fs := [.ref (ad 1), .ref (ad 2), .int af, .int cf]) (hM) hx hb hml hown hts hN hG t_165 t_167 s_16 t_1 t_168 nm_X2_refusalOfMapped ⟨by decide, by decide⟩ fp_0 rfl hl.1 (Nat.le_of_ble_eq_true rfl) dX2_refusalOfAddress_13 ⟨Nat.zero_le _, Nat.zero_le _⟩ (fun H locs hG => ?_)
  refine W.eq (g2 := F0 m 16 ls [.int r]) rfl ?_
  exact g_iret hx hb hr hlk hG dX2_refusalOfAddress_16
set_option maxHeartbeats 4000000 in
set_option maxRecDepth 100000 in
theorem fm_leastIdle_t {j : Nat} (hj : j < 5) (h : run j = false) (hm : ∀ i, i < j → run i = true) : gM l yX2_leastIdle cX2_leastIdle 2 (some .int) 0 0 D cls (fpT cI cQ cZ) A (fpW ad cI cQ run mp fr kd wd ct af cf) [.ref (ad 0)] (some (.int (nI j))) (fpW ad cI cQ run mp fr kd wd ct af cf) := by
  refine gM_of (by decide) (Nat.le_of_ble_eq_true rfl) ?_
  intro p e s m args below meth c ls hx hb hml hown hts hN hr hlk hl hG
  have hown : s.vm.findClass RX2 = some m.cls := hown
  have hl : lv_has ls 2 [(0, .ref (ad 0))] := hl
  refine lv_iconst (v := nI 0) hx hb dX2_leastIdle_0 (by decide) ?_
  refine lv_istore_n (lv' := [(1, .int (nI 0)), (0, .ref (ad 0))]) hx hb dX2_leastIdle_1 rfl hl (by decide) rfl (fun ls hl => ?_)
  have loop : ∀ (n i : Nat) (ls : Array Slot), i + n = j → lv_has ls 2 [(1, .int (nI i)), (0, .ref (ad 0))] → W p l e (gR 0 0) s m args below meth c s.heap [] 0 0 (gQ below args s D cls (fpT cI cQ cZ) A (some (.int (nI j))) (fpW ad cI cQ run mp fr kd wd ct af cf)) (F0 m 2 ls []) := by
    intro n
    induction n with
    | zero =>
      intro i ls hi hl
      obtain rfl : i = j := by omega
      refine lv_iload_n hx hb dX2_leastIdle_2 rfl (lv_at hl 0 rfl) ?_
      refine lv_iconst (v := nI 5) hx hb dX2_leastIdle_3 (by decide) ?_
      refine lv_icmp_ge (tgt := 27) hx hb dX2_leastIdle_4 rfl (fun hh => absurd hh (nI_ge hj (by decide))) (fun _ => ?_)
      refine lv_aload_n hx hb dX2_leastIdle_7 rfl (lv_at hl 1 rfl) ?_
      refine g_get (k := 0) (v := .ref (ad 1)) (C := RX2) (ref := RX2) (fs := [.ref (ad 1), .ref (ad 2), .int af, .int cf]) hx hb hown hts hG gX2 rfl fp_0 (by decide) t_53 rfl rfl dX2_leastIdle_8 ?_
      refine lv_iload_n hx hb dX2_leastIdle_11 rfl (lv_at hl 0 rfl) ?_
      refine g_aald (i := i) (t0 := 1) hx hb hG fp_1 rfl (hj) (by decide) rfl dX2_leastIdle_12 ?_
      refine g_getN (k := 0) (v := .int (bI (run i))) (C := RX0) (ref := RX0) (fs := [.int (bI (run i)), .long (en (mp i)), .ref (ad (6 + 3 * i)), .ref (ad (7 + 3 * i))]) hx hb hown hts hN hG gX0 rfl (fp_5 (hj)) (by decide) t_21 rfl rfl dX2_leastIdle_13 ?_
      refine g_top (y := 0) (by rw [h]; rfl) ?_
      refine lv_if_ne (tgt := 21) hx hb dX2_leastIdle_16 rfl (fun hh => absurd (rfl) hh) (fun _ => ?_)
      refine lv_iload_n hx hb dX2_leastIdle_19 rfl (lv_at hl 0 rfl) ?_
      exact g_iret hx hb hr hlk hG dX2_leastIdle_20
    | succ n ih =>
      intro i ls hi hl
      have hi5 : i < 5 := by omega
      refine lv_iload_n hx hb dX2_leastIdle_2 rfl (lv_at hl 0 rfl) ?_
      refine lv_iconst (v := nI 5) hx hb dX2_leastIdle_3 (by decide) ?_
      refine lv_icmp_ge (tgt := 27) hx hb dX2_leastIdle_4 rfl (fun hh => absurd hh (nI_ge hi5 (by decide))) (fun _ => ?_)
      refine lv_aload_n hx hb dX2_leastIdle_7 rfl (lv_at hl 1 rfl) ?_
      refine g_get (k := 0) (v := .ref (ad 1)) (C := RX2) (ref := RX2) (fs := [.ref (ad 1), .ref (ad 2), .int af, .int cf]) hx hb hown hts hG gX2 rfl fp_0 (by decide) t_53 rfl rfl dX2_leastIdle_8 ?_
      refine lv_iload_n hx hb dX2_leastIdle_11 rfl (lv_at hl 0 rfl) ?_
      refine g_aald (i := i) (t0 := 1) hx hb hG fp_1 rfl (hi5) (by decide) rfl dX2_leastIdle_12 ?_
      refine g_getN (k := 0) (v := .int (bI (run i))) (C := RX0) (ref := RX0) (fs := [.int (bI (run i)), .long (en (mp i)), .ref (ad (6 + 3 * i)), .ref (ad (7 + 3 * i))]) hx hb hown hts hN hG gX0 rfl (fp_5 (hi5)) (by decide) t_21 rfl rfl dX2_leastIdle_13 ?_
      refine g_top (y := 1) (by rw [hm i (by omega)]; rfl) ?_
      refine lv_if_ne (tgt := 21) hx hb dX2_leastIdle_16 rfl (fun _ => ?_) (fun hh => absurd hh (by decide))
      refine lv_iinc (k := 0) (v := nI (i + 1)) (lv' := [(1, .int (nI (i + 1))), (0, .ref (ad 0))]) hx hb dX2_leastIdle_21 hl rfl (nI_1 i) (by decide) rfl (fun ls hl => ?_)
      refine lv_goto (tgt := 2) hx hb dX2_leastIdle_24 rfl ?_
      exact ih (i + 1) _ (by omega) (lv_sub hl [0, 1] rfl)
  exact loop j 0 _ (by omega) (lv_sub hl [0, 1] rfl)
set_option maxHeartbeats 4000000 in
set_option maxRecDepth 100000 in
theorem fm_leastIdle_n (hm : ∀ i, i < 5 → run i = true) : gM l yX2_leastIdle cX2_leastIdle 2 (some .int) 0 0 D cls (fpT cI cQ cZ) A (fpW ad cI cQ run mp fr kd wd ct af cf) [.ref (ad 0)] (some (.int (-1))) (fpW ad cI cQ run mp fr kd wd ct af cf) := by
  refine gM_of (by decide) (Nat.le_of_ble_eq_true rfl) ?_
  intro p e s m args below meth c ls hx hb hml hown hts hN hr hlk hl hG
  have hown : s.vm.findClass RX2 = some m.cls := hown
  have hl : lv_has ls 2 [(0, .ref (ad 0))] := hl
  refine lv_iconst (v := nI 0) hx hb dX2_leastIdle_0 (by decide) ?_
  refine lv_istore_n (lv' := [(1, .int (nI 0)), (0, .ref (ad 0))]) hx hb dX2_leastIdle_1 rfl hl (by decide) rfl (fun ls hl => ?_)
  have loop : ∀ (n i : Nat) (ls : Array Slot), i + n = 5 → lv_has ls 2 [(1, .int (nI i)), (0, .ref (ad 0))] → W p l e (gR 0 0) s m args below meth c s.heap [] 0 0 (gQ below args s D cls (fpT cI cQ cZ) A (some (.int (-1))) (fpW ad cI cQ run mp fr kd wd ct af cf)) (F0 m 2 ls []) := by
    intro n
    induction n with
    | zero =>
      intro i ls hi hl
      obtain rfl : i = 5 := by omega
      refine lv_iload_n hx hb dX2_leastIdle_2 rfl (lv_at hl 0 rfl) ?_
      refine lv_iconst (v := nI 5) hx hb dX2_leastIdle_3 (by decide) ?_
      refine lv_icmp_ge (tgt := 27) hx hb dX2_leastIdle_4 rfl (fun _ => ?_) (fun hh => absurd (nI_le (Nat.le_refl 5) (by decide)) hh)
      refine lv_iconst (v := (-1)) hx hb dX2_leastIdle_27 (by decide) ?_
      exact g_iret hx hb hr hlk hG dX2_leastIdle_28
    | succ n ih =>
      intro i ls hi hl
      have hi5 : i < 5 := by omega
      refine lv_iload_n hx hb dX2_leastIdle_2 rfl (lv_at hl 0 rfl) ?_
      refine lv_iconst (v := nI 5) hx hb dX2_leastIdle_3 (by decide) ?_
      refine lv_icmp_ge (tgt := 27) hx hb dX2_leastIdle_4 rfl (fun hh => absurd hh (nI_ge hi5 (by decide))) (fun _ => ?_)
      refine lv_aload_n hx hb dX2_leastIdle_7 rfl (lv_at hl 1 rfl) ?_
      refine g_get (k := 0) (v := .ref (ad 1)) (C := RX2) (ref := RX2) (fs := [.ref (ad 1), .ref (ad 2), .int af, .int cf]) hx hb hown hts hG gX2 rfl fp_0 (by decide) t_53 rfl rfl dX2_leastIdle_8 ?_
      refine lv_iload_n hx hb dX2_leastIdle_11 rfl (lv_at hl 0 rfl) ?_
      refine g_aald (i := i) (t0 := 1) hx hb hG fp_1 rfl (hi5) (by decide) rfl dX2_leastIdle_12 ?_
      refine g_getN (k := 0) (v := .int (bI (run i))) (C := RX0) (ref := RX0) (fs := [.int (bI (run i)), .long (en (mp i)), .ref (ad (6 + 3 * i)), .ref (ad (7 + 3 * i))]) hx hb hown hts hN hG gX0 rfl (fp_5 (hi5)) (by decide) t_21 rfl rfl dX2_leastIdle_13 ?_
      refine g_top (y := 1) (by rw [hm i (by omega)]; rfl) ?_
      refine lv_if_ne (tgt := 21) hx hb dX2_leastIdle_16 rfl (fun _ => ?_) (fun hh => absurd hh (by decide))
      refine lv_iinc (k := 0) (v := nI (i + 1)) (lv' := [(1, .int (nI (i + 1))), (0, .ref (ad 0))]) hx hb dX2_leastIdle_21 hl rfl (nI_1 i) (by decide) rfl (fun ls hl => ?_)
      refine lv_goto (tgt := 2) hx hb dX2_leastIdle_24 rfl ?_
      exact ih (i + 1) _ (by omega) (lv_sub hl [0, 1] rfl)
  exact loop 5 0 _ (by omega) (lv_sub hl [0, 1] rfl)
set_option maxHeartbeats 4000000 in
set_option maxRecDepth 100000 in
theorem fm_freeFrames  : gM l yX2_freeFrames cX2_freeFrames 3 (some .int) 3 68 D cls (fpT cI cQ cZ) A (fpW ad cI cQ run mp fr kd wd ct af cf) [.ref (ad 0)] (some (.int (frF run mp ct))) (fpW ad cI cQ run mp fr kd wd ct af cf) := by
  refine gM_of (by decide) (Nat.le_of_ble_eq_true rfl) ?_
  intro p e s m args below meth c ls hx hb hml hown hts hN hr hlk hl hG
  have hown : s.vm.findClass RX2 = some m.cls := hown
  have hl : lv_has ls 3 [(0, .ref (ad 0))] := hl
  refine lv_bipush (v := nI 24) hx hb dX2_freeFrames_0 (by decide) ?_
  refine lv_aload_n hx hb dX2_freeFrames_2 rfl (lv_at hl 0 rfl) ?_
  refine g_get (k := 1) (v := .ref (ad 2)) (C := RX2) (ref := RX2) (fs := [.ref (ad 1), .ref (ad 2), .int af, .int cf]) hx hb hown hts hG gX2 rfl fp_0 (by decide) t_54 rfl rfl dX2_freeFrames_3 ?_
  refine g_callVN (As := []) (rest := [.int (nI 24)]) (fs := [.ref (ad 3), .ref (ad 4)]) (fm_usedFrames) hx hb hml hown hts hN hG t_78 t_80 s_2 t_3 t_81 nm_X1_usedFrames ⟨by decide, by decide⟩ fp_2 rfl hl.1 (Nat.le_of_ble_eq_true rfl) dX2_freeFrames_6 ⟨Nat.zero_le _, Nat.zero_le _⟩ (fun H locs hG => ?_)
  refine W.eq (g2 := F0 m 9 ls [.int (nI (usN ct 24)), .int (nI 24)]) rfl ?_
  refine lv_isub hx hb dX2_freeFrames_9 ?_
  refine lv_istore_n (lv' := [(1, .int ((nI 24) - (nI (usN ct 24)))), (0, .ref (ad 0))]) hx hb dX2_freeFrames_10 rfl hl (by decide) rfl (fun ls hl => ?_)
  refine lv_iconst (v := nI 0) hx hb dX2_freeFrames_11 (by decide) ?_
  refine lv_istore_n (lv' := [(2, .int (nI 0)), (1, .int ((nI 24) - (nI (usN ct 24)))), (0, .ref (ad 0))]) hx hb dX2_freeFrames_12 rfl hl (by decide) rfl (fun ls hl => ?_)
  have loop : ∀ (n i : Nat) (H : Heap) (locs : List Loc) (ls : Array Slot), i + n = 5 → gG D cls (fpT cI cQ cZ) A s (fpW ad cI cQ run mp fr kd wd ct af cf) H locs → lv_has ls 3 [(2, .int (nI i)), (1, .int (frL run mp (nI 24 - nI (usN ct 24)) i)), (0, .ref (ad 0))] → W p l e (gR 3 68) s m args below meth c H locs 0 0 (gQ below args s D cls (fpT cI cQ cZ) A (some (.int (frF run mp ct))) (fpW ad cI cQ run mp fr kd wd ct af cf)) (F0 m 13 ls []) := by
    intro n
    induction n with
    | zero =>
      intro i H locs ls hi hG hl
      obtain rfl : i = 5 := by omega
      refine lv_iload_n hx hb dX2_freeFrames_13 rfl (lv_at hl 0 rfl) ?_
      refine lv_iconst (v := nI 5) hx hb dX2_freeFrames_14 (by decide) ?_
      refine lv_icmp_ge (tgt := 48) hx hb dX2_freeFrames_15 rfl (fun _ => ?_) (fun hh => absurd (nI_le (Nat.le_refl 5) (by decide)) hh)
      refine lv_iload_n hx hb dX2_freeFrames_48 rfl (lv_at hl 1 rfl) ?_
      exact g_iret hx hb hr hlk hG dX2_freeFrames_49
    | succ n ih =>
      intro i H locs ls hi hG hl
      have hi5 : i < 5 := by omega
      cases hc : run i
      · have hu : frL run mp (nI 24 - nI (usN ct 24)) (i + 1) = frL run mp (nI 24 - nI (usN ct 24)) i := by simp [frL, hc]
        refine lv_iload_n hx hb dX2_freeFrames_13 rfl (lv_at hl 0 rfl) ?_
        refine lv_iconst (v := nI 5) hx hb dX2_freeFrames_14 (by decide) ?_
        refine lv_icmp_ge (tgt := 48) hx hb dX2_freeFrames_15 rfl (fun hh => absurd hh (nI_ge hi5 (by decide))) (fun _ => ?_)
        refine lv_aload_n hx hb dX2_freeFrames_18 rfl (lv_at hl 2 rfl) ?_
        refine g_get (k := 0) (v := .ref (ad 1)) (C := RX2) (ref := RX2) (fs := [.ref (ad 1), .ref (ad 2), .int af, .int cf]) hx hb hown hts hG gX2 rfl fp_0 (by decide) t_53 rfl rfl dX2_freeFrames_19 ?_
        refine lv_iload_n hx hb dX2_freeFrames_22 rfl (lv_at hl 0 rfl) ?_
        refine g_aald (i := i) (t0 := 1) hx hb hG fp_1 rfl (hi5) (by decide) rfl dX2_freeFrames_23 ?_
        refine g_getN (k := 0) (v := .int (bI (run i))) (C := RX0) (ref := RX0) (fs := [.int (bI (run i)), .long (en (mp i)), .ref (ad (6 + 3 * i)), .ref (ad (7 + 3 * i))]) hx hb hown hts hN hG gX0 rfl (fp_5 (hi5)) (by decide) t_21 rfl rfl dX2_freeFrames_24 ?_
        refine g_top (y := 0) (by rw [hc]; rfl) ?_
        refine lv_if_eq (tgt := 42) hx hb dX2_freeFrames_27 rfl (fun _ => ?_) (fun hh => absurd (rfl) hh)
        refine lv_iinc (k := 0) (v := nI (i + 1)) (lv' := [(2, .int (nI (i + 1))), (1, .int (frL run mp (nI 24 - nI (usN ct 24)) i)), (0, .ref (ad 0))]) hx hb dX2_freeFrames_42 hl rfl (nI_1 i) (by decide) rfl (fun ls hl => ?_)
        refine lv_goto (tgt := 13) hx hb dX2_freeFrames_45 rfl ?_
        exact ih (i + 1) _ _ _ (by omega) hG (by rw [hu]; exact lv_sub hl [0, 1, 2] rfl)
      · have hu : frL run mp (nI 24 - nI (usN ct 24)) (i + 1) = frL run mp (nI 24 - nI (usN ct 24)) i - nI (tbN (mp i)) := by simp [frL, hc]
        refine lv_iload_n hx hb dX2_freeFrames_13 rfl (lv_at hl 0 rfl) ?_
        refine lv_iconst (v := nI 5) hx hb dX2_freeFrames_14 (by decide) ?_
        refine lv_icmp_ge (tgt := 48) hx hb dX2_freeFrames_15 rfl (fun hh => absurd hh (nI_ge hi5 (by decide))) (fun _ => ?_)
        refine lv_aload_n hx hb dX2_freeFrames_18 rfl (lv_at hl 2 rfl) ?_
        refine g_get (k := 0) (v := .ref (ad 1)) (C := RX2) (ref := RX2) (fs := [.ref (ad 1), .ref (ad 2), .int af, .int cf]) hx hb hown hts hG gX2 rfl fp_0 (by decide) t_53 rfl rfl dX2_freeFrames_19 ?_
        refine lv_iload_n hx hb dX2_freeFrames_22 rfl (lv_at hl 0 rfl) ?_
        refine g_aald (i := i) (t0 := 1) hx hb hG fp_1 rfl (hi5) (by decide) rfl dX2_freeFrames_23 ?_
        refine g_getN (k := 0) (v := .int (bI (run i))) (C := RX0) (ref := RX0) (fs := [.int (bI (run i)), .long (en (mp i)), .ref (ad (6 + 3 * i)), .ref (ad (7 + 3 * i))]) hx hb hown hts hN hG gX0 rfl (fp_5 (hi5)) (by decide) t_21 rfl rfl dX2_freeFrames_24 ?_
        refine g_top (y := 1) (by rw [hc]; rfl) ?_
        refine lv_if_eq (tgt := 42) hx hb dX2_freeFrames_27 rfl (fun hh => absurd hh (by decide)) (fun _ => ?_)
        refine lv_iload_n hx hb dX2_freeFrames_30 rfl (lv_at hl 1 rfl) ?_
        refine lv_aload_n hx hb dX2_freeFrames_31 rfl (lv_at hl 2 rfl) ?_
        refine g_get (k := 0) (v := .ref (ad 1)) (C := RX2) (ref := RX2) (fs := [.ref (ad 1), .ref (ad 2), .int af, .int cf]) hx hb hown hts hG gX2 rfl fp_0 (by decide) t_53 rfl rfl dX2_freeFrames_32 ?_
        refine lv_iload_n hx hb dX2_freeFrames_35 rfl (lv_at hl 0 rfl) ?_
        refine g_aald (i := i) (t0 := 1) hx hb hG fp_1 rfl (hi5) (by decide) rfl dX2_freeFrames_36 ?_
        refine g_callVN (As := []) (rest := [.int (frL run mp (nI 24 - nI (usN ct 24)) i)]) (fs := [.int (bI (run i)), .long (en (mp i)), .ref (ad (6 + 3 * i)), .ref (ad (7 + 3 * i))]) (fm_tableCount hi5) hx hb hml hown hts hN hG t_82 t_84 s_3 t_2 t_85 nm_X0_tableCount ⟨by decide, by decide⟩ (fp_5 (hi5)) rfl hl.1 (Nat.le_of_ble_eq_true rfl) dX2_freeFrames_37 ⟨Nat.zero_le _, Nat.zero_le _⟩ (fun H locs hG => ?_)
        refine W.eq (g2 := F0 m 40 ls [.int (nI (tbN (mp i))), .int (frL run mp (nI 24 - nI (usN ct 24)) i)]) rfl ?_
        refine lv_isub hx hb dX2_freeFrames_40 ?_
        refine lv_istore_n (lv' := [(1, .int ((frL run mp (nI 24 - nI (usN ct 24)) i) - (nI (tbN (mp i))))), (2, .int (nI i)), (0, .ref (ad 0))]) hx hb dX2_freeFrames_41 rfl hl (by decide) rfl (fun ls hl => ?_)
        refine lv_iinc (k := 1) (v := nI (i + 1)) (lv' := [(2, .int (nI (i + 1))), (1, .int ((frL run mp (nI 24 - nI (usN ct 24)) i) - (nI (tbN (mp i))))), (0, .ref (ad 0))]) hx hb dX2_freeFrames_42 hl rfl (nI_1 i) (by decide) rfl (fun ls hl => ?_)
        refine lv_goto (tgt := 13) hx hb dX2_freeFrames_45 rfl ?_
        exact ih (i + 1) _ _ _ (by omega) hG (by rw [hu]; exact lv_sub hl [0, 1, 2] rfl)
  exact loop 5 0 _ _ _ (by omega) hG (lv_sub hl [0, 1, 2] rfl)
set_option maxHeartbeats 4000000 in
set_option maxRecDepth 100000 in
theorem fm_startMapping {j k : Nat} (hj : j < 5) (hk : k < 64) {f : Nat} {v : Int32} (hf : f < 24) : gM l yX2_startMapping cX2_startMapping 5 none 1 23 D cls (fpT cI cQ cZ) A (fpW ad cI cQ run mp fr kd wd ct af cf) [.ref (ad 0), .ref (ad (5 + 3 * j)), .int (nI k), .int (nI f), .int v] none (fpW ad cI cQ run (up1 mp j (up1 (mp j) k true)) (up1 fr j (up1 (fr j) k f)) (up1 kd j (upd (kd j) k v)) wd (upd ct f (ct f + 1)) af cf) := by
  refine gM_of (by decide) (Nat.le_of_ble_eq_true rfl) ?_
  intro p e s m args below meth c ls hx hb hml hown hts hN hr hlk hl hG
  have hown : s.vm.findClass RX2 = some m.cls := hown
  have hl : lv_has ls 5 [(0, .ref (ad 0)), (1, .ref (ad (5 + 3 * j))), (2, .int (nI k)), (3, .int (nI f)), (4, .int v)] := hl
  refine lv_aload_n hx hb dX2_startMapping_0 rfl (lv_at hl 1 rfl) ?_
  refine lv_iload_n hx hb dX2_startMapping_1 rfl (lv_at hl 2 rfl) ?_
  refine lv_iload_n hx hb dX2_startMapping_2 rfl (lv_at hl 3 rfl) ?_
  refine lv_iload hx hb dX2_startMapping_3 (lv_at hl 4 rfl) ?_
  refine g_callVN (As := [.int (nI k), .int (nI f), .int v]) (rest := []) (fs := [.int (bI (run j)), .long (en (mp j)), .ref (ad (6 + 3 * j)), .ref (ad (7 + 3 * j))]) (fm_set hj hk) hx hb hml hown hts hN hG t_121 t_123 s_10 t_2 t_124 nm_X0_set ⟨by decide, by decide⟩ (fp_5 (hj)) rfl hl.1 (Nat.le_of_ble_eq_true rfl) dX2_startMapping_5 ⟨Nat.zero_le _, Nat.zero_le _⟩ (fun H locs hG => ?_)
  refine W.eq (g2 := F0 m 8 ls []) rfl ?_
  refine lv_aload_n hx hb dX2_startMapping_8 rfl (lv_at hl 0 rfl) ?_
  refine g_get (k := 1) (v := .ref (ad 2)) (C := RX2) (ref := RX2) (fs := [.ref (ad 1), .ref (ad 2), .int af, .int cf]) hx hb hown hts hG gX2 rfl fp_0 (by decide) t_54 rfl rfl dX2_startMapping_9 ?_
  refine g_getN (k := 1) (v := .ref (ad 4)) (C := RX1) (ref := RX1) (fs := [.ref (ad 3), .ref (ad 4)]) hx hb hown hts hN hG gX1 rfl fp_2 (by decide) t_47 rfl rfl dX2_startMapping_12 ?_
  refine lv_iload_n hx hb dX2_startMapping_15 rfl (lv_at hl 3 rfl) ?_
  refine lv_dup2_11 hx hb dX2_startMapping_16 rfl rfl ?_
  refine g_iald (i := f) (t0 := 0) hx hb hG fp_4 rfl (hf) (by decide) dX2_startMapping_17 ?_
  refine lv_iconst (v := 1) hx hb dX2_startMapping_18 (by decide) ?_
  refine lv_iadd hx hb dX2_startMapping_19 ?_
  refine g_iast (i := f) (x := (ct f) + 1) (t0 := 0) (ws' := fpW ad cI cQ run (up1 mp j (up1 (mp j) k true)) (up1 fr j (up1 (fr j) k f)) (up1 kd j (upd (kd j) k v)) wd (upd ct f (ct f + 1)) af cf) hx hb hG fp_4 rfl (hf) (by decide) (fp_s4 _) dX2_startMapping_20 (fun H locs hG => ?_)
  exact g_vret hx hb hr hlk hG dX2_startMapping_21
set_option maxHeartbeats 4000000 in
set_option maxRecDepth 100000 in
theorem fm_endMapping {j k : Nat} (hj : j < 5) (hk : k < 64) (hf : fr j k < 24) : gM l yX2_endMapping cX2_endMapping 3 none 1 21 D cls (fpT cI cQ cZ) A (fpW ad cI cQ run mp fr kd wd ct af cf) [.ref (ad 0), .ref (ad (5 + 3 * j)), .int (nI k)] none (fpW ad cI cQ run (up1 mp j (up1 (mp j) k false)) fr kd wd (upd ct (fr j k) (ct (fr j k) - 1)) af cf) := by
  refine gM_of (by decide) (Nat.le_of_ble_eq_true rfl) ?_
  intro p e s m args below meth c ls hx hb hml hown hts hN hr hlk hl hG
  have hown : s.vm.findClass RX2 = some m.cls := hown
  have hl : lv_has ls 3 [(0, .ref (ad 0)), (1, .ref (ad (5 + 3 * j))), (2, .int (nI k))] := hl
  refine lv_aload_n hx hb dX2_endMapping_0 rfl (lv_at hl 0 rfl) ?_
  refine g_get (k := 1) (v := .ref (ad 2)) (C := RX2) (ref := RX2) (fs := [.ref (ad 1), .ref (ad 2), .int af, .int cf]) hx hb hown hts hG gX2 rfl fp_0 (by decide) t_54 rfl rfl dX2_endMapping_1 ?_
  refine g_getN (k := 1) (v := .ref (ad 4)) (C := RX1) (ref := RX1) (fs := [.ref (ad 3), .ref (ad 4)]) hx hb hown hts hN hG gX1 rfl fp_2 (by decide) t_47 rfl rfl dX2_endMapping_4 ?_
  refine lv_aload_n hx hb dX2_endMapping_7 rfl (lv_at hl 1 rfl) ?_
  refine g_getN (k := 2) (v := .ref (ad (6 + 3 * j))) (C := RX0) (ref := RX0) (fs := [.int (bI (run j)), .long (en (mp j)), .ref (ad (6 + 3 * j)), .ref (ad (7 + 3 * j))]) hx hb hown hts hN hG gX0 rfl (fp_5 (hj)) (by decide) t_25 rfl rfl dX2_endMapping_8 ?_
  refine lv_iload_n hx hb dX2_endMapping_11 rfl (lv_at hl 2 rfl) ?_
  refine g_iald (i := k) (t0 := 0) hx hb hG (fp_6 (hj)) rfl (hk) (by decide) dX2_endMapping_12 ?_
  refine lv_dup2_11 hx hb dX2_endMapping_13 rfl rfl ?_
  refine g_iald (i := (fr j k)) (t0 := 0) hx hb hG fp_4 rfl (hf) (by decide) dX2_endMapping_14 ?_
  refine lv_iconst (v := 1) hx hb dX2_endMapping_15 (by decide) ?_
  refine lv_isub hx hb dX2_endMapping_16 ?_
  refine g_iast (i := (fr j k)) (x := (ct (fr j k)) - 1) (t0 := 0) (ws' := fpW ad cI cQ run mp fr kd wd (upd ct (fr j k) (ct (fr j k) - 1)) af cf) hx hb hG fp_4 rfl (hf) (by decide) (fp_s4 _) dX2_endMapping_17 (fun H locs hG => ?_)
  refine lv_aload_n hx hb dX2_endMapping_18 rfl (lv_at hl 1 rfl) ?_
  refine lv_iload_n hx hb dX2_endMapping_19 rfl (lv_at hl 2 rfl) ?_
  refine g_callVN (As := [.int (nI k)]) (rest := []) (fs := [.int (bI (run j)), .long (en (mp j)), .ref (ad (6 + 3 * j)), .ref (ad (7 + 3 * j))]) (fm_clear hj hk) hx hb hml hown hts hN hG t_133 t_135 s_12 t_2 t_136 nm_X0_clear ⟨by decide, by decide⟩ (fp_5 (hj)) rfl hl.1 (Nat.le_of_ble_eq_true rfl) dX2_endMapping_20 ⟨Nat.zero_le _, Nat.zero_le _⟩ (fun H locs hG => ?_)
  refine W.eq (g2 := F0 m 23 ls []) rfl ?_
  exact g_vret hx hb hr hlk hG dX2_endMapping_23
def shK (kd : Nat → Nat → Int32) (j k : Nat) : Nat → Nat → Int32 := if kd j k &&& 2 = 0 ∧ kd j k &&& 4 = 0 then up1 kd j (upd (kd j) k (kd j k ^^^ 4)) else kd
set_option maxHeartbeats 4000000 in
set_option maxRecDepth 100000 in
theorem fm_share_c {j n k : Nat} (hj : j < 5) (hn : n < 5) (hk : k < 64) (hf : fr j k < 24) (h : ¬ kd j k &&& 2 = 0) : gM l yX2_sharePage cX2_sharePage 4 none 2 47 D cls (fpT cI cQ cZ) A (fpW ad cI cQ run mp fr kd wd ct af cf) [.ref (ad 0), .ref (ad (5 + 3 * j)), .ref (ad (5 + 3 * n)), .int (nI k)] none (fpW ad cI cQ run (up1 mp n (up1 (mp n) k true)) (up1 fr n (up1 (fr n) k (fr j k))) (up1 kd n (upd (kd n) k (kd j k))) wd (upd ct (fr j k) (ct (fr j k) + 1)) af cf) := by
  refine gM_of (by decide) (Nat.le_of_ble_eq_true rfl) ?_
  intro p e s m args below meth c ls hx hb hml hown hts hN hr hlk hl hG
  have hown : s.vm.findClass RX2 = some m.cls := hown
  have hl : lv_has ls 4 [(0, .ref (ad 0)), (1, .ref (ad (5 + 3 * j))), (2, .ref (ad (5 + 3 * n))), (3, .int (nI k))] := hl
  refine lv_aload_n hx hb dX2_sharePage_0 rfl (lv_at hl 1 rfl) ?_
  refine lv_iconst (v := 2) hx hb dX2_sharePage_1 (by decide) ?_
  refine lv_iload_n hx hb dX2_sharePage_2 rfl (lv_at hl 3 rfl) ?_
  refine g_callVN (As := [.int 2, .int (nI k)]) (rest := []) (fs := [.int (bI (run j)), .long (en (mp j)), .ref (ad (6 + 3 * j)), .ref (ad (7 + 3 * j))]) (fm_is_t hj hk h) hx hb hml hown hts hN hG t_109 t_111 s_7 t_2 t_112 nm_X0_is ⟨by decide, by decide⟩ (fp_5 (hj)) rfl hl.1 (Nat.le_of_ble_eq_true rfl) dX2_sharePage_3 ⟨Nat.zero_le _, Nat.zero_le _⟩ (fun H locs hG => ?_)
  refine W.eq (g2 := F0 m 6 ls [.int 1]) rfl ?_
  refine lv_if_ne (tgt := 24) hx hb dX2_sharePage_6 rfl (fun _ => ?_) (fun hh => absurd hh (by decide))
  refine lv_aload_n hx hb dX2_sharePage_24 rfl (lv_at hl 0 rfl) ?_
  refine lv_aload_n hx hb dX2_sharePage_25 rfl (lv_at hl 2 rfl) ?_
  refine lv_iload_n hx hb dX2_sharePage_26 rfl (lv_at hl 3 rfl) ?_
  refine lv_aload_n hx hb dX2_sharePage_27 rfl (lv_at hl 1 rfl) ?_
  refine g_getN (k := 2) (v := .ref (ad (6 + 3 * j))) (C := RX0) (ref := RX0) (fs := [.int (bI (run j)), .long (en (mp j)), .ref (ad (6 + 3 * j)), .ref (ad (7 + 3 * j))]) hx hb hown hts hN hG gX0 rfl (fp_5 (hj)) (by decide) t_25 rfl rfl dX2_sharePage_28 ?_
  refine lv_iload_n hx hb dX2_sharePage_31 rfl (lv_at hl 3 rfl) ?_
  refine g_iald (i := k) (t0 := 0) hx hb hG (fp_6 (hj)) rfl (hk) (by decide) dX2_sharePage_32 ?_
  refine lv_aload_n hx hb dX2_sharePage_33 rfl (lv_at hl 1 rfl) ?_
  refine g_getN (k := 3) (v := .ref (ad (7 + 3 * j))) (C := RX0) (ref := RX0) (fs := [.int (bI (run j)), .long (en (mp j)), .ref (ad (6 + 3 * j)), .ref (ad (7 + 3 * j))]) hx hb hown hts hN hG gX0 rfl (fp_5 (hj)) (by decide) t_27 rfl rfl dX2_sharePage_34 ?_
  refine lv_iload_n hx hb dX2_sharePage_37 rfl (lv_at hl 3 rfl) ?_
  refine g_iald (i := k) (t0 := 0) hx hb hG (fp_7 (hj)) rfl (hk) (by decide) dX2_sharePage_38 ?_
  refine g_callV (As := [.ref (ad (5 + 3 * n)), .int (nI k), .int (nI (fr j k)), .int (kd j k)]) (rest := []) (fs := [.ref (ad 1), .ref (ad 2), .int af, .int cf]) (fm_startMapping hn hk hf) hx hb hml hown hts hN hG t_117 t_119 s_9 t_1 t_120 nm_X2_startMapping ⟨by decide, by decide⟩ fp_0 rfl hl.1 (Nat.le_of_ble_eq_true rfl) dX2_sharePage_39 ⟨Nat.zero_le _, Nat.zero_le _⟩ (fun H locs hG => ?_)
  refine W.eq (g2 := F0 m 42 ls []) rfl ?_
  exact g_vret hx hb hr hlk hG dX2_sharePage_42
set_option maxHeartbeats 4000000 in
set_option maxRecDepth 100000 in
theorem fm_share_m {j n k : Nat} (hj : j < 5) (hn : n < 5) (hk : k < 64) (hf : fr j k < 24) (h : kd j k &&& 2 = 0) (h4 : ¬ kd j k &&& 4 = 0) : gM l yX2_sharePage cX2_sharePage 4 none 2 47 D cls (fpT cI cQ cZ) A (fpW ad cI cQ run mp fr kd wd ct af cf) [.ref (ad 0), .ref (ad (5 + 3 * j)), .ref (ad (5 + 3 * n)), .int (nI k)] none (fpW ad cI cQ run (up1 mp n (up1 (mp n) k true)) (up1 fr n (up1 (fr n) k (fr j k))) (up1 kd n (upd (kd n) k (kd j k))) wd (upd ct (fr j k) (ct (fr j k) + 1)) af cf) := by
  refine gM_of (by decide) (Nat.le_of_ble_eq_true rfl) ?_
  intro p e s m args below meth c ls hx hb hml hown hts hN hr hlk hl hG
  have hown : s.vm.findClass RX2 = some m.cls := hown
  have hl : lv_has ls 4 [(0, .ref (ad 0)), (1, .ref (ad (5 + 3 * j))), (2, .ref (ad (5 + 3 * n))), (3, .int (nI k))] := hl
  refine lv_aload_n hx hb dX2_sharePage_0 rfl (lv_at hl 1 rfl) ?_
  refine lv_iconst (v := 2) hx hb dX2_sharePage_1 (by decide) ?_
  refine lv_iload_n hx hb dX2_sharePage_2 rfl (lv_at hl 3 rfl) ?_
  refine g_callVN (As := [.int 2, .int (nI k)]) (rest := []) (fs := [.int (bI (run j)), .long (en (mp j)), .ref (ad (6 + 3 * j)), .ref (ad (7 + 3 * j))]) (fm_is_f hj hk h) hx hb hml hown hts hN hG t_109 t_111 s_7 t_2 t_112 nm_X0_is ⟨by decide, by decide⟩ (fp_5 (hj)) rfl hl.1 (Nat.le_of_ble_eq_true rfl) dX2_sharePage_3 ⟨Nat.zero_le _, Nat.zero_le _⟩ (fun H locs hG => ?_)
  refine W.eq (g2 := F0 m 6 ls [.int 0]) rfl ?_
  refine lv_if_ne (tgt := 24) hx hb dX2_sharePage_6 rfl (fun hh => absurd (rfl) hh) (fun _ => ?_)
  refine lv_aload_n hx hb dX2_sharePage_9 rfl (lv_at hl 1 rfl) ?_
  refine lv_iconst (v := 4) hx hb dX2_sharePage_10 (by decide) ?_
  refine lv_iload_n hx hb dX2_sharePage_11 rfl (lv_at hl 3 rfl) ?_
  refine g_callVN (As := [.int 4, .int (nI k)]) (rest := []) (fs := [.int (bI (run j)), .long (en (mp j)), .ref (ad (6 + 3 * j)), .ref (ad (7 + 3 * j))]) (fm_is_t hj hk h4) hx hb hml hown hts hN hG t_109 t_111 s_7 t_2 t_112 nm_X0_is ⟨by decide, by decide⟩ (fp_5 (hj)) rfl hl.1 (Nat.le_of_ble_eq_true rfl) dX2_sharePage_12 ⟨Nat.zero_le _, Nat.zero_le _⟩ (fun H locs hG => ?_)
  refine W.eq (g2 := F0 m 15 ls [.int 1]) rfl ?_
  refine lv_if_ne (tgt := 24) hx hb dX2_sharePage_15 rfl (fun _ => ?_) (fun hh => absurd hh (by decide))
  refine lv_aload_n hx hb dX2_sharePage_24 rfl (lv_at hl 0 rfl) ?_
  refine lv_aload_n hx hb dX2_sharePage_25 rfl (lv_at hl 2 rfl) ?_
  refine lv_iload_n hx hb dX2_sharePage_26 rfl (lv_at hl 3 rfl) ?_
  refine lv_aload_n hx hb dX2_sharePage_27 rfl (lv_at hl 1 rfl) ?_
  refine g_getN (k := 2) (v := .ref (ad (6 + 3 * j))) (C := RX0) (ref := RX0) (fs := [.int (bI (run j)), .long (en (mp j)), .ref (ad (6 + 3 * j)), .ref (ad (7 + 3 * j))]) hx hb hown hts hN hG gX0 rfl (fp_5 (hj)) (by decide) t_25 rfl rfl dX2_sharePage_28 ?_
  refine lv_iload_n hx hb dX2_sharePage_31 rfl (lv_at hl 3 rfl) ?_
  refine g_iald (i := k) (t0 := 0) hx hb hG (fp_6 (hj)) rfl (hk) (by decide) dX2_sharePage_32 ?_
  refine lv_aload_n hx hb dX2_sharePage_33 rfl (lv_at hl 1 rfl) ?_
  refine g_getN (k := 3) (v := .ref (ad (7 + 3 * j))) (C := RX0) (ref := RX0) (fs := [.int (bI (run j)), .long (en (mp j)), .ref (ad (6 + 3 * j)), .ref (ad (7 + 3 * j))]) hx hb hown hts hN hG gX0 rfl (fp_5 (hj)) (by decide) t_27 rfl rfl dX2_sharePage_34 ?_
  refine lv_iload_n hx hb dX2_sharePage_37 rfl (lv_at hl 3 rfl) ?_
  refine g_iald (i := k) (t0 := 0) hx hb hG (fp_7 (hj)) rfl (hk) (by decide) dX2_sharePage_38 ?_
  refine g_callV (As := [.ref (ad (5 + 3 * n)), .int (nI k), .int (nI (fr j k)), .int (kd j k)]) (rest := []) (fs := [.ref (ad 1), .ref (ad 2), .int af, .int cf]) (fm_startMapping hn hk hf) hx hb hml hown hts hN hG t_117 t_119 s_9 t_1 t_120 nm_X2_startMapping ⟨by decide, by decide⟩ fp_0 rfl hl.1 (Nat.le_of_ble_eq_true rfl) dX2_sharePage_39 ⟨Nat.zero_le _, Nat.zero_le _⟩ (fun H locs hG => ?_)
  refine W.eq (g2 := F0 m 42 ls []) rfl ?_
  exact g_vret hx hb hr hlk hG dX2_sharePage_42
set_option maxHeartbeats 4000000 in
set_option maxRecDepth 100000 in
theorem fm_share_p {j n k : Nat} (hj : j < 5) (hn : n < 5) (hk : k < 64) (hf : fr j k < 24) (h : kd j k &&& 2 = 0) (h4 : kd j k &&& 4 = 0) : gM l yX2_sharePage cX2_sharePage 4 none 2 47 D cls (fpT cI cQ cZ) A (fpW ad cI cQ run mp fr kd wd ct af cf) [.ref (ad 0), .ref (ad (5 + 3 * j)), .ref (ad (5 + 3 * n)), .int (nI k)] none (fpW ad cI cQ run (up1 mp n (up1 (mp n) k true)) (up1 fr n (up1 (fr n) k (fr j k))) (up1 (up1 kd j (upd (kd j) k (kd j k ^^^ 4))) n (upd ((up1 kd j (upd (kd j) k (kd j k ^^^ 4))) n) k ((up1 kd j (upd (kd j) k (kd j k ^^^ 4))) j k))) wd (upd ct (fr j k) (ct (fr j k) + 1)) af cf) := by
  refine gM_of (by decide) (Nat.le_of_ble_eq_true rfl) ?_
  intro p e s m args below meth c ls hx hb hml hown hts hN hr hlk hl hG
  have hown : s.vm.findClass RX2 = some m.cls := hown
  have hl : lv_has ls 4 [(0, .ref (ad 0)), (1, .ref (ad (5 + 3 * j))), (2, .ref (ad (5 + 3 * n))), (3, .int (nI k))] := hl
  refine lv_aload_n hx hb dX2_sharePage_0 rfl (lv_at hl 1 rfl) ?_
  refine lv_iconst (v := 2) hx hb dX2_sharePage_1 (by decide) ?_
  refine lv_iload_n hx hb dX2_sharePage_2 rfl (lv_at hl 3 rfl) ?_
  refine g_callVN (As := [.int 2, .int (nI k)]) (rest := []) (fs := [.int (bI (run j)), .long (en (mp j)), .ref (ad (6 + 3 * j)), .ref (ad (7 + 3 * j))]) (fm_is_f hj hk h) hx hb hml hown hts hN hG t_109 t_111 s_7 t_2 t_112 nm_X0_is ⟨by decide, by decide⟩ (fp_5 (hj)) rfl hl.1 (Nat.le_of_ble_eq_true rfl) dX2_sharePage_3 ⟨Nat.zero_le _, Nat.zero_le _⟩ (fun H locs hG => ?_)
  refine W.eq (g2 := F0 m 6 ls [.int 0]) rfl ?_
  refine lv_if_ne (tgt := 24) hx hb dX2_sharePage_6 rfl (fun hh => absurd (rfl) hh) (fun _ => ?_)
  refine lv_aload_n hx hb dX2_sharePage_9 rfl (lv_at hl 1 rfl) ?_
  refine lv_iconst (v := 4) hx hb dX2_sharePage_10 (by decide) ?_
  refine lv_iload_n hx hb dX2_sharePage_11 rfl (lv_at hl 3 rfl) ?_
  refine g_callVN (As := [.int 4, .int (nI k)]) (rest := []) (fs := [.int (bI (run j)), .long (en (mp j)), .ref (ad (6 + 3 * j)), .ref (ad (7 + 3 * j))]) (fm_is_f hj hk h4) hx hb hml hown hts hN hG t_109 t_111 s_7 t_2 t_112 nm_X0_is ⟨by decide, by decide⟩ (fp_5 (hj)) rfl hl.1 (Nat.le_of_ble_eq_true rfl) dX2_sharePage_12 ⟨Nat.zero_le _, Nat.zero_le _⟩ (fun H locs hG => ?_)
  refine W.eq (g2 := F0 m 15 ls [.int 0]) rfl ?_
  refine lv_if_ne (tgt := 24) hx hb dX2_sharePage_15 rfl (fun hh => absurd (rfl) hh) (fun _ => ?_)
  refine lv_aload_n hx hb dX2_sharePage_18 rfl (lv_at hl 1 rfl) ?_
  refine lv_iconst (v := 4) hx hb dX2_sharePage_19 (by decide) ?_
  refine lv_iload_n hx hb dX2_sharePage_20 rfl (lv_at hl 3 rfl) ?_
  refine g_callVN (As := [.int 4, .int (nI k)]) (rest := []) (fs := [.int (bI (run j)), .long (en (mp j)), .ref (ad (6 + 3 * j)), .ref (ad (7 + 3 * j))]) (fm_turn hj hk) hx hb hml hown hts hN hG t_113 t_115 s_8 t_2 t_116 nm_X0_turn ⟨by decide, by decide⟩ (fp_5 (hj)) rfl hl.1 (Nat.le_of_ble_eq_true rfl) dX2_sharePage_21 ⟨Nat.zero_le _, Nat.zero_le _⟩ (fun H locs hG => ?_)
  refine W.eq (g2 := F0 m 24 ls []) rfl ?_
  refine lv_aload_n hx hb dX2_sharePage_24 rfl (lv_at hl 0 rfl) ?_
  refine lv_aload_n hx hb dX2_sharePage_25 rfl (lv_at hl 2 rfl) ?_
  refine lv_iload_n hx hb dX2_sharePage_26 rfl (lv_at hl 3 rfl) ?_
  refine lv_aload_n hx hb dX2_sharePage_27 rfl (lv_at hl 1 rfl) ?_
  refine g_getN (k := 2) (v := .ref (ad (6 + 3 * j))) (C := RX0) (ref := RX0) (fs := [.int (bI (run j)), .long (en (mp j)), .ref (ad (6 + 3 * j)), .ref (ad (7 + 3 * j))]) hx hb hown hts hN hG gX0 rfl (fp_5 (hj)) (by decide) t_25 rfl rfl dX2_sharePage_28 ?_
  refine lv_iload_n hx hb dX2_sharePage_31 rfl (lv_at hl 3 rfl) ?_
  refine g_iald (i := k) (t0 := 0) hx hb hG (fp_6 (hj)) rfl (hk) (by decide) dX2_sharePage_32 ?_
  refine lv_aload_n hx hb dX2_sharePage_33 rfl (lv_at hl 1 rfl) ?_
  refine g_getN (k := 3) (v := .ref (ad (7 + 3 * j))) (C := RX0) (ref := RX0) (fs := [.int (bI (run j)), .long (en (mp j)), .ref (ad (6 + 3 * j)), .ref (ad (7 + 3 * j))]) hx hb hown hts hN hG gX0 rfl (fp_5 (hj)) (by decide) t_27 rfl rfl dX2_sharePage_34 ?_
  refine lv_iload_n hx hb dX2_sharePage_37 rfl (lv_at hl 3 rfl) ?_
  refine g_iald (i := k) (t0 := 0) hx hb hG (fp_7 (hj)) rfl (hk) (by decide) dX2_sharePage_38 ?_
  refine g_callV (As := [.ref (ad (5 + 3 * n)), .int (nI k), .int (nI (fr j k)), .int ((up1 kd j (upd (kd j) k (kd j k ^^^ 4))) j k)]) (rest := []) (fs := [.ref (ad 1), .ref (ad 2), .int af, .int cf]) (fm_startMapping hn hk hf) hx hb hml hown hts hN hG t_117 t_119 s_9 t_1 t_120 nm_X2_startMapping ⟨by decide, by decide⟩ fp_0 rfl hl.1 (Nat.le_of_ble_eq_true rfl) dX2_sharePage_39 ⟨Nat.zero_le _, Nat.zero_le _⟩ (fun H locs hG => ?_)
  refine W.eq (g2 := F0 m 42 ls []) rfl ?_
  exact g_vret hx hb hr hlk hG dX2_sharePage_42
set_option maxHeartbeats 4000000 in
set_option maxRecDepth 100000 in
theorem fm_sharePage {j n k : Nat} (hj : j < 5) (hn : n < 5) (hk : k < 64) (hf : fr j k < 24)  : gM l yX2_sharePage cX2_sharePage 4 none 2 47 D cls (fpT cI cQ cZ) A (fpW ad cI cQ run mp fr kd wd ct af cf) [.ref (ad 0), .ref (ad (5 + 3 * j)), .ref (ad (5 + 3 * n)), .int (nI k)] none (fpW ad cI cQ run (up1 mp n (up1 (mp n) k true)) (up1 fr n (up1 (fr n) k (fr j k))) (up1 (shK kd j k) n (upd ((shK kd j k) n) k ((shK kd j k) j k))) wd (upd ct (fr j k) (ct (fr j k) + 1)) af cf) := by
  by_cases h : kd j k &&& 2 = 0
  · by_cases h4 : kd j k &&& 4 = 0
    · rw [show shK kd j k = up1 kd j (upd (kd j) k (kd j k ^^^ 4)) from if_pos ⟨h, h4⟩]; exact fm_share_p hj hn hk hf h h4
    · rw [show shK kd j k = kd from if_neg (fun q => h4 q.2)]; exact fm_share_m hj hn hk hf h h4
  · rw [show shK kd j k = kd from if_neg (fun q => h q.1)]; exact fm_share_c hj hn hk hf h
set_option maxHeartbeats 4000000 in
set_option maxRecDepth 100000 in
theorem fm_rF_room {j k : Nat} (hj : j < 5) (hk : k < 64) (hf : fr j k < 24) (h : ¬ ct (fr j k) ≤ 1) (hr0 : ¬ 1 ≤ frF run mp ct) : gM l yX2_resolveFault cX2_resolveFault 7 (some .int) 4 90 D cls (fpT cI cQ cZ) A (fpW ad cI cQ run mp fr kd wd ct af cf) [.ref (ad 0), .ref (ad (5 + 3 * j)), .int (nI k)] (some (.int (-8))) (fpW ad cI cQ run mp fr kd wd ct af cf) := by
  refine gM_of (by decide) (Nat.le_of_ble_eq_true rfl) ?_
  intro p e s m args below meth c ls hx hb hml hown hts hN hr hlk hl hG
  have hown : s.vm.findClass RX2 = some m.cls := hown
  have hl : lv_has ls 7 [(0, .ref (ad 0)), (1, .ref (ad (5 + 3 * j))), (2, .int (nI k))] := hl
  refine lv_aload_n hx hb dX2_resolveFault_0 rfl (lv_at hl 1 rfl) ?_
  refine g_getN (k := 2) (v := .ref (ad (6 + 3 * j))) (C := RX0) (ref := RX0) (fs := [.int (bI (run j)), .long (en (mp j)), .ref (ad (6 + 3 * j)), .ref (ad (7 + 3 * j))]) hx hb hown hts hN hG gX0 rfl (fp_5 (hj)) (by decide) t_25 rfl rfl dX2_resolveFault_1 ?_
  refine lv_iload_n hx hb dX2_resolveFault_4 rfl (lv_at hl 2 rfl) ?_
  refine g_iald (i := k) (t0 := 0) hx hb hG (fp_6 (hj)) rfl (hk) (by decide) dX2_resolveFault_5 ?_
  refine lv_istore_n (lv' := [(3, .int (nI (fr j k))), (0, .ref (ad 0)), (1, .ref (ad (5 + 3 * j))), (2, .int (nI k))]) hx hb dX2_resolveFault_6 rfl hl (by decide) rfl (fun ls hl => ?_)
  refine lv_aload_n hx hb dX2_resolveFault_7 rfl (lv_at hl 1 rfl) ?_
  refine g_get (k := 1) (v := .ref (ad 2)) (C := RX2) (ref := RX2) (fs := [.ref (ad 1), .ref (ad 2), .int af, .int cf]) hx hb hown hts hG gX2 rfl fp_0 (by decide) t_54 rfl rfl dX2_resolveFault_8 ?_
  refine g_getN (k := 1) (v := .ref (ad 4)) (C := RX1) (ref := RX1) (fs := [.ref (ad 3), .ref (ad 4)]) hx hb hown hts hN hG gX1 rfl fp_2 (by decide) t_47 rfl rfl dX2_resolveFault_11 ?_
  refine lv_iload_n hx hb dX2_resolveFault_14 rfl (lv_at hl 0 rfl) ?_
  refine g_iald (i := (fr j k)) (t0 := 0) hx hb hG fp_4 rfl (hf) (by decide) dX2_resolveFault_15 ?_
  refine lv_iconst (v := 1) hx hb dX2_resolveFault_16 (by decide) ?_
  refine lv_icmp_le (tgt := 24) hx hb dX2_resolveFault_17 rfl (fun hh => absurd hh (h)) (fun _ => ?_)
  refine lv_iconst (v := 1) hx hb dX2_resolveFault_20 (by decide) ?_
  refine lv_goto (tgt := 25) hx hb dX2_resolveFault_21 rfl ?_
  refine lv_istore (lv' := [(4, .int 1), (3, .int (nI (fr j k))), (0, .ref (ad 0)), (1, .ref (ad (5 + 3 * j))), (2, .int (nI k))]) hx hb dX2_resolveFault_25 hl (by decide) rfl (fun ls hl => ?_)
  refine lv_iload hx hb dX2_resolveFault_27 (lv_at hl 0 rfl) ?_
  refine lv_if_eq (tgt := 43) hx hb dX2_resolveFault_29 rfl (fun hh => absurd hh (by decide)) (fun _ => ?_)
  refine lv_aload_n hx hb dX2_resolveFault_32 rfl (lv_at hl 2 rfl) ?_
  refine g_callV (As := []) (rest := []) (fs := [.ref (ad 1), .ref (ad 2), .int af, .int cf]) (fm_freeFrames) hx hb hml hown hts hN hG t_74 t_76 s_1 t_1 t_77 nm_X2_freeFrames ⟨by decide, by decide⟩ fp_0 rfl hl.1 (Nat.le_of_ble_eq_true rfl) dX2_resolveFault_33 ⟨Nat.zero_le _, Nat.zero_le _⟩ (fun H locs hG => ?_)
  refine W.eq (g2 := F0 m 36 ls [.int (frF run mp ct)]) rfl ?_
  refine lv_iconst (v := 1) hx hb dX2_resolveFault_36 (by decide) ?_
  refine lv_icmp_ge (tgt := 43) hx hb dX2_resolveFault_37 rfl (fun hh => absurd hh (hr0)) (fun _ => ?_)
  refine lv_bipush (v := (-8)) hx hb dX2_resolveFault_40 (by decide) ?_
  exact g_iret hx hb hr hlk hG dX2_resolveFault_42
set_option maxHeartbeats 4000000 in
set_option maxRecDepth 100000 in
theorem fm_rF_one {j k : Nat} (hj : j < 5) (hk : k < 64) (hf : fr j k < 24) (h : ct (fr j k) ≤ 1) : gM l yX2_resolveFault cX2_resolveFault 7 (some .int) 4 90 D cls (fpT cI cQ cZ) A (fpW ad cI cQ run mp fr kd wd ct af cf) [.ref (ad 0), .ref (ad (5 + 3 * j)), .int (nI k)] (some (.int 1)) (fpW ad cI cQ run mp fr (up1 kd j (upd (kd j) k (kd j k ^^^ 4))) wd ct (af + 1) cf) := by
  refine gM_of (by decide) (Nat.le_of_ble_eq_true rfl) ?_
  intro p e s m args below meth c ls hx hb hml hown hts hN hr hlk hl hG
  have hown : s.vm.findClass RX2 = some m.cls := hown
  have hl : lv_has ls 7 [(0, .ref (ad 0)), (1, .ref (ad (5 + 3 * j))), (2, .int (nI k))] := hl
  refine lv_aload_n hx hb dX2_resolveFault_0 rfl (lv_at hl 1 rfl) ?_
  refine g_getN (k := 2) (v := .ref (ad (6 + 3 * j))) (C := RX0) (ref := RX0) (fs := [.int (bI (run j)), .long (en (mp j)), .ref (ad (6 + 3 * j)), .ref (ad (7 + 3 * j))]) hx hb hown hts hN hG gX0 rfl (fp_5 (hj)) (by decide) t_25 rfl rfl dX2_resolveFault_1 ?_
  refine lv_iload_n hx hb dX2_resolveFault_4 rfl (lv_at hl 2 rfl) ?_
  refine g_iald (i := k) (t0 := 0) hx hb hG (fp_6 (hj)) rfl (hk) (by decide) dX2_resolveFault_5 ?_
  refine lv_istore_n (lv' := [(3, .int (nI (fr j k))), (0, .ref (ad 0)), (1, .ref (ad (5 + 3 * j))), (2, .int (nI k))]) hx hb dX2_resolveFault_6 rfl hl (by decide) rfl (fun ls hl => ?_)
  refine lv_aload_n hx hb dX2_resolveFault_7 rfl (lv_at hl 1 rfl) ?_
  refine g_get (k := 1) (v := .ref (ad 2)) (C := RX2) (ref := RX2) (fs := [.ref (ad 1), .ref (ad 2), .int af, .int cf]) hx hb hown hts hG gX2 rfl fp_0 (by decide) t_54 rfl rfl dX2_resolveFault_8 ?_
  refine g_getN (k := 1) (v := .ref (ad 4)) (C := RX1) (ref := RX1) (fs := [.ref (ad 3), .ref (ad 4)]) hx hb hown hts hN hG gX1 rfl fp_2 (by decide) t_47 rfl rfl dX2_resolveFault_11 ?_
  refine lv_iload_n hx hb dX2_resolveFault_14 rfl (lv_at hl 0 rfl) ?_
  refine g_iald (i := (fr j k)) (t0 := 0) hx hb hG fp_4 rfl (hf) (by decide) dX2_resolveFault_15 ?_
  refine lv_iconst (v := 1) hx hb dX2_resolveFault_16 (by decide) ?_
  refine lv_icmp_le (tgt := 24) hx hb dX2_resolveFault_17 rfl (fun _ => ?_) (fun hh => absurd (h) hh)
  refine lv_iconst (v := 0) hx hb dX2_resolveFault_24 (by decide) ?_
  refine lv_istore (lv' := [(4, .int 0), (3, .int (nI (fr j k))), (0, .ref (ad 0)), (1, .ref (ad (5 + 3 * j))), (2, .int (nI k))]) hx hb dX2_resolveFault_25 hl (by decide) rfl (fun ls hl => ?_)
  refine lv_iload hx hb dX2_resolveFault_27 (lv_at hl 0 rfl) ?_
  refine lv_if_eq (tgt := 43) hx hb dX2_resolveFault_29 rfl (fun _ => ?_) (fun hh => absurd (rfl) hh)
  refine lv_aload_n hx hb dX2_resolveFault_43 rfl (lv_at hl 2 rfl) ?_
  refine lv_dup hx hb dX2_resolveFault_44 rfl ?_
  refine g_get (k := 2) (v := .int af) (C := RX2) (ref := RX2) (fs := [.ref (ad 1), .ref (ad 2), .int af, .int cf]) hx hb hown hts hG gX2 rfl fp_0 (by decide) t_55 rfl rfl dX2_resolveFault_45 ?_
  refine lv_iconst (v := 1) hx hb dX2_resolveFault_48 (by decide) ?_
  refine lv_iadd hx hb dX2_resolveFault_49 ?_
  refine g_put (k := 2) (v := .int (af + 1)) (C := RX2) (ref := RX2) (ty := .int) (fs := [.ref (ad 1), .ref (ad 2), .int af, .int cf]) (ws' := fpW ad cI cQ run mp fr kd wd ct (af + 1) cf) tyX2 tyX2_ok nmX2 hx hb hown hts hG gX2 rfl fp_0 (by decide) t_55 rfl rfl (by decide +kernel) rfl rfl (Nat.le_of_ble_eq_true rfl) (fp_s0a _) dX2_resolveFault_50 (fun H locs hG => ?_)
  refine lv_aload_n hx hb dX2_resolveFault_53 rfl (lv_at hl 3 rfl) ?_
  refine lv_iconst (v := 4) hx hb dX2_resolveFault_54 (by decide) ?_
  refine lv_iload_n hx hb dX2_resolveFault_55 rfl (lv_at hl 4 rfl) ?_
  refine g_callVN (As := [.int 4, .int (nI k)]) (rest := []) (fs := [.int (bI (run j)), .long (en (mp j)), .ref (ad (6 + 3 * j)), .ref (ad (7 + 3 * j))]) (fm_turn hj hk) hx hb hml hown hts hN hG t_113 t_115 s_8 t_2 t_116 nm_X0_turn ⟨by decide, by decide⟩ (fp_5 (hj)) rfl hl.1 (Nat.le_of_ble_eq_true rfl) dX2_resolveFault_56 ⟨Nat.zero_le _, Nat.zero_le _⟩ (fun H locs hG => ?_)
  refine W.eq (g2 := F0 m 59 ls []) rfl ?_
  refine lv_iload hx hb dX2_resolveFault_59 (lv_at hl 0 rfl) ?_
  refine lv_if_ne (tgt := 66) hx hb dX2_resolveFault_61 rfl (fun hh => absurd (rfl) hh) (fun _ => ?_)
  refine lv_iconst (v := 1) hx hb dX2_resolveFault_64 (by decide) ?_
  exact g_iret hx hb hr hlk hG dX2_resolveFault_65
set_option maxHeartbeats 4000000 in
set_option maxRecDepth 100000 in
theorem fm_rF_two {j k : Nat} (hj : j < 5) (hk : k < 64) (hf : fr j k < 24) (h : ¬ ct (fr j k) ≤ 1) (hr0 : 1 ≤ frF run mp ct) : gM l yX2_resolveFault cX2_resolveFault 7 (some .int) 4 90 D cls (fpT cI cQ cZ) A (fpW ad cI cQ run mp fr kd wd ct af cf) [.ref (ad 0), .ref (ad (5 + 3 * j)), .int (nI k)] (some (.int 2)) (fpW ad cI cQ run (up1 (up1 mp j (up1 (mp j) k false)) j (up1 ((up1 mp j (up1 (mp j) k false)) j) k true)) (up1 fr j (up1 (fr j) k (unF ct 24))) (up1 (up1 kd j (upd (kd j) k (kd j k ^^^ 4))) j (upd ((up1 kd j (upd (kd j) k (kd j k ^^^ 4))) j) k ((up1 kd j (upd (kd j) k (kd j k ^^^ 4))) j k))) (cpW wd (fr j k) (unF ct 24)) (upd (upd ct (fr j k) (ct (fr j k) - 1)) (unF ct 24) ((upd ct (fr j k) (ct (fr j k) - 1)) (unF ct 24) + 1)) (af + 1) (cf + 1)) := by
  refine gM_of (by decide) (Nat.le_of_ble_eq_true rfl) ?_
  intro p e s m args below meth c ls hx hb hml hown hts hN hr hlk hl hG
  have hown : s.vm.findClass RX2 = some m.cls := hown
  have hl : lv_has ls 7 [(0, .ref (ad 0)), (1, .ref (ad (5 + 3 * j))), (2, .int (nI k))] := hl
  refine lv_aload_n hx hb dX2_resolveFault_0 rfl (lv_at hl 1 rfl) ?_
  refine g_getN (k := 2) (v := .ref (ad (6 + 3 * j))) (C := RX0) (ref := RX0) (fs := [.int (bI (run j)), .long (en (mp j)), .ref (ad (6 + 3 * j)), .ref (ad (7 + 3 * j))]) hx hb hown hts hN hG gX0 rfl (fp_5 (hj)) (by decide) t_25 rfl rfl dX2_resolveFault_1 ?_
  refine lv_iload_n hx hb dX2_resolveFault_4 rfl (lv_at hl 2 rfl) ?_
  refine g_iald (i := k) (t0 := 0) hx hb hG (fp_6 (hj)) rfl (hk) (by decide) dX2_resolveFault_5 ?_
  refine lv_istore_n (lv' := [(3, .int (nI (fr j k))), (0, .ref (ad 0)), (1, .ref (ad (5 + 3 * j))), (2, .int (nI k))]) hx hb dX2_resolveFault_6 rfl hl (by decide) rfl (fun ls hl => ?_)
  refine lv_aload_n hx hb dX2_resolveFault_7 rfl (lv_at hl 1 rfl) ?_
  refine g_get (k := 1) (v := .ref (ad 2)) (C := RX2) (ref := RX2) (fs := [.ref (ad 1), .ref (ad 2), .int af, .int cf]) hx hb hown hts hG gX2 rfl fp_0 (by decide) t_54 rfl rfl dX2_resolveFault_8 ?_
  refine g_getN (k := 1) (v := .ref (ad 4)) (C := RX1) (ref := RX1) (fs := [.ref (ad 3), .ref (ad 4)]) hx hb hown hts hN hG gX1 rfl fp_2 (by decide) t_47 rfl rfl dX2_resolveFault_11 ?_
  refine lv_iload_n hx hb dX2_resolveFault_14 rfl (lv_at hl 0 rfl) ?_
  refine g_iald (i := (fr j k)) (t0 := 0) hx hb hG fp_4 rfl (hf) (by decide) dX2_resolveFault_15 ?_
  refine lv_iconst (v := 1) hx hb dX2_resolveFault_16 (by decide) ?_
  refine lv_icmp_le (tgt := 24) hx hb dX2_resolveFault_17 rfl (fun hh => absurd hh (h)) (fun _ => ?_)
  refine lv_iconst (v := 1) hx hb dX2_resolveFault_20 (by decide) ?_
  refine lv_goto (tgt := 25) hx hb dX2_resolveFault_21 rfl ?_
  refine lv_istore (lv' := [(4, .int 1), (3, .int (nI (fr j k))), (0, .ref (ad 0)), (1, .ref (ad (5 + 3 * j))), (2, .int (nI k))]) hx hb dX2_resolveFault_25 hl (by decide) rfl (fun ls hl => ?_)
  refine lv_iload hx hb dX2_resolveFault_27 (lv_at hl 0 rfl) ?_
  refine lv_if_eq (tgt := 43) hx hb dX2_resolveFault_29 rfl (fun hh => absurd hh (by decide)) (fun _ => ?_)
  refine lv_aload_n hx hb dX2_resolveFault_32 rfl (lv_at hl 2 rfl) ?_
  refine g_callV (As := []) (rest := []) (fs := [.ref (ad 1), .ref (ad 2), .int af, .int cf]) (fm_freeFrames) hx hb hml hown hts hN hG t_74 t_76 s_1 t_1 t_77 nm_X2_freeFrames ⟨by decide, by decide⟩ fp_0 rfl hl.1 (Nat.le_of_ble_eq_true rfl) dX2_resolveFault_33 ⟨Nat.zero_le _, Nat.zero_le _⟩ (fun H locs hG => ?_)
  refine W.eq (g2 := F0 m 36 ls [.int (frF run mp ct)]) rfl ?_
  refine lv_iconst (v := 1) hx hb dX2_resolveFault_36 (by decide) ?_
  refine lv_icmp_ge (tgt := 43) hx hb dX2_resolveFault_37 rfl (fun _ => ?_) (fun hh => absurd (hr0) hh)
  refine lv_aload_n hx hb dX2_resolveFault_43 rfl (lv_at hl 2 rfl) ?_
  refine lv_dup hx hb dX2_resolveFault_44 rfl ?_
  refine g_get (k := 2) (v := .int af) (C := RX2) (ref := RX2) (fs := [.ref (ad 1), .ref (ad 2), .int af, .int cf]) hx hb hown hts hG gX2 rfl fp_0 (by decide) t_55 rfl rfl dX2_resolveFault_45 ?_
  refine lv_iconst (v := 1) hx hb dX2_resolveFault_48 (by decide) ?_
  refine lv_iadd hx hb dX2_resolveFault_49 ?_
  refine g_put (k := 2) (v := .int (af + 1)) (C := RX2) (ref := RX2) (ty := .int) (fs := [.ref (ad 1), .ref (ad 2), .int af, .int cf]) (ws' := fpW ad cI cQ run mp fr kd wd ct (af + 1) cf) tyX2 tyX2_ok nmX2 hx hb hown hts hG gX2 rfl fp_0 (by decide) t_55 rfl rfl (by decide +kernel) rfl rfl (Nat.le_of_ble_eq_true rfl) (fp_s0a _) dX2_resolveFault_50 (fun H locs hG => ?_)
  refine lv_aload_n hx hb dX2_resolveFault_53 rfl (lv_at hl 3 rfl) ?_
  refine lv_iconst (v := 4) hx hb dX2_resolveFault_54 (by decide) ?_
  refine lv_iload_n hx hb dX2_resolveFault_55 rfl (lv_at hl 4 rfl) ?_
  refine g_callVN (As := [.int 4, .int (nI k)]) (rest := []) (fs := [.int (bI (run j)), .long (en (mp j)), .ref (ad (6 + 3 * j)), .ref (ad (7 + 3 * j))]) (fm_turn hj hk) hx hb hml hown hts hN hG t_113 t_115 s_8 t_2 t_116 nm_X0_turn ⟨by decide, by decide⟩ (fp_5 (hj)) rfl hl.1 (Nat.le_of_ble_eq_true rfl) dX2_resolveFault_56 ⟨Nat.zero_le _, Nat.zero_le _⟩ (fun H locs hG => ?_)
  refine W.eq (g2 := F0 m 59 ls []) rfl ?_
  refine lv_iload hx hb dX2_resolveFault_59 (lv_at hl 0 rfl) ?_
  refine lv_if_ne (tgt := 66) hx hb dX2_resolveFault_61 rfl (fun _ => ?_) (fun hh => absurd hh (by decide))
  refine lv_aload_n hx hb dX2_resolveFault_66 rfl (lv_at hl 2 rfl) ?_
  refine lv_dup hx hb dX2_resolveFault_67 rfl ?_
  refine g_get (k := 3) (v := .int cf) (C := RX2) (ref := RX2) (fs := [.ref (ad 1), .ref (ad 2), .int (af + 1), .int cf]) hx hb hown hts hG gX2 rfl fp_0 (by decide) t_56 rfl rfl dX2_resolveFault_68 ?_
  refine lv_iconst (v := 1) hx hb dX2_resolveFault_71 (by decide) ?_
  refine lv_iadd hx hb dX2_resolveFault_72 ?_
  refine g_put (k := 3) (v := .int (cf + 1)) (C := RX2) (ref := RX2) (ty := .int) (fs := [.ref (ad 1), .ref (ad 2), .int (af + 1), .int cf]) (ws' := fpW ad cI cQ run mp fr (up1 kd j (upd (kd j) k (kd j k ^^^ 4))) wd ct (af + 1) (cf + 1)) tyX2 tyX2_ok nmX2 hx hb hown hts hG gX2 rfl fp_0 (by decide) t_56 rfl rfl (by decide +kernel) rfl rfl (Nat.le_of_ble_eq_true rfl) (fp_s0c _) dX2_resolveFault_73 (fun H locs hG => ?_)
  refine lv_aload_n hx hb dX2_resolveFault_76 rfl (lv_at hl 2 rfl) ?_
  refine g_get (k := 1) (v := .ref (ad 2)) (C := RX2) (ref := RX2) (fs := [.ref (ad 1), .ref (ad 2), .int (af + 1), .int (cf + 1)]) hx hb hown hts hG gX2 rfl fp_0 (by decide) t_54 rfl rfl dX2_resolveFault_77 ?_
  refine g_callVN (As := []) (rest := []) (fs := [.ref (ad 3), .ref (ad 4)]) (fm_unusedFrame) hx hb hml hown hts hN hG t_149 t_151 s_14 t_3 t_152 nm_X1_unusedFrame ⟨by decide, by decide⟩ fp_2 rfl hl.1 (Nat.le_of_ble_eq_true rfl) dX2_resolveFault_80 ⟨Nat.zero_le _, Nat.zero_le _⟩ (fun H locs hG => ?_)
  refine W.eq (g2 := F0 m 83 ls [.int (nI (unF ct 24))]) rfl ?_
  refine lv_istore (lv' := [(5, .int (nI (unF ct 24))), (4, .int 1), (3, .int (nI (fr j k))), (0, .ref (ad 0)), (1, .ref (ad (5 + 3 * j))), (2, .int (nI k))]) hx hb dX2_resolveFault_83 hl (by decide) rfl (fun ls hl => ?_)
  refine lv_aload_n hx hb dX2_resolveFault_85 rfl (lv_at hl 3 rfl) ?_
  refine g_get (k := 1) (v := .ref (ad 2)) (C := RX2) (ref := RX2) (fs := [.ref (ad 1), .ref (ad 2), .int (af + 1), .int (cf + 1)]) hx hb hown hts hG gX2 rfl fp_0 (by decide) t_54 rfl rfl dX2_resolveFault_86 ?_
  refine lv_iload_n hx hb dX2_resolveFault_89 rfl (lv_at hl 2 rfl) ?_
  refine lv_iload hx hb dX2_resolveFault_90 (lv_at hl 0 rfl) ?_
  refine g_callVN (As := [.int (nI (fr j k)), .int (nI (unF ct 24))]) (rest := []) (fs := [.ref (ad 3), .ref (ad 4)]) (fm_copy hf (unF_lt ct 24 (by decide))) hx hb hml hown hts hN hG t_185 t_187 s_19 t_3 t_188 nm_X1_copy ⟨by decide, by decide⟩ fp_2 rfl hl.1 (Nat.le_of_ble_eq_true rfl) dX2_resolveFault_92 ⟨Nat.zero_le _, Nat.zero_le _⟩ (fun H locs hG => ?_)
  refine W.eq (g2 := F0 m 95 ls []) rfl ?_
  refine lv_aload_n hx hb dX2_resolveFault_95 rfl (lv_at hl 4 rfl) ?_
  refine g_getN (k := 3) (v := .ref (ad (7 + 3 * j))) (C := RX0) (ref := RX0) (fs := [.int (bI (run j)), .long (en (mp j)), .ref (ad (6 + 3 * j)), .ref (ad (7 + 3 * j))]) hx hb hown hts hN hG gX0 rfl (fp_5 (hj)) (by decide) t_27 rfl rfl dX2_resolveFault_96 ?_
  refine lv_iload_n hx hb dX2_resolveFault_99 rfl (lv_at hl 5 rfl) ?_
  refine g_iald (i := k) (t0 := 0) hx hb hG (fp_7 (hj)) rfl (hk) (by decide) dX2_resolveFault_100 ?_
  refine lv_istore (lv' := [(6, .int ((up1 kd j (upd (kd j) k (kd j k ^^^ 4))) j k)), (5, .int (nI (unF ct 24))), (4, .int 1), (3, .int (nI (fr j k))), (0, .ref (ad 0)), (1, .ref (ad (5 + 3 * j))), (2, .int (nI k))]) hx hb dX2_resolveFault_101 hl (by decide) rfl (fun ls hl => ?_)
  refine lv_aload_n hx hb dX2_resolveFault_103 rfl (lv_at hl 4 rfl) ?_
  refine lv_aload_n hx hb dX2_resolveFault_104 rfl (lv_at hl 5 rfl) ?_
  refine lv_iload_n hx hb dX2_resolveFault_105 rfl (lv_at hl 6 rfl) ?_
  refine g_callV (As := [.ref (ad (5 + 3 * j)), .int (nI k)]) (rest := []) (fs := [.ref (ad 1), .ref (ad 2), .int (af + 1), .int (cf + 1)]) (fm_endMapping hj hk hf) hx hb hml hown hts hN hG t_129 t_131 s_11 t_1 t_132 nm_X2_endMapping ⟨by decide, by decide⟩ fp_0 rfl hl.1 (Nat.le_of_ble_eq_true rfl) dX2_resolveFault_106 ⟨Nat.zero_le _, Nat.zero_le _⟩ (fun H locs hG => ?_)
  refine W.eq (g2 := F0 m 109 ls []) rfl ?_
  refine lv_aload_n hx hb dX2_resolveFault_109 rfl (lv_at hl 4 rfl) ?_
  refine lv_aload_n hx hb dX2_resolveFault_110 rfl (lv_at hl 5 rfl) ?_
  refine lv_iload_n hx hb dX2_resolveFault_111 rfl (lv_at hl 6 rfl) ?_
  refine lv_iload hx hb dX2_resolveFault_112 (lv_at hl 1 rfl) ?_
  refine lv_iload hx hb dX2_resolveFault_114 (lv_at hl 0 rfl) ?_
  refine g_callV (As := [.ref (ad (5 + 3 * j)), .int (nI k), .int (nI (unF ct 24)), .int ((up1 kd j (upd (kd j) k (kd j k ^^^ 4))) j k)]) (rest := []) (fs := [.ref (ad 1), .ref (ad 2), .int (af + 1), .int (cf + 1)]) (fm_startMapping hj hk (unF_lt ct 24 (by decide))) hx hb hml hown hts hN hG t_117 t_119 s_9 t_1 t_120 nm_X2_startMapping ⟨by decide, by decide⟩ fp_0 rfl hl.1 (Nat.le_of_ble_eq_true rfl) dX2_resolveFault_116 ⟨Nat.zero_le _, Nat.zero_le _⟩ (fun H locs hG => ?_)
  refine W.eq (g2 := F0 m 119 ls []) rfl ?_
  refine lv_iconst (v := 2) hx hb dX2_resolveFault_119 (by decide) ?_
  exact g_iret hx hb hr hlk hG dX2_resolveFault_120
end CM
