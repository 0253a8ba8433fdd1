section CM
variable {l : Launch} {D : va_G} {A : Nat → Prop} {bd : Nat → Nat} {cI cQ cZ : ClassId} {run : Nat → Bool} {fm : Nat → Nat} {cm wr mk : Nat → Bool} {wo : Nat → Int32} {fc cc : Int32}
set_option maxHeartbeats 4000000 in
set_option maxRecDepth 100000 in
theorem rp_spawn_full (h : ∀ i, i < 5 → run i = true) : gM l yX3_spawn cX3_spawn 2 (some .int) 3 70 D cls (fpT cI cQ cZ) A (rfW bd cI cZ run fm cm wr mk wo fc cc) [.ref (bd 0)] (some (.int (-7))) (rfW bd cI cZ run fm cm wr mk wo fc cc) := by
  refine gM_of (by decide) (Nat.le_of_ble_eq_true rfl) ?_
  intro p e s m args below meth c ls hx hb hml hown hts hN hr hlk hl hG
  have hown : s.vm.findClass RX3 = some m.cls := hown
  have hl : lv_has ls 2 [(0, .ref (bd 0))] := hl
  refine lv_aload_n hx hb dX3_spawn_0 rfl (lv_at hl 0 rfl) ?_
  refine g_callV (As := []) (rest := []) (fs := [.ref (bd 1), .ref (bd 2), .ref (bd 3), .ref (bd 4), .ref (bd 5), .ref (bd 6), .int fc, .int cc]) (rm_idle (j := 5) (Nat.le_refl 5) (Or.inl rfl) h) hx hb hml hown hts hN hG t_284 t_286 s_23 t_4 t_287 nm_X3_idle ⟨by decide, by decide⟩ rf_0 rfl hl.1 (Nat.le_of_ble_eq_true rfl) dX3_spawn_1 ⟨Nat.zero_le _, Nat.zero_le _⟩ (fun H locs hG => ?_)
  refine W.eq (g2 := F0 m 4 ls [.int (nI 5)]) rfl ?_
  refine lv_istore_n (lv' := [(1, .int (nI 5)), (0, .ref (bd 0))]) hx hb dX3_spawn_4 rfl hl (by decide) rfl (fun ls hl => ?_)
  refine lv_iload_n hx hb dX3_spawn_5 rfl (lv_at hl 0 rfl) ?_
  refine lv_iconst (v := nI 5) hx hb dX3_spawn_6 (by decide) ?_
  refine lv_icmp_ne (tgt := 13) hx hb dX3_spawn_7 rfl (fun hh => absurd (rfl) hh) (fun _ => ?_)
  refine lv_bipush (v := (-7)) hx hb dX3_spawn_10 (by decide) ?_
  exact g_iret hx hb hr hlk hG dX3_spawn_12
set_option maxHeartbeats 4000000 in
set_option maxRecDepth 100000 in
theorem rp_spawn_room {j : Nat} (hj : j < 5) (h : run j = false) (hm : ∀ i, i < j → run i = true) (hB : ∀ i, fm i ≤ 24) (h2 : ¬ nI 1 ≤ frR run fm) : gM l yX3_spawn cX3_spawn 2 (some .int) 3 70 D cls (fpT cI cQ cZ) A (rfW bd cI cZ run fm cm wr mk wo fc cc) [.ref (bd 0)] (some (.int (-8))) (rfW bd cI cZ run fm cm wr mk wo fc cc) := by
  refine gM_of (by decide) (Nat.le_of_ble_eq_true rfl) ?_
  intro p e s m args below meth c ls hx hb hml hown hts hN hr hlk hl hG
  have hown : s.vm.findClass RX3 = some m.cls := hown
  have hl : lv_has ls 2 [(0, .ref (bd 0))] := hl
  refine lv_aload_n hx hb dX3_spawn_0 rfl (lv_at hl 0 rfl) ?_
  refine g_callV (As := []) (rest := []) (fs := [.ref (bd 1), .ref (bd 2), .ref (bd 3), .ref (bd 4), .ref (bd 5), .ref (bd 6), .int fc, .int cc]) (rm_idle (Nat.le_of_lt hj) (Or.inr h) hm) hx hb hml hown hts hN hG t_284 t_286 s_23 t_4 t_287 nm_X3_idle ⟨by decide, by decide⟩ rf_0 rfl hl.1 (Nat.le_of_ble_eq_true rfl) dX3_spawn_1 ⟨Nat.zero_le _, Nat.zero_le _⟩ (fun H locs hG => ?_)
  refine W.eq (g2 := F0 m 4 ls [.int (nI j)]) rfl ?_
  refine lv_istore_n (lv' := [(1, .int (nI j)), (0, .ref (bd 0))]) hx hb dX3_spawn_4 rfl hl (by decide) rfl (fun ls hl => ?_)
  refine lv_iload_n hx hb dX3_spawn_5 rfl (lv_at hl 0 rfl) ?_
  refine lv_iconst (v := nI 5) hx hb dX3_spawn_6 (by decide) ?_
  refine lv_icmp_ne (tgt := 13) hx hb dX3_spawn_7 rfl (fun _ => ?_) (fun hh => absurd hh (fun q => absurd ((nI_eq (by omega) (by omega)).mp q) (by omega)))
  refine lv_aload_n hx hb dX3_spawn_13 rfl (lv_at hl 1 rfl) ?_
  refine g_callV (As := []) (rest := []) (fs := [.ref (bd 1), .ref (bd 2), .ref (bd 3), .ref (bd 4), .ref (bd 5), .ref (bd 6), .int fc, .int cc]) (rm_free hB) hx hb hml hown hts hN hG t_288 t_265 t_266 t_4 t_267 nm_X3_free ⟨by decide, by decide⟩ rf_0 rfl hl.1 (Nat.le_of_ble_eq_true rfl) dX3_spawn_14 ⟨Nat.zero_le _, Nat.zero_le _⟩ (fun H locs hG => ?_)
  refine W.eq (g2 := F0 m 17 ls [.int (frR run fm)]) rfl ?_
  refine lv_iconst (v := nI 1) hx hb dX3_spawn_17 (by decide) ?_
  refine lv_icmp_ge (tgt := 24) hx hb dX3_spawn_18 rfl (fun hh => absurd hh (h2)) (fun _ => ?_)
  refine lv_bipush (v := (-8)) hx hb dX3_spawn_21 (by decide) ?_
  exact g_iret hx hb hr hlk hG dX3_spawn_23
set_option maxHeartbeats 4000000 in
set_option maxRecDepth 100000 in
theorem rp_spawn_ok {j : Nat} (hj : j < 5) (h : run j = false) (hm : ∀ i, i < j → run i = true) (hB : ∀ i, fm i ≤ 24) (h2 : nI 1 ≤ frR run fm) : gM l yX3_spawn cX3_spawn 2 (some .int) 3 70 D cls (fpT cI cQ cZ) A (rfW bd cI cZ run fm cm wr mk wo fc cc) [.ref (bd 0)] (some (.int (nI j))) (rfW bd cI cZ (up1 run j true) fm cm wr mk wo fc cc) := by
  refine gM_of (by decide) (Nat.le_of_ble_eq_true rfl) ?_
  intro p e s m args below meth c ls hx hb hml hown hts hN hr hlk hl hG
  have hown : s.vm.findClass RX3 = some m.cls := hown
  have hl : lv_has ls 2 [(0, .ref (bd 0))] := hl
  refine lv_aload_n hx hb dX3_spawn_0 rfl (lv_at hl 0 rfl) ?_
  refine g_callV (As := []) (rest := []) (fs := [.ref (bd 1), .ref (bd 2), .ref (bd 3), .ref (bd 4), .ref (bd 5), .ref (bd 6), .int fc, .int cc]) (rm_idle (Nat.le_of_lt hj) (Or.inr h) hm) hx hb hml hown hts hN hG t_284 t_286 s_23 t_4 t_287 nm_X3_idle ⟨by decide, by decide⟩ rf_0 rfl hl.1 (Nat.le_of_ble_eq_true rfl) dX3_spawn_1 ⟨Nat.zero_le _, Nat.zero_le _⟩ (fun H locs hG => ?_)
  refine W.eq (g2 := F0 m 4 ls [.int (nI j)]) rfl ?_
  refine lv_istore_n (lv' := [(1, .int (nI j)), (0, .ref (bd 0))]) hx hb dX3_spawn_4 rfl hl (by decide) rfl (fun ls hl => ?_)
  refine lv_iload_n hx hb dX3_spawn_5 rfl (lv_at hl 0 rfl) ?_
  refine lv_iconst (v := nI 5) hx hb dX3_spawn_6 (by decide) ?_
  refine lv_icmp_ne (tgt := 13) hx hb dX3_spawn_7 rfl (fun _ => ?_) (fun hh => absurd hh (fun q => absurd ((nI_eq (by omega) (by omega)).mp q) (by omega)))
  refine lv_aload_n hx hb dX3_spawn_13 rfl (lv_at hl 1 rfl) ?_
  refine g_callV (As := []) (rest := []) (fs := [.ref (bd 1), .ref (bd 2), .ref (bd 3), .ref (bd 4), .ref (bd 5), .ref (bd 6), .int fc, .int cc]) (rm_free hB) hx hb hml hown hts hN hG t_288 t_265 t_266 t_4 t_267 nm_X3_free ⟨by decide, by decide⟩ rf_0 rfl hl.1 (Nat.le_of_ble_eq_true rfl) dX3_spawn_14 ⟨Nat.zero_le _, Nat.zero_le _⟩ (fun H locs hG => ?_)
  refine W.eq (g2 := F0 m 17 ls [.int (frR run fm)]) rfl ?_
  refine lv_iconst (v := nI 1) hx hb dX3_spawn_17 (by decide) ?_
  refine lv_icmp_ge (tgt := 24) hx hb dX3_spawn_18 rfl (fun _ => ?_) (fun hh => absurd (h2) hh)
  refine lv_aload_n hx hb dX3_spawn_24 rfl (lv_at hl 1 rfl) ?_
  refine g_get (k := 0) (v := .ref (bd 1)) (C := RX3) (ref := RX3) (fs := [.ref (bd 1), .ref (bd 2), .ref (bd 3), .ref (bd 4), .ref (bd 5), .ref (bd 6), .int fc, .int cc]) hx hb hown hts hG gX3 rfl rf_0 (by decide) t_238 rfl rfl dX3_spawn_25 ?_
  refine lv_iload_n hx hb dX3_spawn_28 rfl (lv_at hl 0 rfl) ?_
  refine lv_iconst (v := bI true) hx hb dX3_spawn_29 (by decide) ?_
  refine g_zast (i := j) (x := bI true) (t0 := 2) (ws' := rfW bd cI cZ (up1 run j true) fm cm wr mk wo fc cc) hx hb hG rf_1 rfl (hj) (by decide) (nar_bI true) (rf_s1 j true) dX3_spawn_30 (fun H locs hG => ?_)
  refine lv_iload_n hx hb dX3_spawn_31 rfl (lv_at hl 0 rfl) ?_
  exact g_iret hx hb hr hlk hG dX3_spawn_32
def rkS (j n : Nat) (fm : Nat → Nat) (cm wr mk : Nat → Bool) : Nat → (Nat → Nat) × (Nat → Bool) × (Nat → Bool) × (Nat → Bool)
  | 0 => (fm, cm, wr, mk)
  | i + 1 =>
    (up1 (rkS j n fm cm wr mk i).1 (64 * n + i) ((rkS j n fm cm wr mk i).1 (64 * j + i)),
     up1 (rkS j n fm cm wr mk i).2.1 (64 * n + i) ((rkS j n fm cm wr mk i).2.1 (64 * j + i)),
     up1 (rkS j n fm cm wr mk i).2.2.1 (64 * n + i) ((rkS j n fm cm wr mk i).2.2.1 (64 * j + i)),
     up1 (up1 (rkS j n fm cm wr mk i).2.2.2 (64 * j + i) ((rkS j n fm cm wr mk i).2.2.2 (64 * j + i) || (decide (0 < (rkS j n fm cm wr mk i).1 (64 * j + i)) && !(rkS j n fm cm wr mk i).2.1 (64 * j + i)))) (64 * n + i) (up1 (rkS j n fm cm wr mk i).2.2.2 (64 * j + i) ((rkS j n fm cm wr mk i).2.2.2 (64 * j + i) || (decide (0 < (rkS j n fm cm wr mk i).1 (64 * j + i)) && !(rkS j n fm cm wr mk i).2.1 (64 * j + i))) (64 * j + i)))
set_option maxHeartbeats 4000000 in
set_option maxRecDepth 100000 in
theorem rp_fork_1 {x : Int32} (h : ¬ rn run x) : gM l yX3_fork cX3_fork 6 (some .int) 3 70 D cls (fpT cI cQ cZ) A (rfW bd cI cZ run fm cm wr mk wo fc cc) [.ref (bd 0), .int x] (some (.int (-1))) (rfW bd cI cZ run fm cm wr mk wo fc cc) := by
  refine gM_of (by decide) (Nat.le_of_ble_eq_true rfl) ?_
  intro p e s m args below meth c ls hx hb hml hown hts hN hr hlk hl hG
  have hown : s.vm.findClass RX3 = some m.cls := hown
  have hl : lv_has ls 6 [(0, .ref (bd 0)), (1, .int x)] := hl
  refine lv_aload_n hx hb dX3_fork_0 rfl (lv_at hl 0 rfl) ?_
  refine lv_iload_n hx hb dX3_fork_1 rfl (lv_at hl 1 rfl) ?_
  refine g_callV (As := [.int x]) (rest := []) (fs := [.ref (bd 1), .ref (bd 2), .ref (bd 3), .ref (bd 4), .ref (bd 5), .ref (bd 6), .int fc, .int cc]) (rm_away_n h) hx hb hml hown hts hN hG t_293 t_295 s_24 t_4 t_296 nm_X3_away ⟨by decide, by decide⟩ rf_0 rfl hl.1 (Nat.le_of_ble_eq_true rfl) dX3_fork_2 ⟨Nat.zero_le _, Nat.zero_le _⟩ (fun H locs hG => ?_)
  refine W.eq (g2 := F0 m 5 ls [.int 1]) rfl ?_
  refine lv_if_eq (tgt := 10) hx hb dX3_fork_5 rfl (fun hh => absurd hh (by decide)) (fun _ => ?_)
  refine lv_iconst (v := (-1)) hx hb dX3_fork_8 (by decide) ?_
  exact g_iret hx hb hr hlk hG dX3_fork_9
set_option maxHeartbeats 4000000 in
set_option maxRecDepth 100000 in
theorem rp_fork_full {j : Nat} (hj : j < 5) (h : run j = true) (hm : ∀ i, i < 5 → run i = true) : gM l yX3_fork cX3_fork 6 (some .int) 3 70 D cls (fpT cI cQ cZ) A (rfW bd cI cZ run fm cm wr mk wo fc cc) [.ref (bd 0), .int (nI j)] (some (.int (-7))) (rfW bd cI cZ run fm cm wr mk wo fc cc) := by
  refine gM_of (by decide) (Nat.le_of_ble_eq_true rfl) ?_
  intro p e s m args below meth c ls hx hb hml hown hts hN hr hlk hl hG
  have hown : s.vm.findClass RX3 = some m.cls := hown
  have hl : lv_has ls 6 [(0, .ref (bd 0)), (1, .int (nI j))] := hl
  refine lv_aload_n hx hb dX3_fork_0 rfl (lv_at hl 0 rfl) ?_
  refine lv_iload_n hx hb dX3_fork_1 rfl (lv_at hl 1 rfl) ?_
  refine g_callV (As := [.int (nI j)]) (rest := []) (fs := [.ref (bd 1), .ref (bd 2), .ref (bd 3), .ref (bd 4), .ref (bd 5), .ref (bd 6), .int fc, .int cc]) (rm_away_t hj h) hx hb hml hown hts hN hG t_293 t_295 s_24 t_4 t_296 nm_X3_away ⟨by decide, by decide⟩ rf_0 rfl hl.1 (Nat.le_of_ble_eq_true rfl) dX3_fork_2 ⟨Nat.zero_le _, Nat.zero_le _⟩ (fun H locs hG => ?_)
  refine W.eq (g2 := F0 m 5 ls [.int 0]) rfl ?_
  refine lv_if_eq (tgt := 10) hx hb dX3_fork_5 rfl (fun _ => ?_) (fun hh => absurd (rfl) hh)
  refine lv_aload_n hx hb dX3_fork_10 rfl (lv_at hl 0 rfl) ?_
  refine g_callV (As := []) (rest := []) (fs := [.ref (bd 1), .ref (bd 2), .ref (bd 3), .ref (bd 4), .ref (bd 5), .ref (bd 6), .int fc, .int cc]) (rm_idle (j := 5) (Nat.le_refl 5) (Or.inl rfl) hm) hx hb hml hown hts hN hG t_284 t_286 s_23 t_4 t_287 nm_X3_idle ⟨by decide, by decide⟩ rf_0 rfl hl.1 (Nat.le_of_ble_eq_true rfl) dX3_fork_11 ⟨Nat.zero_le _, Nat.zero_le _⟩ (fun H locs hG => ?_)
  refine W.eq (g2 := F0 m 14 ls [.int (nI 5)]) rfl ?_
  refine lv_istore_n (lv' := [(2, .int (nI 5)), (0, .ref (bd 0)), (1, .int (nI j))]) hx hb dX3_fork_14 rfl hl (by decide) rfl (fun ls hl => ?_)
  refine lv_iload_n hx hb dX3_fork_15 rfl (lv_at hl 0 rfl) ?_
  refine lv_iconst (v := nI 5) hx hb dX3_fork_16 (by decide) ?_
  refine lv_icmp_ne (tgt := 23) hx hb dX3_fork_17 rfl (fun hh => absurd (rfl) hh) (fun _ => ?_)
  refine lv_bipush (v := (-7)) hx hb dX3_fork_20 (by decide) ?_
  exact g_iret hx hb hr hlk hG dX3_fork_22
set_option maxHeartbeats 4000000 in
set_option maxRecDepth 100000 in
theorem rp_fork_room {j n : Nat} (hj : j < 5) (h : run j = true) (hn : n < 5) (hn0 : run n = false) (hm : ∀ i, i < n → run i = true) (hB : ∀ i, fm i ≤ 24) (h2 : ¬ nI (tbN (pgS fm j)) ≤ frR run fm) : gM l yX3_fork cX3_fork 6 (some .int) 3 70 D cls (fpT cI cQ cZ) A (rfW bd cI cZ run fm cm wr mk wo fc cc) [.ref (bd 0), .int (nI j)] (some (.int (-8))) (rfW bd cI cZ run fm cm wr mk wo fc cc) := by
  refine gM_of (by decide) (Nat.le_of_ble_eq_true rfl) ?_
  intro p e s m args below meth c ls hx hb hml hown hts hN hr hlk hl hG
  have hown : s.vm.findClass RX3 = some m.cls := hown
  have hl : lv_has ls 6 [(0, .ref (bd 0)), (1, .int (nI j))] := hl
  refine lv_aload_n hx hb dX3_fork_0 rfl (lv_at hl 0 rfl) ?_
  refine lv_iload_n hx hb dX3_fork_1 rfl (lv_at hl 1 rfl) ?_
  refine g_callV (As := [.int (nI j)]) (rest := []) (fs := [.ref (bd 1), .ref (bd 2), .ref (bd 3), .ref (bd 4), .ref (bd 5), .ref (bd 6), .int fc, .int cc]) (rm_away_t hj h) hx hb hml hown hts hN hG t_293 t_295 s_24 t_4 t_296 nm_X3_away ⟨by decide, by decide⟩ rf_0 rfl hl.1 (Nat.le_of_ble_eq_true rfl) dX3_fork_2 ⟨Nat.zero_le _, Nat.zero_le _⟩ (fun H locs hG => ?_)
  refine W.eq (g2 := F0 m 5 ls [.int 0]) rfl ?_
  refine lv_if_eq (tgt := 10) hx hb dX3_fork_5 rfl (fun _ => ?_) (fun hh => absurd (rfl) hh)
  refine lv_aload_n hx hb dX3_fork_10 rfl (lv_at hl 0 rfl) ?_
  refine g_callV (As := []) (rest := []) (fs := [.ref (bd 1), .ref (bd 2), .ref (bd 3), .ref (bd 4), .ref (bd 5), .ref (bd 6), .int fc, .int cc]) (rm_idle (Nat.le_of_lt hn) (Or.inr hn0) hm) hx hb hml hown hts hN hG t_284 t_286 s_23 t_4 t_287 nm_X3_idle ⟨by decide, by decide⟩ rf_0 rfl hl.1 (Nat.le_of_ble_eq_true rfl) dX3_fork_11 ⟨Nat.zero_le _, Nat.zero_le _⟩ (fun H locs hG => ?_)
  refine W.eq (g2 := F0 m 14 ls [.int (nI n)]) rfl ?_
  refine lv_istore_n (lv' := [(2, .int (nI n)), (0, .ref (bd 0)), (1, .int (nI j))]) hx hb dX3_fork_14 rfl hl (by decide) rfl (fun ls hl => ?_)
  refine lv_iload_n hx hb dX3_fork_15 rfl (lv_at hl 0 rfl) ?_
  refine lv_iconst (v := nI 5) hx hb dX3_fork_16 (by decide) ?_
  refine lv_icmp_ne (tgt := 23) hx hb dX3_fork_17 rfl (fun _ => ?_) (fun hh => absurd hh (fun q => absurd ((nI_eq (by omega) (by omega)).mp q) (by omega)))
  refine lv_aload_n hx hb dX3_fork_23 rfl (lv_at hl 1 rfl) ?_
  refine g_callV (As := []) (rest := []) (fs := [.ref (bd 1), .ref (bd 2), .ref (bd 3), .ref (bd 4), .ref (bd 5), .ref (bd 6), .int fc, .int cc]) (rm_free hB) hx hb hml hown hts hN hG t_288 t_265 t_266 t_4 t_267 nm_X3_free ⟨by decide, by decide⟩ rf_0 rfl hl.1 (Nat.le_of_ble_eq_true rfl) dX3_fork_24 ⟨Nat.zero_le _, Nat.zero_le _⟩ (fun H locs hG => ?_)
  refine W.eq (g2 := F0 m 27 ls [.int (frR run fm)]) rfl ?_
  refine lv_aload_n hx hb dX3_fork_27 rfl (lv_at hl 1 rfl) ?_
  refine lv_iload_n hx hb dX3_fork_28 rfl (lv_at hl 2 rfl) ?_
  refine g_callV (As := [.int (nI j)]) (rest := [.int (frR run fm)]) (fs := [.ref (bd 1), .ref (bd 2), .ref (bd 3), .ref (bd 4), .ref (bd 5), .ref (bd 6), .int fc, .int cc]) (rm_tablesOf hj hB) hx hb hml hown hts hN hG t_272 t_274 s_21 t_4 t_275 nm_X3_tablesOf ⟨by decide, by decide⟩ rf_0 rfl hl.1 (Nat.le_of_ble_eq_true rfl) dX3_fork_29 ⟨Nat.zero_le _, Nat.zero_le _⟩ (fun H locs hG => ?_)
  refine W.eq (g2 := F0 m 32 ls [.int (nI (tbN (pgS fm j))), .int (frR run fm)]) rfl ?_
  refine lv_icmp_ge (tgt := 38) hx hb dX3_fork_32 rfl (fun hh => absurd hh (h2)) (fun _ => ?_)
  refine lv_bipush (v := (-8)) hx hb dX3_fork_35 (by decide) ?_
  exact g_iret hx hb hr hlk hG dX3_fork_37
theorem rkS_le {j n : Nat} {fm : Nat → Nat} {cm wr mk : Nat → Bool} (hB : ∀ i, fm i ≤ 24) : ∀ i x, (rkS j n fm cm wr mk i).1 x ≤ 24
  | 0, x => hB x
  | i + 1, x => by
    show up1 (rkS j n fm cm wr mk i).1 (64 * n + i) ((rkS j n fm cm wr mk i).1 (64 * j + i)) x ≤ 24
    by_cases h : x = 64 * n + i
    · subst h; rw [up1_s]; exact rkS_le hB i _
    · rw [up1_n h]; exact rkS_le hB i x
set_option maxHeartbeats 4000000 in
set_option maxRecDepth 100000 in
theorem rp_fork_ok {j n : Nat} (hj : j < 5) (h : run j = true) (hn : n < 5) (hn0 : run n = false) (hm : ∀ i, i < n → run i = true) (hB : ∀ i, fm i ≤ 24) (h2 : nI (tbN (pgS fm j)) ≤ frR run fm) : gM l yX3_fork cX3_fork 6 (some .int) 3 70 D cls (fpT cI cQ cZ) A (rfW bd cI cZ run fm cm wr mk wo fc cc) [.ref (bd 0), .int (nI j)] (some (.int (nI n))) (rfW bd cI cZ (up1 run n true) ((rkS j n fm cm wr mk 64).1) ((rkS j n fm cm wr mk 64).2.1) ((rkS j n fm cm wr mk 64).2.2.1) ((rkS j n fm cm wr mk 64).2.2.2) wo fc cc) := by
  refine gM_of (by decide) (Nat.le_of_ble_eq_true rfl) ?_
  intro p e s m args below meth c ls hx hb hml hown hts hN hr hlk hl hG
  have hown : s.vm.findClass RX3 = some m.cls := hown
  have hl : lv_has ls 6 [(0, .ref (bd 0)), (1, .int (nI j))] := hl
  refine lv_aload_n hx hb dX3_fork_0 rfl (lv_at hl 0 rfl) ?_
  refine lv_iload_n hx hb dX3_fork_1 rfl (lv_at hl 1 rfl) ?_
  refine g_callV (As := [.int (nI j)]) (rest := []) (fs := [.ref (bd 1), .ref (bd 2), .ref (bd 3), .ref (bd 4), .ref (bd 5), .ref (bd 6), .int fc, .int cc]) (rm_away_t hj h) hx hb hml hown hts hN hG t_293 t_295 s_24 t_4 t_296 nm_X3_away ⟨by decide, by decide⟩ rf_0 rfl hl.1 (Nat.le_of_ble_eq_true rfl) dX3_fork_2 ⟨Nat.zero_le _, Nat.zero_le _⟩ (fun H locs hG => ?_)
  refine W.eq (g2 := F0 m 5 ls [.int 0]) rfl ?_
  refine lv_if_eq (tgt := 10) hx hb dX3_fork_5 rfl (fun _ => ?_) (fun hh => absurd (rfl) hh)
  refine lv_aload_n hx hb dX3_fork_10 rfl (lv_at hl 0 rfl) ?_
  refine g_callV (As := []) (rest := []) (fs := [.ref (bd 1), .ref (bd 2), .ref (bd 3), .ref (bd 4), .ref (bd 5), .ref (bd 6), .int fc, .int cc]) (rm_idle (Nat.le_of_lt hn) (Or.inr hn0) hm) hx hb hml hown hts hN hG t_284 t_286 s_23 t_4 t_287 nm_X3_idle ⟨by decide, by decide⟩ rf_0 rfl hl.1 (Nat.le_of_ble_eq_true rfl) dX3_fork_11 ⟨Nat.zero_le _, Nat.zero_le _⟩ (fun H locs hG => ?_)
  refine W.eq (g2 := F0 m 14 ls [.int (nI n)]) rfl ?_
  refine lv_istore_n (lv' := [(2, .int (nI n)), (0, .ref (bd 0)), (1, .int (nI j))]) hx hb dX3_fork_14 rfl hl (by decide) rfl (fun ls hl => ?_)
  refine lv_iload_n hx hb dX3_fork_15 rfl (lv_at hl 0 rfl) ?_
  refine lv_iconst (v := nI 5) hx hb dX3_fork_16 (by decide) ?_
  refine lv_icmp_ne (tgt := 23) hx hb dX3_fork_17 rfl (fun _ => ?_) (fun hh => absurd hh (fun q => absurd ((nI_eq (by omega) (by omega)).mp q) (by omega)))
  refine lv_aload_n hx hb dX3_fork_23 rfl (lv_at hl 1 rfl) ?_
  refine g_callV (As := []) (rest := []) (fs := [.ref (bd 1), .ref (bd 2), .ref (bd 3), .ref (bd 4), .ref (bd 5), .ref (bd 6), .int fc, .int cc]) (rm_free hB) hx hb hml hown hts hN hG t_288 t_265 t_266 t_4 t_267 nm_X3_free ⟨by decide, by decide⟩ rf_0 rfl hl.1 (Nat.le_of_ble_eq_true rfl) dX3_fork_24 ⟨Nat.zero_le _, Nat.zero_le _⟩ (fun H locs hG => ?_)
  refine W.eq (g2 := F0 m 27 ls [.int (frR run fm)]) rfl ?_
  refine lv_aload_n hx hb dX3_fork_27 rfl (lv_at hl 1 rfl) ?_
  refine lv_iload_n hx hb dX3_fork_28 rfl (lv_at hl 2 rfl) ?_
  refine g_callV (As := [.int (nI j)]) (rest := [.int (frR run fm)]) (fs := [.ref (bd 1), .ref (bd 2), .ref (bd 3), .ref (bd 4), .ref (bd 5), .ref (bd 6), .int fc, .int cc]) (rm_tablesOf hj hB) hx hb hml hown hts hN hG t_272 t_274 s_21 t_4 t_275 nm_X3_tablesOf ⟨by decide, by decide⟩ rf_0 rfl hl.1 (Nat.le_of_ble_eq_true rfl) dX3_fork_29 ⟨Nat.zero_le _, Nat.zero_le _⟩ (fun H locs hG => ?_)
  refine W.eq (g2 := F0 m 32 ls [.int (nI (tbN (pgS fm j))), .int (frR run fm)]) rfl ?_
  refine lv_icmp_ge (tgt := 38) hx hb dX3_fork_32 rfl (fun _ => ?_) (fun hh => absurd (h2) hh)
  refine lv_aload_n hx hb dX3_fork_38 rfl (lv_at hl 1 rfl) ?_
  refine g_get (k := 0) (v := .ref (bd 1)) (C := RX3) (ref := RX3) (fs := [.ref (bd 1), .ref (bd 2), .ref (bd 3), .ref (bd 4), .ref (bd 5), .ref (bd 6), .int fc, .int cc]) hx hb hown hts hG gX3 rfl rf_0 (by decide) t_238 rfl rfl dX3_fork_39 ?_
  refine lv_iload_n hx hb dX3_fork_42 rfl (lv_at hl 0 rfl) ?_
  refine lv_iconst (v := bI true) hx hb dX3_fork_43 (by decide) ?_
  refine g_zast (i := n) (x := bI true) (t0 := 2) (ws' := rfW bd cI cZ (up1 run n true) fm cm wr mk wo fc cc) hx hb hG rf_1 rfl (hn) (by decide) (nar_bI true) (rf_s1 n true) dX3_fork_44 (fun H locs hG => ?_)
  refine lv_iconst (v := nI 0) hx hb dX3_fork_45 (by decide) ?_
  refine lv_istore_n (lv' := [(3, .int (nI 0)), (2, .int (nI n)), (0, .ref (bd 0)), (1, .int (nI j))]) hx hb dX3_fork_46 rfl hl (by decide) rfl (fun ls hl => ?_)
  have loop : ∀ (n0 i : Nat) (H : Heap) (locs : List Loc) (ls : Array Slot), i + n0 = 64 → gG D cls (fpT cI cQ cZ) A s (rfW bd cI cZ (up1 run n true) ((rkS j n fm cm wr mk i).1) ((rkS j n fm cm wr mk i).2.1) ((rkS j n fm cm wr mk i).2.2.1) ((rkS j n fm cm wr mk i).2.2.2) wo fc cc) H locs → lv_has ls 6 [(3, .int (nI i)), (0, .ref (bd 0)), (1, .int (nI j)), (2, .int (nI n))] → W p l e (gR 3 70) s m args below meth c H locs 0 0 (gQ below args s D cls (fpT cI cQ cZ) A (some (.int (nI n))) (rfW bd cI cZ (up1 run n true) ((rkS j n fm cm wr mk 64).1) ((rkS j n fm cm wr mk 64).2.1) ((rkS j n fm cm wr mk 64).2.2.1) ((rkS j n fm cm wr mk 64).2.2.2) wo fc cc)) (F0 m 47 ls []) := by
    intro n0
    induction n0 with
    | zero =>
      intro i H locs ls hi hG hl
      obtain rfl : i = 64 := by omega
      refine lv_iload_n hx hb dX3_fork_47 rfl (lv_at hl 0 rfl) ?_
      refine lv_bipush (v := nI 64) hx hb dX3_fork_48 (by decide) ?_
      refine lv_icmp_ge (tgt := 173) hx hb dX3_fork_50 rfl (fun _ => ?_) (fun hh => absurd (nI_le (Nat.le_refl 64) (by decide)) hh)
      refine lv_iload_n hx hb dX3_fork_173 rfl (lv_at hl 3 rfl) ?_
      exact g_iret hx hb hr hlk hG dX3_fork_174
    | succ n0 ih =>
      intro i H locs ls hi hG hl
      have hi6 : i < 64 := by omega
      have hle := rkS_le (j := j) (n := n) (cm := cm) (wr := wr) (mk := mk) hB i (64 * j + i)
      cases hk1 : (rkS j n fm cm wr mk i).2.2.2 (64 * j + i)
      · by_cases hp : 0 < (rkS j n fm cm wr mk i).1 (64 * j + i)
        · cases hc : (rkS j n fm cm wr mk i).2.1 (64 * j + i)
          · refine lv_iload_n hx hb dX3_fork_47 rfl (lv_at hl 0 rfl) ?_
            refine lv_bipush (v := nI 64) hx hb dX3_fork_48 (by decide) ?_
            refine lv_icmp_ge (tgt := 173) hx hb dX3_fork_50 rfl (fun hh => absurd hh (nI_ge hi6 (by decide))) (fun _ => ?_)
            refine lv_bipush (v := nI 64) hx hb dX3_fork_53 (by decide) ?_
            refine lv_iload_n hx hb dX3_fork_55 rfl (lv_at hl 2 rfl) ?_
            refine lv_imul hx hb dX3_fork_56 ?_
            refine g_top (y := nI (64 * j)) (pk_mul 64 j) ?_
            refine lv_iload_n hx hb dX3_fork_57 rfl (lv_at hl 0 rfl) ?_
            refine lv_iadd hx hb dX3_fork_58 ?_
            refine g_top (y := nI (64 * j + i)) (nI_add _ _) ?_
            refine lv_istore (lv' := [(4, .int (nI (64 * j + i))), (3, .int (nI i)), (0, .ref (bd 0)), (1, .int (nI j)), (2, .int (nI n))]) hx hb dX3_fork_59 hl (by decide) rfl (fun ls hl => ?_)
            refine lv_bipush (v := nI 64) hx hb dX3_fork_61 (by decide) ?_
            refine lv_iload_n hx hb dX3_fork_63 rfl (lv_at hl 4 rfl) ?_
            refine lv_imul hx hb dX3_fork_64 ?_
            refine g_top (y := nI (64 * n)) (pk_mul 64 n) ?_
            refine lv_iload_n hx hb dX3_fork_65 rfl (lv_at hl 1 rfl) ?_
            refine lv_iadd hx hb dX3_fork_66 ?_
            refine g_top (y := nI (64 * n + i)) (nI_add _ _) ?_
            refine lv_istore (lv' := [(5, .int (nI (64 * n + i))), (4, .int (nI (64 * j + i))), (3, .int (nI i)), (0, .ref (bd 0)), (1, .int (nI j)), (2, .int (nI n))]) hx hb dX3_fork_67 hl (by decide) rfl (fun ls hl => ?_)
            refine lv_aload_n hx hb dX3_fork_69 rfl (lv_at hl 3 rfl) ?_
            refine g_get (k := 4) (v := .ref (bd 5)) (C := RX3) (ref := RX3) (fs := [.ref (bd 1), .ref (bd 2), .ref (bd 3), .ref (bd 4), .ref (bd 5), .ref (bd 6), .int fc, .int cc]) hx hb hown hts hG gX3 rfl rf_0 (by decide) t_242 rfl rfl dX3_fork_70 ?_
            refine lv_iload hx hb dX3_fork_73 (lv_at hl 1 rfl) ?_
            refine lv_aload_n hx hb dX3_fork_75 rfl (lv_at hl 3 rfl) ?_
            refine g_get (k := 4) (v := .ref (bd 5)) (C := RX3) (ref := RX3) (fs := [.ref (bd 1), .ref (bd 2), .ref (bd 3), .ref (bd 4), .ref (bd 5), .ref (bd 6), .int fc, .int cc]) hx hb hown hts hG gX3 rfl rf_0 (by decide) t_242 rfl rfl dX3_fork_76 ?_
            refine lv_iload hx hb dX3_fork_79 (lv_at hl 1 rfl) ?_
            refine g_zald (i := (64 * j + i)) (t0 := 2) hx hb hG rf_5 rfl ((by omega)) (by decide) dX3_fork_81 ?_
            refine g_top (y := 0) (by rw [hk1]; rfl) ?_
            refine lv_if_ne (tgt := 105) hx hb dX3_fork_82 rfl (fun hh => absurd (rfl) hh) (fun _ => ?_)
            refine lv_aload_n hx hb dX3_fork_85 rfl (lv_at hl 3 rfl) ?_
            refine g_get (k := 1) (v := .ref (bd 2)) (C := RX3) (ref := RX3) (fs := [.ref (bd 1), .ref (bd 2), .ref (bd 3), .ref (bd 4), .ref (bd 5), .ref (bd 6), .int fc, .int cc]) hx hb hown hts hG gX3 rfl rf_0 (by decide) t_239 rfl rfl dX3_fork_86 ?_
            refine lv_iload hx hb dX3_fork_89 (lv_at hl 1 rfl) ?_
            refine g_iald (i := (64 * j + i)) (t0 := 0) hx hb hG rf_2 rfl ((by omega)) (by decide) dX3_fork_91 ?_
            refine lv_if_le (tgt := 109) hx hb dX3_fork_92 rfl (fun hh => absurd hh (nI_gt0 hp (by omega))) (fun _ => ?_)
            refine lv_aload_n hx hb dX3_fork_95 rfl (lv_at hl 3 rfl) ?_
            refine g_get (k := 2) (v := .ref (bd 3)) (C := RX3) (ref := RX3) (fs := [.ref (bd 1), .ref (bd 2), .ref (bd 3), .ref (bd 4), .ref (bd 5), .ref (bd 6), .int fc, .int cc]) hx hb hown hts hG gX3 rfl rf_0 (by decide) t_240 rfl rfl dX3_fork_96 ?_
            refine lv_iload hx hb dX3_fork_99 (lv_at hl 1 rfl) ?_
            refine g_zald (i := (64 * j + i)) (t0 := 2) hx hb hG rf_3 rfl ((by omega)) (by decide) dX3_fork_101 ?_
            refine g_top (y := 0) (by rw [hc]; rfl) ?_
            refine lv_if_ne (tgt := 109) hx hb dX3_fork_102 rfl (fun hh => absurd (rfl) hh) (fun _ => ?_)
            refine lv_iconst (v := bI true) hx hb dX3_fork_105 (by decide) ?_
            refine g_top (y := bI ((rkS j n fm cm wr mk i).2.2.2 (64 * j + i) || (decide (0 < (rkS j n fm cm wr mk i).1 (64 * j + i)) && !(rkS j n fm cm wr mk i).2.1 (64 * j + i)))) (by rw [hk1, hc]; simp [hp]) ?_
            refine lv_goto (tgt := 110) hx hb dX3_fork_106 rfl ?_
            refine g_zast (i := (64 * j + i)) (x := bI ((rkS j n fm cm wr mk i).2.2.2 (64 * j + i) || (decide (0 < (rkS j n fm cm wr mk i).1 (64 * j + i)) && !(rkS j n fm cm wr mk i).2.1 (64 * j + i)))) (t0 := 2) (ws' := rfW bd cI cZ (up1 run n true) ((rkS j n fm cm wr mk i).1) ((rkS j n fm cm wr mk i).2.1) ((rkS j n fm cm wr mk i).2.2.1) (up1 (rkS j n fm cm wr mk i).2.2.2 (64 * j + i) ((rkS j n fm cm wr mk i).2.2.2 (64 * j + i) || (decide (0 < (rkS j n fm cm wr mk i).1 (64 * j + i)) && !(rkS j n fm cm wr mk i).2.1 (64 * j + i)))) wo fc cc) hx hb hG rf_5 rfl ((by omega)) (by decide) (nar_bI _) (rf_s5 _ _) dX3_fork_110 (fun H locs hG => ?_)
            refine lv_aload_n hx hb dX3_fork_111 rfl (lv_at hl 3 rfl) ?_
            refine g_get (k := 1) (v := .ref (bd 2)) (C := RX3) (ref := RX3) (fs := [.ref (bd 1), .ref (bd 2), .ref (bd 3), .ref (bd 4), .ref (bd 5), .ref (bd 6), .int fc, .int cc]) hx hb hown hts hG gX3 rfl rf_0 (by decide) t_239 rfl rfl dX3_fork_112 ?_
            refine lv_iload hx hb dX3_fork_115 (lv_at hl 0 rfl) ?_
            refine lv_aload_n hx hb dX3_fork_117 rfl (lv_at hl 3 rfl) ?_
            refine g_get (k := 1) (v := .ref (bd 2)) (C := RX3) (ref := RX3) (fs := [.ref (bd 1), .ref (bd 2), .ref (bd 3), .ref (bd 4), .ref (bd 5), .ref (bd 6), .int fc, .int cc]) hx hb hown hts hG gX3 rfl rf_0 (by decide) t_239 rfl rfl dX3_fork_118 ?_
            refine lv_iload hx hb dX3_fork_121 (lv_at hl 1 rfl) ?_
            refine g_iald (i := (64 * j + i)) (t0 := 0) hx hb hG rf_2 rfl ((by omega)) (by decide) dX3_fork_123 ?_
            refine g_iast (i := (64 * n + i)) (x := nI (((rkS j n fm cm wr mk i).1) (64 * j + i))) (t0 := 0) (ws' := rfW bd cI cZ (up1 run n true) (up1 (rkS j n fm cm wr mk i).1 (64 * n + i) ((rkS j n fm cm wr mk i).1 (64 * j + i))) ((rkS j n fm cm wr mk i).2.1) ((rkS j n fm cm wr mk i).2.2.1) (up1 (rkS j n fm cm wr mk i).2.2.2 (64 * j + i) ((rkS j n fm cm wr mk i).2.2.2 (64 * j + i) || (decide (0 < (rkS j n fm cm wr mk i).1 (64 * j + i)) && !(rkS j n fm cm wr mk i).2.1 (64 * j + i)))) wo fc cc) hx hb hG rf_2 rfl ((by omega)) (by decide) (rf_s2 _ _) dX3_fork_124 (fun H locs hG => ?_)
            refine lv_aload_n hx hb dX3_fork_125 rfl (lv_at hl 3 rfl) ?_
            refine g_get (k := 2) (v := .ref (bd 3)) (C := RX3) (ref := RX3) (fs := [.ref (bd 1), .ref (bd 2), .ref (bd 3), .ref (bd 4), .ref (bd 5), .ref (bd 6), .int fc, .int cc]) hx hb hown hts hG gX3 rfl rf_0 (by decide) t_240 rfl rfl dX3_fork_126 ?_
            refine lv_iload hx hb dX3_fork_129 (lv_at hl 0 rfl) ?_
            refine lv_aload_n hx hb dX3_fork_131 rfl (lv_at hl 3 rfl) ?_
            refine g_get (k := 2) (v := .ref (bd 3)) (C := RX3) (ref := RX3) (fs := [.ref (bd 1), .ref (bd 2), .ref (bd 3), .ref (bd 4), .ref (bd 5), .ref (bd 6), .int fc, .int cc]) hx hb hown hts hG gX3 rfl rf_0 (by decide) t_240 rfl rfl dX3_fork_132 ?_
            refine lv_iload hx hb dX3_fork_135 (lv_at hl 1 rfl) ?_
            refine g_zald (i := (64 * j + i)) (t0 := 2) hx hb hG rf_3 rfl ((by omega)) (by decide) dX3_fork_137 ?_
            refine g_zast (i := (64 * n + i)) (x := bI (((rkS j n fm cm wr mk i).2.1) (64 * j + i))) (t0 := 2) (ws' := rfW bd cI cZ (up1 run n true) (up1 (rkS j n fm cm wr mk i).1 (64 * n + i) ((rkS j n fm cm wr mk i).1 (64 * j + i))) (up1 (rkS j n fm cm wr mk i).2.1 (64 * n + i) ((rkS j n fm cm wr mk i).2.1 (64 * j + i))) ((rkS j n fm cm wr mk i).2.2.1) (up1 (rkS j n fm cm wr mk i).2.2.2 (64 * j + i) ((rkS j n fm cm wr mk i).2.2.2 (64 * j + i) || (decide (0 < (rkS j n fm cm wr mk i).1 (64 * j + i)) && !(rkS j n fm cm wr mk i).2.1 (64 * j + i)))) wo fc cc) hx hb hG rf_3 rfl ((by omega)) (by decide) (nar_bI _) (rf_s3 _ _) dX3_fork_138 (fun H locs hG => ?_)
            refine lv_aload_n hx hb dX3_fork_139 rfl (lv_at hl 3 rfl) ?_
            refine g_get (k := 3) (v := .ref (bd 4)) (C := RX3) (ref := RX3) (fs := [.ref (bd 1), .ref (bd 2), .ref (bd 3), .ref (bd 4), .ref (bd 5), .ref (bd 6), .int fc, .int cc]) hx hb hown hts hG gX3 rfl rf_0 (by decide) t_241 rfl rfl dX3_fork_140 ?_
            refine lv_iload hx hb dX3_fork_143 (lv_at hl 0 rfl) ?_
            refine lv_aload_n hx hb dX3_fork_145 rfl (lv_at hl 3 rfl) ?_
            refine g_get (k := 3) (v := .ref (bd 4)) (C := RX3) (ref := RX3) (fs := [.ref (bd 1), .ref (bd 2), .ref (bd 3), .ref (bd 4), .ref (bd 5), .ref (bd 6), .int fc, .int cc]) hx hb hown hts hG gX3 rfl rf_0 (by decide) t_241 rfl rfl dX3_fork_146 ?_
            refine lv_iload hx hb dX3_fork_149 (lv_at hl 1 rfl) ?_
            refine g_zald (i := (64 * j + i)) (t0 := 2) hx hb hG rf_4 rfl ((by omega)) (by decide) dX3_fork_151 ?_
            refine g_zast (i := (64 * n + i)) (x := bI (((rkS j n fm cm wr mk i).2.2.1) (64 * j + i))) (t0 := 2) (ws' := rfW bd cI cZ (up1 run n true) (up1 (rkS j n fm cm wr mk i).1 (64 * n + i) ((rkS j n fm cm wr mk i).1 (64 * j + i))) (up1 (rkS j n fm cm wr mk i).2.1 (64 * n + i) ((rkS j n fm cm wr mk i).2.1 (64 * j + i))) (up1 (rkS j n fm cm wr mk i).2.2.1 (64 * n + i) ((rkS j n fm cm wr mk i).2.2.1 (64 * j + i))) (up1 (rkS j n fm cm wr mk i).2.2.2 (64 * j + i) ((rkS j n fm cm wr mk i).2.2.2 (64 * j + i) || (decide (0 < (rkS j n fm cm wr mk i).1 (64 * j + i)) && !(rkS j n fm cm wr mk i).2.1 (64 * j + i)))) wo fc cc) hx hb hG rf_4 rfl ((by omega)) (by decide) (nar_bI _) (rf_s4 _ _) dX3_fork_152 (fun H locs hG => ?_)
            refine lv_aload_n hx hb dX3_fork_153 rfl (lv_at hl 3 rfl) ?_
            refine g_get (k := 4) (v := .ref (bd 5)) (C := RX3) (ref := RX3) (fs := [.ref (bd 1), .ref (bd 2), .ref (bd 3), .ref (bd 4), .ref (bd 5), .ref (bd 6), .int fc, .int cc]) hx hb hown hts hG gX3 rfl rf_0 (by decide) t_242 rfl rfl dX3_fork_154 ?_
            refine lv_iload hx hb dX3_fork_157 (lv_at hl 0 rfl) ?_
            refine lv_aload_n hx hb dX3_fork_159 rfl (lv_at hl 3 rfl) ?_
            refine g_get (k := 4) (v := .ref (bd 5)) (C := RX3) (ref := RX3) (fs := [.ref (bd 1), .ref (bd 2), .ref (bd 3), .ref (bd 4), .ref (bd 5), .ref (bd 6), .int fc, .int cc]) hx hb hown hts hG gX3 rfl rf_0 (by decide) t_242 rfl rfl dX3_fork_160 ?_
            refine lv_iload hx hb dX3_fork_163 (lv_at hl 1 rfl) ?_
            refine g_zald (i := (64 * j + i)) (t0 := 2) hx hb hG rf_5 rfl ((by omega)) (by decide) dX3_fork_165 ?_
            refine g_zast (i := (64 * n + i)) (x := bI ((up1 (rkS j n fm cm wr mk i).2.2.2 (64 * j + i) ((rkS j n fm cm wr mk i).2.2.2 (64 * j + i) || (decide (0 < (rkS j n fm cm wr mk i).1 (64 * j + i)) && !(rkS j n fm cm wr mk i).2.1 (64 * j + i)))) (64 * j + i))) (t0 := 2) (ws' := rfW bd cI cZ (up1 run n true) (up1 (rkS j n fm cm wr mk i).1 (64 * n + i) ((rkS j n fm cm wr mk i).1 (64 * j + i))) (up1 (rkS j n fm cm wr mk i).2.1 (64 * n + i) ((rkS j n fm cm wr mk i).2.1 (64 * j + i))) (up1 (rkS j n fm cm wr mk i).2.2.1 (64 * n + i) ((rkS j n fm cm wr mk i).2.2.1 (64 * j + i))) (up1 (up1 (rkS j n fm cm wr mk i).2.2.2 (64 * j + i) ((rkS j n fm cm wr mk i).2.2.2 (64 * j + i) || (decide (0 < (rkS j n fm cm wr mk i).1 (64 * j + i)) && !(rkS j n fm cm wr mk i).2.1 (64 * j + i)))) (64 * n + i) ((up1 (rkS j n fm cm wr mk i).2.2.2 (64 * j + i) ((rkS j n fm cm wr mk i).2.2.2 (64 * j + i) || (decide (0 < (rkS j n fm cm wr mk i).1 (64 * j + i)) && !(rkS j n fm cm wr mk i).2.1 (64 * j + i)))) (64 * j + i))) wo fc cc) hx hb hG rf_5 rfl ((by omega)) (by decide) (nar_bI _) (rf_s5 _ _) dX3_fork_166 (fun H locs hG => ?_)
            refine lv_iinc (k := 2) (v := nI (i + 1)) (lv' := [(3, .int (nI (i + 1))), (5, .int (nI (64 * n + i))), (4, .int (nI (64 * j + i))), (0, .ref (bd 0)), (1, .int (nI j)), (2, .int (nI n))]) hx hb dX3_fork_167 hl rfl (nI_1 i) (by decide) rfl (fun ls hl => ?_)
            refine lv_goto (tgt := 47) hx hb dX3_fork_170 rfl ?_
            exact ih (i + 1) _ _ _ (by omega) hG (lv_sub hl [0, 3, 4, 5] rfl)
          · refine lv_iload_n hx hb dX3_fork_47 rfl (lv_at hl 0 rfl) ?_
            refine lv_bipush (v := nI 64) hx hb dX3_fork_48 (by decide) ?_
            refine lv_icmp_ge (tgt := 173) hx hb dX3_fork_50 rfl (fun hh => absurd hh (nI_ge hi6 (by decide))) (fun _ => ?_)
            refine lv_bipush (v := nI 64) hx hb dX3_fork_53 (by decide) ?_
            refine lv_iload_n hx hb dX3_fork_55 rfl (lv_at hl 2 rfl) ?_
            refine lv_imul hx hb dX3_fork_56 ?_
            refine g_top (y := nI (64 * j)) (pk_mul 64 j) ?_
            refine lv_iload_n hx hb dX3_fork_57 rfl (lv_at hl 0 rfl) ?_
            refine lv_iadd hx hb dX3_fork_58 ?_
            refine g_top (y := nI (64 * j + i)) (nI_add _ _) ?_
            refine lv_istore (lv' := [(4, .int (nI (64 * j + i))), (3, .int (nI i)), (0, .ref (bd 0)), (1, .int (nI j)), (2, .int (nI n))]) hx hb dX3_fork_59 hl (by decide) rfl (fun ls hl => ?_)
            refine lv_bipush (v := nI 64) hx hb dX3_fork_61 (by decide) ?_
            refine lv_iload_n hx hb dX3_fork_63 rfl (lv_at hl 4 rfl) ?_
            refine lv_imul hx hb dX3_fork_64 ?_
            refine g_top (y := nI (64 * n)) (pk_mul 64 n) ?_
            refine lv_iload_n hx hb dX3_fork_65 rfl (lv_at hl 1 rfl) ?_
            refine lv_iadd hx hb dX3_fork_66 ?_
            refine g_top (y := nI (64 * n + i)) (nI_add _ _) ?_
            refine lv_istore (lv' := [(5, .int (nI (64 * n + i))), (4, .int (nI (64 * j + i))), (3, .int (nI i)), (0, .ref (bd 0)), (1, .int (nI j)), (2, .int (nI n))]) hx hb dX3_fork_67 hl (by decide) rfl (fun ls hl => ?_)
            refine lv_aload_n hx hb dX3_fork_69 rfl (lv_at hl 3 rfl) ?_
            refine g_get (k := 4) (v := .ref (bd 5)) (C := RX3) (ref := RX3) (fs := [.ref (bd 1), .ref (bd 2), .ref (bd 3), .ref (bd 4), .ref (bd 5), .ref (bd 6), .int fc, .int cc]) hx hb hown hts hG gX3 rfl rf_0 (by decide) t_242 rfl rfl dX3_fork_70 ?_
            refine lv_iload hx hb dX3_fork_73 (lv_at hl 1 rfl) ?_
            refine lv_aload_n hx hb dX3_fork_75 rfl (lv_at hl 3 rfl) ?_
            refine g_get (k := 4) (v := .ref (bd 5)) (C := RX3) (ref := RX3) (fs := [.ref (bd 1), .ref (bd 2), .ref (bd 3), .ref (bd 4), .ref (bd 5), .ref (bd 6), .int fc, .int cc]) hx hb hown hts hG gX3 rfl rf_0 (by decide) t_242 rfl rfl dX3_fork_76 ?_
            refine lv_iload hx hb dX3_fork_79 (lv_at hl 1 rfl) ?_
            refine g_zald (i := (64 * j + i)) (t0 := 2) hx hb hG rf_5 rfl ((by omega)) (by decide) dX3_fork_81 ?_
            refine g_top (y := 0) (by rw [hk1]; rfl) ?_
            refine lv_if_ne (tgt := 105) hx hb dX3_fork_82 rfl (fun hh => absurd (rfl) hh) (fun _ => ?_)
            refine lv_aload_n hx hb dX3_fork_85 rfl (lv_at hl 3 rfl) ?_
            refine g_get (k := 1) (v := .ref (bd 2)) (C := RX3) (ref := RX3) (fs := [.ref (bd 1), .ref (bd 2), .ref (bd 3), .ref (bd 4), .ref (bd 5), .ref (bd 6), .int fc, .int cc]) hx hb hown hts hG gX3 rfl rf_0 (by decide) t_239 rfl rfl dX3_fork_86 ?_
            refine lv_iload hx hb dX3_fork_89 (lv_at hl 1 rfl) ?_
            refine g_iald (i := (64 * j + i)) (t0 := 0) hx hb hG rf_2 rfl ((by omega)) (by decide) dX3_fork_91 ?_
            refine lv_if_le (tgt := 109) hx hb dX3_fork_92 rfl (fun hh => absurd hh (nI_gt0 hp (by omega))) (fun _ => ?_)
            refine lv_aload_n hx hb dX3_fork_95 rfl (lv_at hl 3 rfl) ?_
            refine g_get (k := 2) (v := .ref (bd 3)) (C := RX3) (ref := RX3) (fs := [.ref (bd 1), .ref (bd 2), .ref (bd 3), .ref (bd 4), .ref (bd 5), .ref (bd 6), .int fc, .int cc]) hx hb hown hts hG gX3 rfl rf_0 (by decide) t_240 rfl rfl dX3_fork_96 ?_
            refine lv_iload hx hb dX3_fork_99 (lv_at hl 1 rfl) ?_
            refine g_zald (i := (64 * j + i)) (t0 := 2) hx hb hG rf_3 rfl ((by omega)) (by decide) dX3_fork_101 ?_
            refine g_top (y := 1) (by rw [hc]; rfl) ?_
            refine lv_if_ne (tgt := 109) hx hb dX3_fork_102 rfl (fun _ => ?_) (fun hh => absurd hh (by decide))
            refine lv_iconst (v := bI false) hx hb dX3_fork_109 (by decide) ?_
            refine g_top (y := bI ((rkS j n fm cm wr mk i).2.2.2 (64 * j + i) || (decide (0 < (rkS j n fm cm wr mk i).1 (64 * j + i)) && !(rkS j n fm cm wr mk i).2.1 (64 * j + i)))) (by rw [hk1, hc]; simp [hp]) ?_
            refine g_zast (i := (64 * j + i)) (x := bI ((rkS j n fm cm wr mk i).2.2.2 (64 * j + i) || (decide (0 < (rkS j n fm cm wr mk i).1 (64 * j + i)) && !(rkS j n fm cm wr mk i).2.1 (64 * j + i)))) (t0 := 2) (ws' := rfW bd cI cZ (up1 run n true) ((rkS j n fm cm wr mk i).1) ((rkS j n fm cm wr mk i).2.1) ((rkS j n fm cm wr mk i).2.2.1) (up1 (rkS j n fm cm wr mk i).2.2.2 (64 * j + i) ((rkS j n fm cm wr mk i).2.2.2 (64 * j + i) || (decide (0 < (rkS j n fm cm wr mk i).1 (64 * j + i)) && !(rkS j n fm cm wr mk i).2.1 (64 * j + i)))) wo fc cc) hx hb hG rf_5 rfl ((by omega)) (by decide) (nar_bI _) (rf_s5 _ _) dX3_fork_110 (fun H locs hG => ?_)
            refine lv_aload_n hx hb dX3_fork_111 rfl (lv_at hl 3 rfl) ?_
            refine g_get (k := 1) (v := .ref (bd 2)) (C := RX3) (ref := RX3) (fs := [.ref (bd 1), .ref (bd 2), .ref (bd 3), .ref (bd 4), .ref (bd 5), .ref (bd 6), .int fc, .int cc]) hx hb hown hts hG gX3 rfl rf_0 (by decide) t_239 rfl rfl dX3_fork_112 ?_
            refine lv_iload hx hb dX3_fork_115 (lv_at hl 0 rfl) ?_
            refine lv_aload_n hx hb dX3_fork_117 rfl (lv_at hl 3 rfl) ?_
            refine g_get (k := 1) (v := .ref (bd 2)) (C := RX3) (ref := RX3) (fs := [.ref (bd 1), .ref (bd 2), .ref (bd 3), .ref (bd 4), .ref (bd 5), .ref (bd 6), .int fc, .int cc]) hx hb hown hts hG gX3 rfl rf_0 (by decide) t_239 rfl rfl dX3_fork_118 ?_
            refine lv_iload hx hb dX3_fork_121 (lv_at hl 1 rfl) ?_
            refine g_iald (i := (64 * j + i)) (t0 := 0) hx hb hG rf_2 rfl ((by omega)) (by decide) dX3_fork_123 ?_
            refine g_iast (i := (64 * n + i)) (x := nI (((rkS j n fm cm wr mk i).1) (64 * j + i))) (t0 := 0) (ws' := rfW bd cI cZ (up1 run n true) (up1 (rkS j n fm cm wr mk i).1 (64 * n + i) ((rkS j n fm cm wr mk i).1 (64 * j + i))) ((rkS j n fm cm wr mk i).2.1) ((rkS j n fm cm wr mk i).2.2.1) (up1 (rkS j n fm cm wr mk i).2.2.2 (64 * j + i) ((rkS j n fm cm wr mk i).2.2.2 (64 * j + i) || (decide (0 < (rkS j n fm cm wr mk i).1 (64 * j + i)) && !(rkS j n fm cm wr mk i).2.1 (64 * j + i)))) wo fc cc) hx hb hG rf_2 rfl ((by omega)) (by decide) (rf_s2 _ _) dX3_fork_124 (fun H locs hG => ?_)
            refine lv_aload_n hx hb dX3_fork_125 rfl (lv_at hl 3 rfl) ?_
            refine g_get (k := 2) (v := .ref (bd 3)) (C := RX3) (ref := RX3) (fs := [.ref (bd 1), .ref (bd 2), .ref (bd 3), .ref (bd 4), .ref (bd 5), .ref (bd 6), .int fc, .int cc]) hx hb hown hts hG gX3 rfl rf_0 (by decide) t_240 rfl rfl dX3_fork_126 ?_
            refine lv_iload hx hb dX3_fork_129 (lv_at hl 0 rfl) ?_
            refine lv_aload_n hx hb dX3_fork_131 rfl (lv_at hl 3 rfl) ?_
            refine g_get (k := 2) (v := .ref (bd 3)) (C := RX3) (ref := RX3) (fs := [.ref (bd 1), .ref (bd 2), .ref (bd 3), .ref (bd 4), .ref (bd 5), .ref (bd 6), .int fc, .int cc]) hx hb hown hts hG gX3 rfl rf_0 (by decide) t_240 rfl rfl dX3_fork_132 ?_
            refine lv_iload hx hb dX3_fork_135 (lv_at hl 1 rfl) ?_
            refine g_zald (i := (64 * j + i)) (t0 := 2) hx hb hG rf_3 rfl ((by omega)) (by decide) dX3_fork_137 ?_
            refine g_zast (i := (64 * n + i)) (x := bI (((rkS j n fm cm wr mk i).2.1) (64 * j + i))) (t0 := 2) (ws' := rfW bd cI cZ (up1 run n true) (up1 (rkS j n fm cm wr mk i).1 (64 * n + i) ((rkS j n fm cm wr mk i).1 (64 * j + i))) (up1 (rkS j n fm cm wr mk i).2.1 (64 * n + i) ((rkS j n fm cm wr mk i).2.1 (64 * j + i))) ((rkS j n fm cm wr mk i).2.2.1) (up1 (rkS j n fm cm wr mk i).2.2.2 (64 * j + i) ((rkS j n fm cm wr mk i).2.2.2 (64 * j + i) || (decide (0 < (rkS j n fm cm wr mk i).1 (64 * j + i)) && !(rkS j n fm cm wr mk i).2.1 (64 * j + i)))) wo fc cc) hx hb hG rf_3 rfl ((by omega)) (by decide) (nar_bI _) (rf_s3 _ _) dX3_fork_138 (fun H locs hG => ?_)
            refine lv_aload_n hx hb dX3_fork_139 rfl (lv_at hl 3 rfl) ?_
            refine g_get (k := 3) (v := .ref (bd 4)) (C := RX3) (ref := RX3) (fs := [.ref (bd 1), .ref (bd 2), .ref (bd 3), .ref (bd 4), .ref (bd 5), .ref (bd 6), .int fc, .int cc]) hx hb hown hts hG gX3 rfl rf_0 (by decide) t_241 rfl rfl dX3_fork_140 ?_
            refine lv_iload hx hb dX3_fork_143 (lv_at hl 0 rfl) ?_
            refine lv_aload_n hx hb dX3_fork_145 rfl (lv_at hl 3 rfl) ?_
            refine g_get (k := 3) (v := .ref (bd 4)) (C := RX3) (ref := RX3) (fs := [.ref (bd 1), .ref (bd 2), .ref (bd 3), .ref (bd 4), .ref (bd 5), .ref (bd 6), .int fc, .int cc]) hx hb hown hts hG gX3 rfl rf_0 (by decide) t_241 rfl rfl dX3_fork_146 ?_
            refine lv_iload hx hb dX3_fork_149 (lv_at hl 1 rfl) ?_
            refine g_zald (i := (64 * j + i)) (t0 := 2) hx hb hG rf_4 rfl ((by omega)) (by decide) dX3_fork_151 ?_
            refine g_zast (i := (64 * n + i)) (x := bI (((rkS j n fm cm wr mk i).2.2.1) (64 * j + i))) (t0 := 2) (ws' := rfW bd cI cZ (up1 run n true) (up1 (rkS j n fm cm wr mk i).1 (64 * n + i) ((rkS j n fm cm wr mk i).1 (64 * j + i))) (up1 (rkS j n fm cm wr mk i).2.1 (64 * n + i) ((rkS j n fm cm wr mk i).2.1 (64 * j + i))) (up1 (rkS j n fm cm wr mk i).2.2.1 (64 * n + i) ((rkS j n fm cm wr mk i).2.2.1 (64 * j + i))) (up1 (rkS j n fm cm wr mk i).2.2.2 (64 * j + i) ((rkS j n fm cm wr mk i).2.2.2 (64 * j + i) || (decide (0 < (rkS j n fm cm wr mk i).1 (64 * j + i)) && !(rkS j n fm cm wr mk i).2.1 (64 * j + i)))) wo fc cc) hx hb hG rf_4 rfl ((by omega)) (by decide) (nar_bI _) (rf_s4 _ _) dX3_fork_152 (fun H locs hG => ?_)
            refine lv_aload_n hx hb dX3_fork_153 rfl (lv_at hl 3 rfl) ?_
            refine g_get (k := 4) (v := .ref (bd 5)) (C := RX3) (ref := RX3) (fs := [.ref (bd 1), .ref (bd 2), .ref (bd 3), .ref (bd 4), .ref (bd 5), .ref (bd 6), .int fc, .int cc]) hx hb hown hts hG gX3 rfl rf_0 (by decide) t_242 rfl rfl dX3_fork_154 ?_
            refine lv_iload hx hb dX3_fork_157 (lv_at hl 0 rfl) ?_
            refine lv_aload_n hx hb dX3_fork_159 rfl (lv_at hl 3 rfl) ?_
            refine g_get (k := 4) (v := .ref (bd 5)) (C := RX3) (ref := RX3) (fs := [.ref (bd 1), .ref (bd 2), .ref (bd 3), .ref (bd 4), .ref (bd 5), .ref (bd 6), .int fc, .int cc]) hx hb hown hts hG gX3 rfl rf_0 (by decide) t_242 rfl rfl dX3_fork_160 ?_
            refine lv_iload hx hb dX3_fork_163 (lv_at hl 1 rfl) ?_
            refine g_zald (i := (64 * j + i)) (t0 := 2) hx hb hG rf_5 rfl ((by omega)) (by decide) dX3_fork_165 ?_
            refine g_zast (i := (64 * n + i)) (x := bI ((up1 (rkS j n fm cm wr mk i).2.2.2 (64 * j + i) ((rkS j n fm cm wr mk i).2.2.2 (64 * j + i) || (decide (0 < (rkS j n fm cm wr mk i).1 (64 * j + i)) && !(rkS j n fm cm wr mk i).2.1 (64 * j + i)))) (64 * j + i))) (t0 := 2) (ws' := rfW bd cI cZ (up1 run n true) (up1 (rkS j n fm cm wr mk i).1 (64 * n + i) ((rkS j n fm cm wr mk i).1 (64 * j + i))) (up1 (rkS j n fm cm wr mk i).2.1 (64 * n + i) ((rkS j n fm cm wr mk i).2.1 (64 * j + i))) (up1 (rkS j n fm cm wr mk i).2.2.1 (64 * n + i) ((rkS j n fm cm wr mk i).2.2.1 (64 * j + i))) (up1 (up1 (rkS j n fm cm wr mk i).2.2.2 (64 * j + i) ((rkS j n fm cm wr mk i).2.2.2 (64 * j + i) || (decide (0 < (rkS j n fm cm wr mk i).1 (64 * j + i)) && !(rkS j n fm cm wr mk i).2.1 (64 * j + i)))) (64 * n + i) ((up1 (rkS j n fm cm wr mk i).2.2.2 (64 * j + i) ((rkS j n fm cm wr mk i).2.2.2 (64 * j + i) || (decide (0 < (rkS j n fm cm wr mk i).1 (64 * j + i)) && !(rkS j n fm cm wr mk i).2.1 (64 * j + i)))) (64 * j + i))) wo fc cc) hx hb hG rf_5 rfl ((by omega)) (by decide) (nar_bI _) (rf_s5 _ _) dX3_fork_166 (fun H locs hG => ?_)
            refine lv_iinc (k := 2) (v := nI (i + 1)) (lv' := [(3, .int (nI (i + 1))), (5, .int (nI (64 * n + i))), (4, .int (nI (64 * j + i))), (0, .ref (bd 0)), (1, .int (nI j)), (2, .int (nI n))]) hx hb dX3_fork_167 hl rfl (nI_1 i) (by decide) rfl (fun ls hl => ?_)
            refine lv_goto (tgt := 47) hx hb dX3_fork_170 rfl ?_
            exact ih (i + 1) _ _ _ (by omega) hG (lv_sub hl [0, 3, 4, 5] rfl)
        · refine lv_iload_n hx hb dX3_fork_47 rfl (lv_at hl 0 rfl) ?_
          refine lv_bipush (v := nI 64) hx hb dX3_fork_48 (by decide) ?_
          refine lv_icmp_ge (tgt := 173) hx hb dX3_fork_50 rfl (fun hh => absurd hh (nI_ge hi6 (by decide))) (fun _ => ?_)
          refine lv_bipush (v := nI 64) hx hb dX3_fork_53 (by decide) ?_
          refine lv_iload_n hx hb dX3_fork_55 rfl (lv_at hl 2 rfl) ?_
          refine lv_imul hx hb dX3_fork_56 ?_
          refine g_top (y := nI (64 * j)) (pk_mul 64 j) ?_
          refine lv_iload_n hx hb dX3_fork_57 rfl (lv_at hl 0 rfl) ?_
          refine lv_iadd hx hb dX3_fork_58 ?_
          refine g_top (y := nI (64 * j + i)) (nI_add _ _) ?_
          refine lv_istore (lv' := [(4, .int (nI (64 * j + i))), (3, .int (nI i)), (0, .ref (bd 0)), (1, .int (nI j)), (2, .int (nI n))]) hx hb dX3_fork_59 hl (by decide) rfl (fun ls hl => ?_)
          refine lv_bipush (v := nI 64) hx hb dX3_fork_61 (by decide) ?_
          refine lv_iload_n hx hb dX3_fork_63 rfl (lv_at hl 4 rfl) ?_
          refine lv_imul hx hb dX3_fork_64 ?_
          refine g_top (y := nI (64 * n)) (pk_mul 64 n) ?_
          refine lv_iload_n hx hb dX3_fork_65 rfl (lv_at hl 1 rfl) ?_
          refine lv_iadd hx hb dX3_fork_66 ?_
          refine g_top (y := nI (64 * n + i)) (nI_add _ _) ?_
          refine lv_istore (lv' := [(5, .int (nI (64 * n + i))), (4, .int (nI (64 * j + i))), (3, .int (nI i)), (0, .ref (bd 0)), (1, .int (nI j)), (2, .int (nI n))]) hx hb dX3_fork_67 hl (by decide) rfl (fun ls hl => ?_)
          refine lv_aload_n hx hb dX3_fork_69 rfl (lv_at hl 3 rfl) ?_
          refine g_get (k := 4) (v := .ref (bd 5)) (C := RX3) (ref := RX3) (fs := [.ref (bd 1), .ref (bd 2), .ref (bd 3), .ref (bd 4), .ref (bd 5), .ref (bd 6), .int fc, .int cc]) hx hb hown hts hG gX3 rfl rf_0 (by decide) t_242 rfl rfl dX3_fork_70 ?_
          refine lv_iload hx hb dX3_fork_73 (lv_at hl 1 rfl) ?_
          refine lv_aload_n hx hb dX3_fork_75 rfl (lv_at hl 3 rfl) ?_
          refine g_get (k := 4) (v := .ref (bd 5)) (C := RX3) (ref := RX3) (fs := [.ref (bd 1), .ref (bd 2), .ref (bd 3), .ref (bd 4), .ref (bd 5), .ref (bd 6), .int fc, .int cc]) hx hb hown hts hG gX3 rfl rf_0 (by decide) t_242 rfl rfl dX3_fork_76 ?_
          refine lv_iload hx hb dX3_fork_79 (lv_at hl 1 rfl) ?_
          refine g_zald (i := (64 * j + i)) (t0 := 2) hx hb hG rf_5 rfl ((by omega)) (by decide) dX3_fork_81 ?_
          refine g_top (y := 0) (by rw [hk1]; rfl) ?_
          refine lv_if_ne (tgt := 105) hx hb dX3_fork_82 rfl (fun hh => absurd (rfl) hh) (fun _ => ?_)
          refine lv_aload_n hx hb dX3_fork_85 rfl (lv_at hl 3 rfl) ?_
          refine g_get (k := 1) (v := .ref (bd 2)) (C := RX3) (ref := RX3) (fs := [.ref (bd 1), .ref (bd 2), .ref (bd 3), .ref (bd 4), .ref (bd 5), .ref (bd 6), .int fc, .int cc]) hx hb hown hts hG gX3 rfl rf_0 (by decide) t_239 rfl rfl dX3_fork_86 ?_
          refine lv_iload hx hb dX3_fork_89 (lv_at hl 1 rfl) ?_
          refine g_iald (i := (64 * j + i)) (t0 := 0) hx hb hG rf_2 rfl ((by omega)) (by decide) dX3_fork_91 ?_
          refine lv_if_le (tgt := 109) hx hb dX3_fork_92 rfl (fun _ => ?_) (fun hh => absurd (nI_le0 (by omega)) hh)
          refine lv_iconst (v := bI false) hx hb dX3_fork_109 (by decide) ?_
          refine g_top (y := bI ((rkS j n fm cm wr mk i).2.2.2 (64 * j + i) || (decide (0 < (rkS j n fm cm wr mk i).1 (64 * j + i)) && !(rkS j n fm cm wr mk i).2.1 (64 * j + i)))) (by rw [hk1]; simp [hp]) ?_
          refine g_zast (i := (64 * j + i)) (x := bI ((rkS j n fm cm wr mk i).2.2.2 (64 * j + i) || (decide (0 < (rkS j n fm cm wr mk i).1 (64 * j + i)) && !(rkS j n fm cm wr mk i).2.1 (64 * j + i)))) (t0 := 2) (ws' := rfW bd cI cZ (up1 run n true) ((rkS j n fm cm wr mk i).1) ((rkS j n fm cm wr mk i).2.1) ((rkS j n fm cm wr mk i).2.2.1) (up1 (rkS j n fm cm wr mk i).2.2.2 (64 * j + i) ((rkS j n fm cm wr mk i).2.2.2 (64 * j + i) || (decide (0 < (rkS j n fm cm wr mk i).1 (64 * j + i)) && !(rkS j n fm cm wr mk i).2.1 (64 * j + i)))) wo fc cc) hx hb hG rf_5 rfl ((by omega)) (by decide) (nar_bI _) (rf_s5 _ _) dX3_fork_110 (fun H locs hG => ?_)
          refine lv_aload_n hx hb dX3_fork_111 rfl (lv_at hl 3 rfl) ?_
          refine g_get (k := 1) (v := .ref (bd 2)) (C := RX3) (ref := RX3) (fs := [.ref (bd 1), .ref (bd 2), .ref (bd 3), .ref (bd 4), .ref (bd 5), .ref (bd 6), .int fc, .int cc]) hx hb hown hts hG gX3 rfl rf_0 (by decide) t_239 rfl rfl dX3_fork_112 ?_
          refine lv_iload hx hb dX3_fork_115 (lv_at hl 0 rfl) ?_
          refine lv_aload_n hx hb dX3_fork_117 rfl (lv_at hl 3 rfl) ?_
          refine g_get (k := 1) (v := .ref (bd 2)) (C := RX3) (ref := RX3) (fs := [.ref (bd 1), .ref (bd 2), .ref (bd 3), .ref (bd 4), .ref (bd 5), .ref (bd 6), .int fc, .int cc]) hx hb hown hts hG gX3 rfl rf_0 (by decide) t_239 rfl rfl dX3_fork_118 ?_
          refine lv_iload hx hb dX3_fork_121 (lv_at hl 1 rfl) ?_
          refine g_iald (i := (64 * j + i)) (t0 := 0) hx hb hG rf_2 rfl ((by omega)) (by decide) dX3_fork_123 ?_
          refine g_iast (i := (64 * n + i)) (x := nI (((rkS j n fm cm wr mk i).1) (64 * j + i))) (t0 := 0) (ws' := rfW bd cI cZ (up1 run n true) (up1 (rkS j n fm cm wr mk i).1 (64 * n + i) ((rkS j n fm cm wr mk i).1 (64 * j + i))) ((rkS j n fm cm wr mk i).2.1) ((rkS j n fm cm wr mk i).2.2.1) (up1 (rkS j n fm cm wr mk i).2.2.2 (64 * j + i) ((rkS j n fm cm wr mk i).2.2.2 (64 * j + i) || (decide (0 < (rkS j n fm cm wr mk i).1 (64 * j + i)) && !(rkS j n fm cm wr mk i).2.1 (64 * j + i)))) wo fc cc) hx hb hG rf_2 rfl ((by omega)) (by decide) (rf_s2 _ _) dX3_fork_124 (fun H locs hG => ?_)
          refine lv_aload_n hx hb dX3_fork_125 rfl (lv_at hl 3 rfl) ?_
          refine g_get (k := 2) (v := .ref (bd 3)) (C := RX3) (ref := RX3) (fs := [.ref (bd 1), .ref (bd 2), .ref (bd 3), .ref (bd 4), .ref (bd 5), .ref (bd 6), .int fc, .int cc]) hx hb hown hts hG gX3 rfl rf_0 (by decide) t_240 rfl rfl dX3_fork_126 ?_
          refine lv_iload hx hb dX3_fork_129 (lv_at hl 0 rfl) ?_
          refine lv_aload_n hx hb dX3_fork_131 rfl (lv_at hl 3 rfl) ?_
          refine g_get (k := 2) (v := .ref (bd 3)) (C := RX3) (ref := RX3) (fs := [.ref (bd 1), .ref (bd 2), .ref (bd 3), .ref (bd 4), .ref (bd 5), .ref (bd 6), .int fc, .int cc]) hx hb hown hts hG gX3 rfl rf_0 (by decide) t_240 rfl rfl dX3_fork_132 ?_
          refine lv_iload hx hb dX3_fork_135 (lv_at hl 1 rfl) ?_
          refine g_zald (i := (64 * j + i)) (t0 := 2) hx hb hG rf_3 rfl ((by omega)) (by decide) dX3_fork_137 ?_
          refine g_zast (i := (64 * n + i)) (x := bI (((rkS j n fm cm wr mk i).2.1) (64 * j + i))) (t0 := 2) (ws' := rfW bd cI cZ (up1 run n true) (up1 (rkS j n fm cm wr mk i).1 (64 * n + i) ((rkS j n fm cm wr mk i).1 (64 * j + i))) (up1 (rkS j n fm cm wr mk i).2.1 (64 * n + i) ((rkS j n fm cm wr mk i).2.1 (64 * j + i))) ((rkS j n fm cm wr mk i).2.2.1) (up1 (rkS j n fm cm wr mk i).2.2.2 (64 * j + i) ((rkS j n fm cm wr mk i).2.2.2 (64 * j + i) || (decide (0 < (rkS j n fm cm wr mk i).1 (64 * j + i)) && !(rkS j n fm cm wr mk i).2.1 (64 * j + i)))) wo fc cc) hx hb hG rf_3 rfl ((by omega)) (by decide) (nar_bI _) (rf_s3 _ _) dX3_fork_138 (fun H locs hG => ?_)
          refine lv_aload_n hx hb dX3_fork_139 rfl (lv_at hl 3 rfl) ?_
          refine g_get (k := 3) (v := .ref (bd 4)) (C := RX3) (ref := RX3) (fs := [.ref (bd 1), .ref (bd 2), .ref (bd 3), .ref (bd 4), .ref (bd 5), .ref (bd 6), .int fc, .int cc]) hx hb hown hts hG gX3 rfl rf_0 (by decide) t_241 rfl rfl dX3_fork_140 ?_
          refine lv_iload hx hb dX3_fork_143 (lv_at hl 0 rfl) ?_
          refine lv_aload_n hx hb dX3_fork_145 rfl (lv_at hl 3 rfl) ?_
          refine g_get (k := 3) (v := .ref (bd 4)) (C := RX3) (ref := RX3) (fs := [.ref (bd 1), .ref (bd 2), .ref (bd 3), .ref (bd 4), .ref (bd 5), .ref (bd 6), .int fc, .int cc]) hx hb hown hts hG gX3 rfl rf_0 (by decide) t_241 rfl rfl dX3_fork_146 ?_
          refine lv_iload hx hb dX3_fork_149 (lv_at hl 1 rfl) ?_
          refine g_zald (i := (64 * j + i)) (t0 := 2) hx hb hG rf_4 rfl ((by omega)) (by decide) dX3_fork_151 ?_
          refine g_zast (i := (64 * n + i)) (x := bI (((rkS j n fm cm wr mk i).2.2.1) (64 * j + i))) (t0 := 2) (ws' := rfW bd cI cZ (up1 run n true) (up1 (rkS j n fm cm wr mk i).1 (64 * n + i) ((rkS j n fm cm wr mk i).1 (64 * j + i))) (up1 (rkS j n fm cm wr mk i).2.1 (64 * n + i) ((rkS j n fm cm wr mk i).2.1 (64 * j + i))) (up1 (rkS j n fm cm wr mk i).2.2.1 (64 * n + i) ((rkS j n fm cm wr mk i).2.2.1 (64 * j + i))) (up1 (rkS j n fm cm wr mk i).2.2.2 (64 * j + i) ((rkS j n fm cm wr mk i).2.2.2 (64 * j + i) || (decide (0 < (rkS j n fm cm wr mk i).1 (64 * j + i)) && !(rkS j n fm cm wr mk i).2.1 (64 * j + i)))) wo fc cc) hx hb hG rf_4 rfl ((by omega)) (by decide) (nar_bI _) (rf_s4 _ _) dX3_fork_152 (fun H locs hG => ?_)
          refine lv_aload_n hx hb dX3_fork_153 rfl (lv_at hl 3 rfl) ?_
          refine g_get (k := 4) (v := .ref (bd 5)) (C := RX3) (ref := RX3) (fs := [.ref (bd 1), .ref (bd 2), .ref (bd 3), .ref (bd 4), .ref (bd 5), .ref (bd 6), .int fc, .int cc]) hx hb hown hts hG gX3 rfl rf_0 (by decide) t_242 rfl rfl dX3_fork_154 ?_
          refine lv_iload hx hb dX3_fork_157 (lv_at hl 0 rfl) ?_
          refine lv_aload_n hx hb dX3_fork_159 rfl (lv_at hl 3 rfl) ?_
          refine g_get (k := 4) (v := .ref (bd 5)) (C := RX3) (ref := RX3) (fs := [.ref (bd 1), .ref (bd 2), .ref (bd 3), .ref (bd 4), .ref (bd 5), .ref (bd 6), .int fc, .int cc]) hx hb hown hts hG gX3 rfl rf_0 (by decide) t_242 rfl rfl dX3_fork_160 ?_
          refine lv_iload hx hb dX3_fork_163 (lv_at hl 1 rfl) ?_
          refine g_zald (i := (64 * j + i)) (t0 := 2) hx hb hG rf_5 rfl ((by omega)) (by decide) dX3_fork_165 ?_
          refine g_zast (i := (64 * n + i)) (x := bI ((up1 (rkS j n fm cm wr mk i).2.2.2 (64 * j + i) ((rkS j n fm cm wr mk i).2.2.2 (64 * j + i) || (decide (0 < (rkS j n fm cm wr mk i).1 (64 * j + i)) && !(rkS j n fm cm wr mk i).2.1 (64 * j + i)))) (64 * j + i))) (t0 := 2) (ws' := rfW bd cI cZ (up1 run n true) (up1 (rkS j n fm cm wr mk i).1 (64 * n + i) ((rkS j n fm cm wr mk i).1 (64 * j + i))) (up1 (rkS j n fm cm wr mk i).2.1 (64 * n + i) ((rkS j n fm cm wr mk i).2.1 (64 * j + i))) (up1 (rkS j n fm cm wr mk i).2.2.1 (64 * n + i) ((rkS j n fm cm wr mk i).2.2.1 (64 * j + i))) (up1 (up1 (rkS j n fm cm wr mk i).2.2.2 (64 * j + i) ((rkS j n fm cm wr mk i).2.2.2 (64 * j + i) || (decide (0 < (rkS j n fm cm wr mk i).1 (64 * j + i)) && !(rkS j n fm cm wr mk i).2.1 (64 * j + i)))) (64 * n + i) ((up1 (rkS j n fm cm wr mk i).2.2.2 (64 * j + i) ((rkS j n fm cm wr mk i).2.2.2 (64 * j + i) || (decide (0 < (rkS j n fm cm wr mk i).1 (64 * j + i)) && !(rkS j n fm cm wr mk i).2.1 (64 * j + i)))) (64 * j + i))) wo fc cc) hx hb hG rf_5 rfl ((by omega)) (by decide) (nar_bI _) (rf_s5 _ _) dX3_fork_166 (fun H locs hG => ?_)
          refine lv_iinc (k := 2) (v := nI (i + 1)) (lv' := [(3, .int (nI (i + 1))), (5, .int (nI (64 * n + i))), (4, .int (nI (64 * j + i))), (0, .ref (bd 0)), (1, .int (nI j)), (2, .int (nI n))]) hx hb dX3_fork_167 hl rfl (nI_1 i) (by decide) rfl (fun ls hl => ?_)
          refine lv_goto (tgt := 47) hx hb dX3_fork_170 rfl ?_
          exact ih (i + 1) _ _ _ (by omega) hG (lv_sub hl [0, 3, 4, 5] rfl)
      · refine lv_iload_n hx hb dX3_fork_47 rfl (lv_at hl 0 rfl) ?_
        refine lv_bipush (v := nI 64) hx hb dX3_fork_48 (by decide) ?_
        refine lv_icmp_ge (tgt := 173) hx hb dX3_fork_50 rfl (fun hh => absurd hh (nI_ge hi6 (by decide))) (fun _ => ?_)
        refine lv_bipush (v := nI 64) hx hb dX3_fork_53 (by decide) ?_
        refine lv_iload_n hx hb dX3_fork_55 rfl (lv_at hl 2 rfl) ?_
        refine lv_imul hx hb dX3_fork_56 ?_
        refine g_top (y := nI (64 * j)) (pk_mul 64 j) ?_
        refine lv_iload_n hx hb dX3_fork_57 rfl (lv_at hl 0 rfl) ?_
        refine lv_iadd hx hb dX3_fork_58 ?_
        refine g_top (y := nI (64 * j + i)) (nI_add _ _) ?_
        refine lv_istore (lv' := [(4, .int (nI (64 * j + i))), (3, .int (nI i)), (0, .ref (bd 0)), (1, .int (nI j)), (2, .int (nI n))]) hx hb dX3_fork_59 hl (by decide) rfl (fun ls hl => ?_)
        refine lv_bipush (v := nI 64) hx hb dX3_fork_61 (by decide) ?_
        refine lv_iload_n hx hb dX3_fork_63 rfl (lv_at hl 4 rfl) ?_
        refine lv_imul hx hb dX3_fork_64 ?_
        refine g_top (y := nI (64 * n)) (pk_mul 64 n) ?_
        refine lv_iload_n hx hb dX3_fork_65 rfl (lv_at hl 1 rfl) ?_
        refine lv_iadd hx hb dX3_fork_66 ?_
        refine g_top (y := nI (64 * n + i)) (nI_add _ _) ?_
        refine lv_istore (lv' := [(5, .int (nI (64 * n + i))), (4, .int (nI (64 * j + i))), (3, .int (nI i)), (0, .ref (bd 0)), (1, .int (nI j)), (2, .int (nI n))]) hx hb dX3_fork_67 hl (by decide) rfl (fun ls hl => ?_)
        refine lv_aload_n hx hb dX3_fork_69 rfl (lv_at hl 3 rfl) ?_
        refine g_get (k := 4) (v := .ref (bd 5)) (C := RX3) (ref := RX3) (fs := [.ref (bd 1), .ref (bd 2), .ref (bd 3), .ref (bd 4), .ref (bd 5), .ref (bd 6), .int fc, .int cc]) hx hb hown hts hG gX3 rfl rf_0 (by decide) t_242 rfl rfl dX3_fork_70 ?_
        refine lv_iload hx hb dX3_fork_73 (lv_at hl 1 rfl) ?_
        refine lv_aload_n hx hb dX3_fork_75 rfl (lv_at hl 3 rfl) ?_
        refine g_get (k := 4) (v := .ref (bd 5)) (C := RX3) (ref := RX3) (fs := [.ref (bd 1), .ref (bd 2), .ref (bd 3), .ref (bd 4), .ref (bd 5), .ref (bd 6), .int fc, .int cc]) hx hb hown hts hG gX3 rfl rf_0 (by decide) t_242 rfl rfl dX3_fork_76 ?_
        refine lv_iload hx hb dX3_fork_79 (lv_at hl 1 rfl) ?_
        refine g_zald (i := (64 * j + i)) (t0 := 2) hx hb hG rf_5 rfl ((by omega)) (by decide) dX3_fork_81 ?_
        refine g_top (y := 1) (by rw [hk1]; rfl) ?_
        refine lv_if_ne (tgt := 105) hx hb dX3_fork_82 rfl (fun _ => ?_) (fun hh => absurd hh (by decide))
        refine lv_iconst (v := bI true) hx hb dX3_fork_105 (by decide) ?_
        refine g_top (y := bI ((rkS j n fm cm wr mk i).2.2.2 (64 * j + i) || (decide (0 < (rkS j n fm cm wr mk i).1 (64 * j + i)) && !(rkS j n fm cm wr mk i).2.1 (64 * j + i)))) (by rw [hk1]; simp) ?_
        refine lv_goto (tgt := 110) hx hb dX3_fork_106 rfl ?_
        refine g_zast (i := (64 * j + i)) (x := bI ((rkS j n fm cm wr mk i).2.2.2 (64 * j + i) || (decide (0 < (rkS j n fm cm wr mk i).1 (64 * j + i)) && !(rkS j n fm cm wr mk i).2.1 (64 * j + i)))) (t0 := 2) (ws' := rfW bd cI cZ (up1 run n true) ((rkS j n fm cm wr mk i).1) ((rkS j n fm cm wr mk i).2.1) ((rkS j n fm cm wr mk i).2.2.1) (up1 (rkS j n fm cm wr mk i).2.2.2 (64 * j + i) ((rkS j n fm cm wr mk i).2.2.2 (64 * j + i) || (decide (0 < (rkS j n fm cm wr mk i).1 (64 * j + i)) && !(rkS j n fm cm wr mk i).2.1 (64 * j + i)))) wo fc cc) hx hb hG rf_5 rfl ((by omega)) (by decide) (nar_bI _) (rf_s5 _ _) dX3_fork_110 (fun H locs hG => ?_)
        refine lv_aload_n hx hb dX3_fork_111 rfl (lv_at hl 3 rfl) ?_
        refine g_get (k := 1) (v := .ref (bd 2)) (C := RX3) (ref := RX3) (fs := [.ref (bd 1), .ref (bd 2), .ref (bd 3), .ref (bd 4), .ref (bd 5), .ref (bd 6), .int fc, .int cc]) hx hb hown hts hG gX3 rfl rf_0 (by decide) t_239 rfl rfl dX3_fork_112 ?_
        refine lv_iload hx hb dX3_fork_115 (lv_at hl 0 rfl) ?_
        refine lv_aload_n hx hb dX3_fork_117 rfl (lv_at hl 3 rfl) ?_
        refine g_get (k := 1) (v := .ref (bd 2)) (C := RX3) (ref := RX3) (fs := [.ref (bd 1), .ref (bd 2), .ref (bd 3), .ref (bd 4), .ref (bd 5), .ref (bd 6), .int fc, .int cc]) hx hb hown hts hG gX3 rfl rf_0 (by decide) t_239 rfl rfl dX3_fork_118 ?_
        refine lv_iload hx hb dX3_fork_121 (lv_at hl 1 rfl) ?_
        refine g_iald (i := (64 * j + i)) (t0 := 0) hx hb hG rf_2 rfl ((by omega)) (by decide) dX3_fork_123 ?_
        refine g_iast (i := (64 * n + i)) (x := nI (((rkS j n fm cm wr mk i).1) (64 * j + i))) (t0 := 0) (ws' := rfW bd cI cZ (up1 run n true) (up1 (rkS j n fm cm wr mk i).1 (64 * n + i) ((rkS j n fm cm wr mk i).1 (64 * j + i))) ((rkS j n fm cm wr mk i).2.1) ((rkS j n fm cm wr mk i).2.2.1) (up1 (rkS j n fm cm wr mk i).2.2.2 (64 * j + i) ((rkS j n fm cm wr mk i).2.2.2 (64 * j + i) || (decide (0 < (rkS j n fm cm wr mk i).1 (64 * j + i)) && !(rkS j n fm cm wr mk i).2.1 (64 * j + i)))) wo fc cc) hx hb hG rf_2 rfl ((by omega)) (by decide) (rf_s2 _ _) dX3_fork_124 (fun H locs hG => ?_)
        refine lv_aload_n hx hb dX3_fork_125 rfl (lv_at hl 3 rfl) ?_
        refine g_get (k := 2) (v := .ref (bd 3)) (C := RX3) (ref := RX3) (fs := [.ref (bd 1), .ref (bd 2), .ref (bd 3), .ref (bd 4), .ref (bd 5), .ref (bd 6), .int fc, .int cc]) hx hb hown hts hG gX3 rfl rf_0 (by decide) t_240 rfl rfl dX3_fork_126 ?_
        refine lv_iload hx hb dX3_fork_129 (lv_at hl 0 rfl) ?_
        refine lv_aload_n hx hb dX3_fork_131 rfl (lv_at hl 3 rfl) ?_
        refine g_get (k := 2) (v := .ref (bd 3)) (C := RX3) (ref := RX3) (fs := [.ref (bd 1), .ref (bd 2), .ref (bd 3), .ref (bd 4), .ref (bd 5), .ref (bd 6), .int fc, .int cc]) hx hb hown hts hG gX3 rfl rf_0 (by decide) t_240 rfl rfl dX3_fork_132 ?_
        refine lv_iload hx hb dX3_fork_135 (lv_at hl 1 rfl) ?_
        refine g_zald (i := (64 * j + i)) (t0 := 2) hx hb hG rf_3 rfl ((by omega)) (by decide) dX3_fork_137 ?_
        refine g_zast (i := (64 * n + i)) (x := bI (((rkS j n fm cm wr mk i).2.1) (64 * j + i))) (t0 := 2) (ws' := rfW bd cI cZ (up1 run n true) (up1 (rkS j n fm cm wr mk i).1 (64 * n + i) ((rkS j n fm cm wr mk i).1 (64 * j + i))) (up1 (rkS j n fm cm wr mk i).2.1 (64 * n + i) ((rkS j n fm cm wr mk i).2.1 (64 * j + i))) ((rkS j n fm cm wr mk i).2.2.1) (up1 (rkS j n fm cm wr mk i).2.2.2 (64 * j + i) ((rkS j n fm cm wr mk i).2.2.2 (64 * j + i) || (decide (0 < (rkS j n fm cm wr mk i).1 (64 * j + i)) && !(rkS j n fm cm wr mk i).2.1 (64 * j + i)))) wo fc cc) hx hb hG rf_3 rfl ((by omega)) (by decide) (nar_bI _) (rf_s3 _ _) dX3_fork_138 (fun H locs hG => ?_)
        refine lv_aload_n hx hb dX3_fork_139 rfl (lv_at hl 3 rfl) ?_
        refine g_get (k := 3) (v := .ref (bd 4)) (C := RX3) (ref := RX3) (fs := [.ref (bd 1), .ref (bd 2), .ref (bd 3), .ref (bd 4), .ref (bd 5), .ref (bd 6), .int fc, .int cc]) hx hb hown hts hG gX3 rfl rf_0 (by decide) t_241 rfl rfl dX3_fork_140 ?_
        refine lv_iload hx hb dX3_fork_143 (lv_at hl 0 rfl) ?_
        refine lv_aload_n hx hb dX3_fork_145 rfl (lv_at hl 3 rfl) ?_
        refine g_get (k := 3) (v := .ref (bd 4)) (C := RX3) (ref := RX3) (fs := [.ref (bd 1), .ref (bd 2), .ref (bd 3), .ref (bd 4), .ref (bd 5), .ref (bd 6), .int fc, .int cc]) hx hb hown hts hG gX3 rfl rf_0 (by decide) t_241 rfl rfl dX3_fork_146 ?_
        refine lv_iload hx hb dX3_fork_149 (lv_at hl 1 rfl) ?_
        refine g_zald (i := (64 * j + i)) (t0 := 2) hx hb hG rf_4 rfl ((by omega)) (by decide) dX3_fork_151 ?_
        refine g_zast (i := (64 * n + i)) (x := bI (((rkS j n fm cm wr mk i).2.2.1) (64 * j + i))) (t0 := 2) (ws' := rfW bd cI cZ (up1 run n true) (up1 (rkS j n fm cm wr mk i).1 (64 * n + i) ((rkS j n fm cm wr mk i).1 (64 * j + i))) (up1 (rkS j n fm cm wr mk i).2.1 (64 * n + i) ((rkS j n fm cm wr mk i).2.1 (64 * j + i))) (up1 (rkS j n fm cm wr mk i).2.2.1 (64 * n + i) ((rkS j n fm cm wr mk i).2.2.1 (64 * j + i))) (up1 (rkS j n fm cm wr mk i).2.2.2 (64 * j + i) ((rkS j n fm cm wr mk i).2.2.2 (64 * j + i) || (decide (0 < (rkS j n fm cm wr mk i).1 (64 * j + i)) && !(rkS j n fm cm wr mk i).2.1 (64 * j + i)))) wo fc cc) hx hb hG rf_4 rfl ((by omega)) (by decide) (nar_bI _) (rf_s4 _ _) dX3_fork_152 (fun H locs hG => ?_)
        refine lv_aload_n hx hb dX3_fork_153 rfl (lv_at hl 3 rfl) ?_
        refine g_get (k := 4) (v := .ref (bd 5)) (C := RX3) (ref := RX3) (fs := [.ref (bd 1), .ref (bd 2), .ref (bd 3), .ref (bd 4), .ref (bd 5), .ref (bd 6), .int fc, .int cc]) hx hb hown hts hG gX3 rfl rf_0 (by decide) t_242 rfl rfl dX3_fork_154 ?_
        refine lv_iload hx hb dX3_fork_157 (lv_at hl 0 rfl) ?_
        refine lv_aload_n hx hb dX3_fork_159 rfl (lv_at hl 3 rfl) ?_
        refine g_get (k := 4) (v := .ref (bd 5)) (C := RX3) (ref := RX3) (fs := [.ref (bd 1), .ref (bd 2), .ref (bd 3), .ref (bd 4), .ref (bd 5), .ref (bd 6), .int fc, .int cc]) hx hb hown hts hG gX3 rfl rf_0 (by decide) t_242 rfl rfl dX3_fork_160 ?_
        refine lv_iload hx hb dX3_fork_163 (lv_at hl 1 rfl) ?_
        refine g_zald (i := (64 * j + i)) (t0 := 2) hx hb hG rf_5 rfl ((by omega)) (by decide) dX3_fork_165 ?_
        refine g_zast (i := (64 * n + i)) (x := bI ((up1 (rkS j n fm cm wr mk i).2.2.2 (64 * j + i) ((rkS j n fm cm wr mk i).2.2.2 (64 * j + i) || (decide (0 < (rkS j n fm cm wr mk i).1 (64 * j + i)) && !(rkS j n fm cm wr mk i).2.1 (64 * j + i)))) (64 * j + i))) (t0 := 2) (ws' := rfW bd cI cZ (up1 run n true) (up1 (rkS j n fm cm wr mk i).1 (64 * n + i) ((rkS j n fm cm wr mk i).1 (64 * j + i))) (up1 (rkS j n fm cm wr mk i).2.1 (64 * n + i) ((rkS j n fm cm wr mk i).2.1 (64 * j + i))) (up1 (rkS j n fm cm wr mk i).2.2.1 (64 * n + i) ((rkS j n fm cm wr mk i).2.2.1 (64 * j + i))) (up1 (up1 (rkS j n fm cm wr mk i).2.2.2 (64 * j + i) ((rkS j n fm cm wr mk i).2.2.2 (64 * j + i) || (decide (0 < (rkS j n fm cm wr mk i).1 (64 * j + i)) && !(rkS j n fm cm wr mk i).2.1 (64 * j + i)))) (64 * n + i) ((up1 (rkS j n fm cm wr mk i).2.2.2 (64 * j + i) ((rkS j n fm cm wr mk i).2.2.2 (64 * j + i) || (decide (0 < (rkS j n fm cm wr mk i).1 (64 * j + i)) && !(rkS j n fm cm wr mk i).2.1 (64 * j + i)))) (64 * j + i))) wo fc cc) hx hb hG rf_5 rfl ((by omega)) (by decide) (nar_bI _) (rf_s5 _ _) dX3_fork_166 (fun H locs hG => ?_)
        refine lv_iinc (k := 2) (v := nI (i + 1)) (lv' := [(3, .int (nI (i + 1))), (5, .int (nI (64 * n + i))), (4, .int (nI (64 * j + i))), (0, .ref (bd 0)), (1, .int (nI j)), (2, .int (nI n))]) hx hb dX3_fork_167 hl rfl (nI_1 i) (by decide) rfl (fun ls hl => ?_)
        refine lv_goto (tgt := 47) hx hb dX3_fork_170 rfl ?_
        exact ih (i + 1) _ _ _ (by omega) hG (lv_sub hl [0, 3, 4, 5] rfl)
  exact loop 64 0 _ _ _ (by omega) hG (lv_sub hl [0, 2, 3, 1] rfl)
def rxS (j : Nat) (fm : Nat → Nat) (cm wr mk : Nat → Bool) : Nat → (Nat → Nat) × (Nat → Bool) × (Nat → Bool) × (Nat → Bool)
  | 0 => (fm, cm, wr, mk)
  | i + 1 => (up1 (rxS j fm cm wr mk i).1 (64 * j + i) 0, up1 (rxS j fm cm wr mk i).2.1 (64 * j + i) false, up1 (rxS j fm cm wr mk i).2.2.1 (64 * j + i) false, up1 (rxS j fm cm wr mk i).2.2.2 (64 * j + i) false)
theorem rxS_le {j : Nat} {fm : Nat → Nat} {cm wr mk : Nat → Bool} (hB : ∀ i, fm i ≤ 24) : ∀ i x, (rxS j fm cm wr mk i).1 x ≤ 24
  | 0, x => hB x
  | i + 1, x => by
    show up1 (rxS j fm cm wr mk i).1 (64 * j + i) 0 x ≤ 24
    by_cases h : x = 64 * j + i
    · subst h; rw [up1_s]; omega
    · rw [up1_n h]; exact rxS_le hB i x
set_option maxHeartbeats 4000000 in
set_option maxRecDepth 100000 in
theorem rp_exit_1 {x : Int32} (h : ¬ rn run x) : gM l yX3_exit cX3_exit 4 (some .int) 3 70 D cls (fpT cI cQ cZ) A (rfW bd cI cZ run fm cm wr mk wo fc cc) [.ref (bd 0), .int x] (some (.int (-1))) (rfW bd cI cZ run fm cm wr mk wo fc cc) := by
  refine gM_of (by decide) (Nat.le_of_ble_eq_true rfl) ?_
  intro p e s m args below meth c ls hx hb hml hown hts hN hr hlk hl hG
  have hown : s.vm.findClass RX3 = some m.cls := hown
  have hl : lv_has ls 4 [(0, .ref (bd 0)), (1, .int x)] := hl
  refine lv_aload_n hx hb dX3_exit_0 rfl (lv_at hl 0 rfl) ?_
  refine lv_iload_n hx hb dX3_exit_1 rfl (lv_at hl 1 rfl) ?_
  refine g_callV (As := [.int x]) (rest := []) (fs := [.ref (bd 1), .ref (bd 2), .ref (bd 3), .ref (bd 4), .ref (bd 5), .ref (bd 6), .int fc, .int cc]) (rm_away_n h) hx hb hml hown hts hN hG t_293 t_295 s_24 t_4 t_296 nm_X3_away ⟨by decide, by decide⟩ rf_0 rfl hl.1 (Nat.le_of_ble_eq_true rfl) dX3_exit_2 ⟨Nat.zero_le _, Nat.zero_le _⟩ (fun H locs hG => ?_)
  refine W.eq (g2 := F0 m 5 ls [.int 1]) rfl ?_
  refine lv_if_eq (tgt := 10) hx hb dX3_exit_5 rfl (fun hh => absurd hh (by decide)) (fun _ => ?_)
  refine lv_iconst (v := (-1)) hx hb dX3_exit_8 (by decide) ?_
  exact g_iret hx hb hr hlk hG dX3_exit_9
set_option maxHeartbeats 4000000 in
set_option maxRecDepth 100000 in
theorem rp_exit_ok {j : Nat} (hj : j < 5) (h : run j = true) (hB : ∀ i, fm i ≤ 24)  : gM l yX3_exit cX3_exit 4 (some .int) 3 70 D cls (fpT cI cQ cZ) A (rfW bd cI cZ run fm cm wr mk wo fc cc) [.ref (bd 0), .int (nI j)] (some (.int (frR (up1 run j false) (rxS j fm cm wr mk 64).1 - frR run fm))) (rfW bd cI cZ (up1 run j false) ((rxS j fm cm wr mk 64).1) ((rxS j fm cm wr mk 64).2.1) ((rxS j fm cm wr mk 64).2.2.1) ((rxS j fm cm wr mk 64).2.2.2) wo fc cc) := by
  refine gM_of (by decide) (Nat.le_of_ble_eq_true rfl) ?_
  intro p e s m args below meth c ls hx hb hml hown hts hN hr hlk hl hG
  have hown : s.vm.findClass RX3 = some m.cls := hown
  have hl : lv_has ls 4 [(0, .ref (bd 0)), (1, .int (nI j))] := hl
  refine lv_aload_n hx hb dX3_exit_0 rfl (lv_at hl 0 rfl) ?_
  refine lv_iload_n hx hb dX3_exit_1 rfl (lv_at hl 1 rfl) ?_
  refine g_callV (As := [.int (nI j)]) (rest := []) (fs := [.ref (bd 1), .ref (bd 2), .ref (bd 3), .ref (bd 4), .ref (bd 5), .ref (bd 6), .int fc, .int cc]) (rm_away_t hj h) hx hb hml hown hts hN hG t_293 t_295 s_24 t_4 t_296 nm_X3_away ⟨by decide, by decide⟩ rf_0 rfl hl.1 (Nat.le_of_ble_eq_true rfl) dX3_exit_2 ⟨Nat.zero_le _, Nat.zero_le _⟩ (fun H locs hG => ?_)
  refine W.eq (g2 := F0 m 5 ls [.int 0]) rfl ?_
  refine lv_if_eq (tgt := 10) hx hb dX3_exit_5 rfl (fun _ => ?_) (fun hh => absurd (rfl) hh)
  refine lv_aload_n hx hb dX3_exit_10 rfl (lv_at hl 0 rfl) ?_
  refine g_callV (As := []) (rest := []) (fs := [.ref (bd 1), .ref (bd 2), .ref (bd 3), .ref (bd 4), .ref (bd 5), .ref (bd 6), .int fc, .int cc]) (rm_free hB) hx hb hml hown hts hN hG t_288 t_265 t_266 t_4 t_267 nm_X3_free ⟨by decide, by decide⟩ rf_0 rfl hl.1 (Nat.le_of_ble_eq_true rfl) dX3_exit_11 ⟨Nat.zero_le _, Nat.zero_le _⟩ (fun H locs hG => ?_)
  refine W.eq (g2 := F0 m 14 ls [.int (frR run fm)]) rfl ?_
  refine lv_istore_n (lv' := [(2, .int (frR run fm)), (0, .ref (bd 0)), (1, .int (nI j))]) hx hb dX3_exit_14 rfl hl (by decide) rfl (fun ls hl => ?_)
  refine lv_iconst (v := nI 0) hx hb dX3_exit_15 (by decide) ?_
  refine lv_istore_n (lv' := [(3, .int (nI 0)), (2, .int (frR run fm)), (0, .ref (bd 0)), (1, .int (nI j))]) hx hb dX3_exit_16 rfl hl (by decide) rfl (fun ls hl => ?_)
  have loop : ∀ (n i : Nat) (H : Heap) (locs : List Loc) (ls : Array Slot), i + n = 64 → gG D cls (fpT cI cQ cZ) A s (rfW bd cI cZ run ((rxS j fm cm wr mk i).1) ((rxS j fm cm wr mk i).2.1) ((rxS j fm cm wr mk i).2.2.1) ((rxS j fm cm wr mk i).2.2.2) wo fc cc) H locs → lv_has ls 4 [(3, .int (nI i)), (2, .int (frR run fm)), (0, .ref (bd 0)), (1, .int (nI j))] → W p l e (gR 3 70) s m args below meth c H locs 0 0 (gQ below args s D cls (fpT cI cQ cZ) A (some (.int (frR (up1 run j false) (rxS j fm cm wr mk 64).1 - frR run fm))) (rfW bd cI cZ (up1 run j false) ((rxS j fm cm wr mk 64).1) ((rxS j fm cm wr mk 64).2.1) ((rxS j fm cm wr mk 64).2.2.1) ((rxS j fm cm wr mk 64).2.2.2) wo fc cc)) (F0 m 17 ls []) := by
    intro n
    induction n with
    | zero =>
      intro i H locs ls hi hG hl
      obtain rfl : i = 64 := by omega
      refine lv_iload_n hx hb dX3_exit_17 rfl (lv_at hl 0 rfl) ?_
      refine lv_bipush (v := nI 64) hx hb dX3_exit_18 (by decide) ?_
      refine lv_icmp_ge (tgt := 39) hx hb dX3_exit_20 rfl (fun _ => ?_) (fun hh => absurd (nI_le (Nat.le_refl 64) (by decide)) hh)
      refine lv_aload_n hx hb dX3_exit_39 rfl (lv_at hl 2 rfl) ?_
      refine g_get (k := 0) (v := .ref (bd 1)) (C := RX3) (ref := RX3) (fs := [.ref (bd 1), .ref (bd 2), .ref (bd 3), .ref (bd 4), .ref (bd 5), .ref (bd 6), .int fc, .int cc]) hx hb hown hts hG gX3 rfl rf_0 (by decide) t_238 rfl rfl dX3_exit_40 ?_
      refine lv_iload_n hx hb dX3_exit_43 rfl (lv_at hl 3 rfl) ?_
      refine lv_iconst (v := bI false) hx hb dX3_exit_44 (by decide) ?_
      refine g_zast (i := j) (x := bI false) (t0 := 2) (ws' := rfW bd cI cZ (up1 run j false) ((rxS j fm cm wr mk 64).1) ((rxS j fm cm wr mk 64).2.1) ((rxS j fm cm wr mk 64).2.2.1) ((rxS j fm cm wr mk 64).2.2.2) wo fc cc) hx hb hG rf_1 rfl (hj) (by decide) (nar_bI false) (rf_s1 j false) dX3_exit_45 (fun H locs hG => ?_)
      refine lv_aload_n hx hb dX3_exit_46 rfl (lv_at hl 2 rfl) ?_
      refine g_callV (As := []) (rest := []) (fs := [.ref (bd 1), .ref (bd 2), .ref (bd 3), .ref (bd 4), .ref (bd 5), .ref (bd 6), .int fc, .int cc]) (rm_free (fun x => rxS_le hB 64 x)) hx hb hml hown hts hN hG t_288 t_265 t_266 t_4 t_267 nm_X3_free ⟨by decide, by decide⟩ rf_0 rfl hl.1 (Nat.le_of_ble_eq_true rfl) dX3_exit_47 ⟨Nat.zero_le _, Nat.zero_le _⟩ (fun H locs hG => ?_)
      refine W.eq (g2 := F0 m 50 ls [.int (frR (up1 run j false) (rxS j fm cm wr mk 64).1)]) rfl ?_
      refine lv_iload_n hx hb dX3_exit_50 rfl (lv_at hl 1 rfl) ?_
      refine lv_isub hx hb dX3_exit_51 ?_
      exact g_iret hx hb hr hlk hG dX3_exit_52
    | succ n ih =>
      intro i H locs ls hi hG hl
      have hi6 : i < 64 := by omega
      refine lv_iload_n hx hb dX3_exit_17 rfl (lv_at hl 0 rfl) ?_
      refine lv_bipush (v := nI 64) hx hb dX3_exit_18 (by decide) ?_
      refine lv_icmp_ge (tgt := 39) hx hb dX3_exit_20 rfl (fun hh => absurd hh (nI_ge hi6 (by decide))) (fun _ => ?_)
      refine lv_aload_n hx hb dX3_exit_23 rfl (lv_at hl 2 rfl) ?_
      refine lv_bipush (v := nI 64) hx hb dX3_exit_24 (by decide) ?_
      refine lv_iload_n hx hb dX3_exit_26 rfl (lv_at hl 3 rfl) ?_
      refine lv_imul hx hb dX3_exit_27 ?_
      refine g_top (y := nI (64 * j)) (pk_mul 64 j) ?_
      refine lv_iload_n hx hb dX3_exit_28 rfl (lv_at hl 0 rfl) ?_
      refine lv_iadd hx hb dX3_exit_29 ?_
      refine g_top (y := nI (64 * j + i)) (nI_add _ _) ?_
      refine g_callV (As := [.int (nI (64 * j + i))]) (rest := []) (fs := [.ref (bd 1), .ref (bd 2), .ref (bd 3), .ref (bd 4), .ref (bd 5), .ref (bd 6), .int fc, .int cc]) (rm_clear (k := 64 * j + i) (by omega)) hx hb hml hown hts hN hG t_301 t_303 s_25 t_4 t_304 nm_X3_clear ⟨by decide, by decide⟩ rf_0 rfl hl.1 (Nat.le_of_ble_eq_true rfl) dX3_exit_30 ⟨Nat.zero_le _, Nat.zero_le _⟩ (fun H locs hG => ?_)
      refine W.eq (g2 := F0 m 33 ls []) rfl ?_
      refine lv_iinc (k := 0) (v := nI (i + 1)) (lv' := [(3, .int (nI (i + 1))), (2, .int (frR run fm)), (0, .ref (bd 0)), (1, .int (nI j))]) hx hb dX3_exit_33 hl rfl (nI_1 i) (by decide) rfl (fun ls hl => ?_)
      refine lv_goto (tgt := 17) hx hb dX3_exit_36 rfl ?_
      exact ih (i + 1) _ _ _ (by omega) hG (lv_sub hl [0, 1, 2, 3] rfl)
  exact loop 64 0 _ _ _ (by omega) hG (lv_sub hl [0, 1, 2, 3] rfl)
end CM
