section CM
variable {l : Launch} {D : va_G} {A : Nat → Prop} {ad : Nat → Nat} {cI cQ cZ : ClassId} {run : Nat → Bool} {mp : Nat → Nat → Bool} {fr : Nat → Nat → Nat} {kd : Nat → Nat → Int32} {wd ct : Nat → Int32} {af cf : Int32}
set_option maxHeartbeats 4000000 in
set_option maxRecDepth 100000 in
theorem fm_has_t {j k : Nat} (hj : j < 5) (hk : k < 64) (h : mp j k = true) : gM l yX0_has cX0_has 2 (some .boolean) 0 0 D cls (fpT cI cQ cZ) A (fpW ad cI cQ run mp fr kd wd ct af cf) [.ref (ad (5 + 3 * j)), .int (nI k)] (some (.int 1)) (fpW ad cI cQ run mp fr kd wd ct af cf) := by
  refine gM_of (by decide) (Nat.le_of_ble_eq_true rfl) ?_
  intro p e s m args below meth c ls hx hb hml hown hts hN hr hlk hl hG
  have hown : s.vm.findClass RX0 = some m.cls := hown
  have hl : lv_has ls 2 [(0, .ref (ad (5 + 3 * j))), (1, .int (nI k))] := hl
  refine lv_aload_n hx hb dX0_has_0 rfl (lv_at hl 0 rfl) ?_
  refine g_get (k := 1) (v := .long (en (mp j))) (C := RX0) (ref := RX0) (fs := [.int (bI (run j)), .long (en (mp j)), .ref (ad (6 + 3 * j)), .ref (ad (7 + 3 * j))]) hx hb hown hts hG gX0 rfl (fp_5 (hj)) (by decide) t_22 rfl rfl dX0_has_1 ?_
  refine lv_iload_n hx hb dX0_has_4 rfl (lv_at hl 1 rfl) ?_
  refine lv_lushr (v := ((en (mp j)).toUInt64 >>> ((nI k).toInt64.toUInt64 &&& Int64.toUInt64 63)).toInt64) hx hb dX0_has_5 rfl ?_
  refine lv_lconst (v := 1) hx hb dX0_has_6 (by decide) ?_
  refine lv_land hx hb dX0_has_7 ?_
  refine g_topl (y := 1) (by rw [en_bit _ hk, h]; rfl) ?_
  refine lv_lconst (v := 0) hx hb dX0_has_8 (by decide) ?_
  refine W.lcmp hx hb dX0_has_9 ?_
  refine lv_if_eq (tgt := 17) hx hb dX0_has_10 rfl (fun hh => absurd hh (by decide)) (fun _ => ?_)
  refine lv_iconst (v := 1) hx hb dX0_has_13 (by decide) ?_
  refine lv_goto (tgt := 18) hx hb dX0_has_14 rfl ?_
  exact g_zret hx hb hr (rfl) hlk hG dX0_has_18
set_option maxHeartbeats 4000000 in
set_option maxRecDepth 100000 in
theorem fm_has_f {j k : Nat} (hj : j < 5) (hk : k < 64) (h : mp j k = false) : gM l yX0_has cX0_has 2 (some .boolean) 0 0 D cls (fpT cI cQ cZ) A (fpW ad cI cQ run mp fr kd wd ct af cf) [.ref (ad (5 + 3 * j)), .int (nI k)] (some (.int 0)) (fpW ad cI cQ run mp fr kd wd ct af cf) := by
  refine gM_of (by decide) (Nat.le_of_ble_eq_true rfl) ?_
  intro p e s m args below meth c ls hx hb hml hown hts hN hr hlk hl hG
  have hown : s.vm.findClass RX0 = some m.cls := hown
  have hl : lv_has ls 2 [(0, .ref (ad (5 + 3 * j))), (1, .int (nI k))] := hl
  refine lv_aload_n hx hb dX0_has_0 rfl (lv_at hl 0 rfl) ?_
  refine g_get (k := 1) (v := .long (en (mp j))) (C := RX0) (ref := RX0) (fs := [.int (bI (run j)), .long (en (mp j)), .ref (ad (6 + 3 * j)), .ref (ad (7 + 3 * j))]) hx hb hown hts hG gX0 rfl (fp_5 (hj)) (by decide) t_22 rfl rfl dX0_has_1 ?_
  refine lv_iload_n hx hb dX0_has_4 rfl (lv_at hl 1 rfl) ?_
  refine lv_lushr (v := ((en (mp j)).toUInt64 >>> ((nI k).toInt64.toUInt64 &&& Int64.toUInt64 63)).toInt64) hx hb dX0_has_5 rfl ?_
  refine lv_lconst (v := 1) hx hb dX0_has_6 (by decide) ?_
  refine lv_land hx hb dX0_has_7 ?_
  refine g_topl (y := 0) (by rw [en_bit _ hk, h]; rfl) ?_
  refine lv_lconst (v := 0) hx hb dX0_has_8 (by decide) ?_
  refine W.lcmp hx hb dX0_has_9 ?_
  refine lv_if_eq (tgt := 17) hx hb dX0_has_10 rfl (fun _ => ?_) (fun hh => absurd (by decide) hh)
  refine lv_iconst (v := 0) hx hb dX0_has_17 (by decide) ?_
  exact g_zret hx hb hr (rfl) hlk hG dX0_has_18
set_option maxHeartbeats 4000000 in
set_option maxRecDepth 100000 in
theorem fm_is_t {j k : Nat} (hj : j < 5) (hk : k < 64) {part : Int32} (h : ¬ kd j k &&& part = 0) : gM l yX0_is cX0_is 3 (some .boolean) 0 0 D cls (fpT cI cQ cZ) A (fpW ad cI cQ run mp fr kd wd ct af cf) [.ref (ad (5 + 3 * j)), .int part, .int (nI k)] (some (.int 1)) (fpW ad cI cQ run mp fr kd wd ct af cf) := by
  refine gM_of (by decide) (Nat.le_of_ble_eq_true rfl) ?_
  intro p e s m args below meth c ls hx hb hml hown hts hN hr hlk hl hG
  have hown : s.vm.findClass RX0 = some m.cls := hown
  have hl : lv_has ls 3 [(0, .ref (ad (5 + 3 * j))), (1, .int part), (2, .int (nI k))] := hl
  refine lv_aload_n hx hb dX0_is_0 rfl (lv_at hl 0 rfl) ?_
  refine g_get (k := 3) (v := .ref (ad (7 + 3 * j))) (C := RX0) (ref := RX0) (fs := [.int (bI (run j)), .long (en (mp j)), .ref (ad (6 + 3 * j)), .ref (ad (7 + 3 * j))]) hx hb hown hts hG gX0 rfl (fp_5 (hj)) (by decide) t_26 rfl rfl dX0_is_1 ?_
  refine lv_iload_n hx hb dX0_is_4 rfl (lv_at hl 2 rfl) ?_
  refine g_iald (i := k) (t0 := 0) hx hb hG (fp_7 (hj)) rfl (hk) (by decide) dX0_is_5 ?_
  refine lv_iload_n hx hb dX0_is_6 rfl (lv_at hl 1 rfl) ?_
  refine lv_iand hx hb dX0_is_7 ?_
  refine lv_if_eq (tgt := 15) hx hb dX0_is_8 rfl (fun hh => absurd hh (h)) (fun _ => ?_)
  refine lv_iconst (v := 1) hx hb dX0_is_11 (by decide) ?_
  refine lv_goto (tgt := 16) hx hb dX0_is_12 rfl ?_
  exact g_zret hx hb hr (rfl) hlk hG dX0_is_16
set_option maxHeartbeats 4000000 in
set_option maxRecDepth 100000 in
theorem fm_is_f {j k : Nat} (hj : j < 5) (hk : k < 64) {part : Int32} (h : kd j k &&& part = 0) : gM l yX0_is cX0_is 3 (some .boolean) 0 0 D cls (fpT cI cQ cZ) A (fpW ad cI cQ run mp fr kd wd ct af cf) [.ref (ad (5 + 3 * j)), .int part, .int (nI k)] (some (.int 0)) (fpW ad cI cQ run mp fr kd wd ct af cf) := by
  refine gM_of (by decide) (Nat.le_of_ble_eq_true rfl) ?_
  intro p e s m args below meth c ls hx hb hml hown hts hN hr hlk hl hG
  have hown : s.vm.findClass RX0 = some m.cls := hown
  have hl : lv_has ls 3 [(0, .ref (ad (5 + 3 * j))), (1, .int part), (2, .int (nI k))] := hl
  refine lv_aload_n hx hb dX0_is_0 rfl (lv_at hl 0 rfl) ?_
  refine g_get (k := 3) (v := .ref (ad (7 + 3 * j))) (C := RX0) (ref := RX0) (fs := [.int (bI (run j)), .long (en (mp j)), .ref (ad (6 + 3 * j)), .ref (ad (7 + 3 * j))]) hx hb hown hts hG gX0 rfl (fp_5 (hj)) (by decide) t_26 rfl rfl dX0_is_1 ?_
  refine lv_iload_n hx hb dX0_is_4 rfl (lv_at hl 2 rfl) ?_
  refine g_iald (i := k) (t0 := 0) hx hb hG (fp_7 (hj)) rfl (hk) (by decide) dX0_is_5 ?_
  refine lv_iload_n hx hb dX0_is_6 rfl (lv_at hl 1 rfl) ?_
  refine lv_iand hx hb dX0_is_7 ?_
  refine lv_if_eq (tgt := 15) hx hb dX0_is_8 rfl (fun _ => ?_) (fun hh => absurd (h) hh)
  refine lv_iconst (v := 0) hx hb dX0_is_15 (by decide) ?_
  exact g_zret hx hb hr (rfl) hlk hG dX0_is_16
set_option maxHeartbeats 4000000 in
set_option maxRecDepth 100000 in
theorem fm_turn {j k : Nat} (hj : j < 5) (hk : k < 64) {part : Int32} : gM l yX0_turn cX0_turn 3 none 0 0 D cls (fpT cI cQ cZ) A (fpW ad cI cQ run mp fr kd wd ct af cf) [.ref (ad (5 + 3 * j)), .int part, .int (nI k)] none (fpW ad cI cQ run mp fr (up1 kd j (upd (kd j) k (kd j k ^^^ part))) wd ct af cf) := by
  refine gM_of (by decide) (Nat.le_of_ble_eq_true rfl) ?_
  intro p e s m args below meth c ls hx hb hml hown hts hN hr hlk hl hG
  have hown : s.vm.findClass RX0 = some m.cls := hown
  have hl : lv_has ls 3 [(0, .ref (ad (5 + 3 * j))), (1, .int part), (2, .int (nI k))] := hl
  refine lv_aload_n hx hb dX0_turn_0 rfl (lv_at hl 0 rfl) ?_
  refine g_get (k := 3) (v := .ref (ad (7 + 3 * j))) (C := RX0) (ref := RX0) (fs := [.int (bI (run j)), .long (en (mp j)), .ref (ad (6 + 3 * j)), .ref (ad (7 + 3 * j))]) hx hb hown hts hG gX0 rfl (fp_5 (hj)) (by decide) t_26 rfl rfl dX0_turn_1 ?_
  refine lv_iload_n hx hb dX0_turn_4 rfl (lv_at hl 2 rfl) ?_
  refine lv_dup2_11 hx hb dX0_turn_5 rfl rfl ?_
  refine g_iald (i := k) (t0 := 0) hx hb hG (fp_7 (hj)) rfl (hk) (by decide) dX0_turn_6 ?_
  refine lv_iload_n hx hb dX0_turn_7 rfl (lv_at hl 1 rfl) ?_
  refine lv_ixor hx hb dX0_turn_8 ?_
  refine g_iast (i := k) (x := (kd j k) ^^^ part) (t0 := 0) (ws' := fpW ad cI cQ run mp fr (up1 kd j (upd (kd j) k (kd j k ^^^ part))) wd ct af cf) hx hb hG (fp_7 (hj)) rfl (hk) (by decide) (fp_s7 hj _) dX0_turn_9 (fun H locs hG => ?_)
  exact g_vret hx hb hr hlk hG dX0_turn_10
set_option maxHeartbeats 4000000 in
set_option maxRecDepth 100000 in
theorem fm_set {j k : Nat} (hj : j < 5) (hk : k < 64) {f : Nat} {v : Int32} : gM l yX0_set cX0_set 4 none 0 0 D cls (fpT cI cQ cZ) A (fpW ad cI cQ run mp fr kd wd ct af cf) [.ref (ad (5 + 3 * j)), .int (nI k), .int (nI f), .int v] none (fpW ad cI cQ run (up1 mp j (up1 (mp j) k true)) (up1 fr j (up1 (fr j) k f)) (up1 kd j (upd (kd j) k v)) wd ct af cf) := by
  refine gM_of (by decide) (Nat.le_of_ble_eq_true rfl) ?_
  intro p e s m args below meth c ls hx hb hml hown hts hN hr hlk hl hG
  have hown : s.vm.findClass RX0 = some m.cls := hown
  have hl : lv_has ls 4 [(0, .ref (ad (5 + 3 * j))), (1, .int (nI k)), (2, .int (nI f)), (3, .int v)] := hl
  refine lv_aload_n hx hb dX0_set_0 rfl (lv_at hl 0 rfl) ?_
  refine lv_dup hx hb dX0_set_1 rfl ?_
  refine g_get (k := 1) (v := .long (en (mp j))) (C := RX0) (ref := RX0) (fs := [.int (bI (run j)), .long (en (mp j)), .ref (ad (6 + 3 * j)), .ref (ad (7 + 3 * j))]) hx hb hown hts hG gX0 rfl (fp_5 (hj)) (by decide) t_22 rfl rfl dX0_set_2 ?_
  refine lv_lconst (v := 1) hx hb dX0_set_5 (by decide) ?_
  refine lv_iload_n hx hb dX0_set_6 rfl (lv_at hl 1 rfl) ?_
  refine lv_lshl (v := 1 <<< ((nI k).toInt64 &&& 63)) hx hb dX0_set_7 rfl ?_
  refine lv_lor hx hb dX0_set_8 ?_
  refine g_topl (y := en (up1 (mp j) k true)) (en_set _ hk) ?_
  refine g_put (k := 1) (v := .long (en (up1 (mp j) k true))) (C := RX0) (ref := RX0) (ty := .long) (fs := [.int (bI (run j)), .long (en (mp j)), .ref (ad (6 + 3 * j)), .ref (ad (7 + 3 * j))]) (ws' := fpW ad cI cQ run (up1 mp j (up1 (mp j) k true)) fr kd wd ct af cf) tyX0 tyX0_ok nmX0 hx hb hown hts hG gX0 rfl (fp_5 (hj)) (by decide) t_22 rfl rfl (by decide +kernel) rfl rfl (Nat.le_of_ble_eq_true rfl) (fp_s5m hj _) dX0_set_9 (fun H locs hG => ?_)
  refine lv_aload_n hx hb dX0_set_12 rfl (lv_at hl 0 rfl) ?_
  refine g_get (k := 2) (v := .ref (ad (6 + 3 * j))) (C := RX0) (ref := RX0) (fs := [.int (bI (run j)), .long (en ((up1 mp j (up1 (mp j) k true)) j)), .ref (ad (6 + 3 * j)), .ref (ad (7 + 3 * j))]) hx hb hown hts hG gX0 rfl (fp_5 (hj)) (by decide) t_24 rfl rfl dX0_set_13 ?_
  refine lv_iload_n hx hb dX0_set_16 rfl (lv_at hl 1 rfl) ?_
  refine lv_iload_n hx hb dX0_set_17 rfl (lv_at hl 2 rfl) ?_
  refine g_iast (i := k) (x := nI f) (t0 := 0) (ws' := fpW ad cI cQ run (up1 mp j (up1 (mp j) k true)) (up1 fr j (up1 (fr j) k f)) kd wd ct af cf) hx hb hG (fp_6 (hj)) rfl (hk) (by decide) (fp_s6u hj k f) dX0_set_18 (fun H locs hG => ?_)
  refine lv_aload_n hx hb dX0_set_19 rfl (lv_at hl 0 rfl) ?_
  refine g_get (k := 3) (v := .ref (ad (7 + 3 * j))) (C := RX0) (ref := RX0) (fs := [.int (bI (run j)), .long (en ((up1 mp j (up1 (mp j) k true)) j)), .ref (ad (6 + 3 * j)), .ref (ad (7 + 3 * j))]) hx hb hown hts hG gX0 rfl (fp_5 (hj)) (by decide) t_26 rfl rfl dX0_set_20 ?_
  refine lv_iload_n hx hb dX0_set_23 rfl (lv_at hl 1 rfl) ?_
  refine lv_iload_n hx hb dX0_set_24 rfl (lv_at hl 3 rfl) ?_
  refine g_iast (i := k) (x := v) (t0 := 0) (ws' := fpW ad cI cQ run (up1 mp j (up1 (mp j) k true)) (up1 fr j (up1 (fr j) k f)) (up1 kd j (upd (kd j) k v)) wd ct af cf) hx hb hG (fp_7 (hj)) rfl (hk) (by decide) (fp_s7 hj _) dX0_set_25 (fun H locs hG => ?_)
  exact g_vret hx hb hr hlk hG dX0_set_26
set_option maxHeartbeats 4000000 in
set_option maxRecDepth 100000 in
theorem fm_clear {j k : Nat} (hj : j < 5) (hk : k < 64) : gM l yX0_clear cX0_clear 2 none 0 0 D cls (fpT cI cQ cZ) A (fpW ad cI cQ run mp fr kd wd ct af cf) [.ref (ad (5 + 3 * j)), .int (nI k)] none (fpW ad cI cQ run (up1 mp j (up1 (mp j) k false)) fr kd wd ct af cf) := by
  refine gM_of (by decide) (Nat.le_of_ble_eq_true rfl) ?_
  intro p e s m args below meth c ls hx hb hml hown hts hN hr hlk hl hG
  have hown : s.vm.findClass RX0 = some m.cls := hown
  have hl : lv_has ls 2 [(0, .ref (ad (5 + 3 * j))), (1, .int (nI k))] := hl
  refine lv_aload_n hx hb dX0_clear_0 rfl (lv_at hl 0 rfl) ?_
  refine lv_dup hx hb dX0_clear_1 rfl ?_
  refine g_get (k := 1) (v := .long (en (mp j))) (C := RX0) (ref := RX0) (fs := [.int (bI (run j)), .long (en (mp j)), .ref (ad (6 + 3 * j)), .ref (ad (7 + 3 * j))]) hx hb hown hts hG gX0 rfl (fp_5 (hj)) (by decide) t_22 rfl rfl dX0_clear_2 ?_
  refine lv_lconst (v := 1) hx hb dX0_clear_5 (by decide) ?_
  refine lv_iload_n hx hb dX0_clear_6 rfl (lv_at hl 1 rfl) ?_
  refine lv_lshl (v := 1 <<< ((nI k).toInt64 &&& 63)) hx hb dX0_clear_7 rfl ?_
  refine lv_ldc2 (v := -1) hx hb hown (hts _ t_137) dX0_clear_8 ?_
  refine lv_lxor hx hb dX0_clear_11 ?_
  refine lv_land hx hb dX0_clear_12 ?_
  refine g_topl (y := en (up1 (mp j) k false)) (en_clr _ hk) ?_
  refine g_put (k := 1) (v := .long (en (up1 (mp j) k false))) (C := RX0) (ref := RX0) (ty := .long) (fs := [.int (bI (run j)), .long (en (mp j)), .ref (ad (6 + 3 * j)), .ref (ad (7 + 3 * j))]) (ws' := fpW ad cI cQ run (up1 mp j (up1 (mp j) k false)) fr kd wd ct af cf) tyX0 tyX0_ok nmX0 hx hb hown hts hG gX0 rfl (fp_5 (hj)) (by decide) t_22 rfl rfl (by decide +kernel) rfl rfl (Nat.le_of_ble_eq_true rfl) (fp_s5m hj _) dX0_clear_13 (fun H locs hG => ?_)
  exact g_vret hx hb hr hlk hG dX0_clear_16
end CM
