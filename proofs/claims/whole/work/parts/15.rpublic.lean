section CM
variable {l : Launch} {D : va_G} {A : Nat → Prop} {bd : Nat → Nat} {cI cQ cZ : ClassId} {run : Nat → Bool} {fm : Nat → Nat} {cm wr mk : Nat → Bool} {wo : Nat → Int32} {fc cc : Int32}
set_option maxHeartbeats 4000000 in
set_option maxRecDepth 100000 in
theorem rp_map_1 {x y zz : Int32} (h : ¬ rn run x) : gM l yX3_map cX3_map 8 (some .int) 3 70 D cls (fpT cI cQ cZ) A (rfW bd cI cZ run fm cm wr mk wo fc cc) [.ref (bd 0), .int x, .int y, .int zz] (some (.int (-1))) (rfW bd cI cZ run fm cm wr mk wo fc cc) := by
  refine gM_of (by decide) (Nat.le_of_ble_eq_true rfl) ?_
  intro p e s m args below meth c ls hx hb hml hown hts hN hr hlk hl hG
  have hown : s.vm.findClass RX3 = some m.cls := hown
  have hl : lv_has ls 8 [(0, .ref (bd 0)), (1, .int x), (2, .int y), (3, .int zz)] := hl
  refine lv_aload_n hx hb dX3_map_0 rfl (lv_at hl 0 rfl) ?_
  refine lv_iload_n hx hb dX3_map_1 rfl (lv_at hl 1 rfl) ?_
  refine g_callV (As := [.int x]) (rest := []) (fs := [.ref (bd 1), .ref (bd 2), .ref (bd 3), .ref (bd 4), .ref (bd 5), .ref (bd 6), .int fc, .int cc]) (rm_away_n h) hx hb hml hown hts hN hG t_293 t_295 s_24 t_4 t_296 nm_X3_away ⟨by decide, by decide⟩ rf_0 rfl hl.1 (Nat.le_of_ble_eq_true rfl) dX3_map_2 ⟨Nat.zero_le _, Nat.zero_le _⟩ (fun H locs hG => ?_)
  refine W.eq (g2 := F0 m 5 ls [.int 1]) rfl ?_
  refine lv_if_eq (tgt := 10) hx hb dX3_map_5 rfl (fun hh => absurd hh (by decide)) (fun _ => ?_)
  refine lv_iconst (v := (-1)) hx hb dX3_map_8 (by decide) ?_
  exact g_iret hx hb hr hlk hG dX3_map_9
set_option maxHeartbeats 4000000 in
set_option maxRecDepth 100000 in
theorem rp_map_2 {j : Nat} {y zz : Int32} (hj : j < 5) (h : run j = true) (h2 : ¬ pgI y) : gM l yX3_map cX3_map 8 (some .int) 3 70 D cls (fpT cI cQ cZ) A (rfW bd cI cZ run fm cm wr mk wo fc cc) [.ref (bd 0), .int (nI j), .int y, .int zz] (some (.int (-2))) (rfW bd cI cZ run fm cm wr mk wo fc cc) := by
  refine gM_of (by decide) (Nat.le_of_ble_eq_true rfl) ?_
  intro p e s m args below meth c ls hx hb hml hown hts hN hr hlk hl hG
  have hown : s.vm.findClass RX3 = some m.cls := hown
  have hl : lv_has ls 8 [(0, .ref (bd 0)), (1, .int (nI j)), (2, .int y), (3, .int zz)] := hl
  refine lv_aload_n hx hb dX3_map_0 rfl (lv_at hl 0 rfl) ?_
  refine lv_iload_n hx hb dX3_map_1 rfl (lv_at hl 1 rfl) ?_
  refine g_callV (As := [.int (nI j)]) (rest := []) (fs := [.ref (bd 1), .ref (bd 2), .ref (bd 3), .ref (bd 4), .ref (bd 5), .ref (bd 6), .int fc, .int cc]) (rm_away_t hj h) hx hb hml hown hts hN hG t_293 t_295 s_24 t_4 t_296 nm_X3_away ⟨by decide, by decide⟩ rf_0 rfl hl.1 (Nat.le_of_ble_eq_true rfl) dX3_map_2 ⟨Nat.zero_le _, Nat.zero_le _⟩ (fun H locs hG => ?_)
  refine W.eq (g2 := F0 m 5 ls [.int 0]) rfl ?_
  refine lv_if_eq (tgt := 10) hx hb dX3_map_5 rfl (fun _ => ?_) (fun hh => absurd (rfl) hh)
  refine lv_iload_n hx hb dX3_map_10 rfl (lv_at hl 2 rfl) ?_
  refine g_callS (As := [.int y]) (rest := []) (rm_isPage_n h2) hx hb hml hown hts hN hG t_309 t_310 t_4 t_311 nm_X3_isPage ⟨by decide, by decide⟩ hl.1 (Nat.le_of_ble_eq_true rfl) dX3_map_11 ⟨Nat.zero_le _, Nat.zero_le _⟩ (fun H locs hG => ?_)
  refine W.eq (g2 := F0 m 14 ls [.int 0]) rfl ?_
  refine lv_if_ne (tgt := 20) hx hb dX3_map_14 rfl (fun hh => absurd (rfl) hh) (fun _ => ?_)
  refine lv_bipush (v := (-2)) hx hb dX3_map_17 (by decide) ?_
  exact g_iret hx hb hr hlk hG dX3_map_19
set_option maxHeartbeats 4000000 in
set_option maxRecDepth 100000 in
theorem rp_map_4 {j k : Nat} (hj : j < 5) (hk : k < 64) {z : Bool} (h : run j = true) (hB : ∀ i, fm i ≤ 24) (h2 : 0 < fm (64 * j + k)) : gM l yX3_map cX3_map 8 (some .int) 3 70 D cls (fpT cI cQ cZ) A (rfW bd cI cZ run fm cm wr mk wo fc cc) [.ref (bd 0), .int (nI j), .int (nI k), .int (bI z)] (some (.int (-4))) (rfW bd cI cZ run fm cm wr mk wo fc cc) := by
  refine gM_of (by decide) (Nat.le_of_ble_eq_true rfl) ?_
  intro p e s m args below meth c ls hx hb hml hown hts hN hr hlk hl hG
  have hown : s.vm.findClass RX3 = some m.cls := hown
  have hl : lv_has ls 8 [(0, .ref (bd 0)), (1, .int (nI j)), (2, .int (nI k)), (3, .int (bI z))] := hl
  refine lv_aload_n hx hb dX3_map_0 rfl (lv_at hl 0 rfl) ?_
  refine lv_iload_n hx hb dX3_map_1 rfl (lv_at hl 1 rfl) ?_
  refine g_callV (As := [.int (nI j)]) (rest := []) (fs := [.ref (bd 1), .ref (bd 2), .ref (bd 3), .ref (bd 4), .ref (bd 5), .ref (bd 6), .int fc, .int cc]) (rm_away_t hj h) hx hb hml hown hts hN hG t_293 t_295 s_24 t_4 t_296 nm_X3_away ⟨by decide, by decide⟩ rf_0 rfl hl.1 (Nat.le_of_ble_eq_true rfl) dX3_map_2 ⟨Nat.zero_le _, Nat.zero_le _⟩ (fun H locs hG => ?_)
  refine W.eq (g2 := F0 m 5 ls [.int 0]) rfl ?_
  refine lv_if_eq (tgt := 10) hx hb dX3_map_5 rfl (fun _ => ?_) (fun hh => absurd (rfl) hh)
  refine lv_iload_n hx hb dX3_map_10 rfl (lv_at hl 2 rfl) ?_
  refine g_callS (As := [.int (nI k)]) (rest := []) (rm_isPage_t hk) hx hb hml hown hts hN hG t_309 t_310 t_4 t_311 nm_X3_isPage ⟨by decide, by decide⟩ hl.1 (Nat.le_of_ble_eq_true rfl) dX3_map_11 ⟨Nat.zero_le _, Nat.zero_le _⟩ (fun H locs hG => ?_)
  refine W.eq (g2 := F0 m 14 ls [.int 1]) rfl ?_
  refine lv_if_ne (tgt := 20) hx hb dX3_map_14 rfl (fun _ => ?_) (fun hh => absurd hh (by decide))
  refine lv_bipush (v := nI 64) hx hb dX3_map_20 (by decide) ?_
  refine lv_iload_n hx hb dX3_map_22 rfl (lv_at hl 1 rfl) ?_
  refine lv_imul hx hb dX3_map_23 ?_
  refine g_top (y := nI (64 * j)) (pk_mul 64 j) ?_
  refine lv_iload_n hx hb dX3_map_24 rfl (lv_at hl 2 rfl) ?_
  refine lv_iadd hx hb dX3_map_25 ?_
  refine g_top (y := nI (64 * j + k)) (nI_add _ _) ?_
  refine lv_istore (lv' := [(4, .int (nI (64 * j + k))), (0, .ref (bd 0)), (1, .int (nI j)), (2, .int (nI k)), (3, .int (bI z))]) hx hb dX3_map_26 hl (by decide) rfl (fun ls hl => ?_)
  refine lv_aload_n hx hb dX3_map_28 rfl (lv_at hl 1 rfl) ?_
  refine g_get (k := 1) (v := .ref (bd 2)) (C := RX3) (ref := RX3) (fs := [.ref (bd 1), .ref (bd 2), .ref (bd 3), .ref (bd 4), .ref (bd 5), .ref (bd 6), .int fc, .int cc]) hx hb hown hts hG gX3 rfl rf_0 (by decide) t_239 rfl rfl dX3_map_29 ?_
  refine lv_iload hx hb dX3_map_32 (lv_at hl 0 rfl) ?_
  refine g_iald (i := (64 * j + k)) (t0 := 0) hx hb hG rf_2 rfl ((by omega)) (by decide) dX3_map_34 ?_
  refine lv_if_le (tgt := 41) hx hb dX3_map_35 rfl (fun hh => absurd hh (nI_gt0 h2 (by have := hB (64 * j + k); omega))) (fun _ => ?_)
  refine lv_bipush (v := (-4)) hx hb dX3_map_38 (by decide) ?_
  exact g_iret hx hb hr hlk hG dX3_map_40
set_option maxHeartbeats 4000000 in
set_option maxRecDepth 100000 in
theorem rp_map_8 {j k : Nat} (hj : j < 5) (hk : k < 64) {z : Bool} (h : run j = true) (hB : ∀ i, fm i ≤ 24) (h2 : fm (64 * j + k) = 0) (h3 : ¬ 1 + nI (mrN (pgS fm j) k) ≤ frR run fm) : gM l yX3_map cX3_map 8 (some .int) 3 70 D cls (fpT cI cQ cZ) A (rfW bd cI cZ run fm cm wr mk wo fc cc) [.ref (bd 0), .int (nI j), .int (nI k), .int (bI z)] (some (.int (-8))) (rfW bd cI cZ run fm cm wr mk wo fc cc) := by
  refine gM_of (by decide) (Nat.le_of_ble_eq_true rfl) ?_
  intro p e s m args below meth c ls hx hb hml hown hts hN hr hlk hl hG
  have hown : s.vm.findClass RX3 = some m.cls := hown
  have hl : lv_has ls 8 [(0, .ref (bd 0)), (1, .int (nI j)), (2, .int (nI k)), (3, .int (bI z))] := hl
  refine lv_aload_n hx hb dX3_map_0 rfl (lv_at hl 0 rfl) ?_
  refine lv_iload_n hx hb dX3_map_1 rfl (lv_at hl 1 rfl) ?_
  refine g_callV (As := [.int (nI j)]) (rest := []) (fs := [.ref (bd 1), .ref (bd 2), .ref (bd 3), .ref (bd 4), .ref (bd 5), .ref (bd 6), .int fc, .int cc]) (rm_away_t hj h) hx hb hml hown hts hN hG t_293 t_295 s_24 t_4 t_296 nm_X3_away ⟨by decide, by decide⟩ rf_0 rfl hl.1 (Nat.le_of_ble_eq_true rfl) dX3_map_2 ⟨Nat.zero_le _, Nat.zero_le _⟩ (fun H locs hG => ?_)
  refine W.eq (g2 := F0 m 5 ls [.int 0]) rfl ?_
  refine lv_if_eq (tgt := 10) hx hb dX3_map_5 rfl (fun _ => ?_) (fun hh => absurd (rfl) hh)
  refine lv_iload_n hx hb dX3_map_10 rfl (lv_at hl 2 rfl) ?_
  refine g_callS (As := [.int (nI k)]) (rest := []) (rm_isPage_t hk) hx hb hml hown hts hN hG t_309 t_310 t_4 t_311 nm_X3_isPage ⟨by decide, by decide⟩ hl.1 (Nat.le_of_ble_eq_true rfl) dX3_map_11 ⟨Nat.zero_le _, Nat.zero_le _⟩ (fun H locs hG => ?_)
  refine W.eq (g2 := F0 m 14 ls [.int 1]) rfl ?_
  refine lv_if_ne (tgt := 20) hx hb dX3_map_14 rfl (fun _ => ?_) (fun hh => absurd hh (by decide))
  refine lv_bipush (v := nI 64) hx hb dX3_map_20 (by decide) ?_
  refine lv_iload_n hx hb dX3_map_22 rfl (lv_at hl 1 rfl) ?_
  refine lv_imul hx hb dX3_map_23 ?_
  refine g_top (y := nI (64 * j)) (pk_mul 64 j) ?_
  refine lv_iload_n hx hb dX3_map_24 rfl (lv_at hl 2 rfl) ?_
  refine lv_iadd hx hb dX3_map_25 ?_
  refine g_top (y := nI (64 * j + k)) (nI_add _ _) ?_
  refine lv_istore (lv' := [(4, .int (nI (64 * j + k))), (0, .ref (bd 0)), (1, .int (nI j)), (2, .int (nI k)), (3, .int (bI z))]) hx hb dX3_map_26 hl (by decide) rfl (fun ls hl => ?_)
  refine lv_aload_n hx hb dX3_map_28 rfl (lv_at hl 1 rfl) ?_
  refine g_get (k := 1) (v := .ref (bd 2)) (C := RX3) (ref := RX3) (fs := [.ref (bd 1), .ref (bd 2), .ref (bd 3), .ref (bd 4), .ref (bd 5), .ref (bd 6), .int fc, .int cc]) hx hb hown hts hG gX3 rfl rf_0 (by decide) t_239 rfl rfl dX3_map_29 ?_
  refine lv_iload hx hb dX3_map_32 (lv_at hl 0 rfl) ?_
  refine g_iald (i := (64 * j + k)) (t0 := 0) hx hb hG rf_2 rfl ((by omega)) (by decide) dX3_map_34 ?_
  refine lv_if_le (tgt := 41) hx hb dX3_map_35 rfl (fun _ => ?_) (fun hh => absurd (nI_le0 h2) hh)
  refine lv_iconst (v := 1) hx hb dX3_map_41 (by decide) ?_
  refine lv_aload_n hx hb dX3_map_42 rfl (lv_at hl 1 rfl) ?_
  refine lv_iload_n hx hb dX3_map_43 rfl (lv_at hl 2 rfl) ?_
  refine lv_iload_n hx hb dX3_map_44 rfl (lv_at hl 3 rfl) ?_
  refine g_callV (As := [.int (nI j), .int (nI k)]) (rest := [.int 1]) (fs := [.ref (bd 1), .ref (bd 2), .ref (bd 3), .ref (bd 4), .ref (bd 5), .ref (bd 6), .int fc, .int cc]) (rm_more hj hk hB) hx hb hml hown hts hN hG t_312 t_314 s_26 t_4 t_315 nm_X3_more ⟨by decide, by decide⟩ rf_0 rfl hl.1 (Nat.le_of_ble_eq_true rfl) dX3_map_45 ⟨Nat.zero_le _, Nat.zero_le _⟩ (fun H locs hG => ?_)
  refine W.eq (g2 := F0 m 48 ls [.int (nI (mrN (pgS fm j) k)), .int 1]) rfl ?_
  refine lv_iadd hx hb dX3_map_48 ?_
  refine lv_istore (lv' := [(5, .int (1 + (nI (mrN (pgS fm j) k)))), (4, .int (nI (64 * j + k))), (0, .ref (bd 0)), (1, .int (nI j)), (2, .int (nI k)), (3, .int (bI z))]) hx hb dX3_map_49 hl (by decide) rfl (fun ls hl => ?_)
  refine lv_aload_n hx hb dX3_map_51 rfl (lv_at hl 2 rfl) ?_
  refine g_callV (As := []) (rest := []) (fs := [.ref (bd 1), .ref (bd 2), .ref (bd 3), .ref (bd 4), .ref (bd 5), .ref (bd 6), .int fc, .int cc]) (rm_free hB) hx hb hml hown hts hN hG t_288 t_265 t_266 t_4 t_267 nm_X3_free ⟨by decide, by decide⟩ rf_0 rfl hl.1 (Nat.le_of_ble_eq_true rfl) dX3_map_52 ⟨Nat.zero_le _, Nat.zero_le _⟩ (fun H locs hG => ?_)
  refine W.eq (g2 := F0 m 55 ls [.int (frR run fm)]) rfl ?_
  refine lv_iload hx hb dX3_map_55 (lv_at hl 0 rfl) ?_
  refine lv_icmp_ge (tgt := 63) hx hb dX3_map_57 rfl (fun hh => absurd hh (h3)) (fun _ => ?_)
  refine lv_bipush (v := (-8)) hx hb dX3_map_60 (by decide) ?_
  exact g_iret hx hb hr hlk hG dX3_map_62
set_option maxHeartbeats 4000000 in
set_option maxRecDepth 100000 in
theorem rp_map_ok {j k : Nat} (hj : j < 5) (hk : k < 64) {z : Bool} (h : run j = true) (hB : ∀ i, fm i ≤ 24) (h2 : fm (64 * j + k) = 0) (h3 : 1 + nI (mrN (pgS fm j) k) ≤ frR run fm) {f : Nat} (hf : f ≤ 23) (hm : ∀ i, i < f → 0 < ldN fm i) (hu : f = 23 ∨ ldN fm f = 0) : gM l yX3_map cX3_map 8 (some .int) 3 70 D cls (fpT cI cQ cZ) A (rfW bd cI cZ run fm cm wr mk wo fc cc) [.ref (bd 0), .int (nI j), .int (nI k), .int (bI z)] (some (.int (1 + nI (mrN (pgS fm j) k)))) (rfW bd cI cZ run (up1 fm (64 * j + k) (f + 1)) (up1 cm (64 * j + k) z) (up1 wr (64 * j + k) true) (up1 mk (64 * j + k) false) (blW wo f) fc cc) := by
  refine gM_of (by decide) (Nat.le_of_ble_eq_true rfl) ?_
  intro p e s m args below meth c ls hx hb hml hown hts hN hr hlk hl hG
  have hown : s.vm.findClass RX3 = some m.cls := hown
  have hl : lv_has ls 8 [(0, .ref (bd 0)), (1, .int (nI j)), (2, .int (nI k)), (3, .int (bI z))] := hl
  refine lv_aload_n hx hb dX3_map_0 rfl (lv_at hl 0 rfl) ?_
  refine lv_iload_n hx hb dX3_map_1 rfl (lv_at hl 1 rfl) ?_
  refine g_callV (As := [.int (nI j)]) (rest := []) (fs := [.ref (bd 1), .ref (bd 2), .ref (bd 3), .ref (bd 4), .ref (bd 5), .ref (bd 6), .int fc, .int cc]) (rm_away_t hj h) hx hb hml hown hts hN hG t_293 t_295 s_24 t_4 t_296 nm_X3_away ⟨by decide, by decide⟩ rf_0 rfl hl.1 (Nat.le_of_ble_eq_true rfl) dX3_map_2 ⟨Nat.zero_le _, Nat.zero_le _⟩ (fun H locs hG => ?_)
  refine W.eq (g2 := F0 m 5 ls [.int 0]) rfl ?_
  refine lv_if_eq (tgt := 10) hx hb dX3_map_5 rfl (fun _ => ?_) (fun hh => absurd (rfl) hh)
  refine lv_iload_n hx hb dX3_map_10 rfl (lv_at hl 2 rfl) ?_
  refine g_callS (As := [.int (nI k)]) (rest := []) (rm_isPage_t hk) hx hb hml hown hts hN hG t_309 t_310 t_4 t_311 nm_X3_isPage ⟨by decide, by decide⟩ hl.1 (Nat.le_of_ble_eq_true rfl) dX3_map_11 ⟨Nat.zero_le _, Nat.zero_le _⟩ (fun H locs hG => ?_)
  refine W.eq (g2 := F0 m 14 ls [.int 1]) rfl ?_
  refine lv_if_ne (tgt := 20) hx hb dX3_map_14 rfl (fun _ => ?_) (fun hh => absurd hh (by decide))
  refine lv_bipush (v := nI 64) hx hb dX3_map_20 (by decide) ?_
  refine lv_iload_n hx hb dX3_map_22 rfl (lv_at hl 1 rfl) ?_
  refine lv_imul hx hb dX3_map_23 ?_
  refine g_top (y := nI (64 * j)) (pk_mul 64 j) ?_
  refine lv_iload_n hx hb dX3_map_24 rfl (lv_at hl 2 rfl) ?_
  refine lv_iadd hx hb dX3_map_25 ?_
  refine g_top (y := nI (64 * j + k)) (nI_add _ _) ?_
  refine lv_istore (lv' := [(4, .int (nI (64 * j + k))), (0, .ref (bd 0)), (1, .int (nI j)), (2, .int (nI k)), (3, .int (bI z))]) hx hb dX3_map_26 hl (by decide) rfl (fun ls hl => ?_)
  refine lv_aload_n hx hb dX3_map_28 rfl (lv_at hl 1 rfl) ?_
  refine g_get (k := 1) (v := .ref (bd 2)) (C := RX3) (ref := RX3) (fs := [.ref (bd 1), .ref (bd 2), .ref (bd 3), .ref (bd 4), .ref (bd 5), .ref (bd 6), .int fc, .int cc]) hx hb hown hts hG gX3 rfl rf_0 (by decide) t_239 rfl rfl dX3_map_29 ?_
  refine lv_iload hx hb dX3_map_32 (lv_at hl 0 rfl) ?_
  refine g_iald (i := (64 * j + k)) (t0 := 0) hx hb hG rf_2 rfl ((by omega)) (by decide) dX3_map_34 ?_
  refine lv_if_le (tgt := 41) hx hb dX3_map_35 rfl (fun _ => ?_) (fun hh => absurd (nI_le0 h2) hh)
  refine lv_iconst (v := 1) hx hb dX3_map_41 (by decide) ?_
  refine lv_aload_n hx hb dX3_map_42 rfl (lv_at hl 1 rfl) ?_
  refine lv_iload_n hx hb dX3_map_43 rfl (lv_at hl 2 rfl) ?_
  refine lv_iload_n hx hb dX3_map_44 rfl (lv_at hl 3 rfl) ?_
  refine g_callV (As := [.int (nI j), .int (nI k)]) (rest := [.int 1]) (fs := [.ref (bd 1), .ref (bd 2), .ref (bd 3), .ref (bd 4), .ref (bd 5), .ref (bd 6), .int fc, .int cc]) (rm_more hj hk hB) hx hb hml hown hts hN hG t_312 t_314 s_26 t_4 t_315 nm_X3_more ⟨by decide, by decide⟩ rf_0 rfl hl.1 (Nat.le_of_ble_eq_true rfl) dX3_map_45 ⟨Nat.zero_le _, Nat.zero_le _⟩ (fun H locs hG => ?_)
  refine W.eq (g2 := F0 m 48 ls [.int (nI (mrN (pgS fm j) k)), .int 1]) rfl ?_
  refine lv_iadd hx hb dX3_map_48 ?_
  refine lv_istore (lv' := [(5, .int (1 + (nI (mrN (pgS fm j) k)))), (4, .int (nI (64 * j + k))), (0, .ref (bd 0)), (1, .int (nI j)), (2, .int (nI k)), (3, .int (bI z))]) hx hb dX3_map_49 hl (by decide) rfl (fun ls hl => ?_)
  refine lv_aload_n hx hb dX3_map_51 rfl (lv_at hl 2 rfl) ?_
  refine g_callV (As := []) (rest := []) (fs := [.ref (bd 1), .ref (bd 2), .ref (bd 3), .ref (bd 4), .ref (bd 5), .ref (bd 6), .int fc, .int cc]) (rm_free hB) hx hb hml hown hts hN hG t_288 t_265 t_266 t_4 t_267 nm_X3_free ⟨by decide, by decide⟩ rf_0 rfl hl.1 (Nat.le_of_ble_eq_true rfl) dX3_map_52 ⟨Nat.zero_le _, Nat.zero_le _⟩ (fun H locs hG => ?_)
  refine W.eq (g2 := F0 m 55 ls [.int (frR run fm)]) rfl ?_
  refine lv_iload hx hb dX3_map_55 (lv_at hl 0 rfl) ?_
  refine lv_icmp_ge (tgt := 63) hx hb dX3_map_57 rfl (fun _ => ?_) (fun hh => absurd (h3) hh)
  refine lv_aload_n hx hb dX3_map_63 rfl (lv_at hl 2 rfl) ?_
  refine g_callV (As := []) (rest := []) (fs := [.ref (bd 1), .ref (bd 2), .ref (bd 3), .ref (bd 4), .ref (bd 5), .ref (bd 6), .int fc, .int cc]) (rm_unused hf hm hu hB) hx hb hml hown hts hN hG t_316 t_318 s_27 t_4 t_319 nm_X3_unused ⟨by decide, by decide⟩ rf_0 rfl hl.1 (Nat.le_of_ble_eq_true rfl) dX3_map_64 ⟨Nat.zero_le _, Nat.zero_le _⟩ (fun H locs hG => ?_)
  refine W.eq (g2 := F0 m 67 ls [.int (nI f)]) rfl ?_
  refine lv_istore (lv' := [(6, .int (nI f)), (5, .int (1 + (nI (mrN (pgS fm j) k)))), (4, .int (nI (64 * j + k))), (0, .ref (bd 0)), (1, .int (nI j)), (2, .int (nI k)), (3, .int (bI z))]) hx hb dX3_map_67 hl (by decide) rfl (fun ls hl => ?_)
  refine lv_iconst (v := nI 0) hx hb dX3_map_69 (by decide) ?_
  refine lv_istore (lv' := [(7, .int (nI 0)), (6, .int (nI f)), (5, .int (1 + (nI (mrN (pgS fm j) k)))), (4, .int (nI (64 * j + k))), (0, .ref (bd 0)), (1, .int (nI j)), (2, .int (nI k)), (3, .int (bI z))]) hx hb dX3_map_70 hl (by decide) rfl (fun ls hl => ?_)
  have loop : ∀ (n i : Nat) (H : Heap) (locs : List Loc) (ls : Array Slot), i + n = 4 → gG D cls (fpT cI cQ cZ) A s (rfW bd cI cZ run fm cm wr mk (blN wo f i) fc cc) H locs → lv_has ls 8 [(7, .int (nI i)), (6, .int (nI f)), (5, .int (1 + nI (mrN (pgS fm j) k))), (4, .int (nI (64 * j + k))), (0, .ref (bd 0)), (1, .int (nI j)), (2, .int (nI k)), (3, .int (bI z))] → W p l e (gR 3 70) s m args below meth c H locs 0 0 (gQ below args s D cls (fpT cI cQ cZ) A (some (.int (1 + nI (mrN (pgS fm j) k)))) (rfW bd cI cZ run (up1 fm (64 * j + k) (f + 1)) (up1 cm (64 * j + k) z) (up1 wr (64 * j + k) true) (up1 mk (64 * j + k) false) (blW wo f) fc cc)) (F0 m 72 ls []) := by
    intro n
    induction n with
    | zero =>
      intro i H locs ls hi hG hl
      obtain rfl : i = 4 := by omega
      refine lv_iload hx hb dX3_map_72 (lv_at hl 0 rfl) ?_
      refine lv_iconst (v := nI 4) hx hb dX3_map_74 (by decide) ?_
      refine lv_icmp_ge (tgt := 97) hx hb dX3_map_75 rfl (fun _ => ?_) (fun hh => absurd (nI_le (Nat.le_refl 4) (by decide)) hh)
      refine lv_aload_n hx hb dX3_map_97 rfl (lv_at hl 4 rfl) ?_
      refine g_get (k := 1) (v := .ref (bd 2)) (C := RX3) (ref := RX3) (fs := [.ref (bd 1), .ref (bd 2), .ref (bd 3), .ref (bd 4), .ref (bd 5), .ref (bd 6), .int fc, .int cc]) hx hb hown hts hG gX3 rfl rf_0 (by decide) t_239 rfl rfl dX3_map_98 ?_
      refine lv_iload hx hb dX3_map_101 (lv_at hl 3 rfl) ?_
      refine lv_iload hx hb dX3_map_103 (lv_at hl 1 rfl) ?_
      refine lv_iconst (v := nI 1) hx hb dX3_map_105 (by decide) ?_
      refine lv_iadd hx hb dX3_map_106 ?_
      refine g_top (y := nI (f + 1)) (nI_add f 1) ?_
      refine g_iast (i := (64 * j + k)) (x := nI (f + 1)) (t0 := 0) (ws' := rfW bd cI cZ run (up1 fm (64 * j + k) (f + 1)) cm wr mk (blN wo f 4) fc cc) hx hb hG rf_2 rfl ((by omega)) (by decide) (rf_s2 _ _) dX3_map_107 (fun H locs hG => ?_)
      refine lv_aload_n hx hb dX3_map_108 rfl (lv_at hl 4 rfl) ?_
      refine g_get (k := 2) (v := .ref (bd 3)) (C := RX3) (ref := RX3) (fs := [.ref (bd 1), .ref (bd 2), .ref (bd 3), .ref (bd 4), .ref (bd 5), .ref (bd 6), .int fc, .int cc]) hx hb hown hts hG gX3 rfl rf_0 (by decide) t_240 rfl rfl dX3_map_109 ?_
      refine lv_iload hx hb dX3_map_112 (lv_at hl 3 rfl) ?_
      refine lv_iload_n hx hb dX3_map_114 rfl (lv_at hl 7 rfl) ?_
      refine g_zast (i := (64 * j + k)) (x := bI z) (t0 := 2) (ws' := rfW bd cI cZ run (up1 fm (64 * j + k) (f + 1)) (up1 cm (64 * j + k) z) wr mk (blN wo f 4) fc cc) hx hb hG rf_3 rfl ((by omega)) (by decide) (nar_bI z) (rf_s3 _ _) dX3_map_115 (fun H locs hG => ?_)
      refine lv_aload_n hx hb dX3_map_116 rfl (lv_at hl 4 rfl) ?_
      refine g_get (k := 3) (v := .ref (bd 4)) (C := RX3) (ref := RX3) (fs := [.ref (bd 1), .ref (bd 2), .ref (bd 3), .ref (bd 4), .ref (bd 5), .ref (bd 6), .int fc, .int cc]) hx hb hown hts hG gX3 rfl rf_0 (by decide) t_241 rfl rfl dX3_map_117 ?_
      refine lv_iload hx hb dX3_map_120 (lv_at hl 3 rfl) ?_
      refine lv_iconst (v := bI true) hx hb dX3_map_122 (by decide) ?_
      refine g_zast (i := (64 * j + k)) (x := bI true) (t0 := 2) (ws' := rfW bd cI cZ run (up1 fm (64 * j + k) (f + 1)) (up1 cm (64 * j + k) z) (up1 wr (64 * j + k) true) mk (blN wo f 4) fc cc) hx hb hG rf_4 rfl ((by omega)) (by decide) (nar_bI _) (rf_s4 _ _) dX3_map_123 (fun H locs hG => ?_)
      refine lv_aload_n hx hb dX3_map_124 rfl (lv_at hl 4 rfl) ?_
      refine g_get (k := 4) (v := .ref (bd 5)) (C := RX3) (ref := RX3) (fs := [.ref (bd 1), .ref (bd 2), .ref (bd 3), .ref (bd 4), .ref (bd 5), .ref (bd 6), .int fc, .int cc]) hx hb hown hts hG gX3 rfl rf_0 (by decide) t_242 rfl rfl dX3_map_125 ?_
      refine lv_iload hx hb dX3_map_128 (lv_at hl 3 rfl) ?_
      refine lv_iconst (v := bI false) hx hb dX3_map_130 (by decide) ?_
      refine g_zast (i := (64 * j + k)) (x := bI false) (t0 := 2) (ws' := rfW bd cI cZ run (up1 fm (64 * j + k) (f + 1)) (up1 cm (64 * j + k) z) (up1 wr (64 * j + k) true) (up1 mk (64 * j + k) false) (blN wo f 4) fc cc) hx hb hG rf_5 rfl ((by omega)) (by decide) (nar_bI _) (rf_s5 _ _) dX3_map_131 (fun H locs hG => ?_)
      refine lv_iload hx hb dX3_map_132 (lv_at hl 2 rfl) ?_
      exact g_iret hx hb hr hlk hG dX3_map_134
    | succ n ih =>
      intro i H locs ls hi hG hl
      have hi2 : i < 4 := by omega
      refine lv_iload hx hb dX3_map_72 (lv_at hl 0 rfl) ?_
      refine lv_iconst (v := nI 4) hx hb dX3_map_74 (by decide) ?_
      refine lv_icmp_ge (tgt := 97) hx hb dX3_map_75 rfl (fun hh => absurd hh (nI_ge hi2 (by decide))) (fun _ => ?_)
      refine lv_aload_n hx hb dX3_map_78 rfl (lv_at hl 4 rfl) ?_
      refine g_get (k := 5) (v := .ref (bd 6)) (C := RX3) (ref := RX3) (fs := [.ref (bd 1), .ref (bd 2), .ref (bd 3), .ref (bd 4), .ref (bd 5), .ref (bd 6), .int fc, .int cc]) hx hb hown hts hG gX3 rfl rf_0 (by decide) t_243 rfl rfl dX3_map_79 ?_
      refine lv_iconst (v := nI 4) hx hb dX3_map_82 (by decide) ?_
      refine lv_iload hx hb dX3_map_83 (lv_at hl 1 rfl) ?_
      refine lv_imul hx hb dX3_map_85 ?_
      refine g_top (y := nI (f * 4)) (by rw [pk_mul, Nat.mul_comm]) ?_
      refine lv_iload hx hb dX3_map_86 (lv_at hl 0 rfl) ?_
      refine lv_iadd hx hb dX3_map_88 ?_
      refine g_top (y := nI (f * 4 + i)) (nI_add _ _) ?_
      refine lv_iconst (v := 0) hx hb dX3_map_89 (by decide) ?_
      refine g_iast (i := (f * 4 + i)) (x := 0) (t0 := 0) (ws' := rfW bd cI cZ run fm cm wr mk (blN wo f (i + 1)) fc cc) hx hb hG rf_6 rfl ((by omega)) (by decide) (by rw [blN_s]; exact rf_s6 _) dX3_map_90 (fun H locs hG => ?_)
      refine lv_iinc (k := 0) (v := nI (i + 1)) (lv' := [(7, .int (nI (i + 1))), (6, .int (nI f)), (5, .int (1 + nI (mrN (pgS fm j) k))), (4, .int (nI (64 * j + k))), (0, .ref (bd 0)), (1, .int (nI j)), (2, .int (nI k)), (3, .int (bI z))]) hx hb dX3_map_91 hl rfl (nI_1 i) (by decide) rfl (fun ls hl => ?_)
      refine lv_goto (tgt := 72) hx hb dX3_map_94 rfl ?_
      exact ih (i + 1) _ _ _ (by omega) hG (lv_sub hl [0, 1, 2, 3, 4, 5, 6, 7] rfl)
  exact loop 4 0 _ _ _ rfl (by rw [blN_0]; exact hG) (lv_sub hl [0, 1, 2, 3, 4, 5, 6, 7] rfl)
set_option maxHeartbeats 4000000 in
set_option maxRecDepth 100000 in
theorem rp_attach_1a {x y u v : Int32} (h : ¬ rn run x) : gM l yX3_attach cX3_attach 8 (some .int) 3 70 D cls (fpT cI cQ cZ) A (rfW bd cI cZ run fm cm wr mk wo fc cc) [.ref (bd 0), .int x, .int y, .int u, .int v] (some (.int (-1))) (rfW bd cI cZ run fm cm wr mk wo fc cc) := by
  refine gM_of (by decide) (Nat.le_of_ble_eq_true rfl) ?_
  intro p e s m args below meth c ls hx hb hml hown hts hN hr hlk hl hG
  have hown : s.vm.findClass RX3 = some m.cls := hown
  have hl : lv_has ls 8 [(0, .ref (bd 0)), (1, .int x), (2, .int y), (3, .int u), (4, .int v)] := hl
  refine lv_aload_n hx hb dX3_attach_0 rfl (lv_at hl 0 rfl) ?_
  refine lv_iload_n hx hb dX3_attach_1 rfl (lv_at hl 1 rfl) ?_
  refine g_callV (As := [.int x]) (rest := []) (fs := [.ref (bd 1), .ref (bd 2), .ref (bd 3), .ref (bd 4), .ref (bd 5), .ref (bd 6), .int fc, .int cc]) (rm_away_n h) hx hb hml hown hts hN hG t_293 t_295 s_24 t_4 t_296 nm_X3_away ⟨by decide, by decide⟩ rf_0 rfl hl.1 (Nat.le_of_ble_eq_true rfl) dX3_attach_2 ⟨Nat.zero_le _, Nat.zero_le _⟩ (fun H locs hG => ?_)
  refine W.eq (g2 := F0 m 5 ls [.int 1]) rfl ?_
  refine lv_if_ne (tgt := 16) hx hb dX3_attach_5 rfl (fun _ => ?_) (fun hh => absurd hh (by decide))
  refine lv_iconst (v := (-1)) hx hb dX3_attach_16 (by decide) ?_
  exact g_iret hx hb hr hlk hG dX3_attach_17
set_option maxHeartbeats 4000000 in
set_option maxRecDepth 100000 in
theorem rp_attach_1b {j : Nat} {y u v : Int32} (hj : j < 5) (h : run j = true) (h2 : ¬ rn run u) : gM l yX3_attach cX3_attach 8 (some .int) 3 70 D cls (fpT cI cQ cZ) A (rfW bd cI cZ run fm cm wr mk wo fc cc) [.ref (bd 0), .int (nI j), .int y, .int u, .int v] (some (.int (-1))) (rfW bd cI cZ run fm cm wr mk wo fc cc) := by
  refine gM_of (by decide) (Nat.le_of_ble_eq_true rfl) ?_
  intro p e s m args below meth c ls hx hb hml hown hts hN hr hlk hl hG
  have hown : s.vm.findClass RX3 = some m.cls := hown
  have hl : lv_has ls 8 [(0, .ref (bd 0)), (1, .int (nI j)), (2, .int y), (3, .int u), (4, .int v)] := hl
  refine lv_aload_n hx hb dX3_attach_0 rfl (lv_at hl 0 rfl) ?_
  refine lv_iload_n hx hb dX3_attach_1 rfl (lv_at hl 1 rfl) ?_
  refine g_callV (As := [.int (nI j)]) (rest := []) (fs := [.ref (bd 1), .ref (bd 2), .ref (bd 3), .ref (bd 4), .ref (bd 5), .ref (bd 6), .int fc, .int cc]) (rm_away_t hj h) hx hb hml hown hts hN hG t_293 t_295 s_24 t_4 t_296 nm_X3_away ⟨by decide, by decide⟩ rf_0 rfl hl.1 (Nat.le_of_ble_eq_true rfl) dX3_attach_2 ⟨Nat.zero_le _, Nat.zero_le _⟩ (fun H locs hG => ?_)
  refine W.eq (g2 := F0 m 5 ls [.int 0]) rfl ?_
  refine lv_if_ne (tgt := 16) hx hb dX3_attach_5 rfl (fun hh => absurd (rfl) hh) (fun _ => ?_)
  refine lv_aload_n hx hb dX3_attach_8 rfl (lv_at hl 0 rfl) ?_
  refine lv_iload_n hx hb dX3_attach_9 rfl (lv_at hl 3 rfl) ?_
  refine g_callV (As := [.int u]) (rest := []) (fs := [.ref (bd 1), .ref (bd 2), .ref (bd 3), .ref (bd 4), .ref (bd 5), .ref (bd 6), .int fc, .int cc]) (rm_away_n h2) hx hb hml hown hts hN hG t_293 t_295 s_24 t_4 t_296 nm_X3_away ⟨by decide, by decide⟩ rf_0 rfl hl.1 (Nat.le_of_ble_eq_true rfl) dX3_attach_10 ⟨Nat.zero_le _, Nat.zero_le _⟩ (fun H locs hG => ?_)
  refine W.eq (g2 := F0 m 13 ls [.int 1]) rfl ?_
  refine lv_if_eq (tgt := 18) hx hb dX3_attach_13 rfl (fun hh => absurd hh (by decide)) (fun _ => ?_)
  refine lv_iconst (v := (-1)) hx hb dX3_attach_16 (by decide) ?_
  exact g_iret hx hb hr hlk hG dX3_attach_17
set_option maxHeartbeats 4000000 in
set_option maxRecDepth 100000 in
theorem rp_attach_2a {j n : Nat} (hj : j < 5) (h : run j = true) (hn : n < 5) (h2 : run n = true) {y v : Int32} (h3 : ¬ pgI y) : gM l yX3_attach cX3_attach 8 (some .int) 3 70 D cls (fpT cI cQ cZ) A (rfW bd cI cZ run fm cm wr mk wo fc cc) [.ref (bd 0), .int (nI j), .int y, .int (nI n), .int v] (some (.int (-2))) (rfW bd cI cZ run fm cm wr mk wo fc cc) := by
  refine gM_of (by decide) (Nat.le_of_ble_eq_true rfl) ?_
  intro p e s m args below meth c ls hx hb hml hown hts hN hr hlk hl hG
  have hown : s.vm.findClass RX3 = some m.cls := hown
  have hl : lv_has ls 8 [(0, .ref (bd 0)), (1, .int (nI j)), (2, .int y), (3, .int (nI n)), (4, .int v)] := hl
  refine lv_aload_n hx hb dX3_attach_0 rfl (lv_at hl 0 rfl) ?_
  refine lv_iload_n hx hb dX3_attach_1 rfl (lv_at hl 1 rfl) ?_
  refine g_callV (As := [.int (nI j)]) (rest := []) (fs := [.ref (bd 1), .ref (bd 2), .ref (bd 3), .ref (bd 4), .ref (bd 5), .ref (bd 6), .int fc, .int cc]) (rm_away_t hj h) hx hb hml hown hts hN hG t_293 t_295 s_24 t_4 t_296 nm_X3_away ⟨by decide, by decide⟩ rf_0 rfl hl.1 (Nat.le_of_ble_eq_true rfl) dX3_attach_2 ⟨Nat.zero_le _, Nat.zero_le _⟩ (fun H locs hG => ?_)
  refine W.eq (g2 := F0 m 5 ls [.int 0]) rfl ?_
  refine lv_if_ne (tgt := 16) hx hb dX3_attach_5 rfl (fun hh => absurd (rfl) hh) (fun _ => ?_)
  refine lv_aload_n hx hb dX3_attach_8 rfl (lv_at hl 0 rfl) ?_
  refine lv_iload_n hx hb dX3_attach_9 rfl (lv_at hl 3 rfl) ?_
  refine g_callV (As := [.int (nI n)]) (rest := []) (fs := [.ref (bd 1), .ref (bd 2), .ref (bd 3), .ref (bd 4), .ref (bd 5), .ref (bd 6), .int fc, .int cc]) (rm_away_t hn h2) hx hb hml hown hts hN hG t_293 t_295 s_24 t_4 t_296 nm_X3_away ⟨by decide, by decide⟩ rf_0 rfl hl.1 (Nat.le_of_ble_eq_true rfl) dX3_attach_10 ⟨Nat.zero_le _, Nat.zero_le _⟩ (fun H locs hG => ?_)
  refine W.eq (g2 := F0 m 13 ls [.int 0]) rfl ?_
  refine lv_if_eq (tgt := 18) hx hb dX3_attach_13 rfl (fun _ => ?_) (fun hh => absurd (rfl) hh)
  refine lv_iload_n hx hb dX3_attach_18 rfl (lv_at hl 2 rfl) ?_
  refine g_callS (As := [.int y]) (rest := []) (rm_isPage_n h3) hx hb hml hown hts hN hG t_309 t_310 t_4 t_311 nm_X3_isPage ⟨by decide, by decide⟩ hl.1 (Nat.le_of_ble_eq_true rfl) dX3_attach_19 ⟨Nat.zero_le _, Nat.zero_le _⟩ (fun H locs hG => ?_)
  refine W.eq (g2 := F0 m 22 ls [.int 0]) rfl ?_
  refine lv_if_eq (tgt := 33) hx hb dX3_attach_22 rfl (fun _ => ?_) (fun hh => absurd (rfl) hh)
  refine lv_bipush (v := (-2)) hx hb dX3_attach_33 (by decide) ?_
  exact g_iret hx hb hr hlk hG dX3_attach_35
set_option maxHeartbeats 4000000 in
set_option maxRecDepth 100000 in
theorem rp_attach_2b {j n : Nat} (hj : j < 5) (h : run j = true) (hn : n < 5) (h2 : run n = true) {k : Nat} {v : Int32} (hk : k < 64) (h3 : ¬ pgI v) : gM l yX3_attach cX3_attach 8 (some .int) 3 70 D cls (fpT cI cQ cZ) A (rfW bd cI cZ run fm cm wr mk wo fc cc) [.ref (bd 0), .int (nI j), .int (nI k), .int (nI n), .int v] (some (.int (-2))) (rfW bd cI cZ run fm cm wr mk wo fc cc) := by
  refine gM_of (by decide) (Nat.le_of_ble_eq_true rfl) ?_
  intro p e s m args below meth c ls hx hb hml hown hts hN hr hlk hl hG
  have hown : s.vm.findClass RX3 = some m.cls := hown
  have hl : lv_has ls 8 [(0, .ref (bd 0)), (1, .int (nI j)), (2, .int (nI k)), (3, .int (nI n)), (4, .int v)] := hl
  refine lv_aload_n hx hb dX3_attach_0 rfl (lv_at hl 0 rfl) ?_
  refine lv_iload_n hx hb dX3_attach_1 rfl (lv_at hl 1 rfl) ?_
  refine g_callV (As := [.int (nI j)]) (rest := []) (fs := [.ref (bd 1), .ref (bd 2), .ref (bd 3), .ref (bd 4), .ref (bd 5), .ref (bd 6), .int fc, .int cc]) (rm_away_t hj h) hx hb hml hown hts hN hG t_293 t_295 s_24 t_4 t_296 nm_X3_away ⟨by decide, by decide⟩ rf_0 rfl hl.1 (Nat.le_of_ble_eq_true rfl) dX3_attach_2 ⟨Nat.zero_le _, Nat.zero_le _⟩ (fun H locs hG => ?_)
  refine W.eq (g2 := F0 m 5 ls [.int 0]) rfl ?_
  refine lv_if_ne (tgt := 16) hx hb dX3_attach_5 rfl (fun hh => absurd (rfl) hh) (fun _ => ?_)
  refine lv_aload_n hx hb dX3_attach_8 rfl (lv_at hl 0 rfl) ?_
  refine lv_iload_n hx hb dX3_attach_9 rfl (lv_at hl 3 rfl) ?_
  refine g_callV (As := [.int (nI n)]) (rest := []) (fs := [.ref (bd 1), .ref (bd 2), .ref (bd 3), .ref (bd 4), .ref (bd 5), .ref (bd 6), .int fc, .int cc]) (rm_away_t hn h2) hx hb hml hown hts hN hG t_293 t_295 s_24 t_4 t_296 nm_X3_away ⟨by decide, by decide⟩ rf_0 rfl hl.1 (Nat.le_of_ble_eq_true rfl) dX3_attach_10 ⟨Nat.zero_le _, Nat.zero_le _⟩ (fun H locs hG => ?_)
  refine W.eq (g2 := F0 m 13 ls [.int 0]) rfl ?_
  refine lv_if_eq (tgt := 18) hx hb dX3_attach_13 rfl (fun _ => ?_) (fun hh => absurd (rfl) hh)
  refine lv_iload_n hx hb dX3_attach_18 rfl (lv_at hl 2 rfl) ?_
  refine g_callS (As := [.int (nI k)]) (rest := []) (rm_isPage_t hk) hx hb hml hown hts hN hG t_309 t_310 t_4 t_311 nm_X3_isPage ⟨by decide, by decide⟩ hl.1 (Nat.le_of_ble_eq_true rfl) dX3_attach_19 ⟨Nat.zero_le _, Nat.zero_le _⟩ (fun H locs hG => ?_)
  refine W.eq (g2 := F0 m 22 ls [.int 1]) rfl ?_
  refine lv_if_eq (tgt := 33) hx hb dX3_attach_22 rfl (fun hh => absurd hh (by decide)) (fun _ => ?_)
  refine lv_iload hx hb dX3_attach_25 (lv_at hl 4 rfl) ?_
  refine g_callS (As := [.int v]) (rest := []) (rm_isPage_n h3) hx hb hml hown hts hN hG t_309 t_310 t_4 t_311 nm_X3_isPage ⟨by decide, by decide⟩ hl.1 (Nat.le_of_ble_eq_true rfl) dX3_attach_27 ⟨Nat.zero_le _, Nat.zero_le _⟩ (fun H locs hG => ?_)
  refine W.eq (g2 := F0 m 30 ls [.int 0]) rfl ?_
  refine lv_if_ne (tgt := 36) hx hb dX3_attach_30 rfl (fun hh => absurd (rfl) hh) (fun _ => ?_)
  refine lv_bipush (v := (-2)) hx hb dX3_attach_33 (by decide) ?_
  exact g_iret hx hb hr hlk hG dX3_attach_35
set_option maxHeartbeats 4000000 in
set_option maxRecDepth 100000 in
theorem rp_attach_3 {j n : Nat} (hj : j < 5) (h : run j = true) (hn : n < 5) (h2 : run n = true) {k i : Nat} (hk : k < 64) (hi : i < 64) (hB : ∀ i, fm i ≤ 24) (h3 : fm (64 * n + i) = 0) : gM l yX3_attach cX3_attach 8 (some .int) 3 70 D cls (fpT cI cQ cZ) A (rfW bd cI cZ run fm cm wr mk wo fc cc) [.ref (bd 0), .int (nI j), .int (nI k), .int (nI n), .int (nI i)] (some (.int (-3))) (rfW bd cI cZ run fm cm wr mk wo fc cc) := by
  refine gM_of (by decide) (Nat.le_of_ble_eq_true rfl) ?_
  intro p e s m args below meth c ls hx hb hml hown hts hN hr hlk hl hG
  have hown : s.vm.findClass RX3 = some m.cls := hown
  have hl : lv_has ls 8 [(0, .ref (bd 0)), (1, .int (nI j)), (2, .int (nI k)), (3, .int (nI n)), (4, .int (nI i))] := hl
  refine lv_aload_n hx hb dX3_attach_0 rfl (lv_at hl 0 rfl) ?_
  refine lv_iload_n hx hb dX3_attach_1 rfl (lv_at hl 1 rfl) ?_
  refine g_callV (As := [.int (nI j)]) (rest := []) (fs := [.ref (bd 1), .ref (bd 2), .ref (bd 3), .ref (bd 4), .ref (bd 5), .ref (bd 6), .int fc, .int cc]) (rm_away_t hj h) hx hb hml hown hts hN hG t_293 t_295 s_24 t_4 t_296 nm_X3_away ⟨by decide, by decide⟩ rf_0 rfl hl.1 (Nat.le_of_ble_eq_true rfl) dX3_attach_2 ⟨Nat.zero_le _, Nat.zero_le _⟩ (fun H locs hG => ?_)
  refine W.eq (g2 := F0 m 5 ls [.int 0]) rfl ?_
  refine lv_if_ne (tgt := 16) hx hb dX3_attach_5 rfl (fun hh => absurd (rfl) hh) (fun _ => ?_)
  refine lv_aload_n hx hb dX3_attach_8 rfl (lv_at hl 0 rfl) ?_
  refine lv_iload_n hx hb dX3_attach_9 rfl (lv_at hl 3 rfl) ?_
  refine g_callV (As := [.int (nI n)]) (rest := []) (fs := [.ref (bd 1), .ref (bd 2), .ref (bd 3), .ref (bd 4), .ref (bd 5), .ref (bd 6), .int fc, .int cc]) (rm_away_t hn h2) hx hb hml hown hts hN hG t_293 t_295 s_24 t_4 t_296 nm_X3_away ⟨by decide, by decide⟩ rf_0 rfl hl.1 (Nat.le_of_ble_eq_true rfl) dX3_attach_10 ⟨Nat.zero_le _, Nat.zero_le _⟩ (fun H locs hG => ?_)
  refine W.eq (g2 := F0 m 13 ls [.int 0]) rfl ?_
  refine lv_if_eq (tgt := 18) hx hb dX3_attach_13 rfl (fun _ => ?_) (fun hh => absurd (rfl) hh)
  refine lv_iload_n hx hb dX3_attach_18 rfl (lv_at hl 2 rfl) ?_
  refine g_callS (As := [.int (nI k)]) (rest := []) (rm_isPage_t hk) hx hb hml hown hts hN hG t_309 t_310 t_4 t_311 nm_X3_isPage ⟨by decide, by decide⟩ hl.1 (Nat.le_of_ble_eq_true rfl) dX3_attach_19 ⟨Nat.zero_le _, Nat.zero_le _⟩ (fun H locs hG => ?_)
  refine W.eq (g2 := F0 m 22 ls [.int 1]) rfl ?_
  refine lv_if_eq (tgt := 33) hx hb dX3_attach_22 rfl (fun hh => absurd hh (by decide)) (fun _ => ?_)
  refine lv_iload hx hb dX3_attach_25 (lv_at hl 4 rfl) ?_
  refine g_callS (As := [.int (nI i)]) (rest := []) (rm_isPage_t hi) hx hb hml hown hts hN hG t_309 t_310 t_4 t_311 nm_X3_isPage ⟨by decide, by decide⟩ hl.1 (Nat.le_of_ble_eq_true rfl) dX3_attach_27 ⟨Nat.zero_le _, Nat.zero_le _⟩ (fun H locs hG => ?_)
  refine W.eq (g2 := F0 m 30 ls [.int 1]) rfl ?_
  refine lv_if_ne (tgt := 36) hx hb dX3_attach_30 rfl (fun _ => ?_) (fun hh => absurd hh (by decide))
  refine lv_bipush (v := nI 64) hx hb dX3_attach_36 (by decide) ?_
  refine lv_iload_n hx hb dX3_attach_38 rfl (lv_at hl 1 rfl) ?_
  refine lv_imul hx hb dX3_attach_39 ?_
  refine g_top (y := nI (64 * j)) (pk_mul 64 j) ?_
  refine lv_iload_n hx hb dX3_attach_40 rfl (lv_at hl 2 rfl) ?_
  refine lv_iadd hx hb dX3_attach_41 ?_
  refine g_top (y := nI (64 * j + k)) (nI_add _ _) ?_
  refine lv_istore (lv' := [(5, .int (nI (64 * j + k))), (0, .ref (bd 0)), (1, .int (nI j)), (2, .int (nI k)), (3, .int (nI n)), (4, .int (nI i))]) hx hb dX3_attach_42 hl (by decide) rfl (fun ls hl => ?_)
  refine lv_bipush (v := nI 64) hx hb dX3_attach_44 (by decide) ?_
  refine lv_iload_n hx hb dX3_attach_46 rfl (lv_at hl 4 rfl) ?_
  refine lv_imul hx hb dX3_attach_47 ?_
  refine g_top (y := nI (64 * n)) (pk_mul 64 n) ?_
  refine lv_iload hx hb dX3_attach_48 (lv_at hl 5 rfl) ?_
  refine lv_iadd hx hb dX3_attach_50 ?_
  refine g_top (y := nI (64 * n + i)) (nI_add _ _) ?_
  refine lv_istore (lv' := [(6, .int (nI (64 * n + i))), (5, .int (nI (64 * j + k))), (0, .ref (bd 0)), (1, .int (nI j)), (2, .int (nI k)), (3, .int (nI n)), (4, .int (nI i))]) hx hb dX3_attach_51 hl (by decide) rfl (fun ls hl => ?_)
  refine lv_aload_n hx hb dX3_attach_53 rfl (lv_at hl 2 rfl) ?_
  refine g_get (k := 1) (v := .ref (bd 2)) (C := RX3) (ref := RX3) (fs := [.ref (bd 1), .ref (bd 2), .ref (bd 3), .ref (bd 4), .ref (bd 5), .ref (bd 6), .int fc, .int cc]) hx hb hown hts hG gX3 rfl rf_0 (by decide) t_239 rfl rfl dX3_attach_54 ?_
  refine lv_iload hx hb dX3_attach_57 (lv_at hl 0 rfl) ?_
  refine g_iald (i := (64 * n + i)) (t0 := 0) hx hb hG rf_2 rfl ((by omega)) (by decide) dX3_attach_59 ?_
  refine lv_if_ne (tgt := 66) hx hb dX3_attach_60 rfl (fun hh => absurd (by rw [h3]; rfl) hh) (fun _ => ?_)
  refine lv_bipush (v := (-3)) hx hb dX3_attach_63 (by decide) ?_
  exact g_iret hx hb hr hlk hG dX3_attach_65
set_option maxHeartbeats 4000000 in
set_option maxRecDepth 100000 in
theorem rp_attach_4 {j n : Nat} (hj : j < 5) (h : run j = true) (hn : n < 5) (h2 : run n = true) {k i : Nat} (hk : k < 64) (hi : i < 64) (hB : ∀ i, fm i ≤ 24) (h3 : 0 < fm (64 * n + i)) (h4 : 0 < fm (64 * j + k)) : gM l yX3_attach cX3_attach 8 (some .int) 3 70 D cls (fpT cI cQ cZ) A (rfW bd cI cZ run fm cm wr mk wo fc cc) [.ref (bd 0), .int (nI j), .int (nI k), .int (nI n), .int (nI i)] (some (.int (-4))) (rfW bd cI cZ run fm cm wr mk wo fc cc) := by
  refine gM_of (by decide) (Nat.le_of_ble_eq_true rfl) ?_
  intro p e s m args below meth c ls hx hb hml hown hts hN hr hlk hl hG
  have hown : s.vm.findClass RX3 = some m.cls := hown
  have hl : lv_has ls 8 [(0, .ref (bd 0)), (1, .int (nI j)), (2, .int (nI k)), (3, .int (nI n)), (4, .int (nI i))] := hl
  refine lv_aload_n hx hb dX3_attach_0 rfl (lv_at hl 0 rfl) ?_
  refine lv_iload_n hx hb dX3_attach_1 rfl (lv_at hl 1 rfl) ?_
  refine g_callV (As := [.int (nI j)]) (rest := []) (fs := [.ref (bd 1), .ref (bd 2), .ref (bd 3), .ref (bd 4), .ref (bd 5), .ref (bd 6), .int fc, .int cc]) (rm_away_t hj h) hx hb hml hown hts hN hG t_293 t_295 s_24 t_4 t_296 nm_X3_away ⟨by decide, by decide⟩ rf_0 rfl hl.1 (Nat.le_of_ble_eq_true rfl) dX3_attach_2 ⟨Nat.zero_le _, Nat.zero_le _⟩ (fun H locs hG => ?_)
  refine W.eq (g2 := F0 m 5 ls [.int 0]) rfl ?_
  refine lv_if_ne (tgt := 16) hx hb dX3_attach_5 rfl (fun hh => absurd (rfl) hh) (fun _ => ?_)
  refine lv_aload_n hx hb dX3_attach_8 rfl (lv_at hl 0 rfl) ?_
  refine lv_iload_n hx hb dX3_attach_9 rfl (lv_at hl 3 rfl) ?_
  refine g_callV (As := [.int (nI n)]) (rest := []) (fs := [.ref (bd 1), .ref (bd 2), .ref (bd 3), .ref (bd 4), .ref (bd 5), .ref (bd 6), .int fc, .int cc]) (rm_away_t hn h2) hx hb hml hown hts hN hG t_293 t_295 s_24 t_4 t_296 nm_X3_away ⟨by decide, by decide⟩ rf_0 rfl hl.1 (Nat.le_of_ble_eq_true rfl) dX3_attach_10 ⟨Nat.zero_le _, Nat.zero_le _⟩ (fun H locs hG => ?_)
  refine W.eq (g2 := F0 m 13 ls [.int 0]) rfl ?_
  refine lv_if_eq (tgt := 18) hx hb dX3_attach_13 rfl (fun _ => ?_) (fun hh => absurd (rfl) hh)
  refine lv_iload_n hx hb dX3_attach_18 rfl (lv_at hl 2 rfl) ?_
  refine g_callS (As := [.int (nI k)]) (rest := []) (rm_isPage_t hk) hx hb hml hown hts hN hG t_309 t_310 t_4 t_311 nm_X3_isPage ⟨by decide, by decide⟩ hl.1 (Nat.le_of_ble_eq_true rfl) dX3_attach_19 ⟨Nat.zero_le _, Nat.zero_le _⟩ (fun H locs hG => ?_)
  refine W.eq (g2 := F0 m 22 ls [.int 1]) rfl ?_
  refine lv_if_eq (tgt := 33) hx hb dX3_attach_22 rfl (fun hh => absurd hh (by decide)) (fun _ => ?_)
  refine lv_iload hx hb dX3_attach_25 (lv_at hl 4 rfl) ?_
  refine g_callS (As := [.int (nI i)]) (rest := []) (rm_isPage_t hi) hx hb hml hown hts hN hG t_309 t_310 t_4 t_311 nm_X3_isPage ⟨by decide, by decide⟩ hl.1 (Nat.le_of_ble_eq_true rfl) dX3_attach_27 ⟨Nat.zero_le _, Nat.zero_le _⟩ (fun H locs hG => ?_)
  refine W.eq (g2 := F0 m 30 ls [.int 1]) rfl ?_
  refine lv_if_ne (tgt := 36) hx hb dX3_attach_30 rfl (fun _ => ?_) (fun hh => absurd hh (by decide))
  refine lv_bipush (v := nI 64) hx hb dX3_attach_36 (by decide) ?_
  refine lv_iload_n hx hb dX3_attach_38 rfl (lv_at hl 1 rfl) ?_
  refine lv_imul hx hb dX3_attach_39 ?_
  refine g_top (y := nI (64 * j)) (pk_mul 64 j) ?_
  refine lv_iload_n hx hb dX3_attach_40 rfl (lv_at hl 2 rfl) ?_
  refine lv_iadd hx hb dX3_attach_41 ?_
  refine g_top (y := nI (64 * j + k)) (nI_add _ _) ?_
  refine lv_istore (lv' := [(5, .int (nI (64 * j + k))), (0, .ref (bd 0)), (1, .int (nI j)), (2, .int (nI k)), (3, .int (nI n)), (4, .int (nI i))]) hx hb dX3_attach_42 hl (by decide) rfl (fun ls hl => ?_)
  refine lv_bipush (v := nI 64) hx hb dX3_attach_44 (by decide) ?_
  refine lv_iload_n hx hb dX3_attach_46 rfl (lv_at hl 4 rfl) ?_
  refine lv_imul hx hb dX3_attach_47 ?_
  refine g_top (y := nI (64 * n)) (pk_mul 64 n) ?_
  refine lv_iload hx hb dX3_attach_48 (lv_at hl 5 rfl) ?_
  refine lv_iadd hx hb dX3_attach_50 ?_
  refine g_top (y := nI (64 * n + i)) (nI_add _ _) ?_
  refine lv_istore (lv' := [(6, .int (nI (64 * n + i))), (5, .int (nI (64 * j + k))), (0, .ref (bd 0)), (1, .int (nI j)), (2, .int (nI k)), (3, .int (nI n)), (4, .int (nI i))]) hx hb dX3_attach_51 hl (by decide) rfl (fun ls hl => ?_)
  refine lv_aload_n hx hb dX3_attach_53 rfl (lv_at hl 2 rfl) ?_
  refine g_get (k := 1) (v := .ref (bd 2)) (C := RX3) (ref := RX3) (fs := [.ref (bd 1), .ref (bd 2), .ref (bd 3), .ref (bd 4), .ref (bd 5), .ref (bd 6), .int fc, .int cc]) hx hb hown hts hG gX3 rfl rf_0 (by decide) t_239 rfl rfl dX3_attach_54 ?_
  refine lv_iload hx hb dX3_attach_57 (lv_at hl 0 rfl) ?_
  refine g_iald (i := (64 * n + i)) (t0 := 0) hx hb hG rf_2 rfl ((by omega)) (by decide) dX3_attach_59 ?_
  refine lv_if_ne (tgt := 66) hx hb dX3_attach_60 rfl (fun _ => ?_) (fun hh => absurd hh (nI_ne0 h3 (by have := hB (64 * n + i); omega)))
  refine lv_aload_n hx hb dX3_attach_66 rfl (lv_at hl 2 rfl) ?_
  refine g_get (k := 1) (v := .ref (bd 2)) (C := RX3) (ref := RX3) (fs := [.ref (bd 1), .ref (bd 2), .ref (bd 3), .ref (bd 4), .ref (bd 5), .ref (bd 6), .int fc, .int cc]) hx hb hown hts hG gX3 rfl rf_0 (by decide) t_239 rfl rfl dX3_attach_67 ?_
  refine lv_iload hx hb dX3_attach_70 (lv_at hl 1 rfl) ?_
  refine g_iald (i := (64 * j + k)) (t0 := 0) hx hb hG rf_2 rfl ((by omega)) (by decide) dX3_attach_72 ?_
  refine lv_if_le (tgt := 79) hx hb dX3_attach_73 rfl (fun hh => absurd hh (nI_gt0 h4 (by have := hB (64 * j + k); omega))) (fun _ => ?_)
  refine lv_bipush (v := (-4)) hx hb dX3_attach_76 (by decide) ?_
  exact g_iret hx hb hr hlk hG dX3_attach_78
set_option maxHeartbeats 4000000 in
set_option maxRecDepth 100000 in
theorem rp_attach_6 {j n : Nat} (hj : j < 5) (h : run j = true) (hn : n < 5) (h2 : run n = true) {k i : Nat} (hk : k < 64) (hi : i < 64) (hB : ∀ i, fm i ≤ 24) (h3 : 0 < fm (64 * n + i)) (h4 : fm (64 * j + k) = 0) (h5 : cm (64 * n + i) = false) : gM l yX3_attach cX3_attach 8 (some .int) 3 70 D cls (fpT cI cQ cZ) A (rfW bd cI cZ run fm cm wr mk wo fc cc) [.ref (bd 0), .int (nI j), .int (nI k), .int (nI n), .int (nI i)] (some (.int (-6))) (rfW bd cI cZ run fm cm wr mk wo fc cc) := by
  refine gM_of (by decide) (Nat.le_of_ble_eq_true rfl) ?_
  intro p e s m args below meth c ls hx hb hml hown hts hN hr hlk hl hG
  have hown : s.vm.findClass RX3 = some m.cls := hown
  have hl : lv_has ls 8 [(0, .ref (bd 0)), (1, .int (nI j)), (2, .int (nI k)), (3, .int (nI n)), (4, .int (nI i))] := hl
  refine lv_aload_n hx hb dX3_attach_0 rfl (lv_at hl 0 rfl) ?_
  refine lv_iload_n hx hb dX3_attach_1 rfl (lv_at hl 1 rfl) ?_
  refine g_callV (As := [.int (nI j)]) (rest := []) (fs := [.ref (bd 1), .ref (bd 2), .ref (bd 3), .ref (bd 4), .ref (bd 5), .ref (bd 6), .int fc, .int cc]) (rm_away_t hj h) hx hb hml hown hts hN hG t_293 t_295 s_24 t_4 t_296 nm_X3_away ⟨by decide, by decide⟩ rf_0 rfl hl.1 (Nat.le_of_ble_eq_true rfl) dX3_attach_2 ⟨Nat.zero_le _, Nat.zero_le _⟩ (fun H locs hG => ?_)
  refine W.eq (g2 := F0 m 5 ls [.int 0]) rfl ?_
  refine lv_if_ne (tgt := 16) hx hb dX3_attach_5 rfl (fun hh => absurd (rfl) hh) (fun _ => ?_)
  refine lv_aload_n hx hb dX3_attach_8 rfl (lv_at hl 0 rfl) ?_
  refine lv_iload_n hx hb dX3_attach_9 rfl (lv_at hl 3 rfl) ?_
  refine g_callV (As := [.int (nI n)]) (rest := []) (fs := [.ref (bd 1), .ref (bd 2), .ref (bd 3), .ref (bd 4), .ref (bd 5), .ref (bd 6), .int fc, .int cc]) (rm_away_t hn h2) hx hb hml hown hts hN hG t_293 t_295 s_24 t_4 t_296 nm_X3_away ⟨by decide, by decide⟩ rf_0 rfl hl.1 (Nat.le_of_ble_eq_true rfl) dX3_attach_10 ⟨Nat.zero_le _, Nat.zero_le _⟩ (fun H locs hG => ?_)
  refine W.eq (g2 := F0 m 13 ls [.int 0]) rfl ?_
  refine lv_if_eq (tgt := 18) hx hb dX3_attach_13 rfl (fun _ => ?_) (fun hh => absurd (rfl) hh)
  refine lv_iload_n hx hb dX3_attach_18 rfl (lv_at hl 2 rfl) ?_
  refine g_callS (As := [.int (nI k)]) (rest := []) (rm_isPage_t hk) hx hb hml hown hts hN hG t_309 t_310 t_4 t_311 nm_X3_isPage ⟨by decide, by decide⟩ hl.1 (Nat.le_of_ble_eq_true rfl) dX3_attach_19 ⟨Nat.zero_le _, Nat.zero_le _⟩ (fun H locs hG => ?_)
  refine W.eq (g2 := F0 m 22 ls [.int 1]) rfl ?_
  refine lv_if_eq (tgt := 33) hx hb dX3_attach_22 rfl (fun hh => absurd hh (by decide)) (fun _ => ?_)
  refine lv_iload hx hb dX3_attach_25 (lv_at hl 4 rfl) ?_
  refine g_callS (As := [.int (nI i)]) (rest := []) (rm_isPage_t hi) hx hb hml hown hts hN hG t_309 t_310 t_4 t_311 nm_X3_isPage ⟨by decide, by decide⟩ hl.1 (Nat.le_of_ble_eq_true rfl) dX3_attach_27 ⟨Nat.zero_le _, Nat.zero_le _⟩ (fun H locs hG => ?_)
  refine W.eq (g2 := F0 m 30 ls [.int 1]) rfl ?_
  refine lv_if_ne (tgt := 36) hx hb dX3_attach_30 rfl (fun _ => ?_) (fun hh => absurd hh (by decide))
  refine lv_bipush (v := nI 64) hx hb dX3_attach_36 (by decide) ?_
  refine lv_iload_n hx hb dX3_attach_38 rfl (lv_at hl 1 rfl) ?_
  refine lv_imul hx hb dX3_attach_39 ?_
  refine g_top (y := nI (64 * j)) (pk_mul 64 j) ?_
  refine lv_iload_n hx hb dX3_attach_40 rfl (lv_at hl 2 rfl) ?_
  refine lv_iadd hx hb dX3_attach_41 ?_
  refine g_top (y := nI (64 * j + k)) (nI_add _ _) ?_
  refine lv_istore (lv' := [(5, .int (nI (64 * j + k))), (0, .ref (bd 0)), (1, .int (nI j)), (2, .int (nI k)), (3, .int (nI n)), (4, .int (nI i))]) hx hb dX3_attach_42 hl (by decide) rfl (fun ls hl => ?_)
  refine lv_bipush (v := nI 64) hx hb dX3_attach_44 (by decide) ?_
  refine lv_iload_n hx hb dX3_attach_46 rfl (lv_at hl 4 rfl) ?_
  refine lv_imul hx hb dX3_attach_47 ?_
  refine g_top (y := nI (64 * n)) (pk_mul 64 n) ?_
  refine lv_iload hx hb dX3_attach_48 (lv_at hl 5 rfl) ?_
  refine lv_iadd hx hb dX3_attach_50 ?_
  refine g_top (y := nI (64 * n + i)) (nI_add _ _) ?_
  refine lv_istore (lv' := [(6, .int (nI (64 * n + i))), (5, .int (nI (64 * j + k))), (0, .ref (bd 0)), (1, .int (nI j)), (2, .int (nI k)), (3, .int (nI n)), (4, .int (nI i))]) hx hb dX3_attach_51 hl (by decide) rfl (fun ls hl => ?_)
  refine lv_aload_n hx hb dX3_attach_53 rfl (lv_at hl 2 rfl) ?_
  refine g_get (k := 1) (v := .ref (bd 2)) (C := RX3) (ref := RX3) (fs := [.ref (bd 1), .ref (bd 2), .ref (bd 3), .ref (bd 4), .ref (bd 5), .ref (bd 6), .int fc, .int cc]) hx hb hown hts hG gX3 rfl rf_0 (by decide) t_239 rfl rfl dX3_attach_54 ?_
  refine lv_iload hx hb dX3_attach_57 (lv_at hl 0 rfl) ?_
  refine g_iald (i := (64 * n + i)) (t0 := 0) hx hb hG rf_2 rfl ((by omega)) (by decide) dX3_attach_59 ?_
  refine lv_if_ne (tgt := 66) hx hb dX3_attach_60 rfl (fun _ => ?_) (fun hh => absurd hh (nI_ne0 h3 (by have := hB (64 * n + i); omega)))
  refine lv_aload_n hx hb dX3_attach_66 rfl (lv_at hl 2 rfl) ?_
  refine g_get (k := 1) (v := .ref (bd 2)) (C := RX3) (ref := RX3) (fs := [.ref (bd 1), .ref (bd 2), .ref (bd 3), .ref (bd 4), .ref (bd 5), .ref (bd 6), .int fc, .int cc]) hx hb hown hts hG gX3 rfl rf_0 (by decide) t_239 rfl rfl dX3_attach_67 ?_
  refine lv_iload hx hb dX3_attach_70 (lv_at hl 1 rfl) ?_
  refine g_iald (i := (64 * j + k)) (t0 := 0) hx hb hG rf_2 rfl ((by omega)) (by decide) dX3_attach_72 ?_
  refine lv_if_le (tgt := 79) hx hb dX3_attach_73 rfl (fun _ => ?_) (fun hh => absurd (nI_le0 h4) hh)
  refine lv_aload_n hx hb dX3_attach_79 rfl (lv_at hl 2 rfl) ?_
  refine g_get (k := 2) (v := .ref (bd 3)) (C := RX3) (ref := RX3) (fs := [.ref (bd 1), .ref (bd 2), .ref (bd 3), .ref (bd 4), .ref (bd 5), .ref (bd 6), .int fc, .int cc]) hx hb hown hts hG gX3 rfl rf_0 (by decide) t_240 rfl rfl dX3_attach_80 ?_
  refine lv_iload hx hb dX3_attach_83 (lv_at hl 0 rfl) ?_
  refine g_zald (i := (64 * n + i)) (t0 := 2) hx hb hG rf_3 rfl ((by omega)) (by decide) dX3_attach_85 ?_
  refine g_top (y := 0) (by rw [h5]; rfl) ?_
  refine lv_if_ne (tgt := 92) hx hb dX3_attach_86 rfl (fun hh => absurd (rfl) hh) (fun _ => ?_)
  refine lv_bipush (v := (-6)) hx hb dX3_attach_89 (by decide) ?_
  exact g_iret hx hb hr hlk hG dX3_attach_91
set_option maxHeartbeats 4000000 in
set_option maxRecDepth 100000 in
theorem rp_attach_8 {j n : Nat} (hj : j < 5) (h : run j = true) (hn : n < 5) (h2 : run n = true) {k i : Nat} (hk : k < 64) (hi : i < 64) (hB : ∀ i, fm i ≤ 24) (h3 : 0 < fm (64 * n + i)) (h4 : fm (64 * j + k) = 0) (h5 : cm (64 * n + i) = true) (h6 : ¬ nI (mrN (pgS fm j) k) ≤ frR run fm) : gM l yX3_attach cX3_attach 8 (some .int) 3 70 D cls (fpT cI cQ cZ) A (rfW bd cI cZ run fm cm wr mk wo fc cc) [.ref (bd 0), .int (nI j), .int (nI k), .int (nI n), .int (nI i)] (some (.int (-8))) (rfW bd cI cZ run fm cm wr mk wo fc cc) := by
  refine gM_of (by decide) (Nat.le_of_ble_eq_true rfl) ?_
  intro p e s m args below meth c ls hx hb hml hown hts hN hr hlk hl hG
  have hown : s.vm.findClass RX3 = some m.cls := hown
  have hl : lv_has ls 8 [(0, .ref (bd 0)), (1, .int (nI j)), (2, .int (nI k)), (3, .int (nI n)), (4, .int (nI i))] := hl
  refine lv_aload_n hx hb dX3_attach_0 rfl (lv_at hl 0 rfl) ?_
  refine lv_iload_n hx hb dX3_attach_1 rfl (lv_at hl 1 rfl) ?_
  refine g_callV (As := [.int (nI j)]) (rest := []) (fs := [.ref (bd 1), .ref (bd 2), .ref (bd 3), .ref (bd 4), .ref (bd 5), .ref (bd 6), .int fc, .int cc]) (rm_away_t hj h) hx hb hml hown hts hN hG t_293 t_295 s_24 t_4 t_296 nm_X3_away ⟨by decide, by decide⟩ rf_0 rfl hl.1 (Nat.le_of_ble_eq_true rfl) dX3_attach_2 ⟨Nat.zero_le _, Nat.zero_le _⟩ (fun H locs hG => ?_)
  refine W.eq (g2 := F0 m 5 ls [.int 0]) rfl ?_
  refine lv_if_ne (tgt := 16) hx hb dX3_attach_5 rfl (fun hh => absurd (rfl) hh) (fun _ => ?_)
  refine lv_aload_n hx hb dX3_attach_8 rfl (lv_at hl 0 rfl) ?_
  refine lv_iload_n hx hb dX3_attach_9 rfl (lv_at hl 3 rfl) ?_
  refine g_callV (As := [.int (nI n)]) (rest := []) (fs := [.ref (bd 1), .ref (bd 2), .ref (bd 3), .ref (bd 4), .ref (bd 5), .ref (bd 6), .int fc, .int cc]) (rm_away_t hn h2) hx hb hml hown hts hN hG t_293 t_295 s_24 t_4 t_296 nm_X3_away ⟨by decide, by decide⟩ rf_0 rfl hl.1 (Nat.le_of_ble_eq_true rfl) dX3_attach_10 ⟨Nat.zero_le _, Nat.zero_le _⟩ (fun H locs hG => ?_)
  refine W.eq (g2 := F0 m 13 ls [.int 0]) rfl ?_
  refine lv_if_eq (tgt := 18) hx hb dX3_attach_13 rfl (fun _ => ?_) (fun hh => absurd (rfl) hh)
  refine lv_iload_n hx hb dX3_attach_18 rfl (lv_at hl 2 rfl) ?_
  refine g_callS (As := [.int (nI k)]) (rest := []) (rm_isPage_t hk) hx hb hml hown hts hN hG t_309 t_310 t_4 t_311 nm_X3_isPage ⟨by decide, by decide⟩ hl.1 (Nat.le_of_ble_eq_true rfl) dX3_attach_19 ⟨Nat.zero_le _, Nat.zero_le _⟩ (fun H locs hG => ?_)
  refine W.eq (g2 := F0 m 22 ls [.int 1]) rfl ?_
  refine lv_if_eq (tgt := 33) hx hb dX3_attach_22 rfl (fun hh => absurd hh (by decide)) (fun _ => ?_)
  refine lv_iload hx hb dX3_attach_25 (lv_at hl 4 rfl) ?_
  refine g_callS (As := [.int (nI i)]) (rest := []) (rm_isPage_t hi) hx hb hml hown hts hN hG t_309 t_310 t_4 t_311 nm_X3_isPage ⟨by decide, by decide⟩ hl.1 (Nat.le_of_ble_eq_true rfl) dX3_attach_27 ⟨Nat.zero_le _, Nat.zero_le _⟩ (fun H locs hG => ?_)
  refine W.eq (g2 := F0 m 30 ls [.int 1]) rfl ?_
  refine lv_if_ne (tgt := 36) hx hb dX3_attach_30 rfl (fun _ => ?_) (fun hh => absurd hh (by decide))
  refine lv_bipush (v := nI 64) hx hb dX3_attach_36 (by decide) ?_
  refine lv_iload_n hx hb dX3_attach_38 rfl (lv_at hl 1 rfl) ?_
  refine lv_imul hx hb dX3_attach_39 ?_
  refine g_top (y := nI (64 * j)) (pk_mul 64 j) ?_
  refine lv_iload_n hx hb dX3_attach_40 rfl (lv_at hl 2 rfl) ?_
  refine lv_iadd hx hb dX3_attach_41 ?_
  refine g_top (y := nI (64 * j + k)) (nI_add _ _) ?_
  refine lv_istore (lv' := [(5, .int (nI (64 * j + k))), (0, .ref (bd 0)), (1, .int (nI j)), (2, .int (nI k)), (3, .int (nI n)), (4, .int (nI i))]) hx hb dX3_attach_42 hl (by decide) rfl (fun ls hl => ?_)
  refine lv_bipush (v := nI 64) hx hb dX3_attach_44 (by decide) ?_
  refine lv_iload_n hx hb dX3_attach_46 rfl (lv_at hl 4 rfl) ?_
  refine lv_imul hx hb dX3_attach_47 ?_
  refine g_top (y := nI (64 * n)) (pk_mul 64 n) ?_
  refine lv_iload hx hb dX3_attach_48 (lv_at hl 5 rfl) ?_
  refine lv_iadd hx hb dX3_attach_50 ?_
  refine g_top (y := nI (64 * n + i)) (nI_add _ _) ?_
  refine lv_istore (lv' := [(6, .int (nI (64 * n + i))), (5, .int (nI (64 * j + k))), (0, .ref (bd 0)), (1, .int (nI j)), (2, .int (nI k)), (3, .int (nI n)), (4, .int (nI i))]) hx hb dX3_attach_51 hl (by decide) rfl (fun ls hl => ?_)
  refine lv_aload_n hx hb dX3_attach_53 rfl (lv_at hl 2 rfl) ?_
  refine g_get (k := 1) (v := .ref (bd 2)) (C := RX3) (ref := RX3) (fs := [.ref (bd 1), .ref (bd 2), .ref (bd 3), .ref (bd 4), .ref (bd 5), .ref (bd 6), .int fc, .int cc]) hx hb hown hts hG gX3 rfl rf_0 (by decide) t_239 rfl rfl dX3_attach_54 ?_
  refine lv_iload hx hb dX3_attach_57 (lv_at hl 0 rfl) ?_
  refine g_iald (i := (64 * n + i)) (t0 := 0) hx hb hG rf_2 rfl ((by omega)) (by decide) dX3_attach_59 ?_
  refine lv_if_ne (tgt := 66) hx hb dX3_attach_60 rfl (fun _ => ?_) (fun hh => absurd hh (nI_ne0 h3 (by have := hB (64 * n + i); omega)))
  refine lv_aload_n hx hb dX3_attach_66 rfl (lv_at hl 2 rfl) ?_
  refine g_get (k := 1) (v := .ref (bd 2)) (C := RX3) (ref := RX3) (fs := [.ref (bd 1), .ref (bd 2), .ref (bd 3), .ref (bd 4), .ref (bd 5), .ref (bd 6), .int fc, .int cc]) hx hb hown hts hG gX3 rfl rf_0 (by decide) t_239 rfl rfl dX3_attach_67 ?_
  refine lv_iload hx hb dX3_attach_70 (lv_at hl 1 rfl) ?_
  refine g_iald (i := (64 * j + k)) (t0 := 0) hx hb hG rf_2 rfl ((by omega)) (by decide) dX3_attach_72 ?_
  refine lv_if_le (tgt := 79) hx hb dX3_attach_73 rfl (fun _ => ?_) (fun hh => absurd (nI_le0 h4) hh)
  refine lv_aload_n hx hb dX3_attach_79 rfl (lv_at hl 2 rfl) ?_
  refine g_get (k := 2) (v := .ref (bd 3)) (C := RX3) (ref := RX3) (fs := [.ref (bd 1), .ref (bd 2), .ref (bd 3), .ref (bd 4), .ref (bd 5), .ref (bd 6), .int fc, .int cc]) hx hb hown hts hG gX3 rfl rf_0 (by decide) t_240 rfl rfl dX3_attach_80 ?_
  refine lv_iload hx hb dX3_attach_83 (lv_at hl 0 rfl) ?_
  refine g_zald (i := (64 * n + i)) (t0 := 2) hx hb hG rf_3 rfl ((by omega)) (by decide) dX3_attach_85 ?_
  refine g_top (y := 1) (by rw [h5]; rfl) ?_
  refine lv_if_ne (tgt := 92) hx hb dX3_attach_86 rfl (fun _ => ?_) (fun hh => absurd hh (by decide))
  refine lv_aload_n hx hb dX3_attach_92 rfl (lv_at hl 2 rfl) ?_
  refine lv_iload_n hx hb dX3_attach_93 rfl (lv_at hl 3 rfl) ?_
  refine lv_iload_n hx hb dX3_attach_94 rfl (lv_at hl 4 rfl) ?_
  refine g_callV (As := [.int (nI j), .int (nI k)]) (rest := []) (fs := [.ref (bd 1), .ref (bd 2), .ref (bd 3), .ref (bd 4), .ref (bd 5), .ref (bd 6), .int fc, .int cc]) (rm_more hj hk hB) hx hb hml hown hts hN hG t_312 t_314 s_26 t_4 t_315 nm_X3_more ⟨by decide, by decide⟩ rf_0 rfl hl.1 (Nat.le_of_ble_eq_true rfl) dX3_attach_95 ⟨Nat.zero_le _, Nat.zero_le _⟩ (fun H locs hG => ?_)
  refine W.eq (g2 := F0 m 98 ls [.int (nI (mrN (pgS fm j) k))]) rfl ?_
  refine lv_istore (lv' := [(7, .int (nI (mrN (pgS fm j) k))), (6, .int (nI (64 * n + i))), (5, .int (nI (64 * j + k))), (0, .ref (bd 0)), (1, .int (nI j)), (2, .int (nI k)), (3, .int (nI n)), (4, .int (nI i))]) hx hb dX3_attach_98 hl (by decide) rfl (fun ls hl => ?_)
  refine lv_aload_n hx hb dX3_attach_100 rfl (lv_at hl 3 rfl) ?_
  refine g_callV (As := []) (rest := []) (fs := [.ref (bd 1), .ref (bd 2), .ref (bd 3), .ref (bd 4), .ref (bd 5), .ref (bd 6), .int fc, .int cc]) (rm_free hB) hx hb hml hown hts hN hG t_288 t_265 t_266 t_4 t_267 nm_X3_free ⟨by decide, by decide⟩ rf_0 rfl hl.1 (Nat.le_of_ble_eq_true rfl) dX3_attach_101 ⟨Nat.zero_le _, Nat.zero_le _⟩ (fun H locs hG => ?_)
  refine W.eq (g2 := F0 m 104 ls [.int (frR run fm)]) rfl ?_
  refine lv_iload hx hb dX3_attach_104 (lv_at hl 0 rfl) ?_
  refine lv_icmp_ge (tgt := 112) hx hb dX3_attach_106 rfl (fun hh => absurd hh (h6)) (fun _ => ?_)
  refine lv_bipush (v := (-8)) hx hb dX3_attach_109 (by decide) ?_
  exact g_iret hx hb hr hlk hG dX3_attach_111
set_option maxHeartbeats 4000000 in
set_option maxRecDepth 100000 in
theorem rp_attach_ok {j n : Nat} (hj : j < 5) (h : run j = true) (hn : n < 5) (h2 : run n = true) {k i : Nat} (hk : k < 64) (hi : i < 64) (hB : ∀ i, fm i ≤ 24) (h3 : 0 < fm (64 * n + i)) (h4 : fm (64 * j + k) = 0) (h5 : cm (64 * n + i) = true) (h6 : nI (mrN (pgS fm j) k) ≤ frR run fm) : gM l yX3_attach cX3_attach 8 (some .int) 3 70 D cls (fpT cI cQ cZ) A (rfW bd cI cZ run fm cm wr mk wo fc cc) [.ref (bd 0), .int (nI j), .int (nI k), .int (nI n), .int (nI i)] (some (.int (nI (mrN (pgS fm j) k)))) (rfW bd cI cZ run (up1 fm (64 * j + k) (fm (64 * n + i))) (up1 cm (64 * j + k) true) (up1 wr (64 * j + k) (wr (64 * n + i))) (up1 mk (64 * j + k) false) wo fc cc) := by
  refine gM_of (by decide) (Nat.le_of_ble_eq_true rfl) ?_
  intro p e s m args below meth c ls hx hb hml hown hts hN hr hlk hl hG
  have hown : s.vm.findClass RX3 = some m.cls := hown
  have hl : lv_has ls 8 [(0, .ref (bd 0)), (1, .int (nI j)), (2, .int (nI k)), (3, .int (nI n)), (4, .int (nI i))] := hl
  refine lv_aload_n hx hb dX3_attach_0 rfl (lv_at hl 0 rfl) ?_
  refine lv_iload_n hx hb dX3_attach_1 rfl (lv_at hl 1 rfl) ?_
  refine g_callV (As := [.int (nI j)]) (rest := []) (fs := [.ref (bd 1), .ref (bd 2), .ref (bd 3), .ref (bd 4), .ref (bd 5), .ref (bd 6), .int fc, .int cc]) (rm_away_t hj h) hx hb hml hown hts hN hG t_293 t_295 s_24 t_4 t_296 nm_X3_away ⟨by decide, by decide⟩ rf_0 rfl hl.1 (Nat.le_of_ble_eq_true rfl) dX3_attach_2 ⟨Nat.zero_le _, Nat.zero_le _⟩ (fun H locs hG => ?_)
  refine W.eq (g2 := F0 m 5 ls [.int 0]) rfl ?_
  refine lv_if_ne (tgt := 16) hx hb dX3_attach_5 rfl (fun hh => absurd (rfl) hh) (fun _ => ?_)
  refine lv_aload_n hx hb dX3_attach_8 rfl (lv_at hl 0 rfl) ?_
  refine lv_iload_n hx hb dX3_attach_9 rfl (lv_at hl 3 rfl) ?_
  refine g_callV (As := [.int (nI n)]) (rest := []) (fs := [.ref (bd 1), .ref (bd 2), .ref (bd 3), .ref (bd 4), .ref (bd 5), .ref (bd 6), .int fc, .int cc]) (rm_away_t hn h2) hx hb hml hown hts hN hG t_293 t_295 s_24 t_4 t_296 nm_X3_away ⟨by decide, by decide⟩ rf_0 rfl hl.1 (Nat.le_of_ble_eq_true rfl) dX3_attach_10 ⟨Nat.zero_le _, Nat.zero_le _⟩ (fun H locs hG => ?_)
  refine W.eq (g2 := F0 m 13 ls [.int 0]) rfl ?_
  refine lv_if_eq (tgt := 18) hx hb dX3_attach_13 rfl (fun _ => ?_) (fun hh => absurd (rfl) hh)
  refine lv_iload_n hx hb dX3_attach_18 rfl (lv_at hl 2 rfl) ?_
  refine g_callS (As := [.int (nI k)]) (rest := []) (rm_isPage_t hk) hx hb hml hown hts hN hG t_309 t_310 t_4 t_311 nm_X3_isPage ⟨by decide, by decide⟩ hl.1 (Nat.le_of_ble_eq_true rfl) dX3_attach_19 ⟨Nat.zero_le _, Nat.zero_le _⟩ (fun H locs hG => ?_)
  refine W.eq (g2 := F0 m 22 ls [.int 1]) rfl ?_
  refine lv_if_eq (tgt := 33) hx hb dX3_attach_22 rfl (fun hh => absurd hh (by decide)) (fun _ => ?_)
  refine lv_iload hx hb dX3_attach_25 (lv_at hl 4 rfl) ?_
  refine g_callS (As := [.int (nI i)]) (rest := []) (rm_isPage_t hi) hx hb hml hown hts hN hG t_309 t_310 t_4 t_311 nm_X3_isPage ⟨by decide, by decide⟩ hl.1 (Nat.le_of_ble_eq_true rfl) dX3_attach_27 ⟨Nat.zero_le _, Nat.zero_le _⟩ (fun H locs hG => ?_)
  refine W.eq (g2 := F0 m 30 ls [.int 1]) rfl ?_
  refine lv_if_ne (tgt := 36) hx hb dX3_attach_30 rfl (fun _ => ?_) (fun hh => absurd hh (by decide))
  refine lv_bipush (v := nI 64) hx hb dX3_attach_36 (by decide) ?_
  refine lv_iload_n hx hb dX3_attach_38 rfl (lv_at hl 1 rfl) ?_
  refine lv_imul hx hb dX3_attach_39 ?_
  refine g_top (y := nI (64 * j)) (pk_mul 64 j) ?_
  refine lv_iload_n hx hb dX3_attach_40 rfl (lv_at hl 2 rfl) ?_
  refine lv_iadd hx hb dX3_attach_41 ?_
  refine g_top (y := nI (64 * j + k)) (nI_add _ _) ?_
  refine lv_istore (lv' := [(5, .int (nI (64 * j + k))), (0, .ref (bd 0)), (1, .int (nI j)), (2, .int (nI k)), (3, .int (nI n)), (4, .int (nI i))]) hx hb dX3_attach_42 hl (by decide) rfl (fun ls hl => ?_)
  refine lv_bipush (v := nI 64) hx hb dX3_attach_44 (by decide) ?_
  refine lv_iload_n hx hb dX3_attach_46 rfl (lv_at hl 4 rfl) ?_
  refine lv_imul hx hb dX3_attach_47 ?_
  refine g_top (y := nI (64 * n)) (pk_mul 64 n) ?_
  refine lv_iload hx hb dX3_attach_48 (lv_at hl 5 rfl) ?_
  refine lv_iadd hx hb dX3_attach_50 ?_
  refine g_top (y := nI (64 * n + i)) (nI_add _ _) ?_
  refine lv_istore (lv' := [(6, .int (nI (64 * n + i))), (5, .int (nI (64 * j + k))), (0, .ref (bd 0)), (1, .int (nI j)), (2, .int (nI k)), (3, .int (nI n)), (4, .int (nI i))]) hx hb dX3_attach_51 hl (by decide) rfl (fun ls hl => ?_)
  refine lv_aload_n hx hb dX3_attach_53 rfl (lv_at hl 2 rfl) ?_
  refine g_get (k := 1) (v := .ref (bd 2)) (C := RX3) (ref := RX3) (fs := [.ref (bd 1), .ref (bd 2), .ref (bd 3), .ref (bd 4), .ref (bd 5), .ref (bd 6), .int fc, .int cc]) hx hb hown hts hG gX3 rfl rf_0 (by decide) t_239 rfl rfl dX3_attach_54 ?_
  refine lv_iload hx hb dX3_attach_57 (lv_at hl 0 rfl) ?_
  refine g_iald (i := (64 * n + i)) (t0 := 0) hx hb hG rf_2 rfl ((by omega)) (by decide) dX3_attach_59 ?_
  refine lv_if_ne (tgt := 66) hx hb dX3_attach_60 rfl (fun _ => ?_) (fun hh => absurd hh (nI_ne0 h3 (by have := hB (64 * n + i); omega)))
  refine lv_aload_n hx hb dX3_attach_66 rfl (lv_at hl 2 rfl) ?_
  refine g_get (k := 1) (v := .ref (bd 2)) (C := RX3) (ref := RX3) (fs := [.ref (bd 1), .ref (bd 2), .ref (bd 3), .ref (bd 4), .ref (bd 5), .ref (bd 6), .int fc, .int cc]) hx hb hown hts hG gX3 rfl rf_0 (by decide) t_239 rfl rfl dX3_attach_67 ?_
  refine lv_iload hx hb dX3_attach_70 (lv_at hl 1 rfl) ?_
  refine g_iald (i := (64 * j + k)) (t0 := 0) hx hb hG rf_2 rfl ((by omega)) (by decide) dX3_attach_72 ?_
  refine lv_if_le (tgt := 79) hx hb dX3_attach_73 rfl (fun _ => ?_) (fun hh => absurd (nI_le0 h4) hh)
  refine lv_aload_n hx hb dX3_attach_79 rfl (lv_at hl 2 rfl) ?_
  refine g_get (k := 2) (v := .ref (bd 3)) (C := RX3) (ref := RX3) (fs := [.ref (bd 1), .ref (bd 2), .ref (bd 3), .ref (bd 4), .ref (bd 5), .ref (bd 6), .int fc, .int cc]) hx hb hown hts hG gX3 rfl rf_0 (by decide) t_240 rfl rfl dX3_attach_80 ?_
  refine lv_iload hx hb dX3_attach_83 (lv_at hl 0 rfl) ?_
  refine g_zald (i := (64 * n + i)) (t0 := 2) hx hb hG rf_3 rfl ((by omega)) (by decide) dX3_attach_85 ?_
  refine g_top (y := 1) (by rw [h5]; rfl) ?_
  refine lv_if_ne (tgt := 92) hx hb dX3_attach_86 rfl (fun _ => ?_) (fun hh => absurd hh (by decide))
  refine lv_aload_n hx hb dX3_attach_92 rfl (lv_at hl 2 rfl) ?_
  refine lv_iload_n hx hb dX3_attach_93 rfl (lv_at hl 3 rfl) ?_
  refine lv_iload_n hx hb dX3_attach_94 rfl (lv_at hl 4 rfl) ?_
  refine g_callV (As := [.int (nI j), .int (nI k)]) (rest := []) (fs := [.ref (bd 1), .ref (bd 2), .ref (bd 3), .ref (bd 4), .ref (bd 5), .ref (bd 6), .int fc, .int cc]) (rm_more hj hk hB) hx hb hml hown hts hN hG t_312 t_314 s_26 t_4 t_315 nm_X3_more ⟨by decide, by decide⟩ rf_0 rfl hl.1 (Nat.le_of_ble_eq_true rfl) dX3_attach_95 ⟨Nat.zero_le _, Nat.zero_le _⟩ (fun H locs hG => ?_)
  refine W.eq (g2 := F0 m 98 ls [.int (nI (mrN (pgS fm j) k))]) rfl ?_
  refine lv_istore (lv' := [(7, .int (nI (mrN (pgS fm j) k))), (6, .int (nI (64 * n + i))), (5, .int (nI (64 * j + k))), (0, .ref (bd 0)), (1, .int (nI j)), (2, .int (nI k)), (3, .int (nI n)), (4, .int (nI i))]) hx hb dX3_attach_98 hl (by decide) rfl (fun ls hl => ?_)
  refine lv_aload_n hx hb dX3_attach_100 rfl (lv_at hl 3 rfl) ?_
  refine g_callV (As := []) (rest := []) (fs := [.ref (bd 1), .ref (bd 2), .ref (bd 3), .ref (bd 4), .ref (bd 5), .ref (bd 6), .int fc, .int cc]) (rm_free hB) hx hb hml hown hts hN hG t_288 t_265 t_266 t_4 t_267 nm_X3_free ⟨by decide, by decide⟩ rf_0 rfl hl.1 (Nat.le_of_ble_eq_true rfl) dX3_attach_101 ⟨Nat.zero_le _, Nat.zero_le _⟩ (fun H locs hG => ?_)
  refine W.eq (g2 := F0 m 104 ls [.int (frR run fm)]) rfl ?_
  refine lv_iload hx hb dX3_attach_104 (lv_at hl 0 rfl) ?_
  refine lv_icmp_ge (tgt := 112) hx hb dX3_attach_106 rfl (fun _ => ?_) (fun hh => absurd (h6) hh)
  refine lv_aload_n hx hb dX3_attach_112 rfl (lv_at hl 3 rfl) ?_
  refine g_get (k := 1) (v := .ref (bd 2)) (C := RX3) (ref := RX3) (fs := [.ref (bd 1), .ref (bd 2), .ref (bd 3), .ref (bd 4), .ref (bd 5), .ref (bd 6), .int fc, .int cc]) hx hb hown hts hG gX3 rfl rf_0 (by decide) t_239 rfl rfl dX3_attach_113 ?_
  refine lv_iload hx hb dX3_attach_116 (lv_at hl 2 rfl) ?_
  refine lv_aload_n hx hb dX3_attach_118 rfl (lv_at hl 3 rfl) ?_
  refine g_get (k := 1) (v := .ref (bd 2)) (C := RX3) (ref := RX3) (fs := [.ref (bd 1), .ref (bd 2), .ref (bd 3), .ref (bd 4), .ref (bd 5), .ref (bd 6), .int fc, .int cc]) hx hb hown hts hG gX3 rfl rf_0 (by decide) t_239 rfl rfl dX3_attach_119 ?_
  refine lv_iload hx hb dX3_attach_122 (lv_at hl 1 rfl) ?_
  refine g_iald (i := (64 * n + i)) (t0 := 0) hx hb hG rf_2 rfl ((by omega)) (by decide) dX3_attach_124 ?_
  refine g_iast (i := (64 * j + k)) (x := nI (fm (64 * n + i))) (t0 := 0) (ws' := rfW bd cI cZ run (up1 fm (64 * j + k) (fm (64 * n + i))) cm wr mk wo fc cc) hx hb hG rf_2 rfl ((by omega)) (by decide) (rf_s2 _ _) dX3_attach_125 (fun H locs hG => ?_)
  refine lv_aload_n hx hb dX3_attach_126 rfl (lv_at hl 3 rfl) ?_
  refine g_get (k := 2) (v := .ref (bd 3)) (C := RX3) (ref := RX3) (fs := [.ref (bd 1), .ref (bd 2), .ref (bd 3), .ref (bd 4), .ref (bd 5), .ref (bd 6), .int fc, .int cc]) hx hb hown hts hG gX3 rfl rf_0 (by decide) t_240 rfl rfl dX3_attach_127 ?_
  refine lv_iload hx hb dX3_attach_130 (lv_at hl 2 rfl) ?_
  refine lv_iconst (v := bI true) hx hb dX3_attach_132 (by decide) ?_
  refine g_zast (i := (64 * j + k)) (x := bI true) (t0 := 2) (ws' := rfW bd cI cZ run (up1 fm (64 * j + k) (fm (64 * n + i))) (up1 cm (64 * j + k) true) wr mk wo fc cc) hx hb hG rf_3 rfl ((by omega)) (by decide) (nar_bI _) (rf_s3 _ _) dX3_attach_133 (fun H locs hG => ?_)
  refine lv_aload_n hx hb dX3_attach_134 rfl (lv_at hl 3 rfl) ?_
  refine g_get (k := 3) (v := .ref (bd 4)) (C := RX3) (ref := RX3) (fs := [.ref (bd 1), .ref (bd 2), .ref (bd 3), .ref (bd 4), .ref (bd 5), .ref (bd 6), .int fc, .int cc]) hx hb hown hts hG gX3 rfl rf_0 (by decide) t_241 rfl rfl dX3_attach_135 ?_
  refine lv_iload hx hb dX3_attach_138 (lv_at hl 2 rfl) ?_
  refine lv_aload_n hx hb dX3_attach_140 rfl (lv_at hl 3 rfl) ?_
  refine g_get (k := 3) (v := .ref (bd 4)) (C := RX3) (ref := RX3) (fs := [.ref (bd 1), .ref (bd 2), .ref (bd 3), .ref (bd 4), .ref (bd 5), .ref (bd 6), .int fc, .int cc]) hx hb hown hts hG gX3 rfl rf_0 (by decide) t_241 rfl rfl dX3_attach_141 ?_
  refine lv_iload hx hb dX3_attach_144 (lv_at hl 1 rfl) ?_
  refine g_zald (i := (64 * n + i)) (t0 := 2) hx hb hG rf_4 rfl ((by omega)) (by decide) dX3_attach_146 ?_
  refine g_zast (i := (64 * j + k)) (x := bI (wr (64 * n + i))) (t0 := 2) (ws' := rfW bd cI cZ run (up1 fm (64 * j + k) (fm (64 * n + i))) (up1 cm (64 * j + k) true) (up1 wr (64 * j + k) (wr (64 * n + i))) mk wo fc cc) hx hb hG rf_4 rfl ((by omega)) (by decide) (nar_bI _) (rf_s4 _ _) dX3_attach_147 (fun H locs hG => ?_)
  refine lv_aload_n hx hb dX3_attach_148 rfl (lv_at hl 3 rfl) ?_
  refine g_get (k := 4) (v := .ref (bd 5)) (C := RX3) (ref := RX3) (fs := [.ref (bd 1), .ref (bd 2), .ref (bd 3), .ref (bd 4), .ref (bd 5), .ref (bd 6), .int fc, .int cc]) hx hb hown hts hG gX3 rfl rf_0 (by decide) t_242 rfl rfl dX3_attach_149 ?_
  refine lv_iload hx hb dX3_attach_152 (lv_at hl 2 rfl) ?_
  refine lv_iconst (v := bI false) hx hb dX3_attach_154 (by decide) ?_
  refine g_zast (i := (64 * j + k)) (x := bI false) (t0 := 2) (ws' := rfW bd cI cZ run (up1 fm (64 * j + k) (fm (64 * n + i))) (up1 cm (64 * j + k) true) (up1 wr (64 * j + k) (wr (64 * n + i))) (up1 mk (64 * j + k) false) wo fc cc) hx hb hG rf_5 rfl ((by omega)) (by decide) (nar_bI _) (rf_s5 _ _) dX3_attach_155 (fun H locs hG => ?_)
  refine lv_iload hx hb dX3_attach_156 (lv_at hl 0 rfl) ?_
  exact g_iret hx hb hr hlk hG dX3_attach_158
set_option maxHeartbeats 4000000 in
set_option maxRecDepth 100000 in
theorem rp_unmap_no {x y  r : Int32} (hr0 : ¬ 0 ≤ r) (hM : gM l yX3_bar cX3_bar 3 (some .int) 1 21 D cls (fpT cI cQ cZ) A (rfW bd cI cZ run fm cm wr mk wo fc cc) [.ref (bd 0), .int x, .int y] (some (.int r)) (rfW bd cI cZ run fm cm wr mk wo fc cc)) : gM l yX3_unmap cX3_unmap 5 (some .int) 3 70 D cls (fpT cI cQ cZ) A (rfW bd cI cZ run fm cm wr mk wo fc cc) [.ref (bd 0), .int x, .int y] (some (.int r)) (rfW bd cI cZ run fm cm wr mk wo fc cc) := by
  refine gM_of (by decide) (Nat.le_of_ble_eq_true rfl) ?_
  intro p e s m args below meth c ls hx hb hml hown hts hN hr hlk hl hG
  have hown : s.vm.findClass RX3 = some m.cls := hown
  have hl : lv_has ls 5 [(0, .ref (bd 0)), (1, .int x), (2, .int y)] := hl
  refine lv_aload_n hx hb dX3_unmap_0 rfl (lv_at hl 0 rfl) ?_
  refine lv_iload_n hx hb dX3_unmap_1 rfl (lv_at hl 1 rfl) ?_
  refine lv_iload_n hx hb dX3_unmap_2 rfl (lv_at hl 2 rfl) ?_
  refine g_callV (As := [.int x, .int y]) (rest := []) (fs := [.ref (bd 1), .ref (bd 2), .ref (bd 3), .ref (bd 4), .ref (bd 5), .ref (bd 6), .int fc, .int cc]) (hM) hx hb hml hown hts hN hG t_328 t_330 s_28 t_4 t_331 nm_X3_bar ⟨by decide, by decide⟩ rf_0 rfl hl.1 (Nat.le_of_ble_eq_true rfl) dX3_unmap_3 ⟨Nat.zero_le _, Nat.zero_le _⟩ (fun H locs hG => ?_)
  refine W.eq (g2 := F0 m 6 ls [.int r]) rfl ?_
  refine lv_istore_n (lv' := [(3, .int r), (0, .ref (bd 0)), (1, .int x), (2, .int y)]) hx hb dX3_unmap_6 rfl hl (by decide) rfl (fun ls hl => ?_)
  refine lv_iload_n hx hb dX3_unmap_7 rfl (lv_at hl 0 rfl) ?_
  refine lv_if_ge (tgt := 13) hx hb dX3_unmap_8 rfl (fun hh => absurd hh (hr0)) (fun _ => ?_)
  refine lv_iload_n hx hb dX3_unmap_11 rfl (lv_at hl 0 rfl) ?_
  exact g_iret hx hb hr hlk hG dX3_unmap_12
set_option maxHeartbeats 4000000 in
set_option maxRecDepth 100000 in
theorem rp_count_no {x y  r : Int32} (hr0 : ¬ 0 ≤ r) (hM : gM l yX3_bar cX3_bar 3 (some .int) 1 21 D cls (fpT cI cQ cZ) A (rfW bd cI cZ run fm cm wr mk wo fc cc) [.ref (bd 0), .int x, .int y] (some (.int r)) (rfW bd cI cZ run fm cm wr mk wo fc cc)) : gM l yX3_count cX3_count 4 (some .int) 2 43 D cls (fpT cI cQ cZ) A (rfW bd cI cZ run fm cm wr mk wo fc cc) [.ref (bd 0), .int x, .int y] (some (.int r)) (rfW bd cI cZ run fm cm wr mk wo fc cc) := by
  refine gM_of (by decide) (Nat.le_of_ble_eq_true rfl) ?_
  intro p e s m args below meth c ls hx hb hml hown hts hN hr hlk hl hG
  have hown : s.vm.findClass RX3 = some m.cls := hown
  have hl : lv_has ls 4 [(0, .ref (bd 0)), (1, .int x), (2, .int y)] := hl
  refine lv_aload_n hx hb dX3_count_0 rfl (lv_at hl 0 rfl) ?_
  refine lv_iload_n hx hb dX3_count_1 rfl (lv_at hl 1 rfl) ?_
  refine lv_iload_n hx hb dX3_count_2 rfl (lv_at hl 2 rfl) ?_
  refine g_callV (As := [.int x, .int y]) (rest := []) (fs := [.ref (bd 1), .ref (bd 2), .ref (bd 3), .ref (bd 4), .ref (bd 5), .ref (bd 6), .int fc, .int cc]) (hM) hx hb hml hown hts hN hG t_328 t_330 s_28 t_4 t_331 nm_X3_bar ⟨by decide, by decide⟩ rf_0 rfl hl.1 (Nat.le_of_ble_eq_true rfl) dX3_count_3 ⟨Nat.zero_le _, Nat.zero_le _⟩ (fun H locs hG => ?_)
  refine W.eq (g2 := F0 m 6 ls [.int r]) rfl ?_
  refine lv_istore_n (lv' := [(3, .int r), (0, .ref (bd 0)), (1, .int x), (2, .int y)]) hx hb dX3_count_6 rfl hl (by decide) rfl (fun ls hl => ?_)
  refine lv_iload_n hx hb dX3_count_7 rfl (lv_at hl 0 rfl) ?_
  refine lv_if_ge (tgt := 15) hx hb dX3_count_8 rfl (fun hh => absurd hh (hr0)) (fun _ => ?_)
  refine lv_iload_n hx hb dX3_count_11 rfl (lv_at hl 0 rfl) ?_
  refine lv_goto (tgt := 32) hx hb dX3_count_12 rfl ?_
  exact g_iret hx hb hr hlk hG dX3_count_32
set_option maxHeartbeats 4000000 in
set_option maxRecDepth 100000 in
theorem rp_mapping_no {x y  r : Int32} (hr0 : ¬ 0 ≤ r) (hM : gM l yX3_bar cX3_bar 3 (some .int) 1 21 D cls (fpT cI cQ cZ) A (rfW bd cI cZ run fm cm wr mk wo fc cc) [.ref (bd 0), .int x, .int y] (some (.int r)) (rfW bd cI cZ run fm cm wr mk wo fc cc)) : gM l yX3_mapping cX3_mapping 5 (some .int) 2 43 D cls (fpT cI cQ cZ) A (rfW bd cI cZ run fm cm wr mk wo fc cc) [.ref (bd 0), .int x, .int y] (some (.int r)) (rfW bd cI cZ run fm cm wr mk wo fc cc) := by
  refine gM_of (by decide) (Nat.le_of_ble_eq_true rfl) ?_
  intro p e s m args below meth c ls hx hb hml hown hts hN hr hlk hl hG
  have hown : s.vm.findClass RX3 = some m.cls := hown
  have hl : lv_has ls 5 [(0, .ref (bd 0)), (1, .int x), (2, .int y)] := hl
  refine lv_aload_n hx hb dX3_mapping_0 rfl (lv_at hl 0 rfl) ?_
  refine lv_iload_n hx hb dX3_mapping_1 rfl (lv_at hl 1 rfl) ?_
  refine lv_iload_n hx hb dX3_mapping_2 rfl (lv_at hl 2 rfl) ?_
  refine g_callV (As := [.int x, .int y]) (rest := []) (fs := [.ref (bd 1), .ref (bd 2), .ref (bd 3), .ref (bd 4), .ref (bd 5), .ref (bd 6), .int fc, .int cc]) (hM) hx hb hml hown hts hN hG t_328 t_330 s_28 t_4 t_331 nm_X3_bar ⟨by decide, by decide⟩ rf_0 rfl hl.1 (Nat.le_of_ble_eq_true rfl) dX3_mapping_3 ⟨Nat.zero_le _, Nat.zero_le _⟩ (fun H locs hG => ?_)
  refine W.eq (g2 := F0 m 6 ls [.int r]) rfl ?_
  refine lv_istore_n (lv' := [(3, .int r), (0, .ref (bd 0)), (1, .int x), (2, .int y)]) hx hb dX3_mapping_6 rfl hl (by decide) rfl (fun ls hl => ?_)
  refine lv_iload_n hx hb dX3_mapping_7 rfl (lv_at hl 0 rfl) ?_
  refine lv_if_ge (tgt := 13) hx hb dX3_mapping_8 rfl (fun hh => absurd hh (hr0)) (fun _ => ?_)
  refine lv_iload_n hx hb dX3_mapping_11 rfl (lv_at hl 0 rfl) ?_
  exact g_iret hx hb hr hlk hG dX3_mapping_12
set_option maxHeartbeats 4000000 in
set_option maxRecDepth 100000 in
theorem rp_protect_no {x y zz r : Int32} (hr0 : ¬ 0 ≤ r) (hM : gM l yX3_bar cX3_bar 3 (some .int) 1 21 D cls (fpT cI cQ cZ) A (rfW bd cI cZ run fm cm wr mk wo fc cc) [.ref (bd 0), .int x, .int y] (some (.int r)) (rfW bd cI cZ run fm cm wr mk wo fc cc)) : gM l yX3_protect cX3_protect 6 (some .int) 2 43 D cls (fpT cI cQ cZ) A (rfW bd cI cZ run fm cm wr mk wo fc cc) [.ref (bd 0), .int x, .int y, .int zz] (some (.int r)) (rfW bd cI cZ run fm cm wr mk wo fc cc) := by
  refine gM_of (by decide) (Nat.le_of_ble_eq_true rfl) ?_
  intro p e s m args below meth c ls hx hb hml hown hts hN hr hlk hl hG
  have hown : s.vm.findClass RX3 = some m.cls := hown
  have hl : lv_has ls 6 [(0, .ref (bd 0)), (1, .int x), (2, .int y), (3, .int zz)] := hl
  refine lv_aload_n hx hb dX3_protect_0 rfl (lv_at hl 0 rfl) ?_
  refine lv_iload_n hx hb dX3_protect_1 rfl (lv_at hl 1 rfl) ?_
  refine lv_iload_n hx hb dX3_protect_2 rfl (lv_at hl 2 rfl) ?_
  refine g_callV (As := [.int x, .int y]) (rest := []) (fs := [.ref (bd 1), .ref (bd 2), .ref (bd 3), .ref (bd 4), .ref (bd 5), .ref (bd 6), .int fc, .int cc]) (hM) hx hb hml hown hts hN hG t_328 t_330 s_28 t_4 t_331 nm_X3_bar ⟨by decide, by decide⟩ rf_0 rfl hl.1 (Nat.le_of_ble_eq_true rfl) dX3_protect_3 ⟨Nat.zero_le _, Nat.zero_le _⟩ (fun H locs hG => ?_)
  refine W.eq (g2 := F0 m 6 ls [.int r]) rfl ?_
  refine lv_istore (lv' := [(4, .int r), (0, .ref (bd 0)), (1, .int x), (2, .int y), (3, .int zz)]) hx hb dX3_protect_6 hl (by decide) rfl (fun ls hl => ?_)
  refine lv_iload hx hb dX3_protect_8 (lv_at hl 0 rfl) ?_
  refine lv_if_ge (tgt := 16) hx hb dX3_protect_10 rfl (fun hh => absurd hh (hr0)) (fun _ => ?_)
  refine lv_iload hx hb dX3_protect_13 (lv_at hl 0 rfl) ?_
  exact g_iret hx hb hr hlk hG dX3_protect_15
theorem up1_le {f : Nat → Nat} {k v : Nat} (hv : v ≤ 24) (h : ∀ i, f i ≤ 24) : ∀ i, up1 f k v i ≤ 24 := by
  intro i
  by_cases q : i = k
  · subst q; rw [up1_s]; exact hv
  · rw [up1_n q]; exact h i
set_option maxHeartbeats 4000000 in
set_option maxRecDepth 100000 in
theorem rp_unmap_ok {j k : Nat} (hj : j < 5) (hk : k < 64) (h : run j = true) (h2 : 0 < fm (64 * j + k)) (hB : ∀ i, fm i ≤ 24)  : gM l yX3_unmap cX3_unmap 5 (some .int) 3 70 D cls (fpT cI cQ cZ) A (rfW bd cI cZ run fm cm wr mk wo fc cc) [.ref (bd 0), .int (nI j), .int (nI k)] (some (.int (frR run (up1 fm (64 * j + k) 0) - frR run fm))) (rfW bd cI cZ run (up1 fm (64 * j + k) 0) (up1 cm (64 * j + k) false) (up1 wr (64 * j + k) false) (up1 mk (64 * j + k) false) wo fc cc) := by
  refine gM_of (by decide) (Nat.le_of_ble_eq_true rfl) ?_
  intro p e s m args below meth c ls hx hb hml hown hts hN hr hlk hl hG
  have hown : s.vm.findClass RX3 = some m.cls := hown
  have hl : lv_has ls 5 [(0, .ref (bd 0)), (1, .int (nI j)), (2, .int (nI k))] := hl
  refine lv_aload_n hx hb dX3_unmap_0 rfl (lv_at hl 0 rfl) ?_
  refine lv_iload_n hx hb dX3_unmap_1 rfl (lv_at hl 1 rfl) ?_
  refine lv_iload_n hx hb dX3_unmap_2 rfl (lv_at hl 2 rfl) ?_
  refine g_callV (As := [.int (nI j), .int (nI k)]) (rest := []) (fs := [.ref (bd 1), .ref (bd 2), .ref (bd 3), .ref (bd 4), .ref (bd 5), .ref (bd 6), .int fc, .int cc]) (rm_bar_0 hj hk h h2 hB) hx hb hml hown hts hN hG t_328 t_330 s_28 t_4 t_331 nm_X3_bar ⟨by decide, by decide⟩ rf_0 rfl hl.1 (Nat.le_of_ble_eq_true rfl) dX3_unmap_3 ⟨Nat.zero_le _, Nat.zero_le _⟩ (fun H locs hG => ?_)
  refine W.eq (g2 := F0 m 6 ls [.int 0]) rfl ?_
  refine lv_istore_n (lv' := [(3, .int 0), (0, .ref (bd 0)), (1, .int (nI j)), (2, .int (nI k))]) hx hb dX3_unmap_6 rfl hl (by decide) rfl (fun ls hl => ?_)
  refine lv_iload_n hx hb dX3_unmap_7 rfl (lv_at hl 0 rfl) ?_
  refine lv_if_ge (tgt := 13) hx hb dX3_unmap_8 rfl (fun _ => ?_) (fun hh => absurd (by decide) hh)
  refine lv_aload_n hx hb dX3_unmap_13 rfl (lv_at hl 1 rfl) ?_
  refine g_callV (As := []) (rest := []) (fs := [.ref (bd 1), .ref (bd 2), .ref (bd 3), .ref (bd 4), .ref (bd 5), .ref (bd 6), .int fc, .int cc]) (rm_free hB) hx hb hml hown hts hN hG t_288 t_265 t_266 t_4 t_267 nm_X3_free ⟨by decide, by decide⟩ rf_0 rfl hl.1 (Nat.le_of_ble_eq_true rfl) dX3_unmap_14 ⟨Nat.zero_le _, Nat.zero_le _⟩ (fun H locs hG => ?_)
  refine W.eq (g2 := F0 m 17 ls [.int (frR run fm)]) rfl ?_
  refine lv_istore (lv' := [(4, .int (frR run fm)), (3, .int 0), (0, .ref (bd 0)), (1, .int (nI j)), (2, .int (nI k))]) hx hb dX3_unmap_17 hl (by decide) rfl (fun ls hl => ?_)
  refine lv_aload_n hx hb dX3_unmap_19 rfl (lv_at hl 2 rfl) ?_
  refine lv_bipush (v := nI 64) hx hb dX3_unmap_20 (by decide) ?_
  refine lv_iload_n hx hb dX3_unmap_22 rfl (lv_at hl 3 rfl) ?_
  refine lv_imul hx hb dX3_unmap_23 ?_
  refine g_top (y := nI (64 * j)) (pk_mul 64 j) ?_
  refine lv_iload_n hx hb dX3_unmap_24 rfl (lv_at hl 4 rfl) ?_
  refine lv_iadd hx hb dX3_unmap_25 ?_
  refine g_top (y := nI (64 * j + k)) (nI_add _ _) ?_
  refine g_callV (As := [.int (nI (64 * j + k))]) (rest := []) (fs := [.ref (bd 1), .ref (bd 2), .ref (bd 3), .ref (bd 4), .ref (bd 5), .ref (bd 6), .int fc, .int cc]) (rm_clear (k := 64 * j + k) (by omega)) hx hb hml hown hts hN hG t_301 t_303 s_25 t_4 t_304 nm_X3_clear ⟨by decide, by decide⟩ rf_0 rfl hl.1 (Nat.le_of_ble_eq_true rfl) dX3_unmap_26 ⟨Nat.zero_le _, Nat.zero_le _⟩ (fun H locs hG => ?_)
  refine W.eq (g2 := F0 m 29 ls []) rfl ?_
  refine lv_aload_n hx hb dX3_unmap_29 rfl (lv_at hl 2 rfl) ?_
  refine g_callV (As := []) (rest := []) (fs := [.ref (bd 1), .ref (bd 2), .ref (bd 3), .ref (bd 4), .ref (bd 5), .ref (bd 6), .int fc, .int cc]) (rm_free (up1_le (by decide) hB)) hx hb hml hown hts hN hG t_288 t_265 t_266 t_4 t_267 nm_X3_free ⟨by decide, by decide⟩ rf_0 rfl hl.1 (Nat.le_of_ble_eq_true rfl) dX3_unmap_30 ⟨Nat.zero_le _, Nat.zero_le _⟩ (fun H locs hG => ?_)
  refine W.eq (g2 := F0 m 33 ls [.int (frR run (up1 fm (64 * j + k) 0))]) rfl ?_
  refine lv_iload hx hb dX3_unmap_33 (lv_at hl 0 rfl) ?_
  refine lv_isub hx hb dX3_unmap_35 ?_
  exact g_iret hx hb hr hlk hG dX3_unmap_36
set_option maxHeartbeats 4000000 in
set_option maxRecDepth 100000 in
theorem rp_count_ok {j k : Nat} (hj : j < 5) (hk : k < 64) (h : run j = true) (h2 : 0 < fm (64 * j + k)) (hB : ∀ i, fm i ≤ 24)  : gM l yX3_count cX3_count 4 (some .int) 2 43 D cls (fpT cI cQ cZ) A (rfW bd cI cZ run fm cm wr mk wo fc cc) [.ref (bd 0), .int (nI j), .int (nI k)] (some (.int (nI (ldN fm (fm (64 * j + k) - 1))))) (rfW bd cI cZ run fm cm wr mk wo fc cc) := by
  refine gM_of (by decide) (Nat.le_of_ble_eq_true rfl) ?_
  intro p e s m args below meth c ls hx hb hml hown hts hN hr hlk hl hG
  have hown : s.vm.findClass RX3 = some m.cls := hown
  have hl : lv_has ls 4 [(0, .ref (bd 0)), (1, .int (nI j)), (2, .int (nI k))] := hl
  refine lv_aload_n hx hb dX3_count_0 rfl (lv_at hl 0 rfl) ?_
  refine lv_iload_n hx hb dX3_count_1 rfl (lv_at hl 1 rfl) ?_
  refine lv_iload_n hx hb dX3_count_2 rfl (lv_at hl 2 rfl) ?_
  refine g_callV (As := [.int (nI j), .int (nI k)]) (rest := []) (fs := [.ref (bd 1), .ref (bd 2), .ref (bd 3), .ref (bd 4), .ref (bd 5), .ref (bd 6), .int fc, .int cc]) (rm_bar_0 hj hk h h2 hB) hx hb hml hown hts hN hG t_328 t_330 s_28 t_4 t_331 nm_X3_bar ⟨by decide, by decide⟩ rf_0 rfl hl.1 (Nat.le_of_ble_eq_true rfl) dX3_count_3 ⟨Nat.zero_le _, Nat.zero_le _⟩ (fun H locs hG => ?_)
  refine W.eq (g2 := F0 m 6 ls [.int 0]) rfl ?_
  refine lv_istore_n (lv' := [(3, .int 0), (0, .ref (bd 0)), (1, .int (nI j)), (2, .int (nI k))]) hx hb dX3_count_6 rfl hl (by decide) rfl (fun ls hl => ?_)
  refine lv_iload_n hx hb dX3_count_7 rfl (lv_at hl 0 rfl) ?_
  refine lv_if_ge (tgt := 15) hx hb dX3_count_8 rfl (fun _ => ?_) (fun hh => absurd (by decide) hh)
  refine lv_aload_n hx hb dX3_count_15 rfl (lv_at hl 1 rfl) ?_
  refine lv_aload_n hx hb dX3_count_16 rfl (lv_at hl 1 rfl) ?_
  refine g_get (k := 1) (v := .ref (bd 2)) (C := RX3) (ref := RX3) (fs := [.ref (bd 1), .ref (bd 2), .ref (bd 3), .ref (bd 4), .ref (bd 5), .ref (bd 6), .int fc, .int cc]) hx hb hown hts hG gX3 rfl rf_0 (by decide) t_239 rfl rfl dX3_count_17 ?_
  refine lv_bipush (v := nI 64) hx hb dX3_count_20 (by decide) ?_
  refine lv_iload_n hx hb dX3_count_22 rfl (lv_at hl 2 rfl) ?_
  refine lv_imul hx hb dX3_count_23 ?_
  refine g_top (y := nI (64 * j)) (pk_mul 64 j) ?_
  refine lv_iload_n hx hb dX3_count_24 rfl (lv_at hl 3 rfl) ?_
  refine lv_iadd hx hb dX3_count_25 ?_
  refine g_top (y := nI (64 * j + k)) (nI_add _ _) ?_
  refine g_iald (i := (64 * j + k)) (t0 := 0) hx hb hG rf_2 rfl ((by omega)) (by decide) dX3_count_26 ?_
  refine lv_iconst (v := nI 1) hx hb dX3_count_27 (by decide) ?_
  refine lv_isub hx hb dX3_count_28 ?_
  refine g_top (y := nI (fm (64 * j + k) - 1)) (pk_sub (b := 1) (by omega)) ?_
  refine g_callV (As := [.int (nI (fm (64 * j + k) - 1))]) (rest := []) (fs := [.ref (bd 1), .ref (bd 2), .ref (bd 3), .ref (bd 4), .ref (bd 5), .ref (bd 6), .int fc, .int cc]) (rm_leads (by have := hB (64 * j + k); omega) hB) hx hb hml hown hts hN hG t_268 t_270 s_20 t_4 t_271 nm_X3_leads ⟨by decide, by decide⟩ rf_0 rfl hl.1 (Nat.le_of_ble_eq_true rfl) dX3_count_29 ⟨Nat.zero_le _, Nat.zero_le _⟩ (fun H locs hG => ?_)
  refine W.eq (g2 := F0 m 32 ls [.int (nI (ldN fm (fm (64 * j + k) - 1)))]) rfl ?_
  exact g_iret hx hb hr hlk hG dX3_count_32
def mpI (w c m : Bool) : Nat := (if w then 1 else 0) + (if c then 2 else 0) + (if m then 4 else 0)
theorem bI_ne {a b : Bool} (h : ¬ a = b) : ¬ bI a = bI b := by cases a <;> cases b <;> first | exact absurd rfl h | decide
set_option maxHeartbeats 4000000 in
set_option maxRecDepth 100000 in
theorem rp_mapping_000 {j k : Nat} (hj : j < 5) (hk : k < 64) (h : run j = true) (h2 : 0 < fm (64 * j + k)) (hB : ∀ i, fm i ≤ 24)  (ha : wr (64 * j + k) = false) (hc : cm (64 * j + k) = false) (hm : mk (64 * j + k) = false) : gM l yX3_mapping cX3_mapping 5 (some .int) 2 43 D cls (fpT cI cQ cZ) A (rfW bd cI cZ run fm cm wr mk wo fc cc) [.ref (bd 0), .int (nI j), .int (nI k)] (some (.int (nI 0))) (rfW bd cI cZ run fm cm wr mk wo fc cc) := by
  refine gM_of (by decide) (Nat.le_of_ble_eq_true rfl) ?_
  intro p e s m args below meth c ls hx hb hml hown hts hN hr hlk hl hG
  have hown : s.vm.findClass RX3 = some m.cls := hown
  have hl : lv_has ls 5 [(0, .ref (bd 0)), (1, .int (nI j)), (2, .int (nI k))] := hl
  refine lv_aload_n hx hb dX3_mapping_0 rfl (lv_at hl 0 rfl) ?_
  refine lv_iload_n hx hb dX3_mapping_1 rfl (lv_at hl 1 rfl) ?_
  refine lv_iload_n hx hb dX3_mapping_2 rfl (lv_at hl 2 rfl) ?_
  refine g_callV (As := [.int (nI j), .int (nI k)]) (rest := []) (fs := [.ref (bd 1), .ref (bd 2), .ref (bd 3), .ref (bd 4), .ref (bd 5), .ref (bd 6), .int fc, .int cc]) (rm_bar_0 hj hk h h2 hB) hx hb hml hown hts hN hG t_328 t_330 s_28 t_4 t_331 nm_X3_bar ⟨by decide, by decide⟩ rf_0 rfl hl.1 (Nat.le_of_ble_eq_true rfl) dX3_mapping_3 ⟨Nat.zero_le _, Nat.zero_le _⟩ (fun H locs hG => ?_)
  refine W.eq (g2 := F0 m 6 ls [.int 0]) rfl ?_
  refine lv_istore_n (lv' := [(3, .int 0), (0, .ref (bd 0)), (1, .int (nI j)), (2, .int (nI k))]) hx hb dX3_mapping_6 rfl hl (by decide) rfl (fun ls hl => ?_)
  refine lv_iload_n hx hb dX3_mapping_7 rfl (lv_at hl 0 rfl) ?_
  refine lv_if_ge (tgt := 13) hx hb dX3_mapping_8 rfl (fun _ => ?_) (fun hh => absurd (by decide) hh)
  refine lv_bipush (v := nI 64) hx hb dX3_mapping_13 (by decide) ?_
  refine lv_iload_n hx hb dX3_mapping_15 rfl (lv_at hl 2 rfl) ?_
  refine lv_imul hx hb dX3_mapping_16 ?_
  refine g_top (y := nI (64 * j)) (pk_mul 64 j) ?_
  refine lv_iload_n hx hb dX3_mapping_17 rfl (lv_at hl 3 rfl) ?_
  refine lv_iadd hx hb dX3_mapping_18 ?_
  refine g_top (y := nI (64 * j + k)) (nI_add _ _) ?_
  refine lv_istore (lv' := [(4, .int (nI (64 * j + k))), (3, .int 0), (0, .ref (bd 0)), (1, .int (nI j)), (2, .int (nI k))]) hx hb dX3_mapping_19 hl (by decide) rfl (fun ls hl => ?_)
  refine lv_aload_n hx hb dX3_mapping_21 rfl (lv_at hl 2 rfl) ?_
  refine g_get (k := 3) (v := .ref (bd 4)) (C := RX3) (ref := RX3) (fs := [.ref (bd 1), .ref (bd 2), .ref (bd 3), .ref (bd 4), .ref (bd 5), .ref (bd 6), .int fc, .int cc]) hx hb hown hts hG gX3 rfl rf_0 (by decide) t_241 rfl rfl dX3_mapping_22 ?_
  refine lv_iload hx hb dX3_mapping_25 (lv_at hl 0 rfl) ?_
  refine g_zald (i := (64 * j + k)) (t0 := 2) hx hb hG rf_4 rfl ((by omega)) (by decide) dX3_mapping_27 ?_
  refine g_top (y := 0) (by rw [ha]; rfl) ?_
  refine lv_if_eq (tgt := 35) hx hb dX3_mapping_28 rfl (fun _ => ?_) (fun hh => absurd (rfl) hh)
  refine lv_iconst (v := nI 0) hx hb dX3_mapping_35 (by decide) ?_
  refine lv_aload_n hx hb dX3_mapping_36 rfl (lv_at hl 2 rfl) ?_
  refine g_get (k := 2) (v := .ref (bd 3)) (C := RX3) (ref := RX3) (fs := [.ref (bd 1), .ref (bd 2), .ref (bd 3), .ref (bd 4), .ref (bd 5), .ref (bd 6), .int fc, .int cc]) hx hb hown hts hG gX3 rfl rf_0 (by decide) t_240 rfl rfl dX3_mapping_37 ?_
  refine lv_iload hx hb dX3_mapping_40 (lv_at hl 0 rfl) ?_
  refine g_zald (i := (64 * j + k)) (t0 := 2) hx hb hG rf_3 rfl ((by omega)) (by decide) dX3_mapping_42 ?_
  refine g_top (y := 0) (by rw [hc]; rfl) ?_
  refine lv_if_eq (tgt := 50) hx hb dX3_mapping_43 rfl (fun _ => ?_) (fun hh => absurd (rfl) hh)
  refine lv_iconst (v := nI 0) hx hb dX3_mapping_50 (by decide) ?_
  refine lv_iadd hx hb dX3_mapping_51 ?_
  refine g_top (y := nI 0) (by decide) ?_
  refine lv_aload_n hx hb dX3_mapping_52 rfl (lv_at hl 2 rfl) ?_
  refine g_get (k := 4) (v := .ref (bd 5)) (C := RX3) (ref := RX3) (fs := [.ref (bd 1), .ref (bd 2), .ref (bd 3), .ref (bd 4), .ref (bd 5), .ref (bd 6), .int fc, .int cc]) hx hb hown hts hG gX3 rfl rf_0 (by decide) t_242 rfl rfl dX3_mapping_53 ?_
  refine lv_iload hx hb dX3_mapping_56 (lv_at hl 0 rfl) ?_
  refine g_zald (i := (64 * j + k)) (t0 := 2) hx hb hG rf_5 rfl ((by omega)) (by decide) dX3_mapping_58 ?_
  refine g_top (y := 0) (by rw [hm]; rfl) ?_
  refine lv_if_eq (tgt := 66) hx hb dX3_mapping_59 rfl (fun _ => ?_) (fun hh => absurd (rfl) hh)
  refine lv_iconst (v := nI 0) hx hb dX3_mapping_66 (by decide) ?_
  refine lv_iadd hx hb dX3_mapping_67 ?_
  refine g_top (y := nI 0) (by decide) ?_
  exact g_iret hx hb hr hlk hG dX3_mapping_68
set_option maxHeartbeats 4000000 in
set_option maxRecDepth 100000 in
theorem rp_mapping_001 {j k : Nat} (hj : j < 5) (hk : k < 64) (h : run j = true) (h2 : 0 < fm (64 * j + k)) (hB : ∀ i, fm i ≤ 24)  (ha : wr (64 * j + k) = false) (hc : cm (64 * j + k) = false) (hm : mk (64 * j + k) = true) : gM l yX3_mapping cX3_mapping 5 (some .int) 2 43 D cls (fpT cI cQ cZ) A (rfW bd cI cZ run fm cm wr mk wo fc cc) [.ref (bd 0), .int (nI j), .int (nI k)] (some (.int (nI 4))) (rfW bd cI cZ run fm cm wr mk wo fc cc) := by
  refine gM_of (by decide) (Nat.le_of_ble_eq_true rfl) ?_
  intro p e s m args below meth c ls hx hb hml hown hts hN hr hlk hl hG
  have hown : s.vm.findClass RX3 = some m.cls := hown
  have hl : lv_has ls 5 [(0, .ref (bd 0)), (1, .int (nI j)), (2, .int (nI k))] := hl
  refine lv_aload_n hx hb dX3_mapping_0 rfl (lv_at hl 0 rfl) ?_
  refine lv_iload_n hx hb dX3_mapping_1 rfl (lv_at hl 1 rfl) ?_
  refine lv_iload_n hx hb dX3_mapping_2 rfl (lv_at hl 2 rfl) ?_
  refine g_callV (As := [.int (nI j), .int (nI k)]) (rest := []) (fs := [.ref (bd 1), .ref (bd 2), .ref (bd 3), .ref (bd 4), .ref (bd 5), .ref (bd 6), .int fc, .int cc]) (rm_bar_0 hj hk h h2 hB) hx hb hml hown hts hN hG t_328 t_330 s_28 t_4 t_331 nm_X3_bar ⟨by decide, by decide⟩ rf_0 rfl hl.1 (Nat.le_of_ble_eq_true rfl) dX3_mapping_3 ⟨Nat.zero_le _, Nat.zero_le _⟩ (fun H locs hG => ?_)
  refine W.eq (g2 := F0 m 6 ls [.int 0]) rfl ?_
  refine lv_istore_n (lv' := [(3, .int 0), (0, .ref (bd 0)), (1, .int (nI j)), (2, .int (nI k))]) hx hb dX3_mapping_6 rfl hl (by decide) rfl (fun ls hl => ?_)
  refine lv_iload_n hx hb dX3_mapping_7 rfl (lv_at hl 0 rfl) ?_
  refine lv_if_ge (tgt := 13) hx hb dX3_mapping_8 rfl (fun _ => ?_) (fun hh => absurd (by decide) hh)
  refine lv_bipush (v := nI 64) hx hb dX3_mapping_13 (by decide) ?_
  refine lv_iload_n hx hb dX3_mapping_15 rfl (lv_at hl 2 rfl) ?_
  refine lv_imul hx hb dX3_mapping_16 ?_
  refine g_top (y := nI (64 * j)) (pk_mul 64 j) ?_
  refine lv_iload_n hx hb dX3_mapping_17 rfl (lv_at hl 3 rfl) ?_
  refine lv_iadd hx hb dX3_mapping_18 ?_
  refine g_top (y := nI (64 * j + k)) (nI_add _ _) ?_
  refine lv_istore (lv' := [(4, .int (nI (64 * j + k))), (3, .int 0), (0, .ref (bd 0)), (1, .int (nI j)), (2, .int (nI k))]) hx hb dX3_mapping_19 hl (by decide) rfl (fun ls hl => ?_)
  refine lv_aload_n hx hb dX3_mapping_21 rfl (lv_at hl 2 rfl) ?_
  refine g_get (k := 3) (v := .ref (bd 4)) (C := RX3) (ref := RX3) (fs := [.ref (bd 1), .ref (bd 2), .ref (bd 3), .ref (bd 4), .ref (bd 5), .ref (bd 6), .int fc, .int cc]) hx hb hown hts hG gX3 rfl rf_0 (by decide) t_241 rfl rfl dX3_mapping_22 ?_
  refine lv_iload hx hb dX3_mapping_25 (lv_at hl 0 rfl) ?_
  refine g_zald (i := (64 * j + k)) (t0 := 2) hx hb hG rf_4 rfl ((by omega)) (by decide) dX3_mapping_27 ?_
  refine g_top (y := 0) (by rw [ha]; rfl) ?_
  refine lv_if_eq (tgt := 35) hx hb dX3_mapping_28 rfl (fun _ => ?_) (fun hh => absurd (rfl) hh)
  refine lv_iconst (v := nI 0) hx hb dX3_mapping_35 (by decide) ?_
  refine lv_aload_n hx hb dX3_mapping_36 rfl (lv_at hl 2 rfl) ?_
  refine g_get (k := 2) (v := .ref (bd 3)) (C := RX3) (ref := RX3) (fs := [.ref (bd 1), .ref (bd 2), .ref (bd 3), .ref (bd 4), .ref (bd 5), .ref (bd 6), .int fc, .int cc]) hx hb hown hts hG gX3 rfl rf_0 (by decide) t_240 rfl rfl dX3_mapping_37 ?_
  refine lv_iload hx hb dX3_mapping_40 (lv_at hl 0 rfl) ?_
  refine g_zald (i := (64 * j + k)) (t0 := 2) hx hb hG rf_3 rfl ((by omega)) (by decide) dX3_mapping_42 ?_
  refine g_top (y := 0) (by rw [hc]; rfl) ?_
  refine lv_if_eq (tgt := 50) hx hb dX3_mapping_43 rfl (fun _ => ?_) (fun hh => absurd (rfl) hh)
  refine lv_iconst (v := nI 0) hx hb dX3_mapping_50 (by decide) ?_
  refine lv_iadd hx hb dX3_mapping_51 ?_
  refine g_top (y := nI 0) (by decide) ?_
  refine lv_aload_n hx hb dX3_mapping_52 rfl (lv_at hl 2 rfl) ?_
  refine g_get (k := 4) (v := .ref (bd 5)) (C := RX3) (ref := RX3) (fs := [.ref (bd 1), .ref (bd 2), .ref (bd 3), .ref (bd 4), .ref (bd 5), .ref (bd 6), .int fc, .int cc]) hx hb hown hts hG gX3 rfl rf_0 (by decide) t_242 rfl rfl dX3_mapping_53 ?_
  refine lv_iload hx hb dX3_mapping_56 (lv_at hl 0 rfl) ?_
  refine g_zald (i := (64 * j + k)) (t0 := 2) hx hb hG rf_5 rfl ((by omega)) (by decide) dX3_mapping_58 ?_
  refine g_top (y := 1) (by rw [hm]; rfl) ?_
  refine lv_if_eq (tgt := 66) hx hb dX3_mapping_59 rfl (fun hh => absurd hh (by decide)) (fun _ => ?_)
  refine lv_iconst (v := nI 4) hx hb dX3_mapping_62 (by decide) ?_
  refine lv_goto (tgt := 67) hx hb dX3_mapping_63 rfl ?_
  refine lv_iadd hx hb dX3_mapping_67 ?_
  refine g_top (y := nI 4) (by decide) ?_
  exact g_iret hx hb hr hlk hG dX3_mapping_68
set_option maxHeartbeats 4000000 in
set_option maxRecDepth 100000 in
theorem rp_mapping_010 {j k : Nat} (hj : j < 5) (hk : k < 64) (h : run j = true) (h2 : 0 < fm (64 * j + k)) (hB : ∀ i, fm i ≤ 24)  (ha : wr (64 * j + k) = false) (hc : cm (64 * j + k) = true) (hm : mk (64 * j + k) = false) : gM l yX3_mapping cX3_mapping 5 (some .int) 2 43 D cls (fpT cI cQ cZ) A (rfW bd cI cZ run fm cm wr mk wo fc cc) [.ref (bd 0), .int (nI j), .int (nI k)] (some (.int (nI 2))) (rfW bd cI cZ run fm cm wr mk wo fc cc) := by
  refine gM_of (by decide) (Nat.le_of_ble_eq_true rfl) ?_
  intro p e s m args below meth c ls hx hb hml hown hts hN hr hlk hl hG
  have hown : s.vm.findClass RX3 = some m.cls := hown
  have hl : lv_has ls 5 [(0, .ref (bd 0)), (1, .int (nI j)), (2, .int (nI k))] := hl
  refine lv_aload_n hx hb dX3_mapping_0 rfl (lv_at hl 0 rfl) ?_
  refine lv_iload_n hx hb dX3_mapping_1 rfl (lv_at hl 1 rfl) ?_
  refine lv_iload_n hx hb dX3_mapping_2 rfl (lv_at hl 2 rfl) ?_
  refine g_callV (As := [.int (nI j), .int (nI k)]) (rest := []) (fs := [.ref (bd 1), .ref (bd 2), .ref (bd 3), .ref (bd 4), .ref (bd 5), .ref (bd 6), .int fc, .int cc]) (rm_bar_0 hj hk h h2 hB) hx hb hml hown hts hN hG t_328 t_330 s_28 t_4 t_331 nm_X3_bar ⟨by decide, by decide⟩ rf_0 rfl hl.1 (Nat.le_of_ble_eq_true rfl) dX3_mapping_3 ⟨Nat.zero_le _, Nat.zero_le _⟩ (fun H locs hG => ?_)
  refine W.eq (g2 := F0 m 6 ls [.int 0]) rfl ?_
  refine lv_istore_n (lv' := [(3, .int 0), (0, .ref (bd 0)), (1, .int (nI j)), (2, .int (nI k))]) hx hb dX3_mapping_6 rfl hl (by decide) rfl (fun ls hl => ?_)
  refine lv_iload_n hx hb dX3_mapping_7 rfl (lv_at hl 0 rfl) ?_
  refine lv_if_ge (tgt := 13) hx hb dX3_mapping_8 rfl (fun _ => ?_) (fun hh => absurd (by decide) hh)
  refine lv_bipush (v := nI 64) hx hb dX3_mapping_13 (by decide) ?_
  refine lv_iload_n hx hb dX3_mapping_15 rfl (lv_at hl 2 rfl) ?_
  refine lv_imul hx hb dX3_mapping_16 ?_
  refine g_top (y := nI (64 * j)) (pk_mul 64 j) ?_
  refine lv_iload_n hx hb dX3_mapping_17 rfl (lv_at hl 3 rfl) ?_
  refine lv_iadd hx hb dX3_mapping_18 ?_
  refine g_top (y := nI (64 * j + k)) (nI_add _ _) ?_
  refine lv_istore (lv' := [(4, .int (nI (64 * j + k))), (3, .int 0), (0, .ref (bd 0)), (1, .int (nI j)), (2, .int (nI k))]) hx hb dX3_mapping_19 hl (by decide) rfl (fun ls hl => ?_)
  refine lv_aload_n hx hb dX3_mapping_21 rfl (lv_at hl 2 rfl) ?_
  refine g_get (k := 3) (v := .ref (bd 4)) (C := RX3) (ref := RX3) (fs := [.ref (bd 1), .ref (bd 2), .ref (bd 3), .ref (bd 4), .ref (bd 5), .ref (bd 6), .int fc, .int cc]) hx hb hown hts hG gX3 rfl rf_0 (by decide) t_241 rfl rfl dX3_mapping_22 ?_
  refine lv_iload hx hb dX3_mapping_25 (lv_at hl 0 rfl) ?_
  refine g_zald (i := (64 * j + k)) (t0 := 2) hx hb hG rf_4 rfl ((by omega)) (by decide) dX3_mapping_27 ?_
  refine g_top (y := 0) (by rw [ha]; rfl) ?_
  refine lv_if_eq (tgt := 35) hx hb dX3_mapping_28 rfl (fun _ => ?_) (fun hh => absurd (rfl) hh)
  refine lv_iconst (v := nI 0) hx hb dX3_mapping_35 (by decide) ?_
  refine lv_aload_n hx hb dX3_mapping_36 rfl (lv_at hl 2 rfl) ?_
  refine g_get (k := 2) (v := .ref (bd 3)) (C := RX3) (ref := RX3) (fs := [.ref (bd 1), .ref (bd 2), .ref (bd 3), .ref (bd 4), .ref (bd 5), .ref (bd 6), .int fc, .int cc]) hx hb hown hts hG gX3 rfl rf_0 (by decide) t_240 rfl rfl dX3_mapping_37 ?_
  refine lv_iload hx hb dX3_mapping_40 (lv_at hl 0 rfl) ?_
  refine g_zald (i := (64 * j + k)) (t0 := 2) hx hb hG rf_3 rfl ((by omega)) (by decide) dX3_mapping_42 ?_
  refine g_top (y := 1) (by rw [hc]; rfl) ?_
  refine lv_if_eq (tgt := 50) hx hb dX3_mapping_43 rfl (fun hh => absurd hh (by decide)) (fun _ => ?_)
  refine lv_iconst (v := nI 2) hx hb dX3_mapping_46 (by decide) ?_
  refine lv_goto (tgt := 51) hx hb dX3_mapping_47 rfl ?_
  refine lv_iadd hx hb dX3_mapping_51 ?_
  refine g_top (y := nI 2) (by decide) ?_
  refine lv_aload_n hx hb dX3_mapping_52 rfl (lv_at hl 2 rfl) ?_
  refine g_get (k := 4) (v := .ref (bd 5)) (C := RX3) (ref := RX3) (fs := [.ref (bd 1), .ref (bd 2), .ref (bd 3), .ref (bd 4), .ref (bd 5), .ref (bd 6), .int fc, .int cc]) hx hb hown hts hG gX3 rfl rf_0 (by decide) t_242 rfl rfl dX3_mapping_53 ?_
  refine lv_iload hx hb dX3_mapping_56 (lv_at hl 0 rfl) ?_
  refine g_zald (i := (64 * j + k)) (t0 := 2) hx hb hG rf_5 rfl ((by omega)) (by decide) dX3_mapping_58 ?_
  refine g_top (y := 0) (by rw [hm]; rfl) ?_
  refine lv_if_eq (tgt := 66) hx hb dX3_mapping_59 rfl (fun _ => ?_) (fun hh => absurd (rfl) hh)
  refine lv_iconst (v := nI 0) hx hb dX3_mapping_66 (by decide) ?_
  refine lv_iadd hx hb dX3_mapping_67 ?_
  refine g_top (y := nI 2) (by decide) ?_
  exact g_iret hx hb hr hlk hG dX3_mapping_68
set_option maxHeartbeats 4000000 in
set_option maxRecDepth 100000 in
theorem rp_mapping_011 {j k : Nat} (hj : j < 5) (hk : k < 64) (h : run j = true) (h2 : 0 < fm (64 * j + k)) (hB : ∀ i, fm i ≤ 24)  (ha : wr (64 * j + k) = false) (hc : cm (64 * j + k) = true) (hm : mk (64 * j + k) = true) : gM l yX3_mapping cX3_mapping 5 (some .int) 2 43 D cls (fpT cI cQ cZ) A (rfW bd cI cZ run fm cm wr mk wo fc cc) [.ref (bd 0), .int (nI j), .int (nI k)] (some (.int (nI 6))) (rfW bd cI cZ run fm cm wr mk wo fc cc) := by
  refine gM_of (by decide) (Nat.le_of_ble_eq_true rfl) ?_
  intro p e s m args below meth c ls hx hb hml hown hts hN hr hlk hl hG
  have hown : s.vm.findClass RX3 = some m.cls := hown
  have hl : lv_has ls 5 [(0, .ref (bd 0)), (1, .int (nI j)), (2, .int (nI k))] := hl
  refine lv_aload_n hx hb dX3_mapping_0 rfl (lv_at hl 0 rfl) ?_
  refine lv_iload_n hx hb dX3_mapping_1 rfl (lv_at hl 1 rfl) ?_
  refine lv_iload_n hx hb dX3_mapping_2 rfl (lv_at hl 2 rfl) ?_
  refine g_callV (As := [.int (nI j), .int (nI k)]) (rest := []) (fs := [.ref (bd 1), .ref (bd 2), .ref (bd 3), .ref (bd 4), .ref (bd 5), .ref (bd 6), .int fc, .int cc]) (rm_bar_0 hj hk h h2 hB) hx hb hml hown hts hN hG t_328 t_330 s_28 t_4 t_331 nm_X3_bar ⟨by decide, by decide⟩ rf_0 rfl hl.1 (Nat.le_of_ble_eq_true rfl) dX3_mapping_3 ⟨Nat.zero_le _, Nat.zero_le _⟩ (fun H locs hG => ?_)
  refine W.eq (g2 := F0 m 6 ls [.int 0]) rfl ?_
  refine lv_istore_n (lv' := [(3, .int 0), (0, .ref (bd 0)), (1, .int (nI j)), (2, .int (nI k))]) hx hb dX3_mapping_6 rfl hl (by decide) rfl (fun ls hl => ?_)
  refine lv_iload_n hx hb dX3_mapping_7 rfl (lv_at hl 0 rfl) ?_
  refine lv_if_ge (tgt := 13) hx hb dX3_mapping_8 rfl (fun _ => ?_) (fun hh => absurd (by decide) hh)
  refine lv_bipush (v := nI 64) hx hb dX3_mapping_13 (by decide) ?_
  refine lv_iload_n hx hb dX3_mapping_15 rfl (lv_at hl 2 rfl) ?_
  refine lv_imul hx hb dX3_mapping_16 ?_
  refine g_top (y := nI (64 * j)) (pk_mul 64 j) ?_
  refine lv_iload_n hx hb dX3_mapping_17 rfl (lv_at hl 3 rfl) ?_
  refine lv_iadd hx hb dX3_mapping_18 ?_
  refine g_top (y := nI (64 * j + k)) (nI_add _ _) ?_
  refine lv_istore (lv' := [(4, .int (nI (64 * j + k))), (3, .int 0), (0, .ref (bd 0)), (1, .int (nI j)), (2, .int (nI k))]) hx hb dX3_mapping_19 hl (by decide) rfl (fun ls hl => ?_)
  refine lv_aload_n hx hb dX3_mapping_21 rfl (lv_at hl 2 rfl) ?_
  refine g_get (k := 3) (v := .ref (bd 4)) (C := RX3) (ref := RX3) (fs := [.ref (bd 1), .ref (bd 2), .ref (bd 3), .ref (bd 4), .ref (bd 5), .ref (bd 6), .int fc, .int cc]) hx hb hown hts hG gX3 rfl rf_0 (by decide) t_241 rfl rfl dX3_mapping_22 ?_
  refine lv_iload hx hb dX3_mapping_25 (lv_at hl 0 rfl) ?_
  refine g_zald (i := (64 * j + k)) (t0 := 2) hx hb hG rf_4 rfl ((by omega)) (by decide) dX3_mapping_27 ?_
  refine g_top (y := 0) (by rw [ha]; rfl) ?_
  refine lv_if_eq (tgt := 35) hx hb dX3_mapping_28 rfl (fun _ => ?_) (fun hh => absurd (rfl) hh)
  refine lv_iconst (v := nI 0) hx hb dX3_mapping_35 (by decide) ?_
  refine lv_aload_n hx hb dX3_mapping_36 rfl (lv_at hl 2 rfl) ?_
  refine g_get (k := 2) (v := .ref (bd 3)) (C := RX3) (ref := RX3) (fs := [.ref (bd 1), .ref (bd 2), .ref (bd 3), .ref (bd 4), .ref (bd 5), .ref (bd 6), .int fc, .int cc]) hx hb hown hts hG gX3 rfl rf_0 (by decide) t_240 rfl rfl dX3_mapping_37 ?_
  refine lv_iload hx hb dX3_mapping_40 (lv_at hl 0 rfl) ?_
  refine g_zald (i := (64 * j + k)) (t0 := 2) hx hb hG rf_3 rfl ((by omega)) (by decide) dX3_mapping_42 ?_
  refine g_top (y := 1) (by rw [hc]; rfl) ?_
  refine lv_if_eq (tgt := 50) hx hb dX3_mapping_43 rfl (fun hh => absurd hh (by decide)) (fun _ => ?_)
  refine lv_iconst (v := nI 2) hx hb dX3_mapping_46 (by decide) ?_
  refine lv_goto (tgt := 51) hx hb dX3_mapping_47 rfl ?_
  refine lv_iadd hx hb dX3_mapping_51 ?_
  refine g_top (y := nI 2) (by decide) ?_
  refine lv_aload_n hx hb dX3_mapping_52 rfl (lv_at hl 2 rfl) ?_
  refine g_get (k := 4) (v := .ref (bd 5)) (C := RX3) (ref := RX3) (fs := [.ref (bd 1), .ref (bd 2), .ref (bd 3), .ref (bd 4), .ref (bd 5), .ref (bd 6), .int fc, .int cc]) hx hb hown hts hG gX3 rfl rf_0 (by decide) t_242 rfl rfl dX3_mapping_53 ?_
  refine lv_iload hx hb dX3_mapping_56 (lv_at hl 0 rfl) ?_
  refine g_zald (i := (64 * j + k)) (t0 := 2) hx hb hG rf_5 rfl ((by omega)) (by decide) dX3_mapping_58 ?_
  refine g_top (y := 1) (by rw [hm]; rfl) ?_
  refine lv_if_eq (tgt := 66) hx hb dX3_mapping_59 rfl (fun hh => absurd hh (by decide)) (fun _ => ?_)
  refine lv_iconst (v := nI 4) hx hb dX3_mapping_62 (by decide) ?_
  refine lv_goto (tgt := 67) hx hb dX3_mapping_63 rfl ?_
  refine lv_iadd hx hb dX3_mapping_67 ?_
  refine g_top (y := nI 6) (by decide) ?_
  exact g_iret hx hb hr hlk hG dX3_mapping_68
set_option maxHeartbeats 4000000 in
set_option maxRecDepth 100000 in
theorem rp_mapping_100 {j k : Nat} (hj : j < 5) (hk : k < 64) (h : run j = true) (h2 : 0 < fm (64 * j + k)) (hB : ∀ i, fm i ≤ 24)  (ha : wr (64 * j + k) = true) (hc : cm (64 * j + k) = false) (hm : mk (64 * j + k) = false) : gM l yX3_mapping cX3_mapping 5 (some .int) 2 43 D cls (fpT cI cQ cZ) A (rfW bd cI cZ run fm cm wr mk wo fc cc) [.ref (bd 0), .int (nI j), .int (nI k)] (some (.int (nI 1))) (rfW bd cI cZ run fm cm wr mk wo fc cc) := by
  refine gM_of (by decide) (Nat.le_of_ble_eq_true rfl) ?_
  intro p e s m args below meth c ls hx hb hml hown hts hN hr hlk hl hG
  have hown : s.vm.findClass RX3 = some m.cls := hown
  have hl : lv_has ls 5 [(0, .ref (bd 0)), (1, .int (nI j)), (2, .int (nI k))] := hl
  refine lv_aload_n hx hb dX3_mapping_0 rfl (lv_at hl 0 rfl) ?_
  refine lv_iload_n hx hb dX3_mapping_1 rfl (lv_at hl 1 rfl) ?_
  refine lv_iload_n hx hb dX3_mapping_2 rfl (lv_at hl 2 rfl) ?_
  refine g_callV (As := [.int (nI j), .int (nI k)]) (rest := []) (fs := [.ref (bd 1), .ref (bd 2), .ref (bd 3), .ref (bd 4), .ref (bd 5), .ref (bd 6), .int fc, .int cc]) (rm_bar_0 hj hk h h2 hB) hx hb hml hown hts hN hG t_328 t_330 s_28 t_4 t_331 nm_X3_bar ⟨by decide, by decide⟩ rf_0 rfl hl.1 (Nat.le_of_ble_eq_true rfl) dX3_mapping_3 ⟨Nat.zero_le _, Nat.zero_le _⟩ (fun H locs hG => ?_)
  refine W.eq (g2 := F0 m 6 ls [.int 0]) rfl ?_
  refine lv_istore_n (lv' := [(3, .int 0), (0, .ref (bd 0)), (1, .int (nI j)), (2, .int (nI k))]) hx hb dX3_mapping_6 rfl hl (by decide) rfl (fun ls hl => ?_)
  refine lv_iload_n hx hb dX3_mapping_7 rfl (lv_at hl 0 rfl) ?_
  refine lv_if_ge (tgt := 13) hx hb dX3_mapping_8 rfl (fun _ => ?_) (fun hh => absurd (by decide) hh)
  refine lv_bipush (v := nI 64) hx hb dX3_mapping_13 (by decide) ?_
  refine lv_iload_n hx hb dX3_mapping_15 rfl (lv_at hl 2 rfl) ?_
  refine lv_imul hx hb dX3_mapping_16 ?_
  refine g_top (y := nI (64 * j)) (pk_mul 64 j) ?_
  refine lv_iload_n hx hb dX3_mapping_17 rfl (lv_at hl 3 rfl) ?_
  refine lv_iadd hx hb dX3_mapping_18 ?_
  refine g_top (y := nI (64 * j + k)) (nI_add _ _) ?_
  refine lv_istore (lv' := [(4, .int (nI (64 * j + k))), (3, .int 0), (0, .ref (bd 0)), (1, .int (nI j)), (2, .int (nI k))]) hx hb dX3_mapping_19 hl (by decide) rfl (fun ls hl => ?_)
  refine lv_aload_n hx hb dX3_mapping_21 rfl (lv_at hl 2 rfl) ?_
  refine g_get (k := 3) (v := .ref (bd 4)) (C := RX3) (ref := RX3) (fs := [.ref (bd 1), .ref (bd 2), .ref (bd 3), .ref (bd 4), .ref (bd 5), .ref (bd 6), .int fc, .int cc]) hx hb hown hts hG gX3 rfl rf_0 (by decide) t_241 rfl rfl dX3_mapping_22 ?_
  refine lv_iload hx hb dX3_mapping_25 (lv_at hl 0 rfl) ?_
  refine g_zald (i := (64 * j + k)) (t0 := 2) hx hb hG rf_4 rfl ((by omega)) (by decide) dX3_mapping_27 ?_
  refine g_top (y := 1) (by rw [ha]; rfl) ?_
  refine lv_if_eq (tgt := 35) hx hb dX3_mapping_28 rfl (fun hh => absurd hh (by decide)) (fun _ => ?_)
  refine lv_iconst (v := nI 1) hx hb dX3_mapping_31 (by decide) ?_
  refine lv_goto (tgt := 36) hx hb dX3_mapping_32 rfl ?_
  refine lv_aload_n hx hb dX3_mapping_36 rfl (lv_at hl 2 rfl) ?_
  refine g_get (k := 2) (v := .ref (bd 3)) (C := RX3) (ref := RX3) (fs := [.ref (bd 1), .ref (bd 2), .ref (bd 3), .ref (bd 4), .ref (bd 5), .ref (bd 6), .int fc, .int cc]) hx hb hown hts hG gX3 rfl rf_0 (by decide) t_240 rfl rfl dX3_mapping_37 ?_
  refine lv_iload hx hb dX3_mapping_40 (lv_at hl 0 rfl) ?_
  refine g_zald (i := (64 * j + k)) (t0 := 2) hx hb hG rf_3 rfl ((by omega)) (by decide) dX3_mapping_42 ?_
  refine g_top (y := 0) (by rw [hc]; rfl) ?_
  refine lv_if_eq (tgt := 50) hx hb dX3_mapping_43 rfl (fun _ => ?_) (fun hh => absurd (rfl) hh)
  refine lv_iconst (v := nI 0) hx hb dX3_mapping_50 (by decide) ?_
  refine lv_iadd hx hb dX3_mapping_51 ?_
  refine g_top (y := nI 1) (by decide) ?_
  refine lv_aload_n hx hb dX3_mapping_52 rfl (lv_at hl 2 rfl) ?_
  refine g_get (k := 4) (v := .ref (bd 5)) (C := RX3) (ref := RX3) (fs := [.ref (bd 1), .ref (bd 2), .ref (bd 3), .ref (bd 4), .ref (bd 5), .ref (bd 6), .int fc, .int cc]) hx hb hown hts hG gX3 rfl rf_0 (by decide) t_242 rfl rfl dX3_mapping_53 ?_
  refine lv_iload hx hb dX3_mapping_56 (lv_at hl 0 rfl) ?_
  refine g_zald (i := (64 * j + k)) (t0 := 2) hx hb hG rf_5 rfl ((by omega)) (by decide) dX3_mapping_58 ?_
  refine g_top (y := 0) (by rw [hm]; rfl) ?_
  refine lv_if_eq (tgt := 66) hx hb dX3_mapping_59 rfl (fun _ => ?_) (fun hh => absurd (rfl) hh)
  refine lv_iconst (v := nI 0) hx hb dX3_mapping_66 (by decide) ?_
  refine lv_iadd hx hb dX3_mapping_67 ?_
  refine g_top (y := nI 1) (by decide) ?_
  exact g_iret hx hb hr hlk hG dX3_mapping_68
set_option maxHeartbeats 4000000 in
set_option maxRecDepth 100000 in
theorem rp_mapping_101 {j k : Nat} (hj : j < 5) (hk : k < 64) (h : run j = true) (h2 : 0 < fm (64 * j + k)) (hB : ∀ i, fm i ≤ 24)  (ha : wr (64 * j + k) = true) (hc : cm (64 * j + k) = false) (hm : mk (64 * j + k) = true) : gM l yX3_mapping cX3_mapping 5 (some .int) 2 43 D cls (fpT cI cQ cZ) A (rfW bd cI cZ run fm cm wr mk wo fc cc) [.ref (bd 0), .int (nI j), .int (nI k)] (some (.int (nI 5))) (rfW bd cI cZ run fm cm wr mk wo fc cc) := by
  refine gM_of (by decide) (Nat.le_of_ble_eq_true rfl) ?_
  intro p e s m args below meth c ls hx hb hml hown hts hN hr hlk hl hG
  have hown : s.vm.findClass RX3 = some m.cls := hown
  have hl : lv_has ls 5 [(0, .ref (bd 0)), (1, .int (nI j)), (2, .int (nI k))] := hl
  refine lv_aload_n hx hb dX3_mapping_0 rfl (lv_at hl 0 rfl) ?_
  refine lv_iload_n hx hb dX3_mapping_1 rfl (lv_at hl 1 rfl) ?_
  refine lv_iload_n hx hb dX3_mapping_2 rfl (lv_at hl 2 rfl) ?_
  refine g_callV (As := [.int (nI j), .int (nI k)]) (rest := []) (fs := [.ref (bd 1), .ref (bd 2), .ref (bd 3), .ref (bd 4), .ref (bd 5), .ref (bd 6), .int fc, .int cc]) (rm_bar_0 hj hk h h2 hB) hx hb hml hown hts hN hG t_328 t_330 s_28 t_4 t_331 nm_X3_bar ⟨by decide, by decide⟩ rf_0 rfl hl.1 (Nat.le_of_ble_eq_true rfl) dX3_mapping_3 ⟨Nat.zero_le _, Nat.zero_le _⟩ (fun H locs hG => ?_)
  refine W.eq (g2 := F0 m 6 ls [.int 0]) rfl ?_
  refine lv_istore_n (lv' := [(3, .int 0), (0, .ref (bd 0)), (1, .int (nI j)), (2, .int (nI k))]) hx hb dX3_mapping_6 rfl hl (by decide) rfl (fun ls hl => ?_)
  refine lv_iload_n hx hb dX3_mapping_7 rfl (lv_at hl 0 rfl) ?_
  refine lv_if_ge (tgt := 13) hx hb dX3_mapping_8 rfl (fun _ => ?_) (fun hh => absurd (by decide) hh)
  refine lv_bipush (v := nI 64) hx hb dX3_mapping_13 (by decide) ?_
  refine lv_iload_n hx hb dX3_mapping_15 rfl (lv_at hl 2 rfl) ?_
  refine lv_imul hx hb dX3_mapping_16 ?_
  refine g_top (y := nI (64 * j)) (pk_mul 64 j) ?_
  refine lv_iload_n hx hb dX3_mapping_17 rfl (lv_at hl 3 rfl) ?_
  refine lv_iadd hx hb dX3_mapping_18 ?_
  refine g_top (y := nI (64 * j + k)) (nI_add _ _) ?_
  refine lv_istore (lv' := [(4, .int (nI (64 * j + k))), (3, .int 0), (0, .ref (bd 0)), (1, .int (nI j)), (2, .int (nI k))]) hx hb dX3_mapping_19 hl (by decide) rfl (fun ls hl => ?_)
  refine lv_aload_n hx hb dX3_mapping_21 rfl (lv_at hl 2 rfl) ?_
  refine g_get (k := 3) (v := .ref (bd 4)) (C := RX3) (ref := RX3) (fs := [.ref (bd 1), .ref (bd 2), .ref (bd 3), .ref (bd 4), .ref (bd 5), .ref (bd 6), .int fc, .int cc]) hx hb hown hts hG gX3 rfl rf_0 (by decide) t_241 rfl rfl dX3_mapping_22 ?_
  refine lv_iload hx hb dX3_mapping_25 (lv_at hl 0 rfl) ?_
  refine g_zald (i := (64 * j + k)) (t0 := 2) hx hb hG rf_4 rfl ((by omega)) (by decide) dX3_mapping_27 ?_
  refine g_top (y := 1) (by rw [ha]; rfl) ?_
  refine lv_if_eq (tgt := 35) hx hb dX3_mapping_28 rfl (fun hh => absurd hh (by decide)) (fun _ => ?_)
  refine lv_iconst (v := nI 1) hx hb dX3_mapping_31 (by decide) ?_
  refine lv_goto (tgt := 36) hx hb dX3_mapping_32 rfl ?_
  refine lv_aload_n hx hb dX3_mapping_36 rfl (lv_at hl 2 rfl) ?_
  refine g_get (k := 2) (v := .ref (bd 3)) (C := RX3) (ref := RX3) (fs := [.ref (bd 1), .ref (bd 2), .ref (bd 3), .ref (bd 4), .ref (bd 5), .ref (bd 6), .int fc, .int cc]) hx hb hown hts hG gX3 rfl rf_0 (by decide) t_240 rfl rfl dX3_mapping_37 ?_
  refine lv_iload hx hb dX3_mapping_40 (lv_at hl 0 rfl) ?_
  refine g_zald (i := (64 * j + k)) (t0 := 2) hx hb hG rf_3 rfl ((by omega)) (by decide) dX3_mapping_42 ?_
  refine g_top (y := 0) (by rw [hc]; rfl) ?_
  refine lv_if_eq (tgt := 50) hx hb dX3_mapping_43 rfl (fun _ => ?_) (fun hh => absurd (rfl) hh)
  refine lv_iconst (v := nI 0) hx hb dX3_mapping_50 (by decide) ?_
  refine lv_iadd hx hb dX3_mapping_51 ?_
  refine g_top (y := nI 1) (by decide) ?_
  refine lv_aload_n hx hb dX3_mapping_52 rfl (lv_at hl 2 rfl) ?_
  refine g_get (k := 4) (v := .ref (bd 5)) (C := RX3) (ref := RX3) (fs := [.ref (bd 1), .ref (bd 2), .ref (bd 3), .ref (bd 4), .ref (bd 5), .ref (bd 6), .int fc, .int cc]) hx hb hown hts hG gX3 rfl rf_0 (by decide) t_242 rfl rfl dX3_mapping_53 ?_
  refine lv_iload hx hb dX3_mapping_56 (lv_at hl 0 rfl) ?_
  refine g_zald (i := (64 * j + k)) (t0 := 2) hx hb hG rf_5 rfl ((by omega)) (by decide) dX3_mapping_58 ?_
  refine g_top (y := 1) (by rw [hm]; rfl) ?_
  refine lv_if_eq (tgt := 66) hx hb dX3_mapping_59 rfl (fun hh => absurd hh (by decide)) (fun _ => ?_)
  refine lv_iconst (v := nI 4) hx hb dX3_mapping_62 (by decide) ?_
  refine lv_goto (tgt := 67) hx hb dX3_mapping_63 rfl ?_
  refine lv_iadd hx hb dX3_mapping_67 ?_
  refine g_top (y := nI 5) (by decide) ?_
  exact g_iret hx hb hr hlk hG dX3_mapping_68
set_option maxHeartbeats 4000000 in
set_option maxRecDepth 100000 in
theorem rp_mapping_110 {j k : Nat} (hj : j < 5) (hk : k < 64) (h : run j = true) (h2 : 0 < fm (64 * j + k)) (hB : ∀ i, fm i ≤ 24)  (ha : wr (64 * j + k) = true) (hc : cm (64 * j + k) = true) (hm : mk (64 * j + k) = false) : gM l yX3_mapping cX3_mapping 5 (some .int) 2 43 D cls (fpT cI cQ cZ) A (rfW bd cI cZ run fm cm wr mk wo fc cc) [.ref (bd 0), .int (nI j), .int (nI k)] (some (.int (nI 3))) (rfW bd cI cZ run fm cm wr mk wo fc cc) := by
  refine gM_of (by decide) (Nat.le_of_ble_eq_true rfl) ?_
  intro p e s m args below meth c ls hx hb hml hown hts hN hr hlk hl hG
  have hown : s.vm.findClass RX3 = some m.cls := hown
  have hl : lv_has ls 5 [(0, .ref (bd 0)), (1, .int (nI j)), (2, .int (nI k))] := hl
  refine lv_aload_n hx hb dX3_mapping_0 rfl (lv_at hl 0 rfl) ?_
  refine lv_iload_n hx hb dX3_mapping_1 rfl (lv_at hl 1 rfl) ?_
  refine lv_iload_n hx hb dX3_mapping_2 rfl (lv_at hl 2 rfl) ?_
  refine g_callV (As := [.int (nI j), .int (nI k)]) (rest := []) (fs := [.ref (bd 1), .ref (bd 2), .ref (bd 3), .ref (bd 4), .ref (bd 5), .ref (bd 6), .int fc, .int cc]) (rm_bar_0 hj hk h h2 hB) hx hb hml hown hts hN hG t_328 t_330 s_28 t_4 t_331 nm_X3_bar ⟨by decide, by decide⟩ rf_0 rfl hl.1 (Nat.le_of_ble_eq_true rfl) dX3_mapping_3 ⟨Nat.zero_le _, Nat.zero_le _⟩ (fun H locs hG => ?_)
  refine W.eq (g2 := F0 m 6 ls [.int 0]) rfl ?_
  refine lv_istore_n (lv' := [(3, .int 0), (0, .ref (bd 0)), (1, .int (nI j)), (2, .int (nI k))]) hx hb dX3_mapping_6 rfl hl (by decide) rfl (fun ls hl => ?_)
  refine lv_iload_n hx hb dX3_mapping_7 rfl (lv_at hl 0 rfl) ?_
  refine lv_if_ge (tgt := 13) hx hb dX3_mapping_8 rfl (fun _ => ?_) (fun hh => absurd (by decide) hh)
  refine lv_bipush (v := nI 64) hx hb dX3_mapping_13 (by decide) ?_
  refine lv_iload_n hx hb dX3_mapping_15 rfl (lv_at hl 2 rfl) ?_
  refine lv_imul hx hb dX3_mapping_16 ?_
  refine g_top (y := nI (64 * j)) (pk_mul 64 j) ?_
  refine lv_iload_n hx hb dX3_mapping_17 rfl (lv_at hl 3 rfl) ?_
  refine lv_iadd hx hb dX3_mapping_18 ?_
  refine g_top (y := nI (64 * j + k)) (nI_add _ _) ?_
  refine lv_istore (lv' := [(4, .int (nI (64 * j + k))), (3, .int 0), (0, .ref (bd 0)), (1, .int (nI j)), (2, .int (nI k))]) hx hb dX3_mapping_19 hl (by decide) rfl (fun ls hl => ?_)
  refine lv_aload_n hx hb dX3_mapping_21 rfl (lv_at hl 2 rfl) ?_
  refine g_get (k := 3) (v := .ref (bd 4)) (C := RX3) (ref := RX3) (fs := [.ref (bd 1), .ref (bd 2), .ref (bd 3), .ref (bd 4), .ref (bd 5), .ref (bd 6), .int fc, .int cc]) hx hb hown hts hG gX3 rfl rf_0 (by decide) t_241 rfl rfl dX3_mapping_22 ?_
  refine lv_iload hx hb dX3_mapping_25 (lv_at hl 0 rfl) ?_
  refine g_zald (i := (64 * j + k)) (t0 := 2) hx hb hG rf_4 rfl ((by omega)) (by decide) dX3_mapping_27 ?_
  refine g_top (y := 1) (by rw [ha]; rfl) ?_
  refine lv_if_eq (tgt := 35) hx hb dX3_mapping_28 rfl (fun hh => absurd hh (by decide)) (fun _ => ?_)
  refine lv_iconst (v := nI 1) hx hb dX3_mapping_31 (by decide) ?_
  refine lv_goto (tgt := 36) hx hb dX3_mapping_32 rfl ?_
  refine lv_aload_n hx hb dX3_mapping_36 rfl (lv_at hl 2 rfl) ?_
  refine g_get (k := 2) (v := .ref (bd 3)) (C := RX3) (ref := RX3) (fs := [.ref (bd 1), .ref (bd 2), .ref (bd 3), .ref (bd 4), .ref (bd 5), .ref (bd 6), .int fc, .int cc]) hx hb hown hts hG gX3 rfl rf_0 (by decide) t_240 rfl rfl dX3_mapping_37 ?_
  refine lv_iload hx hb dX3_mapping_40 (lv_at hl 0 rfl) ?_
  refine g_zald (i := (64 * j + k)) (t0 := 2) hx hb hG rf_3 rfl ((by omega)) (by decide) dX3_mapping_42 ?_
  refine g_top (y := 1) (by rw [hc]; rfl) ?_
  refine lv_if_eq (tgt := 50) hx hb dX3_mapping_43 rfl (fun hh => absurd hh (by decide)) (fun _ => ?_)
  refine lv_iconst (v := nI 2) hx hb dX3_mapping_46 (by decide) ?_
  refine lv_goto (tgt := 51) hx hb dX3_mapping_47 rfl ?_
  refine lv_iadd hx hb dX3_mapping_51 ?_
  refine g_top (y := nI 3) (by decide) ?_
  refine lv_aload_n hx hb dX3_mapping_52 rfl (lv_at hl 2 rfl) ?_
  refine g_get (k := 4) (v := .ref (bd 5)) (C := RX3) (ref := RX3) (fs := [.ref (bd 1), .ref (bd 2), .ref (bd 3), .ref (bd 4), .ref (bd 5), .ref (bd 6), .int fc, .int cc]) hx hb hown hts hG gX3 rfl rf_0 (by decide) t_242 rfl rfl dX3_mapping_53 ?_
  refine lv_iload hx hb dX3_mapping_56 (lv_at hl 0 rfl) ?_
  refine g_zald (i := (64 * j + k)) (t0 := 2) hx hb hG rf_5 rfl ((by omega)) (by decide) dX3_mapping_58 ?_
  refine g_top (y := 0) (by rw [hm]; rfl) ?_
  refine lv_if_eq (tgt := 66) hx hb dX3_mapping_59 rfl (fun _ => ?_) (fun hh => absurd (rfl) hh)
  refine lv_iconst (v := nI 0) hx hb dX3_mapping_66 (by decide) ?_
  refine lv_iadd hx hb dX3_mapping_67 ?_
  refine g_top (y := nI 3) (by decide) ?_
  exact g_iret hx hb hr hlk hG dX3_mapping_68
set_option maxHeartbeats 4000000 in
set_option maxRecDepth 100000 in
theorem rp_mapping_111 {j k : Nat} (hj : j < 5) (hk : k < 64) (h : run j = true) (h2 : 0 < fm (64 * j + k)) (hB : ∀ i, fm i ≤ 24)  (ha : wr (64 * j + k) = true) (hc : cm (64 * j + k) = true) (hm : mk (64 * j + k) = true) : gM l yX3_mapping cX3_mapping 5 (some .int) 2 43 D cls (fpT cI cQ cZ) A (rfW bd cI cZ run fm cm wr mk wo fc cc) [.ref (bd 0), .int (nI j), .int (nI k)] (some (.int (nI 7))) (rfW bd cI cZ run fm cm wr mk wo fc cc) := by
  refine gM_of (by decide) (Nat.le_of_ble_eq_true rfl) ?_
  intro p e s m args below meth c ls hx hb hml hown hts hN hr hlk hl hG
  have hown : s.vm.findClass RX3 = some m.cls := hown
  have hl : lv_has ls 5 [(0, .ref (bd 0)), (1, .int (nI j)), (2, .int (nI k))] := hl
  refine lv_aload_n hx hb dX3_mapping_0 rfl (lv_at hl 0 rfl) ?_
  refine lv_iload_n hx hb dX3_mapping_1 rfl (lv_at hl 1 rfl) ?_
  refine lv_iload_n hx hb dX3_mapping_2 rfl (lv_at hl 2 rfl) ?_
  refine g_callV (As := [.int (nI j), .int (nI k)]) (rest := []) (fs := [.ref (bd 1), .ref (bd 2), .ref (bd 3), .ref (bd 4), .ref (bd 5), .ref (bd 6), .int fc, .int cc]) (rm_bar_0 hj hk h h2 hB) hx hb hml hown hts hN hG t_328 t_330 s_28 t_4 t_331 nm_X3_bar ⟨by decide, by decide⟩ rf_0 rfl hl.1 (Nat.le_of_ble_eq_true rfl) dX3_mapping_3 ⟨Nat.zero_le _, Nat.zero_le _⟩ (fun H locs hG => ?_)
  refine W.eq (g2 := F0 m 6 ls [.int 0]) rfl ?_
  refine lv_istore_n (lv' := [(3, .int 0), (0, .ref (bd 0)), (1, .int (nI j)), (2, .int (nI k))]) hx hb dX3_mapping_6 rfl hl (by decide) rfl (fun ls hl => ?_)
  refine lv_iload_n hx hb dX3_mapping_7 rfl (lv_at hl 0 rfl) ?_
  refine lv_if_ge (tgt := 13) hx hb dX3_mapping_8 rfl (fun _ => ?_) (fun hh => absurd (by decide) hh)
  refine lv_bipush (v := nI 64) hx hb dX3_mapping_13 (by decide) ?_
  refine lv_iload_n hx hb dX3_mapping_15 rfl (lv_at hl 2 rfl) ?_
  refine lv_imul hx hb dX3_mapping_16 ?_
  refine g_top (y := nI (64 * j)) (pk_mul 64 j) ?_
  refine lv_iload_n hx hb dX3_mapping_17 rfl (lv_at hl 3 rfl) ?_
  refine lv_iadd hx hb dX3_mapping_18 ?_
  refine g_top (y := nI (64 * j + k)) (nI_add _ _) ?_
  refine lv_istore (lv' := [(4, .int (nI (64 * j + k))), (3, .int 0), (0, .ref (bd 0)), (1, .int (nI j)), (2, .int (nI k))]) hx hb dX3_mapping_19 hl (by decide) rfl (fun ls hl => ?_)
  refine lv_aload_n hx hb dX3_mapping_21 rfl (lv_at hl 2 rfl) ?_
  refine g_get (k := 3) (v := .ref (bd 4)) (C := RX3) (ref := RX3) (fs := [.ref (bd 1), .ref (bd 2), .ref (bd 3), .ref (bd 4), .ref (bd 5), .ref (bd 6), .int fc, .int cc]) hx hb hown hts hG gX3 rfl rf_0 (by decide) t_241 rfl rfl dX3_mapping_22 ?_
  refine lv_iload hx hb dX3_mapping_25 (lv_at hl 0 rfl) ?_
  refine g_zald (i := (64 * j + k)) (t0 := 2) hx hb hG rf_4 rfl ((by omega)) (by decide) dX3_mapping_27 ?_
  refine g_top (y := 1) (by rw [ha]; rfl) ?_
  refine lv_if_eq (tgt := 35) hx hb dX3_mapping_28 rfl (fun hh => absurd hh (by decide)) (fun _ => ?_)
  refine lv_iconst (v := nI 1) hx hb dX3_mapping_31 (by decide) ?_
  refine lv_goto (tgt := 36) hx hb dX3_mapping_32 rfl ?_
  refine lv_aload_n hx hb dX3_mapping_36 rfl (lv_at hl 2 rfl) ?_
  refine g_get (k := 2) (v := .ref (bd 3)) (C := RX3) (ref := RX3) (fs := [.ref (bd 1), .ref (bd 2), .ref (bd 3), .ref (bd 4), .ref (bd 5), .ref (bd 6), .int fc, .int cc]) hx hb hown hts hG gX3 rfl rf_0 (by decide) t_240 rfl rfl dX3_mapping_37 ?_
  refine lv_iload hx hb dX3_mapping_40 (lv_at hl 0 rfl) ?_
  refine g_zald (i := (64 * j + k)) (t0 := 2) hx hb hG rf_3 rfl ((by omega)) (by decide) dX3_mapping_42 ?_
  refine g_top (y := 1) (by rw [hc]; rfl) ?_
  refine lv_if_eq (tgt := 50) hx hb dX3_mapping_43 rfl (fun hh => absurd hh (by decide)) (fun _ => ?_)
  refine lv_iconst (v := nI 2) hx hb dX3_mapping_46 (by decide) ?_
  refine lv_goto (tgt := 51) hx hb dX3_mapping_47 rfl ?_
  refine lv_iadd hx hb dX3_mapping_51 ?_
  refine g_top (y := nI 3) (by decide) ?_
  refine lv_aload_n hx hb dX3_mapping_52 rfl (lv_at hl 2 rfl) ?_
  refine g_get (k := 4) (v := .ref (bd 5)) (C := RX3) (ref := RX3) (fs := [.ref (bd 1), .ref (bd 2), .ref (bd 3), .ref (bd 4), .ref (bd 5), .ref (bd 6), .int fc, .int cc]) hx hb hown hts hG gX3 rfl rf_0 (by decide) t_242 rfl rfl dX3_mapping_53 ?_
  refine lv_iload hx hb dX3_mapping_56 (lv_at hl 0 rfl) ?_
  refine g_zald (i := (64 * j + k)) (t0 := 2) hx hb hG rf_5 rfl ((by omega)) (by decide) dX3_mapping_58 ?_
  refine g_top (y := 1) (by rw [hm]; rfl) ?_
  refine lv_if_eq (tgt := 66) hx hb dX3_mapping_59 rfl (fun hh => absurd hh (by decide)) (fun _ => ?_)
  refine lv_iconst (v := nI 4) hx hb dX3_mapping_62 (by decide) ?_
  refine lv_goto (tgt := 67) hx hb dX3_mapping_63 rfl ?_
  refine lv_iadd hx hb dX3_mapping_67 ?_
  refine g_top (y := nI 7) (by decide) ?_
  exact g_iret hx hb hr hlk hG dX3_mapping_68
set_option maxHeartbeats 4000000 in
set_option maxRecDepth 100000 in
theorem rp_mapping_ok {j k : Nat} (hj : j < 5) (hk : k < 64) (h : run j = true) (h2 : 0 < fm (64 * j + k)) (hB : ∀ i, fm i ≤ 24)  : gM l yX3_mapping cX3_mapping 5 (some .int) 2 43 D cls (fpT cI cQ cZ) A (rfW bd cI cZ run fm cm wr mk wo fc cc) [.ref (bd 0), .int (nI j), .int (nI k)] (some (.int (nI (mpI (wr (64 * j + k)) (cm (64 * j + k)) (mk (64 * j + k)))))) (rfW bd cI cZ run fm cm wr mk wo fc cc) := by
  have key : ∀ a b c : Bool, wr (64 * j + k) = a → cm (64 * j + k) = b → mk (64 * j + k) = c → gM l yX3_mapping cX3_mapping 5 (some .int) 2 43 D cls (fpT cI cQ cZ) A (rfW bd cI cZ run fm cm wr mk wo fc cc) [.ref (bd 0), .int (nI j), .int (nI k)] (some (.int (nI (mpI a b c)))) (rfW bd cI cZ run fm cm wr mk wo fc cc) := by
    intro a b c ha hc hm
    cases a <;> cases b <;> cases c
    · exact rp_mapping_000 hj hk h h2 hB ha hc hm
    · exact rp_mapping_001 hj hk h h2 hB ha hc hm
    · exact rp_mapping_010 hj hk h h2 hB ha hc hm
    · exact rp_mapping_011 hj hk h h2 hB ha hc hm
    · exact rp_mapping_100 hj hk h h2 hB ha hc hm
    · exact rp_mapping_101 hj hk h h2 hB ha hc hm
    · exact rp_mapping_110 hj hk h h2 hB ha hc hm
    · exact rp_mapping_111 hj hk h h2 hB ha hc hm
  exact key _ _ _ rfl rfl rfl
set_option maxHeartbeats 4000000 in
set_option maxRecDepth 100000 in
theorem rp_protect_0 {j k : Nat} (hj : j < 5) (hk : k < 64) (h : run j = true) (h2 : 0 < fm (64 * j + k)) (hB : ∀ i, fm i ≤ 24)  {z : Bool} (h3 : wr (64 * j + k) = z) : gM l yX3_protect cX3_protect 6 (some .int) 2 43 D cls (fpT cI cQ cZ) A (rfW bd cI cZ run fm cm wr mk wo fc cc) [.ref (bd 0), .int (nI j), .int (nI k), .int (bI z)] (some (.int 0)) (rfW bd cI cZ run fm cm (up1 wr (64 * j + k) z) mk wo fc cc) := by
  refine gM_of (by decide) (Nat.le_of_ble_eq_true rfl) ?_
  intro p e s m args below meth c ls hx hb hml hown hts hN hr hlk hl hG
  have hown : s.vm.findClass RX3 = some m.cls := hown
  have hl : lv_has ls 6 [(0, .ref (bd 0)), (1, .int (nI j)), (2, .int (nI k)), (3, .int (bI z))] := hl
  refine lv_aload_n hx hb dX3_protect_0 rfl (lv_at hl 0 rfl) ?_
  refine lv_iload_n hx hb dX3_protect_1 rfl (lv_at hl 1 rfl) ?_
  refine lv_iload_n hx hb dX3_protect_2 rfl (lv_at hl 2 rfl) ?_
  refine g_callV (As := [.int (nI j), .int (nI k)]) (rest := []) (fs := [.ref (bd 1), .ref (bd 2), .ref (bd 3), .ref (bd 4), .ref (bd 5), .ref (bd 6), .int fc, .int cc]) (rm_bar_0 hj hk h h2 hB) hx hb hml hown hts hN hG t_328 t_330 s_28 t_4 t_331 nm_X3_bar ⟨by decide, by decide⟩ rf_0 rfl hl.1 (Nat.le_of_ble_eq_true rfl) dX3_protect_3 ⟨Nat.zero_le _, Nat.zero_le _⟩ (fun H locs hG => ?_)
  refine W.eq (g2 := F0 m 6 ls [.int 0]) rfl ?_
  refine lv_istore (lv' := [(4, .int 0), (0, .ref (bd 0)), (1, .int (nI j)), (2, .int (nI k)), (3, .int (bI z))]) hx hb dX3_protect_6 hl (by decide) rfl (fun ls hl => ?_)
  refine lv_iload hx hb dX3_protect_8 (lv_at hl 0 rfl) ?_
  refine lv_if_ge (tgt := 16) hx hb dX3_protect_10 rfl (fun _ => ?_) (fun hh => absurd (by decide) hh)
  refine lv_aload_n hx hb dX3_protect_16 rfl (lv_at hl 1 rfl) ?_
  refine g_get (k := 3) (v := .ref (bd 4)) (C := RX3) (ref := RX3) (fs := [.ref (bd 1), .ref (bd 2), .ref (bd 3), .ref (bd 4), .ref (bd 5), .ref (bd 6), .int fc, .int cc]) hx hb hown hts hG gX3 rfl rf_0 (by decide) t_241 rfl rfl dX3_protect_17 ?_
  refine lv_bipush (v := nI 64) hx hb dX3_protect_20 (by decide) ?_
  refine lv_iload_n hx hb dX3_protect_22 rfl (lv_at hl 2 rfl) ?_
  refine lv_imul hx hb dX3_protect_23 ?_
  refine g_top (y := nI (64 * j)) (pk_mul 64 j) ?_
  refine lv_iload_n hx hb dX3_protect_24 rfl (lv_at hl 3 rfl) ?_
  refine lv_iadd hx hb dX3_protect_25 ?_
  refine g_top (y := nI (64 * j + k)) (nI_add _ _) ?_
  refine g_zald (i := (64 * j + k)) (t0 := 2) hx hb hG rf_4 rfl ((by omega)) (by decide) dX3_protect_26 ?_
  refine lv_istore (lv' := [(5, .int (bI (wr (64 * j + k)))), (4, .int 0), (0, .ref (bd 0)), (1, .int (nI j)), (2, .int (nI k)), (3, .int (bI z))]) hx hb dX3_protect_27 hl (by decide) rfl (fun ls hl => ?_)
  refine lv_aload_n hx hb dX3_protect_29 rfl (lv_at hl 2 rfl) ?_
  refine g_get (k := 3) (v := .ref (bd 4)) (C := RX3) (ref := RX3) (fs := [.ref (bd 1), .ref (bd 2), .ref (bd 3), .ref (bd 4), .ref (bd 5), .ref (bd 6), .int fc, .int cc]) hx hb hown hts hG gX3 rfl rf_0 (by decide) t_241 rfl rfl dX3_protect_30 ?_
  refine lv_bipush (v := nI 64) hx hb dX3_protect_33 (by decide) ?_
  refine lv_iload_n hx hb dX3_protect_35 rfl (lv_at hl 3 rfl) ?_
  refine lv_imul hx hb dX3_protect_36 ?_
  refine g_top (y := nI (64 * j)) (pk_mul 64 j) ?_
  refine lv_iload_n hx hb dX3_protect_37 rfl (lv_at hl 4 rfl) ?_
  refine lv_iadd hx hb dX3_protect_38 ?_
  refine g_top (y := nI (64 * j + k)) (nI_add _ _) ?_
  refine lv_iload_n hx hb dX3_protect_39 rfl (lv_at hl 5 rfl) ?_
  refine g_zast (i := (64 * j + k)) (x := bI z) (t0 := 2) (ws' := rfW bd cI cZ run fm cm (up1 wr (64 * j + k) z) mk wo fc cc) hx hb hG rf_4 rfl ((by omega)) (by decide) (nar_bI z) (rf_s4 _ _) dX3_protect_40 (fun H locs hG => ?_)
  refine lv_iload hx hb dX3_protect_41 (lv_at hl 0 rfl) ?_
  refine lv_iload_n hx hb dX3_protect_43 rfl (lv_at hl 5 rfl) ?_
  refine lv_icmp_ne (tgt := 51) hx hb dX3_protect_44 rfl (fun hh => absurd (by rw [h3]) hh) (fun _ => ?_)
  refine lv_iconst (v := 0) hx hb dX3_protect_47 (by decide) ?_
  refine lv_goto (tgt := 52) hx hb dX3_protect_48 rfl ?_
  exact g_iret hx hb hr hlk hG dX3_protect_52
set_option maxHeartbeats 4000000 in
set_option maxRecDepth 100000 in
theorem rp_protect_1 {j k : Nat} (hj : j < 5) (hk : k < 64) (h : run j = true) (h2 : 0 < fm (64 * j + k)) (hB : ∀ i, fm i ≤ 24)  {z : Bool} (h3 : ¬ wr (64 * j + k) = z) : gM l yX3_protect cX3_protect 6 (some .int) 2 43 D cls (fpT cI cQ cZ) A (rfW bd cI cZ run fm cm wr mk wo fc cc) [.ref (bd 0), .int (nI j), .int (nI k), .int (bI z)] (some (.int 1)) (rfW bd cI cZ run fm cm (up1 wr (64 * j + k) z) mk wo fc cc) := by
  refine gM_of (by decide) (Nat.le_of_ble_eq_true rfl) ?_
  intro p e s m args below meth c ls hx hb hml hown hts hN hr hlk hl hG
  have hown : s.vm.findClass RX3 = some m.cls := hown
  have hl : lv_has ls 6 [(0, .ref (bd 0)), (1, .int (nI j)), (2, .int (nI k)), (3, .int (bI z))] := hl
  refine lv_aload_n hx hb dX3_protect_0 rfl (lv_at hl 0 rfl) ?_
  refine lv_iload_n hx hb dX3_protect_1 rfl (lv_at hl 1 rfl) ?_
  refine lv_iload_n hx hb dX3_protect_2 rfl (lv_at hl 2 rfl) ?_
  refine g_callV (As := [.int (nI j), .int (nI k)]) (rest := []) (fs := [.ref (bd 1), .ref (bd 2), .ref (bd 3), .ref (bd 4), .ref (bd 5), .ref (bd 6), .int fc, .int cc]) (rm_bar_0 hj hk h h2 hB) hx hb hml hown hts hN hG t_328 t_330 s_28 t_4 t_331 nm_X3_bar ⟨by decide, by decide⟩ rf_0 rfl hl.1 (Nat.le_of_ble_eq_true rfl) dX3_protect_3 ⟨Nat.zero_le _, Nat.zero_le _⟩ (fun H locs hG => ?_)
  refine W.eq (g2 := F0 m 6 ls [.int 0]) rfl ?_
  refine lv_istore (lv' := [(4, .int 0), (0, .ref (bd 0)), (1, .int (nI j)), (2, .int (nI k)), (3, .int (bI z))]) hx hb dX3_protect_6 hl (by decide) rfl (fun ls hl => ?_)
  refine lv_iload hx hb dX3_protect_8 (lv_at hl 0 rfl) ?_
  refine lv_if_ge (tgt := 16) hx hb dX3_protect_10 rfl (fun _ => ?_) (fun hh => absurd (by decide) hh)
  refine lv_aload_n hx hb dX3_protect_16 rfl (lv_at hl 1 rfl) ?_
  refine g_get (k := 3) (v := .ref (bd 4)) (C := RX3) (ref := RX3) (fs := [.ref (bd 1), .ref (bd 2), .ref (bd 3), .ref (bd 4), .ref (bd 5), .ref (bd 6), .int fc, .int cc]) hx hb hown hts hG gX3 rfl rf_0 (by decide) t_241 rfl rfl dX3_protect_17 ?_
  refine lv_bipush (v := nI 64) hx hb dX3_protect_20 (by decide) ?_
  refine lv_iload_n hx hb dX3_protect_22 rfl (lv_at hl 2 rfl) ?_
  refine lv_imul hx hb dX3_protect_23 ?_
  refine g_top (y := nI (64 * j)) (pk_mul 64 j) ?_
  refine lv_iload_n hx hb dX3_protect_24 rfl (lv_at hl 3 rfl) ?_
  refine lv_iadd hx hb dX3_protect_25 ?_
  refine g_top (y := nI (64 * j + k)) (nI_add _ _) ?_
  refine g_zald (i := (64 * j + k)) (t0 := 2) hx hb hG rf_4 rfl ((by omega)) (by decide) dX3_protect_26 ?_
  refine lv_istore (lv' := [(5, .int (bI (wr (64 * j + k)))), (4, .int 0), (0, .ref (bd 0)), (1, .int (nI j)), (2, .int (nI k)), (3, .int (bI z))]) hx hb dX3_protect_27 hl (by decide) rfl (fun ls hl => ?_)
  refine lv_aload_n hx hb dX3_protect_29 rfl (lv_at hl 2 rfl) ?_
  refine g_get (k := 3) (v := .ref (bd 4)) (C := RX3) (ref := RX3) (fs := [.ref (bd 1), .ref (bd 2), .ref (bd 3), .ref (bd 4), .ref (bd 5), .ref (bd 6), .int fc, .int cc]) hx hb hown hts hG gX3 rfl rf_0 (by decide) t_241 rfl rfl dX3_protect_30 ?_
  refine lv_bipush (v := nI 64) hx hb dX3_protect_33 (by decide) ?_
  refine lv_iload_n hx hb dX3_protect_35 rfl (lv_at hl 3 rfl) ?_
  refine lv_imul hx hb dX3_protect_36 ?_
  refine g_top (y := nI (64 * j)) (pk_mul 64 j) ?_
  refine lv_iload_n hx hb dX3_protect_37 rfl (lv_at hl 4 rfl) ?_
  refine lv_iadd hx hb dX3_protect_38 ?_
  refine g_top (y := nI (64 * j + k)) (nI_add _ _) ?_
  refine lv_iload_n hx hb dX3_protect_39 rfl (lv_at hl 5 rfl) ?_
  refine g_zast (i := (64 * j + k)) (x := bI z) (t0 := 2) (ws' := rfW bd cI cZ run fm cm (up1 wr (64 * j + k) z) mk wo fc cc) hx hb hG rf_4 rfl ((by omega)) (by decide) (nar_bI z) (rf_s4 _ _) dX3_protect_40 (fun H locs hG => ?_)
  refine lv_iload hx hb dX3_protect_41 (lv_at hl 0 rfl) ?_
  refine lv_iload_n hx hb dX3_protect_43 rfl (lv_at hl 5 rfl) ?_
  refine lv_icmp_ne (tgt := 51) hx hb dX3_protect_44 rfl (fun _ => ?_) (fun hh => absurd hh (bI_ne h3))
  refine lv_iconst (v := 1) hx hb dX3_protect_51 (by decide) ?_
  exact g_iret hx hb hr hlk hG dX3_protect_52
end CM
