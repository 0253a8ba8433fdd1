section CM
variable {l : Launch} {D : va_G} {A : Nat → Prop} {bd : Nat → Nat} {cI cQ cZ : ClassId} {run : Nat → Bool} {fm : Nat → Nat} {cm wr mk : Nat → Bool} {wo : Nat → Int32} {fc cc : Int32}
set_option maxHeartbeats 4000000 in
set_option maxRecDepth 100000 in
theorem rm_away_t {j : Nat} (hj : j < 5) (h : run j = true) : gM l yX3_away cX3_away 2 (some .boolean) 0 0 D cls (fpT cI cQ cZ) A (rfW bd cI cZ run fm cm wr mk wo fc cc) [.ref (bd 0), .int (nI j)] (some (.int 0)) (rfW bd cI cZ run fm cm wr mk wo fc cc) := by
  refine gM_of (by decide) (Nat.le_of_ble_eq_true rfl) ?_
  intro p e s m args below meth c ls hx hb hml hown hts hN hr hlk hl hG
  have hown : s.vm.findClass RX3 = some m.cls := hown
  have hl : lv_has ls 2 [(0, .ref (bd 0)), (1, .int (nI j))] := hl
  refine lv_iload_n hx hb dX3_away_0 rfl (lv_at hl 1 rfl) ?_
  refine lv_if_lt (tgt := 18) hx hb dX3_away_1 rfl (fun hh => absurd hh (nI_pos (Nat.lt_trans hj (by decide)))) (fun _ => ?_)
  refine lv_iload_n hx hb dX3_away_4 rfl (lv_at hl 1 rfl) ?_
  refine lv_iconst (v := nI 4) hx hb dX3_away_5 (by decide) ?_
  refine lv_icmp_gt (tgt := 18) hx hb dX3_away_6 rfl (fun hh => absurd hh (nI_nlt (by omega) (by decide))) (fun _ => ?_)
  refine lv_aload_n hx hb dX3_away_9 rfl (lv_at hl 0 rfl) ?_
  refine g_get (k := 0) (v := .ref (bd 1)) (C := RX3) (ref := RX3) (fs := [.ref (bd 1), .ref (bd 2), .ref (bd 3), .ref (bd 4), .ref (bd 5), .ref (bd 6), .int fc, .int cc]) hx hb hown hts hG gX3 rfl rf_0 (by decide) t_238 rfl rfl dX3_away_10 ?_
  refine lv_iload_n hx hb dX3_away_13 rfl (lv_at hl 1 rfl) ?_
  refine g_zald (i := j) (t0 := 2) hx hb hG rf_1 rfl (hj) (by decide) dX3_away_14 ?_
  refine g_top (y := 1) (by rw [h]; rfl) ?_
  refine lv_if_ne (tgt := 22) hx hb dX3_away_15 rfl (fun _ => ?_) (fun hh => absurd hh (by decide))
  refine lv_iconst (v := 0) hx hb dX3_away_22 (by decide) ?_
  exact g_zret hx hb hr (rfl) hlk hG dX3_away_23
set_option maxHeartbeats 4000000 in
set_option maxRecDepth 100000 in
theorem rm_away_f {j : Nat} (hj : j < 5) (h : run j = false) : gM l yX3_away cX3_away 2 (some .boolean) 0 0 D cls (fpT cI cQ cZ) A (rfW bd cI cZ run fm cm wr mk wo fc cc) [.ref (bd 0), .int (nI j)] (some (.int 1)) (rfW bd cI cZ run fm cm wr mk wo fc cc) := by
  refine gM_of (by decide) (Nat.le_of_ble_eq_true rfl) ?_
  intro p e s m args below meth c ls hx hb hml hown hts hN hr hlk hl hG
  have hown : s.vm.findClass RX3 = some m.cls := hown
  have hl : lv_has ls 2 [(0, .ref (bd 0)), (1, .int (nI j))] := hl
  refine lv_iload_n hx hb dX3_away_0 rfl (lv_at hl 1 rfl) ?_
  refine lv_if_lt (tgt := 18) hx hb dX3_away_1 rfl (fun hh => absurd hh (nI_pos (Nat.lt_trans hj (by decide)))) (fun _ => ?_)
  refine lv_iload_n hx hb dX3_away_4 rfl (lv_at hl 1 rfl) ?_
  refine lv_iconst (v := nI 4) hx hb dX3_away_5 (by decide) ?_
  refine lv_icmp_gt (tgt := 18) hx hb dX3_away_6 rfl (fun hh => absurd hh (nI_nlt (by omega) (by decide))) (fun _ => ?_)
  refine lv_aload_n hx hb dX3_away_9 rfl (lv_at hl 0 rfl) ?_
  refine g_get (k := 0) (v := .ref (bd 1)) (C := RX3) (ref := RX3) (fs := [.ref (bd 1), .ref (bd 2), .ref (bd 3), .ref (bd 4), .ref (bd 5), .ref (bd 6), .int fc, .int cc]) hx hb hown hts hG gX3 rfl rf_0 (by decide) t_238 rfl rfl dX3_away_10 ?_
  refine lv_iload_n hx hb dX3_away_13 rfl (lv_at hl 1 rfl) ?_
  refine g_zald (i := j) (t0 := 2) hx hb hG rf_1 rfl (hj) (by decide) dX3_away_14 ?_
  refine g_top (y := 0) (by rw [h]; rfl) ?_
  refine lv_if_ne (tgt := 22) hx hb dX3_away_15 rfl (fun hh => absurd (rfl) hh) (fun _ => ?_)
  refine lv_iconst (v := 1) hx hb dX3_away_18 (by decide) ?_
  refine lv_goto (tgt := 23) hx hb dX3_away_19 rfl ?_
  exact g_zret hx hb hr (rfl) hlk hG dX3_away_23
set_option maxHeartbeats 4000000 in
set_option maxRecDepth 100000 in
theorem rm_away_neg {x : Int32} (h : x < 0) : gM l yX3_away cX3_away 2 (some .boolean) 0 0 D cls (fpT cI cQ cZ) A (rfW bd cI cZ run fm cm wr mk wo fc cc) [.ref (bd 0), .int x] (some (.int 1)) (rfW bd cI cZ run fm cm wr mk wo fc cc) := by
  refine gM_of (by decide) (Nat.le_of_ble_eq_true rfl) ?_
  intro p e s m args below meth c ls hx hb hml hown hts hN hr hlk hl hG
  have hown : s.vm.findClass RX3 = some m.cls := hown
  have hl : lv_has ls 2 [(0, .ref (bd 0)), (1, .int x)] := hl
  refine lv_iload_n hx hb dX3_away_0 rfl (lv_at hl 1 rfl) ?_
  refine lv_if_lt (tgt := 18) hx hb dX3_away_1 rfl (fun _ => ?_) (fun hh => absurd (h) hh)
  refine lv_iconst (v := 1) hx hb dX3_away_18 (by decide) ?_
  refine lv_goto (tgt := 23) hx hb dX3_away_19 rfl ?_
  exact g_zret hx hb hr (rfl) hlk hG dX3_away_23
set_option maxHeartbeats 4000000 in
set_option maxRecDepth 100000 in
theorem rm_away_big {x : Int32} (h0 : ¬ x < 0) (h : nI 5 ≤ x) : gM l yX3_away cX3_away 2 (some .boolean) 0 0 D cls (fpT cI cQ cZ) A (rfW bd cI cZ run fm cm wr mk wo fc cc) [.ref (bd 0), .int x] (some (.int 1)) (rfW bd cI cZ run fm cm wr mk wo fc cc) := by
  refine gM_of (by decide) (Nat.le_of_ble_eq_true rfl) ?_
  intro p e s m args below meth c ls hx hb hml hown hts hN hr hlk hl hG
  have hown : s.vm.findClass RX3 = some m.cls := hown
  have hl : lv_has ls 2 [(0, .ref (bd 0)), (1, .int x)] := hl
  refine lv_iload_n hx hb dX3_away_0 rfl (lv_at hl 1 rfl) ?_
  refine lv_if_lt (tgt := 18) hx hb dX3_away_1 rfl (fun hh => absurd hh (h0)) (fun _ => ?_)
  refine lv_iload_n hx hb dX3_away_4 rfl (lv_at hl 1 rfl) ?_
  refine lv_iconst (v := nI 4) hx hb dX3_away_5 (by decide) ?_
  refine lv_icmp_gt (tgt := 18) hx hb dX3_away_6 rfl (fun _ => ?_) (fun hh => absurd (i45 h) hh)
  refine lv_iconst (v := 1) hx hb dX3_away_18 (by decide) ?_
  refine lv_goto (tgt := 23) hx hb dX3_away_19 rfl ?_
  exact g_zret hx hb hr (rfl) hlk hG dX3_away_23
set_option maxHeartbeats 4000000 in
set_option maxRecDepth 100000 in
theorem rm_away_n {x : Int32} (h : ¬ rn run x) : gM l yX3_away cX3_away 2 (some .boolean) 0 0 D cls (fpT cI cQ cZ) A (rfW bd cI cZ run fm cm wr mk wo fc cc) [.ref (bd 0), .int x] (some (.int 1)) (rfW bd cI cZ run fm cm wr mk wo fc cc) := by
  by_cases h0 : x < 0
  · exact rm_away_neg h0
  rcases pk_ix x (n := 5) (by decide) with h1 | h1 | ⟨j, hj, rfl⟩
  · exact absurd h1 h0
  · exact rm_away_big h0 h1
  cases hr : run j
  · exact rm_away_f hj hr
  · exact absurd ⟨j, hj, rfl, hr⟩ h
set_option maxHeartbeats 4000000 in
set_option maxRecDepth 100000 in
theorem rm_isPage_t {k : Nat} (hk : k < 64) {ws : va_W} : gM l yX3_isPage cX3_isPage 1 (some .boolean) 0 0 D cls (fpT cI cQ cZ) A (ws) [.int (nI k)] (some (.int 1)) (ws) := by
  refine gM_of (by decide) (Nat.le_of_ble_eq_true rfl) ?_
  intro p e s m args below meth c ls hx hb hml hown hts hN hr hlk hl hG
  have hown : s.vm.findClass RX3 = some m.cls := hown
  have hl : lv_has ls 1 [(0, .int (nI k))] := hl
  refine lv_iload_n hx hb dX3_isPage_0 rfl (lv_at hl 0 rfl) ?_
  refine lv_if_lt (tgt := 14) hx hb dX3_isPage_1 rfl (fun hh => absurd hh (nI_pos (Nat.lt_trans hk (by decide)))) (fun _ => ?_)
  refine lv_iload_n hx hb dX3_isPage_4 rfl (lv_at hl 0 rfl) ?_
  refine lv_bipush (v := nI 63) hx hb dX3_isPage_5 (by decide) ?_
  refine lv_icmp_gt (tgt := 14) hx hb dX3_isPage_7 rfl (fun hh => absurd hh (nI_nlt (by omega) (by decide))) (fun _ => ?_)
  refine lv_iconst (v := 1) hx hb dX3_isPage_10 (by decide) ?_
  refine lv_goto (tgt := 15) hx hb dX3_isPage_11 rfl ?_
  exact g_zret hx hb hr (rfl) hlk hG dX3_isPage_15
set_option maxHeartbeats 4000000 in
set_option maxRecDepth 100000 in
theorem rm_isPage_neg {x : Int32} (h : x < 0) {ws : va_W} : gM l yX3_isPage cX3_isPage 1 (some .boolean) 0 0 D cls (fpT cI cQ cZ) A (ws) [.int x] (some (.int 0)) (ws) := by
  refine gM_of (by decide) (Nat.le_of_ble_eq_true rfl) ?_
  intro p e s m args below meth c ls hx hb hml hown hts hN hr hlk hl hG
  have hown : s.vm.findClass RX3 = some m.cls := hown
  have hl : lv_has ls 1 [(0, .int x)] := hl
  refine lv_iload_n hx hb dX3_isPage_0 rfl (lv_at hl 0 rfl) ?_
  refine lv_if_lt (tgt := 14) hx hb dX3_isPage_1 rfl (fun _ => ?_) (fun hh => absurd (h) hh)
  refine lv_iconst (v := 0) hx hb dX3_isPage_14 (by decide) ?_
  exact g_zret hx hb hr (rfl) hlk hG dX3_isPage_15
set_option maxHeartbeats 4000000 in
set_option maxRecDepth 100000 in
theorem rm_isPage_big {x : Int32} (h0 : ¬ x < 0) (h : nI 64 ≤ x) {ws : va_W} : gM l yX3_isPage cX3_isPage 1 (some .boolean) 0 0 D cls (fpT cI cQ cZ) A (ws) [.int x] (some (.int 0)) (ws) := by
  refine gM_of (by decide) (Nat.le_of_ble_eq_true rfl) ?_
  intro p e s m args below meth c ls hx hb hml hown hts hN hr hlk hl hG
  have hown : s.vm.findClass RX3 = some m.cls := hown
  have hl : lv_has ls 1 [(0, .int x)] := hl
  refine lv_iload_n hx hb dX3_isPage_0 rfl (lv_at hl 0 rfl) ?_
  refine lv_if_lt (tgt := 14) hx hb dX3_isPage_1 rfl (fun hh => absurd hh (h0)) (fun _ => ?_)
  refine lv_iload_n hx hb dX3_isPage_4 rfl (lv_at hl 0 rfl) ?_
  refine lv_bipush (v := nI 63) hx hb dX3_isPage_5 (by decide) ?_
  refine lv_icmp_gt (tgt := 14) hx hb dX3_isPage_7 rfl (fun _ => ?_) (fun hh => absurd (i63 h) hh)
  refine lv_iconst (v := 0) hx hb dX3_isPage_14 (by decide) ?_
  exact g_zret hx hb hr (rfl) hlk hG dX3_isPage_15
set_option maxHeartbeats 4000000 in
set_option maxRecDepth 100000 in
theorem rm_isPage_n {x : Int32} (h : ¬ pgI x) {ws : va_W} : gM l yX3_isPage cX3_isPage 1 (some .boolean) 0 0 D cls (fpT cI cQ cZ) A (ws) [.int x] (some (.int 0)) (ws) := by
  by_cases h0 : x < 0
  · exact rm_isPage_neg h0
  rcases pk_ix x (n := 64) (by decide) with h1 | h1 | ⟨k, hk, rfl⟩
  · exact absurd h1 h0
  · exact rm_isPage_big h0 h1
  · exact absurd ⟨k, hk, rfl⟩ h
set_option maxHeartbeats 4000000 in
set_option maxRecDepth 100000 in
theorem rm_some {j a w : Nat} (hj : j < 5) (haw : a + w ≤ 64) (hB : ∀ i, fm i ≤ 24)  : gM l yX3_some cX3_some 6 (some .boolean) 0 0 D cls (fpT cI cQ cZ) A (rfW bd cI cZ run fm cm wr mk wo fc cc) [.ref (bd 0), .int (nI j), .int (nI a), .int (nI w)] (some (.int (bI (anB (pgS fm j) a w)))) (rfW bd cI cZ run fm cm wr mk wo fc cc) := by
  refine gM_of (by decide) (Nat.le_of_ble_eq_true rfl) ?_
  intro p e s m args below meth c ls hx hb hml hown hts hN hr hlk hl hG
  have hown : s.vm.findClass RX3 = some m.cls := hown
  have hl : lv_has ls 6 [(0, .ref (bd 0)), (1, .int (nI j)), (2, .int (nI a)), (3, .int (nI w))] := hl
  refine lv_iconst (v := bI false) hx hb dX3_some_0 (by decide) ?_
  refine lv_istore (lv' := [(4, .int (bI false)), (0, .ref (bd 0)), (1, .int (nI j)), (2, .int (nI a)), (3, .int (nI w))]) hx hb dX3_some_1 hl (by decide) rfl (fun ls hl => ?_)
  refine lv_iconst (v := nI 0) hx hb dX3_some_3 (by decide) ?_
  refine lv_istore (lv' := [(5, .int (nI 0)), (4, .int (bI false)), (0, .ref (bd 0)), (1, .int (nI j)), (2, .int (nI a)), (3, .int (nI w))]) hx hb dX3_some_4 hl (by decide) rfl (fun ls hl => ?_)
  have loop : ∀ (n i : Nat) (ls : Array Slot), i + n = w → lv_has ls 6 [(5, .int (nI i)), (4, .int (bI (anB (pgS fm j) a i))), (0, .ref (bd 0)), (1, .int (nI j)), (2, .int (nI a)), (3, .int (nI w))] → W p l e (gR 0 0) s m args below meth c s.heap [] 0 0 (gQ below args s D cls (fpT cI cQ cZ) A (some (.int (bI (anB (pgS fm j) a w)))) (rfW bd cI cZ run fm cm wr mk wo fc cc)) (F0 m 6 ls []) := by
    intro n
    induction n with
    | zero =>
      intro i ls hi hl
      obtain rfl : i = w := by omega
      refine lv_iload hx hb dX3_some_6 (lv_at hl 0 rfl) ?_
      refine lv_iload_n hx hb dX3_some_8 rfl (lv_at hl 5 rfl) ?_
      refine lv_icmp_ge (tgt := 47) hx hb dX3_some_9 rfl (fun _ => ?_) (fun hh => absurd (nI_le (Nat.le_refl i) (by omega)) hh)
      refine lv_iload hx hb dX3_some_47 (lv_at hl 1 rfl) ?_
      exact g_zret hx hb hr (by cases anB (pgS fm j) a i <;> rfl) hlk hG dX3_some_49
    | succ n ih =>
      intro i ls hi hl
      have hi2 : i < w := by omega
      cases hc : anB (pgS fm j) a i
      · by_cases hp : 0 < fm (64 * j + (a + i))
        · have hu : anB (pgS fm j) a (i + 1) = true := by simp [anB, hc, pgS, hp]
          refine lv_iload hx hb dX3_some_6 (lv_at hl 0 rfl) ?_
          refine lv_iload_n hx hb dX3_some_8 rfl (lv_at hl 5 rfl) ?_
          refine lv_icmp_ge (tgt := 47) hx hb dX3_some_9 rfl (fun hh => absurd hh (nI_ge hi2 (by omega))) (fun _ => ?_)
          refine lv_iload hx hb dX3_some_12 (lv_at hl 1 rfl) ?_
          refine g_top (y := 0) (by rw [hc]; rfl) ?_
          refine lv_if_ne (tgt := 34) hx hb dX3_some_14 rfl (fun hh => absurd (rfl) hh) (fun _ => ?_)
          refine lv_aload_n hx hb dX3_some_17 rfl (lv_at hl 2 rfl) ?_
          refine g_get (k := 1) (v := .ref (bd 2)) (C := RX3) (ref := RX3) (fs := [.ref (bd 1), .ref (bd 2), .ref (bd 3), .ref (bd 4), .ref (bd 5), .ref (bd 6), .int fc, .int cc]) hx hb hown hts hG gX3 rfl rf_0 (by decide) t_239 rfl rfl dX3_some_18 ?_
          refine lv_bipush (v := nI 64) hx hb dX3_some_21 (by decide) ?_
          refine lv_iload_n hx hb dX3_some_23 rfl (lv_at hl 3 rfl) ?_
          refine lv_imul hx hb dX3_some_24 ?_
          refine g_top (y := nI (64 * j)) (pk_mul 64 j) ?_
          refine lv_iload_n hx hb dX3_some_25 rfl (lv_at hl 4 rfl) ?_
          refine lv_iadd hx hb dX3_some_26 ?_
          refine g_top (y := nI (64 * j + a)) (nI_add _ _) ?_
          refine lv_iload hx hb dX3_some_27 (lv_at hl 0 rfl) ?_
          refine lv_iadd hx hb dX3_some_29 ?_
          refine g_top (y := nI (64 * j + (a + i))) (by rw [nI_add, Nat.add_assoc]) ?_
          refine g_iald (i := (64 * j + (a + i))) (t0 := 0) hx hb hG rf_2 rfl ((by omega)) (by decide) dX3_some_30 ?_
          refine lv_if_le (tgt := 38) hx hb dX3_some_31 rfl (fun hh => absurd hh (nI_gt0 hp (by have := hB (64 * j + (a + i)); omega))) (fun _ => ?_)
          refine lv_iconst (v := bI true) hx hb dX3_some_34 (by decide) ?_
          refine lv_goto (tgt := 39) hx hb dX3_some_35 rfl ?_
          refine lv_istore (lv' := [(4, .int (bI true)), (5, .int (nI i)), (0, .ref (bd 0)), (1, .int (nI j)), (2, .int (nI a)), (3, .int (nI w))]) hx hb dX3_some_39 hl (by decide) rfl (fun ls hl => ?_)
          refine lv_iinc (k := 1) (v := nI (i + 1)) (lv' := [(5, .int (nI (i + 1))), (4, .int (bI true)), (0, .ref (bd 0)), (1, .int (nI j)), (2, .int (nI a)), (3, .int (nI w))]) hx hb dX3_some_41 hl rfl (nI_1 i) (by decide) rfl (fun ls hl => ?_)
          refine lv_goto (tgt := 6) hx hb dX3_some_44 rfl ?_
          exact ih (i + 1) _ (by omega) (by rw [hu]; exact lv_sub hl [0, 1, 2, 3, 4, 5] rfl)
        · have hu : anB (pgS fm j) a (i + 1) = false := by simp [anB, hc, pgS, hp]
          refine lv_iload hx hb dX3_some_6 (lv_at hl 0 rfl) ?_
          refine lv_iload_n hx hb dX3_some_8 rfl (lv_at hl 5 rfl) ?_
          refine lv_icmp_ge (tgt := 47) hx hb dX3_some_9 rfl (fun hh => absurd hh (nI_ge hi2 (by omega))) (fun _ => ?_)
          refine lv_iload hx hb dX3_some_12 (lv_at hl 1 rfl) ?_
          refine g_top (y := 0) (by rw [hc]; rfl) ?_
          refine lv_if_ne (tgt := 34) hx hb dX3_some_14 rfl (fun hh => absurd (rfl) hh) (fun _ => ?_)
          refine lv_aload_n hx hb dX3_some_17 rfl (lv_at hl 2 rfl) ?_
          refine g_get (k := 1) (v := .ref (bd 2)) (C := RX3) (ref := RX3) (fs := [.ref (bd 1), .ref (bd 2), .ref (bd 3), .ref (bd 4), .ref (bd 5), .ref (bd 6), .int fc, .int cc]) hx hb hown hts hG gX3 rfl rf_0 (by decide) t_239 rfl rfl dX3_some_18 ?_
          refine lv_bipush (v := nI 64) hx hb dX3_some_21 (by decide) ?_
          refine lv_iload_n hx hb dX3_some_23 rfl (lv_at hl 3 rfl) ?_
          refine lv_imul hx hb dX3_some_24 ?_
          refine g_top (y := nI (64 * j)) (pk_mul 64 j) ?_
          refine lv_iload_n hx hb dX3_some_25 rfl (lv_at hl 4 rfl) ?_
          refine lv_iadd hx hb dX3_some_26 ?_
          refine g_top (y := nI (64 * j + a)) (nI_add _ _) ?_
          refine lv_iload hx hb dX3_some_27 (lv_at hl 0 rfl) ?_
          refine lv_iadd hx hb dX3_some_29 ?_
          refine g_top (y := nI (64 * j + (a + i))) (by rw [nI_add, Nat.add_assoc]) ?_
          refine g_iald (i := (64 * j + (a + i))) (t0 := 0) hx hb hG rf_2 rfl ((by omega)) (by decide) dX3_some_30 ?_
          refine lv_if_le (tgt := 38) hx hb dX3_some_31 rfl (fun _ => ?_) (fun hh => absurd (nI_le0 (by omega)) hh)
          refine lv_iconst (v := bI false) hx hb dX3_some_38 (by decide) ?_
          refine lv_istore (lv' := [(4, .int (bI false)), (5, .int (nI i)), (0, .ref (bd 0)), (1, .int (nI j)), (2, .int (nI a)), (3, .int (nI w))]) hx hb dX3_some_39 hl (by decide) rfl (fun ls hl => ?_)
          refine lv_iinc (k := 1) (v := nI (i + 1)) (lv' := [(5, .int (nI (i + 1))), (4, .int (bI false)), (0, .ref (bd 0)), (1, .int (nI j)), (2, .int (nI a)), (3, .int (nI w))]) hx hb dX3_some_41 hl rfl (nI_1 i) (by decide) rfl (fun ls hl => ?_)
          refine lv_goto (tgt := 6) hx hb dX3_some_44 rfl ?_
          exact ih (i + 1) _ (by omega) (by rw [hu]; exact lv_sub hl [0, 1, 2, 3, 4, 5] rfl)
      · have hu : anB (pgS fm j) a (i + 1) = true := by simp [anB, hc]
        refine lv_iload hx hb dX3_some_6 (lv_at hl 0 rfl) ?_
        refine lv_iload_n hx hb dX3_some_8 rfl (lv_at hl 5 rfl) ?_
        refine lv_icmp_ge (tgt := 47) hx hb dX3_some_9 rfl (fun hh => absurd hh (nI_ge hi2 (by omega))) (fun _ => ?_)
        refine lv_iload hx hb dX3_some_12 (lv_at hl 1 rfl) ?_
        refine g_top (y := 1) (by rw [hc]; rfl) ?_
        refine lv_if_ne (tgt := 34) hx hb dX3_some_14 rfl (fun _ => ?_) (fun hh => absurd hh (by decide))
        refine lv_iconst (v := bI true) hx hb dX3_some_34 (by decide) ?_
        refine lv_goto (tgt := 39) hx hb dX3_some_35 rfl ?_
        refine lv_istore (lv' := [(4, .int (bI true)), (5, .int (nI i)), (0, .ref (bd 0)), (1, .int (nI j)), (2, .int (nI a)), (3, .int (nI w))]) hx hb dX3_some_39 hl (by decide) rfl (fun ls hl => ?_)
        refine lv_iinc (k := 1) (v := nI (i + 1)) (lv' := [(5, .int (nI (i + 1))), (4, .int (bI true)), (0, .ref (bd 0)), (1, .int (nI j)), (2, .int (nI a)), (3, .int (nI w))]) hx hb dX3_some_41 hl rfl (nI_1 i) (by decide) rfl (fun ls hl => ?_)
        refine lv_goto (tgt := 6) hx hb dX3_some_44 rfl ?_
        exact ih (i + 1) _ (by omega) (by rw [hu]; exact lv_sub hl [0, 1, 2, 3, 4, 5] rfl)
  exact loop w 0 _ (by omega) (lv_sub hl [0, 1, 2, 3, 4, 5] rfl)
set_option maxHeartbeats 4000000 in
set_option maxRecDepth 100000 in
theorem rm_tablesOf {j : Nat} (hj : j < 5) (hB : ∀ i, fm i ≤ 24)  : gM l yX3_tablesOf cX3_tablesOf 4 (some .int) 1 25 D cls (fpT cI cQ cZ) A (rfW bd cI cZ run fm cm wr mk wo fc cc) [.ref (bd 0), .int (nI j)] (some (.int (nI (tbN (pgS fm j))))) (rfW bd cI cZ run fm cm wr mk wo fc cc) := by
  refine gM_of (by decide) (Nat.le_of_ble_eq_true rfl) ?_
  intro p e s m args below meth c ls hx hb hml hown hts hN hr hlk hl hG
  have hown : s.vm.findClass RX3 = some m.cls := hown
  have hl : lv_has ls 4 [(0, .ref (bd 0)), (1, .int (nI j))] := hl
  refine lv_iconst (v := nI 1) hx hb dX3_tablesOf_0 (by decide) ?_
  refine lv_istore_n (lv' := [(2, .int (nI 1)), (0, .ref (bd 0)), (1, .int (nI j))]) hx hb dX3_tablesOf_1 rfl hl (by decide) rfl (fun ls hl => ?_)
  refine lv_iconst (v := nI 0) hx hb dX3_tablesOf_2 (by decide) ?_
  refine lv_istore_n (lv' := [(3, .int (nI 0)), (2, .int (nI 1)), (0, .ref (bd 0)), (1, .int (nI j))]) hx hb dX3_tablesOf_3 rfl hl (by decide) rfl (fun ls hl => ?_)
  have loop2 : ∀ (n i : Nat) (H : Heap) (locs : List Loc) (ls : Array Slot), i + n = 4 → gG D cls (fpT cI cQ cZ) A s (rfW bd cI cZ run fm cm wr mk wo fc cc) H locs → lv_has ls 4 [(3, .int (nI (i * 16))), (2, .int (nI ((1 + spU (pgS fm j) 4 16) + spU (pgS fm j) 16 i))), (0, .ref (bd 0)), (1, .int (nI j))] → W p l e (gR 1 25) s m args below meth c H locs 0 0 (gQ below args s D cls (fpT cI cQ cZ) A (some (.int (nI (tbN (pgS fm j))))) (rfW bd cI cZ run fm cm wr mk wo fc cc)) (F0 m 36 ls []) := by
    intro n
    induction n with
    | zero =>
      intro i H locs ls hi hG hl
      obtain rfl : i = 4 := by omega
      refine lv_iload_n hx hb dX3_tablesOf_36 rfl (lv_at hl 0 rfl) ?_
      refine lv_bipush (v := nI 64) hx hb dX3_tablesOf_37 (by decide) ?_
      refine lv_icmp_ge (tgt := 67) hx hb dX3_tablesOf_39 rfl (fun _ => ?_) (fun hh => absurd (nI_le (by decide) (by decide)) hh)
      refine lv_iload_n hx hb dX3_tablesOf_67 rfl (lv_at hl 1 rfl) ?_
      refine g_top (y := nI (tbN (pgS fm j))) (by unfold tbN; congr 1; omega) ?_
      exact g_iret hx hb hr hlk hG dX3_tablesOf_68
    | succ n ih =>
      intro i H locs ls hi hG hl
      have hi2 : i < 4 := by omega
      cases hc : anB (pgS fm j) (i * 16) 16
      · have hu : spU (pgS fm j) 16 (i + 1) = spU (pgS fm j) 16 i := by simp [spU, hc]
        refine lv_iload_n hx hb dX3_tablesOf_36 rfl (lv_at hl 0 rfl) ?_
        refine lv_bipush (v := nI 64) hx hb dX3_tablesOf_37 (by decide) ?_
        refine lv_icmp_ge (tgt := 67) hx hb dX3_tablesOf_39 rfl (fun hh => absurd hh (nI_ge (by omega) (by decide))) (fun _ => ?_)
        refine lv_aload_n hx hb dX3_tablesOf_42 rfl (lv_at hl 2 rfl) ?_
        refine lv_iload_n hx hb dX3_tablesOf_43 rfl (lv_at hl 3 rfl) ?_
        refine lv_iload_n hx hb dX3_tablesOf_44 rfl (lv_at hl 0 rfl) ?_
        refine lv_bipush (v := nI 16) hx hb dX3_tablesOf_45 (by decide) ?_
        refine g_callV (As := [.int (nI j), .int (nI (i * 16)), .int (nI 16)]) (rest := []) (fs := [.ref (bd 1), .ref (bd 2), .ref (bd 3), .ref (bd 4), .ref (bd 5), .ref (bd 6), .int fc, .int cc]) (rm_some (a := i * 16) (w := 16) hj (by omega) hB) hx hb hml hown hts hN hG t_276 t_278 s_22 t_4 t_279 nm_X3_some ⟨by decide, by decide⟩ rf_0 rfl hl.1 (Nat.le_of_ble_eq_true rfl) dX3_tablesOf_47 ⟨Nat.zero_le _, Nat.zero_le _⟩ (fun H locs hG => ?_)
        refine W.eq (g2 := F0 m 50 ls [.int (bI (anB (pgS fm j) (i * 16) 16))]) rfl ?_
        refine g_top (y := 0) (by rw [hc]; rfl) ?_
        refine lv_if_eq (tgt := 59) hx hb dX3_tablesOf_50 rfl (fun _ => ?_) (fun hh => absurd (rfl) hh)
        refine lv_iload_n hx hb dX3_tablesOf_59 rfl (lv_at hl 1 rfl) ?_
        refine lv_istore_n (lv' := [(2, .int (nI ((1 + spU (pgS fm j) 4 16) + spU (pgS fm j) 16 i))), (3, .int (nI (i * 16))), (0, .ref (bd 0)), (1, .int (nI j))]) hx hb dX3_tablesOf_60 rfl hl (by decide) rfl (fun ls hl => ?_)
        refine lv_iinc (k := 1) (v := nI ((i + 1) * 16)) (lv' := [(3, .int (nI ((i + 1) * 16))), (2, .int (nI ((1 + spU (pgS fm j) 4 16) + spU (pgS fm j) 16 i))), (0, .ref (bd 0)), (1, .int (nI j))]) hx hb dX3_tablesOf_61 hl rfl (by rw [show Int32.ofInt 16 = nI 16 from by decide, nI_add, ← Nat.succ_mul]) (by decide) rfl (fun ls hl => ?_)
        refine lv_goto (tgt := 36) hx hb dX3_tablesOf_64 rfl ?_
        exact ih (i + 1) _ _ _ (by omega) hG (by rw [hu]; exact lv_sub hl [0, 1, 2, 3] rfl)
      · have hu : (1 + spU (pgS fm j) 4 16) + spU (pgS fm j) 16 (i + 1) = (1 + spU (pgS fm j) 4 16) + spU (pgS fm j) 16 i + 1 := by simp [spU, hc]; omega
        refine lv_iload_n hx hb dX3_tablesOf_36 rfl (lv_at hl 0 rfl) ?_
        refine lv_bipush (v := nI 64) hx hb dX3_tablesOf_37 (by decide) ?_
        refine lv_icmp_ge (tgt := 67) hx hb dX3_tablesOf_39 rfl (fun hh => absurd hh (nI_ge (by omega) (by decide))) (fun _ => ?_)
        refine lv_aload_n hx hb dX3_tablesOf_42 rfl (lv_at hl 2 rfl) ?_
        refine lv_iload_n hx hb dX3_tablesOf_43 rfl (lv_at hl 3 rfl) ?_
        refine lv_iload_n hx hb dX3_tablesOf_44 rfl (lv_at hl 0 rfl) ?_
        refine lv_bipush (v := nI 16) hx hb dX3_tablesOf_45 (by decide) ?_
        refine g_callV (As := [.int (nI j), .int (nI (i * 16)), .int (nI 16)]) (rest := []) (fs := [.ref (bd 1), .ref (bd 2), .ref (bd 3), .ref (bd 4), .ref (bd 5), .ref (bd 6), .int fc, .int cc]) (rm_some (a := i * 16) (w := 16) hj (by omega) hB) hx hb hml hown hts hN hG t_276 t_278 s_22 t_4 t_279 nm_X3_some ⟨by decide, by decide⟩ rf_0 rfl hl.1 (Nat.le_of_ble_eq_true rfl) dX3_tablesOf_47 ⟨Nat.zero_le _, Nat.zero_le _⟩ (fun H locs hG => ?_)
        refine W.eq (g2 := F0 m 50 ls [.int (bI (anB (pgS fm j) (i * 16) 16))]) rfl ?_
        refine g_top (y := 1) (by rw [hc]; rfl) ?_
        refine lv_if_eq (tgt := 59) hx hb dX3_tablesOf_50 rfl (fun hh => absurd hh (by decide)) (fun _ => ?_)
        refine lv_iload_n hx hb dX3_tablesOf_53 rfl (lv_at hl 1 rfl) ?_
        refine lv_iconst (v := nI 1) hx hb dX3_tablesOf_54 (by decide) ?_
        refine lv_iadd hx hb dX3_tablesOf_55 ?_
        refine g_top (y := nI ((1 + spU (pgS fm j) 4 16) + spU (pgS fm j) 16 (i + 1))) (by rw [hu]; exact nI_add _ 1) ?_
        refine lv_goto (tgt := 60) hx hb dX3_tablesOf_56 rfl ?_
        refine lv_istore_n (lv' := [(2, .int (nI ((1 + spU (pgS fm j) 4 16) + spU (pgS fm j) 16 (i + 1)))), (3, .int (nI (i * 16))), (0, .ref (bd 0)), (1, .int (nI j))]) hx hb dX3_tablesOf_60 rfl hl (by decide) rfl (fun ls hl => ?_)
        refine lv_iinc (k := 1) (v := nI ((i + 1) * 16)) (lv' := [(3, .int (nI ((i + 1) * 16))), (2, .int (nI ((1 + spU (pgS fm j) 4 16) + spU (pgS fm j) 16 (i + 1)))), (0, .ref (bd 0)), (1, .int (nI j))]) hx hb dX3_tablesOf_61 hl rfl (by rw [show Int32.ofInt 16 = nI 16 from by decide, nI_add, ← Nat.succ_mul]) (by decide) rfl (fun ls hl => ?_)
        refine lv_goto (tgt := 36) hx hb dX3_tablesOf_64 rfl ?_
        exact ih (i + 1) _ _ _ (by omega) hG (lv_sub hl [0, 1, 2, 3] rfl)
  have loop : ∀ (n i : Nat) (H : Heap) (locs : List Loc) (ls : Array Slot), i + n = 16 → gG D cls (fpT cI cQ cZ) A s (rfW bd cI cZ run fm cm wr mk wo fc cc) H locs → lv_has ls 4 [(3, .int (nI (i * 4))), (2, .int (nI (1 + spU (pgS fm j) 4 i))), (0, .ref (bd 0)), (1, .int (nI j))] → W p l e (gR 1 25) s m args below meth c H locs 0 0 (gQ below args s D cls (fpT cI cQ cZ) A (some (.int (nI (tbN (pgS fm j))))) (rfW bd cI cZ run fm cm wr mk wo fc cc)) (F0 m 4 ls []) := by
    intro n
    induction n with
    | zero =>
      intro i H locs ls hi hG hl
      obtain rfl : i = 16 := by omega
      refine lv_iload_n hx hb dX3_tablesOf_4 rfl (lv_at hl 0 rfl) ?_
      refine lv_bipush (v := nI 64) hx hb dX3_tablesOf_5 (by decide) ?_
      refine lv_icmp_ge (tgt := 34) hx hb dX3_tablesOf_7 rfl (fun _ => ?_) (fun hh => absurd (nI_le (by decide) (by decide)) hh)
      refine lv_iconst (v := nI 0) hx hb dX3_tablesOf_34 (by decide) ?_
      refine lv_istore_n (lv' := [(3, .int (nI 0)), (2, .int (nI (1 + spU (pgS fm j) 4 16))), (0, .ref (bd 0)), (1, .int (nI j))]) hx hb dX3_tablesOf_35 rfl hl (by decide) rfl (fun ls hl => ?_)
      exact loop2 4 0 _ _ _ (by omega) hG (lv_sub hl [0, 1, 2, 3] rfl)
    | succ n ih =>
      intro i H locs ls hi hG hl
      have hi2 : i < 16 := by omega
      cases hc : anB (pgS fm j) (i * 4) 4
      · have hu : spU (pgS fm j) 4 (i + 1) = spU (pgS fm j) 4 i := by simp [spU, hc]
        refine lv_iload_n hx hb dX3_tablesOf_4 rfl (lv_at hl 0 rfl) ?_
        refine lv_bipush (v := nI 64) hx hb dX3_tablesOf_5 (by decide) ?_
        refine lv_icmp_ge (tgt := 34) hx hb dX3_tablesOf_7 rfl (fun hh => absurd hh (nI_ge (by omega) (by decide))) (fun _ => ?_)
        refine lv_aload_n hx hb dX3_tablesOf_10 rfl (lv_at hl 2 rfl) ?_
        refine lv_iload_n hx hb dX3_tablesOf_11 rfl (lv_at hl 3 rfl) ?_
        refine lv_iload_n hx hb dX3_tablesOf_12 rfl (lv_at hl 0 rfl) ?_
        refine lv_iconst (v := nI 4) hx hb dX3_tablesOf_13 (by decide) ?_
        refine g_callV (As := [.int (nI j), .int (nI (i * 4)), .int (nI 4)]) (rest := []) (fs := [.ref (bd 1), .ref (bd 2), .ref (bd 3), .ref (bd 4), .ref (bd 5), .ref (bd 6), .int fc, .int cc]) (rm_some (a := i * 4) (w := 4) hj (by omega) hB) hx hb hml hown hts hN hG t_276 t_278 s_22 t_4 t_279 nm_X3_some ⟨by decide, by decide⟩ rf_0 rfl hl.1 (Nat.le_of_ble_eq_true rfl) dX3_tablesOf_14 ⟨Nat.zero_le _, Nat.zero_le _⟩ (fun H locs hG => ?_)
        refine W.eq (g2 := F0 m 17 ls [.int (bI (anB (pgS fm j) (i * 4) 4))]) rfl ?_
        refine g_top (y := 0) (by rw [hc]; rfl) ?_
        refine lv_if_eq (tgt := 26) hx hb dX3_tablesOf_17 rfl (fun _ => ?_) (fun hh => absurd (rfl) hh)
        refine lv_iload_n hx hb dX3_tablesOf_26 rfl (lv_at hl 1 rfl) ?_
        refine lv_istore_n (lv' := [(2, .int (nI (1 + spU (pgS fm j) 4 i))), (3, .int (nI (i * 4))), (0, .ref (bd 0)), (1, .int (nI j))]) hx hb dX3_tablesOf_27 rfl hl (by decide) rfl (fun ls hl => ?_)
        refine lv_iinc (k := 1) (v := nI ((i + 1) * 4)) (lv' := [(3, .int (nI ((i + 1) * 4))), (2, .int (nI (1 + spU (pgS fm j) 4 i))), (0, .ref (bd 0)), (1, .int (nI j))]) hx hb dX3_tablesOf_28 hl rfl (by rw [show Int32.ofInt 4 = nI 4 from by decide, nI_add, ← Nat.succ_mul]) (by decide) rfl (fun ls hl => ?_)
        refine lv_goto (tgt := 4) hx hb dX3_tablesOf_31 rfl ?_
        exact ih (i + 1) _ _ _ (by omega) hG (by rw [hu]; exact lv_sub hl [0, 1, 2, 3] rfl)
      · have hu : 1 + spU (pgS fm j) 4 (i + 1) = 1 + spU (pgS fm j) 4 i + 1 := by simp [spU, hc]; omega
        refine lv_iload_n hx hb dX3_tablesOf_4 rfl (lv_at hl 0 rfl) ?_
        refine lv_bipush (v := nI 64) hx hb dX3_tablesOf_5 (by decide) ?_
        refine lv_icmp_ge (tgt := 34) hx hb dX3_tablesOf_7 rfl (fun hh => absurd hh (nI_ge (by omega) (by decide))) (fun _ => ?_)
        refine lv_aload_n hx hb dX3_tablesOf_10 rfl (lv_at hl 2 rfl) ?_
        refine lv_iload_n hx hb dX3_tablesOf_11 rfl (lv_at hl 3 rfl) ?_
        refine lv_iload_n hx hb dX3_tablesOf_12 rfl (lv_at hl 0 rfl) ?_
        refine lv_iconst (v := nI 4) hx hb dX3_tablesOf_13 (by decide) ?_
        refine g_callV (As := [.int (nI j), .int (nI (i * 4)), .int (nI 4)]) (rest := []) (fs := [.ref (bd 1), .ref (bd 2), .ref (bd 3), .ref (bd 4), .ref (bd 5), .ref (bd 6), .int fc, .int cc]) (rm_some (a := i * 4) (w := 4) hj (by omega) hB) hx hb hml hown hts hN hG t_276 t_278 s_22 t_4 t_279 nm_X3_some ⟨by decide, by decide⟩ rf_0 rfl hl.1 (Nat.le_of_ble_eq_true rfl) dX3_tablesOf_14 ⟨Nat.zero_le _, Nat.zero_le _⟩ (fun H locs hG => ?_)
        refine W.eq (g2 := F0 m 17 ls [.int (bI (anB (pgS fm j) (i * 4) 4))]) rfl ?_
        refine g_top (y := 1) (by rw [hc]; rfl) ?_
        refine lv_if_eq (tgt := 26) hx hb dX3_tablesOf_17 rfl (fun hh => absurd hh (by decide)) (fun _ => ?_)
        refine lv_iload_n hx hb dX3_tablesOf_20 rfl (lv_at hl 1 rfl) ?_
        refine lv_iconst (v := nI 1) hx hb dX3_tablesOf_21 (by decide) ?_
        refine lv_iadd hx hb dX3_tablesOf_22 ?_
        refine g_top (y := nI (1 + spU (pgS fm j) 4 (i + 1))) (by rw [hu]; exact nI_add _ 1) ?_
        refine lv_goto (tgt := 27) hx hb dX3_tablesOf_23 rfl ?_
        refine lv_istore_n (lv' := [(2, .int (nI (1 + spU (pgS fm j) 4 (i + 1)))), (3, .int (nI (i * 4))), (0, .ref (bd 0)), (1, .int (nI j))]) hx hb dX3_tablesOf_27 rfl hl (by decide) rfl (fun ls hl => ?_)
        refine lv_iinc (k := 1) (v := nI ((i + 1) * 4)) (lv' := [(3, .int (nI ((i + 1) * 4))), (2, .int (nI (1 + spU (pgS fm j) 4 (i + 1)))), (0, .ref (bd 0)), (1, .int (nI j))]) hx hb dX3_tablesOf_28 hl rfl (by rw [show Int32.ofInt 4 = nI 4 from by decide, nI_add, ← Nat.succ_mul]) (by decide) rfl (fun ls hl => ?_)
        refine lv_goto (tgt := 4) hx hb dX3_tablesOf_31 rfl ?_
        exact ih (i + 1) _ _ _ (by omega) hG (lv_sub hl [0, 1, 2, 3] rfl)
  exact loop 16 0 _ _ _ (by omega) hG (lv_sub hl [0, 1, 2, 3] rfl)
set_option maxHeartbeats 4000000 in
set_option maxRecDepth 100000 in
theorem rm_leads {f : Nat} (hf : f < 24) (hB : ∀ i, fm i ≤ 24)  : gM l yX3_leads cX3_leads 4 (some .int) 0 0 D cls (fpT cI cQ cZ) A (rfW bd cI cZ run fm cm wr mk wo fc cc) [.ref (bd 0), .int (nI f)] (some (.int (nI (ldN fm f)))) (rfW bd cI cZ run fm cm wr mk wo fc cc) := by
  refine gM_of (by decide) (Nat.le_of_ble_eq_true rfl) ?_
  intro p e s m args below meth c ls hx hb hml hown hts hN hr hlk hl hG
  have hown : s.vm.findClass RX3 = some m.cls := hown
  have hl : lv_has ls 4 [(0, .ref (bd 0)), (1, .int (nI f))] := hl
  refine lv_iconst (v := nI 0) hx hb dX3_leads_0 (by decide) ?_
  refine lv_istore_n (lv' := [(2, .int (nI 0)), (0, .ref (bd 0)), (1, .int (nI f))]) hx hb dX3_leads_1 rfl hl (by decide) rfl (fun ls hl => ?_)
  refine lv_iconst (v := nI 0) hx hb dX3_leads_2 (by decide) ?_
  refine lv_istore_n (lv' := [(3, .int (nI 0)), (2, .int (nI 0)), (0, .ref (bd 0)), (1, .int (nI f))]) hx hb dX3_leads_3 rfl hl (by decide) rfl (fun ls hl => ?_)
  have loop : ∀ (n i : Nat) (ls : Array Slot), i + n = 320 → lv_has ls 4 [(3, .int (nI i)), (2, .int (nI (pcN (fun k => fm k == f + 1) i))), (0, .ref (bd 0)), (1, .int (nI f))] → W p l e (gR 0 0) s m args below meth c s.heap [] 0 0 (gQ below args s D cls (fpT cI cQ cZ) A (some (.int (nI (ldN fm f)))) (rfW bd cI cZ run fm cm wr mk wo fc cc)) (F0 m 4 ls []) := by
    intro n
    induction n with
    | zero =>
      intro i ls hi hl
      obtain rfl : i = 320 := by omega
      refine lv_iload_n hx hb dX3_leads_4 rfl (lv_at hl 0 rfl) ?_
      refine lv_sipush (v := nI 320) hx hb dX3_leads_5 (by decide) ?_
      refine lv_icmp_ge (tgt := 37) hx hb dX3_leads_8 rfl (fun _ => ?_) (fun hh => absurd (nI_le (Nat.le_refl 320) (by decide)) hh)
      refine lv_iload_n hx hb dX3_leads_37 rfl (lv_at hl 1 rfl) ?_
      exact g_iret hx hb hr hlk hG dX3_leads_38
    | succ n ih =>
      intro i ls hi hl
      have hi2 : i < 320 := by omega
      have hbi := hB i
      by_cases hc : fm i = f + 1
      · have hu : pcN (fun k => fm k == f + 1) (i + 1) = pcN (fun k => fm k == f + 1) i + 1 := by simp [pcN, hc]
        refine lv_iload_n hx hb dX3_leads_4 rfl (lv_at hl 0 rfl) ?_
        refine lv_sipush (v := nI 320) hx hb dX3_leads_5 (by decide) ?_
        refine lv_icmp_ge (tgt := 37) hx hb dX3_leads_8 rfl (fun hh => absurd hh (nI_ge hi2 (by decide))) (fun _ => ?_)
        refine lv_aload_n hx hb dX3_leads_11 rfl (lv_at hl 2 rfl) ?_
        refine g_get (k := 1) (v := .ref (bd 2)) (C := RX3) (ref := RX3) (fs := [.ref (bd 1), .ref (bd 2), .ref (bd 3), .ref (bd 4), .ref (bd 5), .ref (bd 6), .int fc, .int cc]) hx hb hown hts hG gX3 rfl rf_0 (by decide) t_239 rfl rfl dX3_leads_12 ?_
        refine lv_iload_n hx hb dX3_leads_15 rfl (lv_at hl 0 rfl) ?_
        refine g_iald (i := i) (t0 := 0) hx hb hG rf_2 rfl (hi2) (by decide) dX3_leads_16 ?_
        refine lv_iload_n hx hb dX3_leads_17 rfl (lv_at hl 3 rfl) ?_
        refine lv_iconst (v := nI 1) hx hb dX3_leads_18 (by decide) ?_
        refine lv_iadd hx hb dX3_leads_19 ?_
        refine g_top (y := nI (f + 1)) (nI_add f 1) ?_
        refine lv_icmp_ne (tgt := 29) hx hb dX3_leads_20 rfl (fun hh => absurd (by rw [hc]) hh) (fun _ => ?_)
        refine lv_iload_n hx hb dX3_leads_23 rfl (lv_at hl 1 rfl) ?_
        refine lv_iconst (v := nI 1) hx hb dX3_leads_24 (by decide) ?_
        refine lv_iadd hx hb dX3_leads_25 ?_
        refine g_top (y := nI (pcN (fun k => fm k == f + 1) (i + 1))) (by rw [hu]; exact nI_add _ 1) ?_
        refine lv_goto (tgt := 30) hx hb dX3_leads_26 rfl ?_
        refine lv_istore_n (lv' := [(2, .int (nI (pcN (fun k => fm k == f + 1) (i + 1)))), (3, .int (nI i)), (0, .ref (bd 0)), (1, .int (nI f))]) hx hb dX3_leads_30 rfl hl (by decide) rfl (fun ls hl => ?_)
        refine lv_iinc (k := 1) (v := nI (i + 1)) (lv' := [(3, .int (nI (i + 1))), (2, .int (nI (pcN (fun k => fm k == f + 1) (i + 1)))), (0, .ref (bd 0)), (1, .int (nI f))]) hx hb dX3_leads_31 hl rfl (nI_1 i) (by decide) rfl (fun ls hl => ?_)
        refine lv_goto (tgt := 4) hx hb dX3_leads_34 rfl ?_
        exact ih (i + 1) _ (by omega) (lv_sub hl [0, 1, 2, 3] rfl)
      · have hu : pcN (fun k => fm k == f + 1) (i + 1) = pcN (fun k => fm k == f + 1) i := by simp [pcN, hc]
        refine lv_iload_n hx hb dX3_leads_4 rfl (lv_at hl 0 rfl) ?_
        refine lv_sipush (v := nI 320) hx hb dX3_leads_5 (by decide) ?_
        refine lv_icmp_ge (tgt := 37) hx hb dX3_leads_8 rfl (fun hh => absurd hh (nI_ge hi2 (by decide))) (fun _ => ?_)
        refine lv_aload_n hx hb dX3_leads_11 rfl (lv_at hl 2 rfl) ?_
        refine g_get (k := 1) (v := .ref (bd 2)) (C := RX3) (ref := RX3) (fs := [.ref (bd 1), .ref (bd 2), .ref (bd 3), .ref (bd 4), .ref (bd 5), .ref (bd 6), .int fc, .int cc]) hx hb hown hts hG gX3 rfl rf_0 (by decide) t_239 rfl rfl dX3_leads_12 ?_
        refine lv_iload_n hx hb dX3_leads_15 rfl (lv_at hl 0 rfl) ?_
        refine g_iald (i := i) (t0 := 0) hx hb hG rf_2 rfl (hi2) (by decide) dX3_leads_16 ?_
        refine lv_iload_n hx hb dX3_leads_17 rfl (lv_at hl 3 rfl) ?_
        refine lv_iconst (v := nI 1) hx hb dX3_leads_18 (by decide) ?_
        refine lv_iadd hx hb dX3_leads_19 ?_
        refine g_top (y := nI (f + 1)) (nI_add f 1) ?_
        refine lv_icmp_ne (tgt := 29) hx hb dX3_leads_20 rfl (fun _ => ?_) (fun hh => absurd hh (fun q => hc ((nI_eq (by omega) (by omega)).mp q)))
        refine lv_iload_n hx hb dX3_leads_29 rfl (lv_at hl 1 rfl) ?_
        refine lv_istore_n (lv' := [(2, .int (nI (pcN (fun k => fm k == f + 1) i))), (3, .int (nI i)), (0, .ref (bd 0)), (1, .int (nI f))]) hx hb dX3_leads_30 rfl hl (by decide) rfl (fun ls hl => ?_)
        refine lv_iinc (k := 1) (v := nI (i + 1)) (lv' := [(3, .int (nI (i + 1))), (2, .int (nI (pcN (fun k => fm k == f + 1) i))), (0, .ref (bd 0)), (1, .int (nI f))]) hx hb dX3_leads_31 hl rfl (nI_1 i) (by decide) rfl (fun ls hl => ?_)
        refine lv_goto (tgt := 4) hx hb dX3_leads_34 rfl ?_
        exact ih (i + 1) _ (by omega) (by rw [hu]; exact lv_sub hl [0, 1, 2, 3] rfl)
  exact loop 320 0 _ (by omega) (lv_sub hl [0, 1, 2, 3] rfl)
set_option maxHeartbeats 4000000 in
set_option maxRecDepth 100000 in
theorem rm_free (hB : ∀ i, fm i ≤ 24)  : gM l yX3_free cX3_free 3 (some .int) 2 48 D cls (fpT cI cQ cZ) A (rfW bd cI cZ run fm cm wr mk wo fc cc) [.ref (bd 0)] (some (.int (frR run fm))) (rfW bd cI cZ run fm cm wr mk wo fc cc) := by
  refine gM_of (by decide) (Nat.le_of_ble_eq_true rfl) ?_
  intro p e s m args below meth c ls hx hb hml hown hts hN hr hlk hl hG
  have hown : s.vm.findClass RX3 = some m.cls := hown
  have hl : lv_has ls 3 [(0, .ref (bd 0))] := hl
  refine lv_bipush (v := nI 24) hx hb dX3_free_0 (by decide) ?_
  refine lv_istore_n (lv' := [(1, .int (nI 24)), (0, .ref (bd 0))]) hx hb dX3_free_2 rfl hl (by decide) rfl (fun ls hl => ?_)
  refine lv_iconst (v := nI 0) hx hb dX3_free_3 (by decide) ?_
  refine lv_istore_n (lv' := [(2, .int (nI 0)), (1, .int (nI 24)), (0, .ref (bd 0))]) hx hb dX3_free_4 rfl hl (by decide) rfl (fun ls hl => ?_)
  have loop2 : ∀ (n i : Nat) (H : Heap) (locs : List Loc) (ls : Array Slot), i + n = 5 → gG D cls (fpT cI cQ cZ) A s (rfW bd cI cZ run fm cm wr mk wo fc cc) H locs → lv_has ls 3 [(2, .int (nI i)), (1, .int (frL run (pgS fm) (nI (24 - usR fm 24)) i)), (0, .ref (bd 0))] → W p l e (gR 2 48) s m args below meth c H locs 0 0 (gQ below args s D cls (fpT cI cQ cZ) A (some (.int (frR run fm))) (rfW bd cI cZ run fm cm wr mk wo fc cc)) (F0 m 35 ls []) := by
    intro n
    induction n with
    | zero =>
      intro i H locs ls hi hG hl
      obtain rfl : i = 5 := by omega
      refine lv_iload_n hx hb dX3_free_35 rfl (lv_at hl 0 rfl) ?_
      refine lv_iconst (v := nI 5) hx hb dX3_free_36 (by decide) ?_
      refine lv_icmp_ge (tgt := 67) hx hb dX3_free_37 rfl (fun _ => ?_) (fun hh => absurd (nI_le (Nat.le_refl 5) (by decide)) hh)
      refine lv_iload_n hx hb dX3_free_67 rfl (lv_at hl 1 rfl) ?_
      exact g_iret hx hb hr hlk hG dX3_free_68
    | succ n ih =>
      intro i H locs ls hi hG hl
      have hi5 : i < 5 := by omega
      cases hc : run i
      · have hu : frL run (pgS fm) (nI (24 - usR fm 24)) (i + 1) = frL run (pgS fm) (nI (24 - usR fm 24)) i := by simp [frL, hc]
        refine lv_iload_n hx hb dX3_free_35 rfl (lv_at hl 0 rfl) ?_
        refine lv_iconst (v := nI 5) hx hb dX3_free_36 (by decide) ?_
        refine lv_icmp_ge (tgt := 67) hx hb dX3_free_37 rfl (fun hh => absurd hh (nI_ge hi5 (by decide))) (fun _ => ?_)
        refine lv_aload_n hx hb dX3_free_40 rfl (lv_at hl 2 rfl) ?_
        refine g_get (k := 0) (v := .ref (bd 1)) (C := RX3) (ref := RX3) (fs := [.ref (bd 1), .ref (bd 2), .ref (bd 3), .ref (bd 4), .ref (bd 5), .ref (bd 6), .int fc, .int cc]) hx hb hown hts hG gX3 rfl rf_0 (by decide) t_238 rfl rfl dX3_free_41 ?_
        refine lv_iload_n hx hb dX3_free_44 rfl (lv_at hl 0 rfl) ?_
        refine g_zald (i := i) (t0 := 2) hx hb hG rf_1 rfl (hi5) (by decide) dX3_free_45 ?_
        refine g_top (y := 0) (by rw [hc]; rfl) ?_
        refine lv_if_eq (tgt := 59) hx hb dX3_free_46 rfl (fun _ => ?_) (fun hh => absurd (rfl) hh)
        refine lv_iload_n hx hb dX3_free_59 rfl (lv_at hl 1 rfl) ?_
        refine lv_istore_n (lv' := [(1, .int (frL run (pgS fm) (nI (24 - usR fm 24)) i)), (2, .int (nI i)), (0, .ref (bd 0))]) hx hb dX3_free_60 rfl hl (by decide) rfl (fun ls hl => ?_)
        refine lv_iinc (k := 1) (v := nI (i + 1)) (lv' := [(2, .int (nI (i + 1))), (1, .int (frL run (pgS fm) (nI (24 - usR fm 24)) i)), (0, .ref (bd 0))]) hx hb dX3_free_61 hl rfl (nI_1 i) (by decide) rfl (fun ls hl => ?_)
        refine lv_goto (tgt := 35) hx hb dX3_free_64 rfl ?_
        exact ih (i + 1) _ _ _ (by omega) hG (by rw [hu]; exact lv_sub hl [0, 1, 2] rfl)
      · have hu : frL run (pgS fm) (nI (24 - usR fm 24)) (i + 1) = frL run (pgS fm) (nI (24 - usR fm 24)) i - nI (tbN (pgS fm i)) := by simp [frL, hc]
        refine lv_iload_n hx hb dX3_free_35 rfl (lv_at hl 0 rfl) ?_
        refine lv_iconst (v := nI 5) hx hb dX3_free_36 (by decide) ?_
        refine lv_icmp_ge (tgt := 67) hx hb dX3_free_37 rfl (fun hh => absurd hh (nI_ge hi5 (by decide))) (fun _ => ?_)
        refine lv_aload_n hx hb dX3_free_40 rfl (lv_at hl 2 rfl) ?_
        refine g_get (k := 0) (v := .ref (bd 1)) (C := RX3) (ref := RX3) (fs := [.ref (bd 1), .ref (bd 2), .ref (bd 3), .ref (bd 4), .ref (bd 5), .ref (bd 6), .int fc, .int cc]) hx hb hown hts hG gX3 rfl rf_0 (by decide) t_238 rfl rfl dX3_free_41 ?_
        refine lv_iload_n hx hb dX3_free_44 rfl (lv_at hl 0 rfl) ?_
        refine g_zald (i := i) (t0 := 2) hx hb hG rf_1 rfl (hi5) (by decide) dX3_free_45 ?_
        refine g_top (y := 1) (by rw [hc]; rfl) ?_
        refine lv_if_eq (tgt := 59) hx hb dX3_free_46 rfl (fun hh => absurd hh (by decide)) (fun _ => ?_)
        refine lv_iload_n hx hb dX3_free_49 rfl (lv_at hl 1 rfl) ?_
        refine lv_aload_n hx hb dX3_free_50 rfl (lv_at hl 2 rfl) ?_
        refine lv_iload_n hx hb dX3_free_51 rfl (lv_at hl 0 rfl) ?_
        refine g_callV (As := [.int (nI i)]) (rest := [.int (frL run (pgS fm) (nI (24 - usR fm 24)) i)]) (fs := [.ref (bd 1), .ref (bd 2), .ref (bd 3), .ref (bd 4), .ref (bd 5), .ref (bd 6), .int fc, .int cc]) (rm_tablesOf hi5 hB) hx hb hml hown hts hN hG t_272 t_274 s_21 t_4 t_275 nm_X3_tablesOf ⟨by decide, by decide⟩ rf_0 rfl hl.1 (Nat.le_of_ble_eq_true rfl) dX3_free_52 ⟨Nat.zero_le _, Nat.zero_le _⟩ (fun H locs hG => ?_)
        refine W.eq (g2 := F0 m 55 ls [.int (nI (tbN (pgS fm i))), .int (frL run (pgS fm) (nI (24 - usR fm 24)) i)]) rfl ?_
        refine lv_isub hx hb dX3_free_55 ?_
        refine lv_goto (tgt := 60) hx hb dX3_free_56 rfl ?_
        refine lv_istore_n (lv' := [(1, .int ((frL run (pgS fm) (nI (24 - usR fm 24)) i) - (nI (tbN (pgS fm i))))), (2, .int (nI i)), (0, .ref (bd 0))]) hx hb dX3_free_60 rfl hl (by decide) rfl (fun ls hl => ?_)
        refine lv_iinc (k := 1) (v := nI (i + 1)) (lv' := [(2, .int (nI (i + 1))), (1, .int ((frL run (pgS fm) (nI (24 - usR fm 24)) i) - (nI (tbN (pgS fm i))))), (0, .ref (bd 0))]) hx hb dX3_free_61 hl rfl (nI_1 i) (by decide) rfl (fun ls hl => ?_)
        refine lv_goto (tgt := 35) hx hb dX3_free_64 rfl ?_
        exact ih (i + 1) _ _ _ (by omega) hG (by rw [hu]; exact lv_sub hl [0, 1, 2] rfl)
  have loop : ∀ (n i : Nat) (H : Heap) (locs : List Loc) (ls : Array Slot), i + n = 24 → gG D cls (fpT cI cQ cZ) A s (rfW bd cI cZ run fm cm wr mk wo fc cc) H locs → lv_has ls 3 [(2, .int (nI i)), (1, .int (nI (24 - usR fm i))), (0, .ref (bd 0))] → W p l e (gR 2 48) s m args below meth c H locs 0 0 (gQ below args s D cls (fpT cI cQ cZ) A (some (.int (frR run fm))) (rfW bd cI cZ run fm cm wr mk wo fc cc)) (F0 m 5 ls []) := by
    intro n
    induction n with
    | zero =>
      intro i H locs ls hi hG hl
      obtain rfl : i = 24 := by omega
      refine lv_iload_n hx hb dX3_free_5 rfl (lv_at hl 0 rfl) ?_
      refine lv_bipush (v := nI 24) hx hb dX3_free_6 (by decide) ?_
      refine lv_icmp_ge (tgt := 33) hx hb dX3_free_8 rfl (fun _ => ?_) (fun hh => absurd (nI_le (Nat.le_refl 24) (by decide)) hh)
      refine lv_iconst (v := nI 0) hx hb dX3_free_33 (by decide) ?_
      refine lv_istore_n (lv' := [(2, .int (nI 0)), (1, .int (nI (24 - usR fm 24))), (0, .ref (bd 0))]) hx hb dX3_free_34 rfl hl (by decide) rfl (fun ls hl => ?_)
      exact loop2 5 0 _ _ _ (by omega) hG (lv_sub hl [0, 1, 2] rfl)
    | succ n ih =>
      intro i H locs ls hi hG hl
      have hi2 : i < 24 := by omega
      have hl3 := ldN_le fm i
      have hus := usR_le fm i
      by_cases hc : 0 < ldN fm i
      · have hu : 24 - usR fm (i + 1) = 24 - usR fm i - 1 := by simp [usR, pcN, hc]; omega
        refine lv_iload_n hx hb dX3_free_5 rfl (lv_at hl 0 rfl) ?_
        refine lv_bipush (v := nI 24) hx hb dX3_free_6 (by decide) ?_
        refine lv_icmp_ge (tgt := 33) hx hb dX3_free_8 rfl (fun hh => absurd hh (nI_ge hi2 (by decide))) (fun _ => ?_)
        refine lv_aload_n hx hb dX3_free_11 rfl (lv_at hl 2 rfl) ?_
        refine lv_iload_n hx hb dX3_free_12 rfl (lv_at hl 0 rfl) ?_
        refine g_callV (As := [.int (nI i)]) (rest := []) (fs := [.ref (bd 1), .ref (bd 2), .ref (bd 3), .ref (bd 4), .ref (bd 5), .ref (bd 6), .int fc, .int cc]) (rm_leads hi2 hB) hx hb hml hown hts hN hG t_268 t_270 s_20 t_4 t_271 nm_X3_leads ⟨by decide, by decide⟩ rf_0 rfl hl.1 (Nat.le_of_ble_eq_true rfl) dX3_free_13 ⟨Nat.zero_le _, Nat.zero_le _⟩ (fun H locs hG => ?_)
        refine W.eq (g2 := F0 m 16 ls [.int (nI (ldN fm i))]) rfl ?_
        refine lv_if_le (tgt := 25) hx hb dX3_free_16 rfl (fun hh => absurd hh (nI_gt0 hc (by omega))) (fun _ => ?_)
        refine lv_iload_n hx hb dX3_free_19 rfl (lv_at hl 1 rfl) ?_
        refine lv_iconst (v := nI 1) hx hb dX3_free_20 (by decide) ?_
        refine lv_isub hx hb dX3_free_21 ?_
        refine g_top (y := nI (24 - usR fm (i + 1))) (by rw [hu]; exact pk_sub (b := 1) (by omega)) ?_
        refine lv_goto (tgt := 26) hx hb dX3_free_22 rfl ?_
        refine lv_istore_n (lv' := [(1, .int (nI (24 - usR fm (i + 1)))), (2, .int (nI i)), (0, .ref (bd 0))]) hx hb dX3_free_26 rfl hl (by decide) rfl (fun ls hl => ?_)
        refine lv_iinc (k := 1) (v := nI (i + 1)) (lv' := [(2, .int (nI (i + 1))), (1, .int (nI (24 - usR fm (i + 1)))), (0, .ref (bd 0))]) hx hb dX3_free_27 hl rfl (nI_1 i) (by decide) rfl (fun ls hl => ?_)
        refine lv_goto (tgt := 5) hx hb dX3_free_30 rfl ?_
        exact ih (i + 1) _ _ _ (by omega) hG (lv_sub hl [0, 1, 2] rfl)
      · have hu : usR fm (i + 1) = usR fm i := by simp [usR, pcN, hc]
        refine lv_iload_n hx hb dX3_free_5 rfl (lv_at hl 0 rfl) ?_
        refine lv_bipush (v := nI 24) hx hb dX3_free_6 (by decide) ?_
        refine lv_icmp_ge (tgt := 33) hx hb dX3_free_8 rfl (fun hh => absurd hh (nI_ge hi2 (by decide))) (fun _ => ?_)
        refine lv_aload_n hx hb dX3_free_11 rfl (lv_at hl 2 rfl) ?_
        refine lv_iload_n hx hb dX3_free_12 rfl (lv_at hl 0 rfl) ?_
        refine g_callV (As := [.int (nI i)]) (rest := []) (fs := [.ref (bd 1), .ref (bd 2), .ref (bd 3), .ref (bd 4), .ref (bd 5), .ref (bd 6), .int fc, .int cc]) (rm_leads hi2 hB) hx hb hml hown hts hN hG t_268 t_270 s_20 t_4 t_271 nm_X3_leads ⟨by decide, by decide⟩ rf_0 rfl hl.1 (Nat.le_of_ble_eq_true rfl) dX3_free_13 ⟨Nat.zero_le _, Nat.zero_le _⟩ (fun H locs hG => ?_)
        refine W.eq (g2 := F0 m 16 ls [.int (nI (ldN fm i))]) rfl ?_
        refine lv_if_le (tgt := 25) hx hb dX3_free_16 rfl (fun _ => ?_) (fun hh => absurd (nI_le0 (by omega)) hh)
        refine lv_iload_n hx hb dX3_free_25 rfl (lv_at hl 1 rfl) ?_
        refine lv_istore_n (lv' := [(1, .int (nI (24 - usR fm i))), (2, .int (nI i)), (0, .ref (bd 0))]) hx hb dX3_free_26 rfl hl (by decide) rfl (fun ls hl => ?_)
        refine lv_iinc (k := 1) (v := nI (i + 1)) (lv' := [(2, .int (nI (i + 1))), (1, .int (nI (24 - usR fm i))), (0, .ref (bd 0))]) hx hb dX3_free_27 hl rfl (nI_1 i) (by decide) rfl (fun ls hl => ?_)
        refine lv_goto (tgt := 5) hx hb dX3_free_30 rfl ?_
        exact ih (i + 1) _ _ _ (by omega) hG (by rw [hu]; exact lv_sub hl [0, 1, 2] rfl)
  exact loop 24 0 _ _ _ (by omega) hG (lv_sub hl [0, 1, 2] rfl)
set_option maxHeartbeats 4000000 in
set_option maxRecDepth 100000 in
theorem rm_unused {f : Nat} (hf : f ≤ 23) (hm : ∀ i, i < f → 0 < ldN fm i) (h : f = 23 ∨ ldN fm f = 0) (hB : ∀ i, fm i ≤ 24)  : gM l yX3_unused cX3_unused 2 (some .int) 1 23 D cls (fpT cI cQ cZ) A (rfW bd cI cZ run fm cm wr mk wo fc cc) [.ref (bd 0)] (some (.int (nI f))) (rfW bd cI cZ run fm cm wr mk wo fc cc) := by
  refine gM_of (by decide) (Nat.le_of_ble_eq_true rfl) ?_
  intro p e s m args below meth c ls hx hb hml hown hts hN hr hlk hl hG
  have hown : s.vm.findClass RX3 = some m.cls := hown
  have hl : lv_has ls 2 [(0, .ref (bd 0))] := hl
  refine lv_iconst (v := nI 0) hx hb dX3_unused_0 (by decide) ?_
  refine lv_istore_n (lv' := [(1, .int (nI 0)), (0, .ref (bd 0))]) hx hb dX3_unused_1 rfl hl (by decide) rfl (fun ls hl => ?_)
  have loop : ∀ (n i : Nat) (H : Heap) (locs : List Loc) (ls : Array Slot), i + n = f → gG D cls (fpT cI cQ cZ) A s (rfW bd cI cZ run fm cm wr mk wo fc cc) H locs → lv_has ls 2 [(1, .int (nI i)), (0, .ref (bd 0))] → W p l e (gR 1 23) s m args below meth c H locs 0 0 (gQ below args s D cls (fpT cI cQ cZ) A (some (.int (nI f))) (rfW bd cI cZ run fm cm wr mk wo fc cc)) (F0 m 2 ls []) := by
    intro n
    induction n with
    | zero =>
      intro i H locs ls hi hG hl
      obtain rfl : i = f := by omega
      by_cases h23 : i = 23
      · refine lv_iload_n hx hb dX3_unused_2 rfl (lv_at hl 0 rfl) ?_
        refine lv_bipush (v := nI 23) hx hb dX3_unused_3 (by decide) ?_
        refine lv_icmp_ge (tgt := 22) hx hb dX3_unused_5 rfl (fun _ => ?_) (fun hh => absurd (nI_le (by omega) (by omega)) hh)
        refine lv_iload_n hx hb dX3_unused_22 rfl (lv_at hl 0 rfl) ?_
        exact g_iret hx hb hr hlk hG dX3_unused_23
      · refine lv_iload_n hx hb dX3_unused_2 rfl (lv_at hl 0 rfl) ?_
        refine lv_bipush (v := nI 23) hx hb dX3_unused_3 (by decide) ?_
        refine lv_icmp_ge (tgt := 22) hx hb dX3_unused_5 rfl (fun hh => absurd hh (nI_ge (by omega) (by decide))) (fun _ => ?_)
        refine lv_aload_n hx hb dX3_unused_8 rfl (lv_at hl 1 rfl) ?_
        refine lv_iload_n hx hb dX3_unused_9 rfl (lv_at hl 0 rfl) ?_
        refine g_callV (As := [.int (nI i)]) (rest := []) (fs := [.ref (bd 1), .ref (bd 2), .ref (bd 3), .ref (bd 4), .ref (bd 5), .ref (bd 6), .int fc, .int cc]) (rm_leads (by omega) hB) hx hb hml hown hts hN hG t_268 t_270 s_20 t_4 t_271 nm_X3_leads ⟨by decide, by decide⟩ rf_0 rfl hl.1 (Nat.le_of_ble_eq_true rfl) dX3_unused_10 ⟨Nat.zero_le _, Nat.zero_le _⟩ (fun H locs hG => ?_)
        refine W.eq (g2 := F0 m 13 ls [.int (nI (ldN fm i))]) rfl ?_
        refine lv_if_le (tgt := 22) hx hb dX3_unused_13 rfl (fun _ => ?_) (fun hh => absurd (nI_le0 (h.resolve_left h23)) hh)
        refine lv_iload_n hx hb dX3_unused_22 rfl (lv_at hl 0 rfl) ?_
        exact g_iret hx hb hr hlk hG dX3_unused_23
    | succ n ih =>
      intro i H locs ls hi hG hl
      have hl3 := ldN_le fm i
      refine lv_iload_n hx hb dX3_unused_2 rfl (lv_at hl 0 rfl) ?_
      refine lv_bipush (v := nI 23) hx hb dX3_unused_3 (by decide) ?_
      refine lv_icmp_ge (tgt := 22) hx hb dX3_unused_5 rfl (fun hh => absurd hh (nI_ge (by omega) (by decide))) (fun _ => ?_)
      refine lv_aload_n hx hb dX3_unused_8 rfl (lv_at hl 1 rfl) ?_
      refine lv_iload_n hx hb dX3_unused_9 rfl (lv_at hl 0 rfl) ?_
      refine g_callV (As := [.int (nI i)]) (rest := []) (fs := [.ref (bd 1), .ref (bd 2), .ref (bd 3), .ref (bd 4), .ref (bd 5), .ref (bd 6), .int fc, .int cc]) (rm_leads (by omega) hB) hx hb hml hown hts hN hG t_268 t_270 s_20 t_4 t_271 nm_X3_leads ⟨by decide, by decide⟩ rf_0 rfl hl.1 (Nat.le_of_ble_eq_true rfl) dX3_unused_10 ⟨Nat.zero_le _, Nat.zero_le _⟩ (fun H locs hG => ?_)
      refine W.eq (g2 := F0 m 13 ls [.int (nI (ldN fm i))]) rfl ?_
      refine lv_if_le (tgt := 22) hx hb dX3_unused_13 rfl (fun hh => absurd hh (nI_gt0 (hm i (by omega)) (by omega))) (fun _ => ?_)
      refine lv_iinc (k := 0) (v := nI (i + 1)) (lv' := [(1, .int (nI (i + 1))), (0, .ref (bd 0))]) hx hb dX3_unused_16 hl rfl (nI_1 i) (by decide) rfl (fun ls hl => ?_)
      refine lv_goto (tgt := 2) hx hb dX3_unused_19 rfl ?_
      exact ih (i + 1) _ _ _ (by omega) hG (lv_sub hl [0, 1] rfl)
  exact loop f 0 _ _ _ (by omega) hG (lv_sub hl [0, 1] rfl)
set_option maxHeartbeats 4000000 in
set_option maxRecDepth 100000 in
theorem rm_more_tt {j k : Nat} (hj : j < 5) (hk : k < 64) (hB : ∀ i, fm i ≤ 24) (h4 : anB (pgS fm j) (k / 4 * 4) 4 = true) (h16 : anB (pgS fm j) (k / 16 * 16) 16 = true) : gM l yX3_more cX3_more 3 (some .int) 1 25 D cls (fpT cI cQ cZ) A (rfW bd cI cZ run fm cm wr mk wo fc cc) [.ref (bd 0), .int (nI j), .int (nI k)] (some (.int (nI 0))) (rfW bd cI cZ run fm cm wr mk wo fc cc) := by
  refine gM_of (by decide) (Nat.le_of_ble_eq_true rfl) ?_
  intro p e s m args below meth c ls hx hb hml hown hts hN hr hlk hl hG
  have hown : s.vm.findClass RX3 = some m.cls := hown
  have hl : lv_has ls 3 [(0, .ref (bd 0)), (1, .int (nI j)), (2, .int (nI k))] := hl
  refine lv_aload_n hx hb dX3_more_0 rfl (lv_at hl 0 rfl) ?_
  refine lv_iload_n hx hb dX3_more_1 rfl (lv_at hl 1 rfl) ?_
  refine lv_iload_n hx hb dX3_more_2 rfl (lv_at hl 2 rfl) ?_
  refine lv_iconst (v := nI 4) hx hb dX3_more_3 (by decide) ?_
  refine lv_idiv hx hb dX3_more_4 (by decide) ?_
  refine g_top (y := nI (k / 4)) (pk_div (d := 4) (Nat.lt_trans hk (by decide)) (by decide) (by decide)) ?_
  refine lv_iconst (v := nI 4) hx hb dX3_more_5 (by decide) ?_
  refine lv_imul hx hb dX3_more_6 ?_
  refine g_top (y := nI (k / 4 * 4)) (pk_mul _ 4) ?_
  refine lv_iconst (v := nI 4) hx hb dX3_more_7 (by decide) ?_
  refine g_callV (As := [.int (nI j), .int (nI (k / 4 * 4)), .int (nI 4)]) (rest := []) (fs := [.ref (bd 1), .ref (bd 2), .ref (bd 3), .ref (bd 4), .ref (bd 5), .ref (bd 6), .int fc, .int cc]) (rm_some (a := k / 4 * 4) (w := 4) hj (by omega) hB) hx hb hml hown hts hN hG t_276 t_278 s_22 t_4 t_279 nm_X3_some ⟨by decide, by decide⟩ rf_0 rfl hl.1 (Nat.le_of_ble_eq_true rfl) dX3_more_8 ⟨Nat.zero_le _, Nat.zero_le _⟩ (fun H locs hG => ?_)
  refine W.eq (g2 := F0 m 11 ls [.int (bI (anB (pgS fm j) (k / 4 * 4) 4))]) rfl ?_
  refine g_top (y := 1) (by rw [h4]; rfl) ?_
  refine lv_if_eq (tgt := 18) hx hb dX3_more_11 rfl (fun hh => absurd hh (by decide)) (fun _ => ?_)
  refine lv_iconst (v := nI 0) hx hb dX3_more_14 (by decide) ?_
  refine lv_goto (tgt := 19) hx hb dX3_more_15 rfl ?_
  refine lv_aload_n hx hb dX3_more_19 rfl (lv_at hl 0 rfl) ?_
  refine lv_iload_n hx hb dX3_more_20 rfl (lv_at hl 1 rfl) ?_
  refine lv_iload_n hx hb dX3_more_21 rfl (lv_at hl 2 rfl) ?_
  refine lv_bipush (v := nI 16) hx hb dX3_more_22 (by decide) ?_
  refine lv_idiv hx hb dX3_more_24 (by decide) ?_
  refine g_top (y := nI (k / 16)) (pk_div (d := 16) (Nat.lt_trans hk (by decide)) (by decide) (by decide)) ?_
  refine lv_bipush (v := nI 16) hx hb dX3_more_25 (by decide) ?_
  refine lv_imul hx hb dX3_more_27 ?_
  refine g_top (y := nI (k / 16 * 16)) (pk_mul _ 16) ?_
  refine lv_bipush (v := nI 16) hx hb dX3_more_28 (by decide) ?_
  refine g_callV (As := [.int (nI j), .int (nI (k / 16 * 16)), .int (nI 16)]) (rest := [.int (nI 0)]) (fs := [.ref (bd 1), .ref (bd 2), .ref (bd 3), .ref (bd 4), .ref (bd 5), .ref (bd 6), .int fc, .int cc]) (rm_some (a := k / 16 * 16) (w := 16) hj (by omega) hB) hx hb hml hown hts hN hG t_276 t_278 s_22 t_4 t_279 nm_X3_some ⟨by decide, by decide⟩ rf_0 rfl hl.1 (Nat.le_of_ble_eq_true rfl) dX3_more_30 ⟨Nat.zero_le _, Nat.zero_le _⟩ (fun H locs hG => ?_)
  refine W.eq (g2 := F0 m 33 ls [.int (bI (anB (pgS fm j) (k / 16 * 16) 16)), .int (nI 0)]) rfl ?_
  refine g_top (y := 1) (by rw [h16]; rfl) ?_
  refine lv_if_eq (tgt := 40) hx hb dX3_more_33 rfl (fun hh => absurd hh (by decide)) (fun _ => ?_)
  refine lv_iconst (v := nI 0) hx hb dX3_more_36 (by decide) ?_
  refine lv_goto (tgt := 41) hx hb dX3_more_37 rfl ?_
  refine lv_iadd hx hb dX3_more_41 ?_
  refine g_top (y := nI 0) (by decide) ?_
  exact g_iret hx hb hr hlk hG dX3_more_42
set_option maxHeartbeats 4000000 in
set_option maxRecDepth 100000 in
theorem rm_more_tf {j k : Nat} (hj : j < 5) (hk : k < 64) (hB : ∀ i, fm i ≤ 24) (h4 : anB (pgS fm j) (k / 4 * 4) 4 = true) (h16 : anB (pgS fm j) (k / 16 * 16) 16 = false) : gM l yX3_more cX3_more 3 (some .int) 1 25 D cls (fpT cI cQ cZ) A (rfW bd cI cZ run fm cm wr mk wo fc cc) [.ref (bd 0), .int (nI j), .int (nI k)] (some (.int (nI 1))) (rfW bd cI cZ run fm cm wr mk wo fc cc) := by
  refine gM_of (by decide) (Nat.le_of_ble_eq_true rfl) ?_
  intro p e s m args below meth c ls hx hb hml hown hts hN hr hlk hl hG
  have hown : s.vm.findClass RX3 = some m.cls := hown
  have hl : lv_has ls 3 [(0, .ref (bd 0)), (1, .int (nI j)), (2, .int (nI k))] := hl
  refine lv_aload_n hx hb dX3_more_0 rfl (lv_at hl 0 rfl) ?_
  refine lv_iload_n hx hb dX3_more_1 rfl (lv_at hl 1 rfl) ?_
  refine lv_iload_n hx hb dX3_more_2 rfl (lv_at hl 2 rfl) ?_
  refine lv_iconst (v := nI 4) hx hb dX3_more_3 (by decide) ?_
  refine lv_idiv hx hb dX3_more_4 (by decide) ?_
  refine g_top (y := nI (k / 4)) (pk_div (d := 4) (Nat.lt_trans hk (by decide)) (by decide) (by decide)) ?_
  refine lv_iconst (v := nI 4) hx hb dX3_more_5 (by decide) ?_
  refine lv_imul hx hb dX3_more_6 ?_
  refine g_top (y := nI (k / 4 * 4)) (pk_mul _ 4) ?_
  refine lv_iconst (v := nI 4) hx hb dX3_more_7 (by decide) ?_
  refine g_callV (As := [.int (nI j), .int (nI (k / 4 * 4)), .int (nI 4)]) (rest := []) (fs := [.ref (bd 1), .ref (bd 2), .ref (bd 3), .ref (bd 4), .ref (bd 5), .ref (bd 6), .int fc, .int cc]) (rm_some (a := k / 4 * 4) (w := 4) hj (by omega) hB) hx hb hml hown hts hN hG t_276 t_278 s_22 t_4 t_279 nm_X3_some ⟨by decide, by decide⟩ rf_0 rfl hl.1 (Nat.le_of_ble_eq_true rfl) dX3_more_8 ⟨Nat.zero_le _, Nat.zero_le _⟩ (fun H locs hG => ?_)
  refine W.eq (g2 := F0 m 11 ls [.int (bI (anB (pgS fm j) (k / 4 * 4) 4))]) rfl ?_
  refine g_top (y := 1) (by rw [h4]; rfl) ?_
  refine lv_if_eq (tgt := 18) hx hb dX3_more_11 rfl (fun hh => absurd hh (by decide)) (fun _ => ?_)
  refine lv_iconst (v := nI 0) hx hb dX3_more_14 (by decide) ?_
  refine lv_goto (tgt := 19) hx hb dX3_more_15 rfl ?_
  refine lv_aload_n hx hb dX3_more_19 rfl (lv_at hl 0 rfl) ?_
  refine lv_iload_n hx hb dX3_more_20 rfl (lv_at hl 1 rfl) ?_
  refine lv_iload_n hx hb dX3_more_21 rfl (lv_at hl 2 rfl) ?_
  refine lv_bipush (v := nI 16) hx hb dX3_more_22 (by decide) ?_
  refine lv_idiv hx hb dX3_more_24 (by decide) ?_
  refine g_top (y := nI (k / 16)) (pk_div (d := 16) (Nat.lt_trans hk (by decide)) (by decide) (by decide)) ?_
  refine lv_bipush (v := nI 16) hx hb dX3_more_25 (by decide) ?_
  refine lv_imul hx hb dX3_more_27 ?_
  refine g_top (y := nI (k / 16 * 16)) (pk_mul _ 16) ?_
  refine lv_bipush (v := nI 16) hx hb dX3_more_28 (by decide) ?_
  refine g_callV (As := [.int (nI j), .int (nI (k / 16 * 16)), .int (nI 16)]) (rest := [.int (nI 0)]) (fs := [.ref (bd 1), .ref (bd 2), .ref (bd 3), .ref (bd 4), .ref (bd 5), .ref (bd 6), .int fc, .int cc]) (rm_some (a := k / 16 * 16) (w := 16) hj (by omega) hB) hx hb hml hown hts hN hG t_276 t_278 s_22 t_4 t_279 nm_X3_some ⟨by decide, by decide⟩ rf_0 rfl hl.1 (Nat.le_of_ble_eq_true rfl) dX3_more_30 ⟨Nat.zero_le _, Nat.zero_le _⟩ (fun H locs hG => ?_)
  refine W.eq (g2 := F0 m 33 ls [.int (bI (anB (pgS fm j) (k / 16 * 16) 16)), .int (nI 0)]) rfl ?_
  refine g_top (y := 0) (by rw [h16]; rfl) ?_
  refine lv_if_eq (tgt := 40) hx hb dX3_more_33 rfl (fun _ => ?_) (fun hh => absurd (rfl) hh)
  refine lv_iconst (v := nI 1) hx hb dX3_more_40 (by decide) ?_
  refine lv_iadd hx hb dX3_more_41 ?_
  refine g_top (y := nI 1) (by decide) ?_
  exact g_iret hx hb hr hlk hG dX3_more_42
set_option maxHeartbeats 4000000 in
set_option maxRecDepth 100000 in
theorem rm_more_ft {j k : Nat} (hj : j < 5) (hk : k < 64) (hB : ∀ i, fm i ≤ 24) (h4 : anB (pgS fm j) (k / 4 * 4) 4 = false) (h16 : anB (pgS fm j) (k / 16 * 16) 16 = true) : gM l yX3_more cX3_more 3 (some .int) 1 25 D cls (fpT cI cQ cZ) A (rfW bd cI cZ run fm cm wr mk wo fc cc) [.ref (bd 0), .int (nI j), .int (nI k)] (some (.int (nI 1))) (rfW bd cI cZ run fm cm wr mk wo fc cc) := by
  refine gM_of (by decide) (Nat.le_of_ble_eq_true rfl) ?_
  intro p e s m args below meth c ls hx hb hml hown hts hN hr hlk hl hG
  have hown : s.vm.findClass RX3 = some m.cls := hown
  have hl : lv_has ls 3 [(0, .ref (bd 0)), (1, .int (nI j)), (2, .int (nI k))] := hl
  refine lv_aload_n hx hb dX3_more_0 rfl (lv_at hl 0 rfl) ?_
  refine lv_iload_n hx hb dX3_more_1 rfl (lv_at hl 1 rfl) ?_
  refine lv_iload_n hx hb dX3_more_2 rfl (lv_at hl 2 rfl) ?_
  refine lv_iconst (v := nI 4) hx hb dX3_more_3 (by decide) ?_
  refine lv_idiv hx hb dX3_more_4 (by decide) ?_
  refine g_top (y := nI (k / 4)) (pk_div (d := 4) (Nat.lt_trans hk (by decide)) (by decide) (by decide)) ?_
  refine lv_iconst (v := nI 4) hx hb dX3_more_5 (by decide) ?_
  refine lv_imul hx hb dX3_more_6 ?_
  refine g_top (y := nI (k / 4 * 4)) (pk_mul _ 4) ?_
  refine lv_iconst (v := nI 4) hx hb dX3_more_7 (by decide) ?_
  refine g_callV (As := [.int (nI j), .int (nI (k / 4 * 4)), .int (nI 4)]) (rest := []) (fs := [.ref (bd 1), .ref (bd 2), .ref (bd 3), .ref (bd 4), .ref (bd 5), .ref (bd 6), .int fc, .int cc]) (rm_some (a := k / 4 * 4) (w := 4) hj (by omega) hB) hx hb hml hown hts hN hG t_276 t_278 s_22 t_4 t_279 nm_X3_some ⟨by decide, by decide⟩ rf_0 rfl hl.1 (Nat.le_of_ble_eq_true rfl) dX3_more_8 ⟨Nat.zero_le _, Nat.zero_le _⟩ (fun H locs hG => ?_)
  refine W.eq (g2 := F0 m 11 ls [.int (bI (anB (pgS fm j) (k / 4 * 4) 4))]) rfl ?_
  refine g_top (y := 0) (by rw [h4]; rfl) ?_
  refine lv_if_eq (tgt := 18) hx hb dX3_more_11 rfl (fun _ => ?_) (fun hh => absurd (rfl) hh)
  refine lv_iconst (v := nI 1) hx hb dX3_more_18 (by decide) ?_
  refine lv_aload_n hx hb dX3_more_19 rfl (lv_at hl 0 rfl) ?_
  refine lv_iload_n hx hb dX3_more_20 rfl (lv_at hl 1 rfl) ?_
  refine lv_iload_n hx hb dX3_more_21 rfl (lv_at hl 2 rfl) ?_
  refine lv_bipush (v := nI 16) hx hb dX3_more_22 (by decide) ?_
  refine lv_idiv hx hb dX3_more_24 (by decide) ?_
  refine g_top (y := nI (k / 16)) (pk_div (d := 16) (Nat.lt_trans hk (by decide)) (by decide) (by decide)) ?_
  refine lv_bipush (v := nI 16) hx hb dX3_more_25 (by decide) ?_
  refine lv_imul hx hb dX3_more_27 ?_
  refine g_top (y := nI (k / 16 * 16)) (pk_mul _ 16) ?_
  refine lv_bipush (v := nI 16) hx hb dX3_more_28 (by decide) ?_
  refine g_callV (As := [.int (nI j), .int (nI (k / 16 * 16)), .int (nI 16)]) (rest := [.int (nI 1)]) (fs := [.ref (bd 1), .ref (bd 2), .ref (bd 3), .ref (bd 4), .ref (bd 5), .ref (bd 6), .int fc, .int cc]) (rm_some (a := k / 16 * 16) (w := 16) hj (by omega) hB) hx hb hml hown hts hN hG t_276 t_278 s_22 t_4 t_279 nm_X3_some ⟨by decide, by decide⟩ rf_0 rfl hl.1 (Nat.le_of_ble_eq_true rfl) dX3_more_30 ⟨Nat.zero_le _, Nat.zero_le _⟩ (fun H locs hG => ?_)
  refine W.eq (g2 := F0 m 33 ls [.int (bI (anB (pgS fm j) (k / 16 * 16) 16)), .int (nI 1)]) rfl ?_
  refine g_top (y := 1) (by rw [h16]; rfl) ?_
  refine lv_if_eq (tgt := 40) hx hb dX3_more_33 rfl (fun hh => absurd hh (by decide)) (fun _ => ?_)
  refine lv_iconst (v := nI 0) hx hb dX3_more_36 (by decide) ?_
  refine lv_goto (tgt := 41) hx hb dX3_more_37 rfl ?_
  refine lv_iadd hx hb dX3_more_41 ?_
  refine g_top (y := nI 1) (by decide) ?_
  exact g_iret hx hb hr hlk hG dX3_more_42
set_option maxHeartbeats 4000000 in
set_option maxRecDepth 100000 in
theorem rm_more_ff {j k : Nat} (hj : j < 5) (hk : k < 64) (hB : ∀ i, fm i ≤ 24) (h4 : anB (pgS fm j) (k / 4 * 4) 4 = false) (h16 : anB (pgS fm j) (k / 16 * 16) 16 = false) : gM l yX3_more cX3_more 3 (some .int) 1 25 D cls (fpT cI cQ cZ) A (rfW bd cI cZ run fm cm wr mk wo fc cc) [.ref (bd 0), .int (nI j), .int (nI k)] (some (.int (nI 2))) (rfW bd cI cZ run fm cm wr mk wo fc cc) := by
  refine gM_of (by decide) (Nat.le_of_ble_eq_true rfl) ?_
  intro p e s m args below meth c ls hx hb hml hown hts hN hr hlk hl hG
  have hown : s.vm.findClass RX3 = some m.cls := hown
  have hl : lv_has ls 3 [(0, .ref (bd 0)), (1, .int (nI j)), (2, .int (nI k))] := hl
  refine lv_aload_n hx hb dX3_more_0 rfl (lv_at hl 0 rfl) ?_
  refine lv_iload_n hx hb dX3_more_1 rfl (lv_at hl 1 rfl) ?_
  refine lv_iload_n hx hb dX3_more_2 rfl (lv_at hl 2 rfl) ?_
  refine lv_iconst (v := nI 4) hx hb dX3_more_3 (by decide) ?_
  refine lv_idiv hx hb dX3_more_4 (by decide) ?_
  refine g_top (y := nI (k / 4)) (pk_div (d := 4) (Nat.lt_trans hk (by decide)) (by decide) (by decide)) ?_
  refine lv_iconst (v := nI 4) hx hb dX3_more_5 (by decide) ?_
  refine lv_imul hx hb dX3_more_6 ?_
  refine g_top (y := nI (k / 4 * 4)) (pk_mul _ 4) ?_
  refine lv_iconst (v := nI 4) hx hb dX3_more_7 (by decide) ?_
  refine g_callV (As := [.int (nI j), .int (nI (k / 4 * 4)), .int (nI 4)]) (rest := []) (fs := [.ref (bd 1), .ref (bd 2), .ref (bd 3), .ref (bd 4), .ref (bd 5), .ref (bd 6), .int fc, .int cc]) (rm_some (a := k / 4 * 4) (w := 4) hj (by omega) hB) hx hb hml hown hts hN hG t_276 t_278 s_22 t_4 t_279 nm_X3_some ⟨by decide, by decide⟩ rf_0 rfl hl.1 (Nat.le_of_ble_eq_true rfl) dX3_more_8 ⟨Nat.zero_le _, Nat.zero_le _⟩ (fun H locs hG => ?_)
  refine W.eq (g2 := F0 m 11 ls [.int (bI (anB (pgS fm j) (k / 4 * 4) 4))]) rfl ?_
  refine g_top (y := 0) (by rw [h4]; rfl) ?_
  refine lv_if_eq (tgt := 18) hx hb dX3_more_11 rfl (fun _ => ?_) (fun hh => absurd (rfl) hh)
  refine lv_iconst (v := nI 1) hx hb dX3_more_18 (by decide) ?_
  refine lv_aload_n hx hb dX3_more_19 rfl (lv_at hl 0 rfl) ?_
  refine lv_iload_n hx hb dX3_more_20 rfl (lv_at hl 1 rfl) ?_
  refine lv_iload_n hx hb dX3_more_21 rfl (lv_at hl 2 rfl) ?_
  refine lv_bipush (v := nI 16) hx hb dX3_more_22 (by decide) ?_
  refine lv_idiv hx hb dX3_more_24 (by decide) ?_
  refine g_top (y := nI (k / 16)) (pk_div (d := 16) (Nat.lt_trans hk (by decide)) (by decide) (by decide)) ?_
  refine lv_bipush (v := nI 16) hx hb dX3_more_25 (by decide) ?_
  refine lv_imul hx hb dX3_more_27 ?_
  refine g_top (y := nI (k / 16 * 16)) (pk_mul _ 16) ?_
  refine lv_bipush (v := nI 16) hx hb dX3_more_28 (by decide) ?_
  refine g_callV (As := [.int (nI j), .int (nI (k / 16 * 16)), .int (nI 16)]) (rest := [.int (nI 1)]) (fs := [.ref (bd 1), .ref (bd 2), .ref (bd 3), .ref (bd 4), .ref (bd 5), .ref (bd 6), .int fc, .int cc]) (rm_some (a := k / 16 * 16) (w := 16) hj (by omega) hB) hx hb hml hown hts hN hG t_276 t_278 s_22 t_4 t_279 nm_X3_some ⟨by decide, by decide⟩ rf_0 rfl hl.1 (Nat.le_of_ble_eq_true rfl) dX3_more_30 ⟨Nat.zero_le _, Nat.zero_le _⟩ (fun H locs hG => ?_)
  refine W.eq (g2 := F0 m 33 ls [.int (bI (anB (pgS fm j) (k / 16 * 16) 16)), .int (nI 1)]) rfl ?_
  refine g_top (y := 0) (by rw [h16]; rfl) ?_
  refine lv_if_eq (tgt := 40) hx hb dX3_more_33 rfl (fun _ => ?_) (fun hh => absurd (rfl) hh)
  refine lv_iconst (v := nI 1) hx hb dX3_more_40 (by decide) ?_
  refine lv_iadd hx hb dX3_more_41 ?_
  refine g_top (y := nI 2) (by decide) ?_
  exact g_iret hx hb hr hlk hG dX3_more_42
set_option maxHeartbeats 4000000 in
set_option maxRecDepth 100000 in
theorem rm_more {j k : Nat} (hj : j < 5) (hk : k < 64) (hB : ∀ i, fm i ≤ 24)  : gM l yX3_more cX3_more 3 (some .int) 1 25 D cls (fpT cI cQ cZ) A (rfW bd cI cZ run fm cm wr mk wo fc cc) [.ref (bd 0), .int (nI j), .int (nI k)] (some (.int (nI (mrN (pgS fm j) k)))) (rfW bd cI cZ run fm cm wr mk wo fc cc) := by
  cases h4 : anB (pgS fm j) (k / 4 * 4) 4
  · cases h16 : anB (pgS fm j) (k / 16 * 16) 16
    · have e : mrN (pgS fm j) k = 2 := by simp [mrN, h4, h16]
      rw [e]; exact rm_more_ff hj hk hB h4 h16
    · have e : mrN (pgS fm j) k = 1 := by simp [mrN, h4, h16]
      rw [e]; exact rm_more_ft hj hk hB h4 h16
  · cases h16 : anB (pgS fm j) (k / 16 * 16) 16
    · have e : mrN (pgS fm j) k = 1 := by simp [mrN, h4, h16]
      rw [e]; exact rm_more_tf hj hk hB h4 h16
    · have e : mrN (pgS fm j) k = 0 := by simp [mrN, h4, h16]
      rw [e]; exact rm_more_tt hj hk hB h4 h16
set_option maxHeartbeats 4000000 in
set_option maxRecDepth 100000 in
theorem rm_idle {j : Nat} (hj : j ≤ 5) (h : j = 5 ∨ run j = false) (hm : ∀ i, i < j → run i = true) : gM l yX3_idle cX3_idle 2 (some .int) 0 0 D cls (fpT cI cQ cZ) A (rfW bd cI cZ run fm cm wr mk wo fc cc) [.ref (bd 0)] (some (.int (nI j))) (rfW bd cI cZ run fm cm wr mk wo fc cc) := by
  refine gM_of (by decide) (Nat.le_of_ble_eq_true rfl) ?_
  intro p e s m args below meth c ls hx hb hml hown hts hN hr hlk hl hG
  have hown : s.vm.findClass RX3 = some m.cls := hown
  have hl : lv_has ls 2 [(0, .ref (bd 0))] := hl
  refine lv_iconst (v := nI 0) hx hb dX3_idle_0 (by decide) ?_
  refine lv_istore_n (lv' := [(1, .int (nI 0)), (0, .ref (bd 0))]) hx hb dX3_idle_1 rfl hl (by decide) rfl (fun ls hl => ?_)
  have loop : ∀ (n i : Nat) (ls : Array Slot), i + n = j → lv_has ls 2 [(1, .int (nI i)), (0, .ref (bd 0))] → W p l e (gR 0 0) s m args below meth c s.heap [] 0 0 (gQ below args s D cls (fpT cI cQ cZ) A (some (.int (nI j))) (rfW bd cI cZ run fm cm wr mk wo fc cc)) (F0 m 2 ls []) := by
    intro n
    induction n with
    | zero =>
      intro i ls hi hl
      obtain rfl : i = j := by omega
      by_cases h5 : i = 5
      · refine lv_iload_n hx hb dX3_idle_2 rfl (lv_at hl 0 rfl) ?_
        refine lv_iconst (v := nI 5) hx hb dX3_idle_3 (by decide) ?_
        refine lv_icmp_ge (tgt := 22) hx hb dX3_idle_4 rfl (fun _ => ?_) (fun hh => absurd (nI_le (by omega) (by omega)) hh)
        refine lv_iload_n hx hb dX3_idle_22 rfl (lv_at hl 0 rfl) ?_
        exact g_iret hx hb hr hlk hG dX3_idle_23
      · refine lv_iload_n hx hb dX3_idle_2 rfl (lv_at hl 0 rfl) ?_
        refine lv_iconst (v := nI 5) hx hb dX3_idle_3 (by decide) ?_
        refine lv_icmp_ge (tgt := 22) hx hb dX3_idle_4 rfl (fun hh => absurd hh (nI_ge (by omega) (by decide))) (fun _ => ?_)
        refine lv_aload_n hx hb dX3_idle_7 rfl (lv_at hl 1 rfl) ?_
        refine g_get (k := 0) (v := .ref (bd 1)) (C := RX3) (ref := RX3) (fs := [.ref (bd 1), .ref (bd 2), .ref (bd 3), .ref (bd 4), .ref (bd 5), .ref (bd 6), .int fc, .int cc]) hx hb hown hts hG gX3 rfl rf_0 (by decide) t_238 rfl rfl dX3_idle_8 ?_
        refine lv_iload_n hx hb dX3_idle_11 rfl (lv_at hl 0 rfl) ?_
        refine g_zald (i := i) (t0 := 2) hx hb hG rf_1 rfl ((by omega)) (by decide) dX3_idle_12 ?_
        refine g_top (y := 0) (by rw [h.resolve_left h5]; rfl) ?_
        refine lv_if_eq (tgt := 22) hx hb dX3_idle_13 rfl (fun _ => ?_) (fun hh => absurd (rfl) hh)
        refine lv_iload_n hx hb dX3_idle_22 rfl (lv_at hl 0 rfl) ?_
        exact g_iret hx hb hr hlk hG dX3_idle_23
    | succ n ih =>
      intro i ls hi hl
      refine lv_iload_n hx hb dX3_idle_2 rfl (lv_at hl 0 rfl) ?_
      refine lv_iconst (v := nI 5) hx hb dX3_idle_3 (by decide) ?_
      refine lv_icmp_ge (tgt := 22) hx hb dX3_idle_4 rfl (fun hh => absurd hh (nI_ge (by omega) (by decide))) (fun _ => ?_)
      refine lv_aload_n hx hb dX3_idle_7 rfl (lv_at hl 1 rfl) ?_
      refine g_get (k := 0) (v := .ref (bd 1)) (C := RX3) (ref := RX3) (fs := [.ref (bd 1), .ref (bd 2), .ref (bd 3), .ref (bd 4), .ref (bd 5), .ref (bd 6), .int fc, .int cc]) hx hb hown hts hG gX3 rfl rf_0 (by decide) t_238 rfl rfl dX3_idle_8 ?_
      refine lv_iload_n hx hb dX3_idle_11 rfl (lv_at hl 0 rfl) ?_
      refine g_zald (i := i) (t0 := 2) hx hb hG rf_1 rfl ((by omega)) (by decide) dX3_idle_12 ?_
      refine g_top (y := 1) (by rw [hm i (by omega)]; rfl) ?_
      refine lv_if_eq (tgt := 22) hx hb dX3_idle_13 rfl (fun hh => absurd hh (by decide)) (fun _ => ?_)
      refine lv_iinc (k := 0) (v := nI (i + 1)) (lv' := [(1, .int (nI (i + 1))), (0, .ref (bd 0))]) hx hb dX3_idle_16 hl rfl (nI_1 i) (by decide) rfl (fun ls hl => ?_)
      refine lv_goto (tgt := 2) hx hb dX3_idle_19 rfl ?_
      exact ih (i + 1) _ (by omega) (lv_sub hl [0, 1] rfl)
  exact loop j 0 _ (by omega) (lv_sub hl [0, 1] rfl)
set_option maxHeartbeats 4000000 in
set_option maxRecDepth 100000 in
theorem rm_clear {k : Nat} (hk : k < 320) : gM l yX3_clear cX3_clear 2 none 0 0 D cls (fpT cI cQ cZ) A (rfW bd cI cZ run fm cm wr mk wo fc cc) [.ref (bd 0), .int (nI k)] none (rfW bd cI cZ run (up1 fm k 0) (up1 cm k false) (up1 wr k false) (up1 mk k false) wo fc cc) := by
  refine gM_of (by decide) (Nat.le_of_ble_eq_true rfl) ?_
  intro p e s m args below meth c ls hx hb hml hown hts hN hr hlk hl hG
  have hown : s.vm.findClass RX3 = some m.cls := hown
  have hl : lv_has ls 2 [(0, .ref (bd 0)), (1, .int (nI k))] := hl
  refine lv_aload_n hx hb dX3_clear_0 rfl (lv_at hl 0 rfl) ?_
  refine g_get (k := 1) (v := .ref (bd 2)) (C := RX3) (ref := RX3) (fs := [.ref (bd 1), .ref (bd 2), .ref (bd 3), .ref (bd 4), .ref (bd 5), .ref (bd 6), .int fc, .int cc]) hx hb hown hts hG gX3 rfl rf_0 (by decide) t_239 rfl rfl dX3_clear_1 ?_
  refine lv_iload_n hx hb dX3_clear_4 rfl (lv_at hl 1 rfl) ?_
  refine lv_iconst (v := nI 0) hx hb dX3_clear_5 (by decide) ?_
  refine g_iast (i := k) (x := nI 0) (t0 := 0) (ws' := rfW bd cI cZ run (up1 fm k 0) cm wr mk wo fc cc) hx hb hG rf_2 rfl (hk) (by decide) (rf_s2 k 0) dX3_clear_6 (fun H locs hG => ?_)
  refine lv_aload_n hx hb dX3_clear_7 rfl (lv_at hl 0 rfl) ?_
  refine g_get (k := 2) (v := .ref (bd 3)) (C := RX3) (ref := RX3) (fs := [.ref (bd 1), .ref (bd 2), .ref (bd 3), .ref (bd 4), .ref (bd 5), .ref (bd 6), .int fc, .int cc]) hx hb hown hts hG gX3 rfl rf_0 (by decide) t_240 rfl rfl dX3_clear_8 ?_
  refine lv_iload_n hx hb dX3_clear_11 rfl (lv_at hl 1 rfl) ?_
  refine lv_iconst (v := bI false) hx hb dX3_clear_12 (by decide) ?_
  refine g_zast (i := k) (x := bI false) (t0 := 2) (ws' := rfW bd cI cZ run (up1 fm k 0) (up1 cm k false) wr mk wo fc cc) hx hb hG rf_3 rfl (hk) (by decide) (nar_bI false) (rf_s3 k false) dX3_clear_13 (fun H locs hG => ?_)
  refine lv_aload_n hx hb dX3_clear_14 rfl (lv_at hl 0 rfl) ?_
  refine g_get (k := 3) (v := .ref (bd 4)) (C := RX3) (ref := RX3) (fs := [.ref (bd 1), .ref (bd 2), .ref (bd 3), .ref (bd 4), .ref (bd 5), .ref (bd 6), .int fc, .int cc]) hx hb hown hts hG gX3 rfl rf_0 (by decide) t_241 rfl rfl dX3_clear_15 ?_
  refine lv_iload_n hx hb dX3_clear_18 rfl (lv_at hl 1 rfl) ?_
  refine lv_iconst (v := bI false) hx hb dX3_clear_19 (by decide) ?_
  refine g_zast (i := k) (x := bI false) (t0 := 2) (ws' := rfW bd cI cZ run (up1 fm k 0) (up1 cm k false) (up1 wr k false) mk wo fc cc) hx hb hG rf_4 rfl (hk) (by decide) (nar_bI false) (rf_s4 k false) dX3_clear_20 (fun H locs hG => ?_)
  refine lv_aload_n hx hb dX3_clear_21 rfl (lv_at hl 0 rfl) ?_
  refine g_get (k := 4) (v := .ref (bd 5)) (C := RX3) (ref := RX3) (fs := [.ref (bd 1), .ref (bd 2), .ref (bd 3), .ref (bd 4), .ref (bd 5), .ref (bd 6), .int fc, .int cc]) hx hb hown hts hG gX3 rfl rf_0 (by decide) t_242 rfl rfl dX3_clear_22 ?_
  refine lv_iload_n hx hb dX3_clear_25 rfl (lv_at hl 1 rfl) ?_
  refine lv_iconst (v := bI false) hx hb dX3_clear_26 (by decide) ?_
  refine g_zast (i := k) (x := bI false) (t0 := 2) (ws' := rfW bd cI cZ run (up1 fm k 0) (up1 cm k false) (up1 wr k false) (up1 mk k false) wo fc cc) hx hb hG rf_5 rfl (hk) (by decide) (nar_bI false) (rf_s5 k false) dX3_clear_27 (fun H locs hG => ?_)
  exact g_vret hx hb hr hlk hG dX3_clear_28
set_option maxHeartbeats 4000000 in
set_option maxRecDepth 100000 in
theorem rm_bar_1 {x y : Int32} (h : ¬ rn run x) : gM l yX3_bar cX3_bar 3 (some .int) 1 21 D cls (fpT cI cQ cZ) A (rfW bd cI cZ run fm cm wr mk wo fc cc) [.ref (bd 0), .int x, .int y] (some (.int (-1))) (rfW bd cI cZ run fm cm wr mk wo fc cc) := by
  refine gM_of (by decide) (Nat.le_of_ble_eq_true rfl) ?_
  intro p e s m args below meth c ls hx hb hml hown hts hN hr hlk hl hG
  have hown : s.vm.findClass RX3 = some m.cls := hown
  have hl : lv_has ls 3 [(0, .ref (bd 0)), (1, .int x), (2, .int y)] := hl
  refine lv_aload_n hx hb dX3_bar_0 rfl (lv_at hl 0 rfl) ?_
  refine lv_iload_n hx hb dX3_bar_1 rfl (lv_at hl 1 rfl) ?_
  refine g_callV (As := [.int x]) (rest := []) (fs := [.ref (bd 1), .ref (bd 2), .ref (bd 3), .ref (bd 4), .ref (bd 5), .ref (bd 6), .int fc, .int cc]) (rm_away_n h) hx hb hml hown hts hN hG t_293 t_295 s_24 t_4 t_296 nm_X3_away ⟨by decide, by decide⟩ rf_0 rfl hl.1 (Nat.le_of_ble_eq_true rfl) dX3_bar_2 ⟨Nat.zero_le _, Nat.zero_le _⟩ (fun H locs hG => ?_)
  refine W.eq (g2 := F0 m 5 ls [.int 1]) rfl ?_
  refine lv_if_eq (tgt := 12) hx hb dX3_bar_5 rfl (fun hh => absurd hh (by decide)) (fun _ => ?_)
  refine lv_iconst (v := (-1)) hx hb dX3_bar_8 (by decide) ?_
  refine lv_goto (tgt := 44) hx hb dX3_bar_9 rfl ?_
  exact g_iret hx hb hr hlk hG dX3_bar_44
set_option maxHeartbeats 4000000 in
set_option maxRecDepth 100000 in
theorem rm_bar_2 {j : Nat} {y : Int32} (hj : j < 5) (h : run j = true) (h2 : ¬ pgI y) : gM l yX3_bar cX3_bar 3 (some .int) 1 21 D cls (fpT cI cQ cZ) A (rfW bd cI cZ run fm cm wr mk wo fc cc) [.ref (bd 0), .int (nI j), .int y] (some (.int (-2))) (rfW bd cI cZ run fm cm wr mk wo fc cc) := by
  refine gM_of (by decide) (Nat.le_of_ble_eq_true rfl) ?_
  intro p e s m args below meth c ls hx hb hml hown hts hN hr hlk hl hG
  have hown : s.vm.findClass RX3 = some m.cls := hown
  have hl : lv_has ls 3 [(0, .ref (bd 0)), (1, .int (nI j)), (2, .int y)] := hl
  refine lv_aload_n hx hb dX3_bar_0 rfl (lv_at hl 0 rfl) ?_
  refine lv_iload_n hx hb dX3_bar_1 rfl (lv_at hl 1 rfl) ?_
  refine g_callV (As := [.int (nI j)]) (rest := []) (fs := [.ref (bd 1), .ref (bd 2), .ref (bd 3), .ref (bd 4), .ref (bd 5), .ref (bd 6), .int fc, .int cc]) (rm_away_t hj h) hx hb hml hown hts hN hG t_293 t_295 s_24 t_4 t_296 nm_X3_away ⟨by decide, by decide⟩ rf_0 rfl hl.1 (Nat.le_of_ble_eq_true rfl) dX3_bar_2 ⟨Nat.zero_le _, Nat.zero_le _⟩ (fun H locs hG => ?_)
  refine W.eq (g2 := F0 m 5 ls [.int 0]) rfl ?_
  refine lv_if_eq (tgt := 12) hx hb dX3_bar_5 rfl (fun _ => ?_) (fun hh => absurd (rfl) hh)
  refine lv_iload_n hx hb dX3_bar_12 rfl (lv_at hl 2 rfl) ?_
  refine g_callS (As := [.int y]) (rest := []) (rm_isPage_n h2) hx hb hml hown hts hN hG t_309 t_310 t_4 t_311 nm_X3_isPage ⟨by decide, by decide⟩ hl.1 (Nat.le_of_ble_eq_true rfl) dX3_bar_13 ⟨Nat.zero_le _, Nat.zero_le _⟩ (fun H locs hG => ?_)
  refine W.eq (g2 := F0 m 16 ls [.int 0]) rfl ?_
  refine lv_if_ne (tgt := 24) hx hb dX3_bar_16 rfl (fun hh => absurd (rfl) hh) (fun _ => ?_)
  refine lv_bipush (v := (-2)) hx hb dX3_bar_19 (by decide) ?_
  refine lv_goto (tgt := 44) hx hb dX3_bar_21 rfl ?_
  exact g_iret hx hb hr hlk hG dX3_bar_44
set_option maxHeartbeats 4000000 in
set_option maxRecDepth 100000 in
theorem rm_bar_3 {j k : Nat} (hj : j < 5) (hk : k < 64) (h : run j = true) (h2 : fm (64 * j + k) = 0) : gM l yX3_bar cX3_bar 3 (some .int) 1 21 D cls (fpT cI cQ cZ) A (rfW bd cI cZ run fm cm wr mk wo fc cc) [.ref (bd 0), .int (nI j), .int (nI k)] (some (.int (-3))) (rfW bd cI cZ run fm cm wr mk wo fc cc) := by
  refine gM_of (by decide) (Nat.le_of_ble_eq_true rfl) ?_
  intro p e s m args below meth c ls hx hb hml hown hts hN hr hlk hl hG
  have hown : s.vm.findClass RX3 = some m.cls := hown
  have hl : lv_has ls 3 [(0, .ref (bd 0)), (1, .int (nI j)), (2, .int (nI k))] := hl
  refine lv_aload_n hx hb dX3_bar_0 rfl (lv_at hl 0 rfl) ?_
  refine lv_iload_n hx hb dX3_bar_1 rfl (lv_at hl 1 rfl) ?_
  refine g_callV (As := [.int (nI j)]) (rest := []) (fs := [.ref (bd 1), .ref (bd 2), .ref (bd 3), .ref (bd 4), .ref (bd 5), .ref (bd 6), .int fc, .int cc]) (rm_away_t hj h) hx hb hml hown hts hN hG t_293 t_295 s_24 t_4 t_296 nm_X3_away ⟨by decide, by decide⟩ rf_0 rfl hl.1 (Nat.le_of_ble_eq_true rfl) dX3_bar_2 ⟨Nat.zero_le _, Nat.zero_le _⟩ (fun H locs hG => ?_)
  refine W.eq (g2 := F0 m 5 ls [.int 0]) rfl ?_
  refine lv_if_eq (tgt := 12) hx hb dX3_bar_5 rfl (fun _ => ?_) (fun hh => absurd (rfl) hh)
  refine lv_iload_n hx hb dX3_bar_12 rfl (lv_at hl 2 rfl) ?_
  refine g_callS (As := [.int (nI k)]) (rest := []) (rm_isPage_t hk) hx hb hml hown hts hN hG t_309 t_310 t_4 t_311 nm_X3_isPage ⟨by decide, by decide⟩ hl.1 (Nat.le_of_ble_eq_true rfl) dX3_bar_13 ⟨Nat.zero_le _, Nat.zero_le _⟩ (fun H locs hG => ?_)
  refine W.eq (g2 := F0 m 16 ls [.int 1]) rfl ?_
  refine lv_if_ne (tgt := 24) hx hb dX3_bar_16 rfl (fun _ => ?_) (fun hh => absurd hh (by decide))
  refine lv_aload_n hx hb dX3_bar_24 rfl (lv_at hl 0 rfl) ?_
  refine g_get (k := 1) (v := .ref (bd 2)) (C := RX3) (ref := RX3) (fs := [.ref (bd 1), .ref (bd 2), .ref (bd 3), .ref (bd 4), .ref (bd 5), .ref (bd 6), .int fc, .int cc]) hx hb hown hts hG gX3 rfl rf_0 (by decide) t_239 rfl rfl dX3_bar_25 ?_
  refine lv_bipush (v := nI 64) hx hb dX3_bar_28 (by decide) ?_
  refine lv_iload_n hx hb dX3_bar_30 rfl (lv_at hl 1 rfl) ?_
  refine lv_imul hx hb dX3_bar_31 ?_
  refine g_top (y := nI (64 * j)) (pk_mul 64 j) ?_
  refine lv_iload_n hx hb dX3_bar_32 rfl (lv_at hl 2 rfl) ?_
  refine lv_iadd hx hb dX3_bar_33 ?_
  refine g_top (y := nI (64 * j + k)) (nI_add _ _) ?_
  refine g_iald (i := (64 * j + k)) (t0 := 0) hx hb hG rf_2 rfl ((by omega)) (by decide) dX3_bar_34 ?_
  refine lv_if_ne (tgt := 43) hx hb dX3_bar_35 rfl (fun hh => absurd (by rw [h2]; rfl) hh) (fun _ => ?_)
  refine lv_bipush (v := (-3)) hx hb dX3_bar_38 (by decide) ?_
  refine lv_goto (tgt := 44) hx hb dX3_bar_40 rfl ?_
  exact g_iret hx hb hr hlk hG dX3_bar_44
set_option maxHeartbeats 4000000 in
set_option maxRecDepth 100000 in
theorem rm_bar_0 {j k : Nat} (hj : j < 5) (hk : k < 64) (h : run j = true) (h2 : 0 < fm (64 * j + k)) (hB : ∀ i, fm i ≤ 24)  : gM l yX3_bar cX3_bar 3 (some .int) 1 21 D cls (fpT cI cQ cZ) A (rfW bd cI cZ run fm cm wr mk wo fc cc) [.ref (bd 0), .int (nI j), .int (nI k)] (some (.int 0)) (rfW bd cI cZ run fm cm wr mk wo fc cc) := by
  refine gM_of (by decide) (Nat.le_of_ble_eq_true rfl) ?_
  intro p e s m args below meth c ls hx hb hml hown hts hN hr hlk hl hG
  have hown : s.vm.findClass RX3 = some m.cls := hown
  have hl : lv_has ls 3 [(0, .ref (bd 0)), (1, .int (nI j)), (2, .int (nI k))] := hl
  refine lv_aload_n hx hb dX3_bar_0 rfl (lv_at hl 0 rfl) ?_
  refine lv_iload_n hx hb dX3_bar_1 rfl (lv_at hl 1 rfl) ?_
  refine g_callV (As := [.int (nI j)]) (rest := []) (fs := [.ref (bd 1), .ref (bd 2), .ref (bd 3), .ref (bd 4), .ref (bd 5), .ref (bd 6), .int fc, .int cc]) (rm_away_t hj h) hx hb hml hown hts hN hG t_293 t_295 s_24 t_4 t_296 nm_X3_away ⟨by decide, by decide⟩ rf_0 rfl hl.1 (Nat.le_of_ble_eq_true rfl) dX3_bar_2 ⟨Nat.zero_le _, Nat.zero_le _⟩ (fun H locs hG => ?_)
  refine W.eq (g2 := F0 m 5 ls [.int 0]) rfl ?_
  refine lv_if_eq (tgt := 12) hx hb dX3_bar_5 rfl (fun _ => ?_) (fun hh => absurd (rfl) hh)
  refine lv_iload_n hx hb dX3_bar_12 rfl (lv_at hl 2 rfl) ?_
  refine g_callS (As := [.int (nI k)]) (rest := []) (rm_isPage_t hk) hx hb hml hown hts hN hG t_309 t_310 t_4 t_311 nm_X3_isPage ⟨by decide, by decide⟩ hl.1 (Nat.le_of_ble_eq_true rfl) dX3_bar_13 ⟨Nat.zero_le _, Nat.zero_le _⟩ (fun H locs hG => ?_)
  refine W.eq (g2 := F0 m 16 ls [.int 1]) rfl ?_
  refine lv_if_ne (tgt := 24) hx hb dX3_bar_16 rfl (fun _ => ?_) (fun hh => absurd hh (by decide))
  refine lv_aload_n hx hb dX3_bar_24 rfl (lv_at hl 0 rfl) ?_
  refine g_get (k := 1) (v := .ref (bd 2)) (C := RX3) (ref := RX3) (fs := [.ref (bd 1), .ref (bd 2), .ref (bd 3), .ref (bd 4), .ref (bd 5), .ref (bd 6), .int fc, .int cc]) hx hb hown hts hG gX3 rfl rf_0 (by decide) t_239 rfl rfl dX3_bar_25 ?_
  refine lv_bipush (v := nI 64) hx hb dX3_bar_28 (by decide) ?_
  refine lv_iload_n hx hb dX3_bar_30 rfl (lv_at hl 1 rfl) ?_
  refine lv_imul hx hb dX3_bar_31 ?_
  refine g_top (y := nI (64 * j)) (pk_mul 64 j) ?_
  refine lv_iload_n hx hb dX3_bar_32 rfl (lv_at hl 2 rfl) ?_
  refine lv_iadd hx hb dX3_bar_33 ?_
  refine g_top (y := nI (64 * j + k)) (nI_add _ _) ?_
  refine g_iald (i := (64 * j + k)) (t0 := 0) hx hb hG rf_2 rfl ((by omega)) (by decide) dX3_bar_34 ?_
  refine lv_if_ne (tgt := 43) hx hb dX3_bar_35 rfl (fun _ => ?_) (fun hh => absurd hh (nI_ne0 h2 (by have := hB (64 * j + k); omega)))
  refine lv_iconst (v := 0) hx hb dX3_bar_43 (by decide) ?_
  exact g_iret hx hb hr hlk hG dX3_bar_44
set_option maxHeartbeats 4000000 in
set_option maxRecDepth 100000 in
theorem rm_pageOf_t {q : Nat} (hq : q < 256) {ws : va_W} : gM l yX3_pageOf cX3_pageOf 1 (some .int) 0 0 D cls (fpT cI cQ cZ) A (ws) [.int (nI q)] (some (.int (nI (q / 4)))) (ws) := by
  refine gM_of (by decide) (Nat.le_of_ble_eq_true rfl) ?_
  intro p e s m args below meth c ls hx hb hml hown hts hN hr hlk hl hG
  have hown : s.vm.findClass RX3 = some m.cls := hown
  have hl : lv_has ls 1 [(0, .int (nI q))] := hl
  refine lv_iload_n hx hb dX3_pageOf_0 rfl (lv_at hl 0 rfl) ?_
  refine lv_if_lt (tgt := 17) hx hb dX3_pageOf_1 rfl (fun hh => absurd hh (nI_pos (Nat.lt_trans hq (by decide)))) (fun _ => ?_)
  refine lv_iload_n hx hb dX3_pageOf_4 rfl (lv_at hl 0 rfl) ?_
  refine lv_sipush (v := nI 255) hx hb dX3_pageOf_5 (by decide) ?_
  refine lv_icmp_gt (tgt := 17) hx hb dX3_pageOf_8 rfl (fun hh => absurd hh (nI_nlt (by omega) (by decide))) (fun _ => ?_)
  refine lv_iload_n hx hb dX3_pageOf_11 rfl (lv_at hl 0 rfl) ?_
  refine lv_iconst (v := nI 4) hx hb dX3_pageOf_12 (by decide) ?_
  refine lv_idiv hx hb dX3_pageOf_13 (by decide) ?_
  refine g_top (y := nI (q / 4)) (pk_div (d := 4) (Nat.lt_trans hq (by decide)) (by decide) (by decide)) ?_
  refine lv_goto (tgt := 18) hx hb dX3_pageOf_14 rfl ?_
  exact g_iret hx hb hr hlk hG dX3_pageOf_18
set_option maxHeartbeats 4000000 in
set_option maxRecDepth 100000 in
theorem rm_pageOf_neg {x : Int32} (h : x < 0) {ws : va_W} : gM l yX3_pageOf cX3_pageOf 1 (some .int) 0 0 D cls (fpT cI cQ cZ) A (ws) [.int x] (some (.int (-1))) (ws) := by
  refine gM_of (by decide) (Nat.le_of_ble_eq_true rfl) ?_
  intro p e s m args below meth c ls hx hb hml hown hts hN hr hlk hl hG
  have hown : s.vm.findClass RX3 = some m.cls := hown
  have hl : lv_has ls 1 [(0, .int x)] := hl
  refine lv_iload_n hx hb dX3_pageOf_0 rfl (lv_at hl 0 rfl) ?_
  refine lv_if_lt (tgt := 17) hx hb dX3_pageOf_1 rfl (fun _ => ?_) (fun hh => absurd (h) hh)
  refine lv_iconst (v := (-1)) hx hb dX3_pageOf_17 (by decide) ?_
  exact g_iret hx hb hr hlk hG dX3_pageOf_18
set_option maxHeartbeats 4000000 in
set_option maxRecDepth 100000 in
theorem rm_pageOf_big {x : Int32} (h0 : ¬ x < 0) (h : nI 256 ≤ x) {ws : va_W} : gM l yX3_pageOf cX3_pageOf 1 (some .int) 0 0 D cls (fpT cI cQ cZ) A (ws) [.int x] (some (.int (-1))) (ws) := by
  refine gM_of (by decide) (Nat.le_of_ble_eq_true rfl) ?_
  intro p e s m args below meth c ls hx hb hml hown hts hN hr hlk hl hG
  have hown : s.vm.findClass RX3 = some m.cls := hown
  have hl : lv_has ls 1 [(0, .int x)] := hl
  refine lv_iload_n hx hb dX3_pageOf_0 rfl (lv_at hl 0 rfl) ?_
  refine lv_if_lt (tgt := 17) hx hb dX3_pageOf_1 rfl (fun hh => absurd hh (h0)) (fun _ => ?_)
  refine lv_iload_n hx hb dX3_pageOf_4 rfl (lv_at hl 0 rfl) ?_
  refine lv_sipush (v := nI 255) hx hb dX3_pageOf_5 (by decide) ?_
  refine lv_icmp_gt (tgt := 17) hx hb dX3_pageOf_8 rfl (fun _ => ?_) (fun hh => absurd (i255 h) hh)
  refine lv_iconst (v := (-1)) hx hb dX3_pageOf_17 (by decide) ?_
  exact g_iret hx hb hr hlk hG dX3_pageOf_18
end CM
