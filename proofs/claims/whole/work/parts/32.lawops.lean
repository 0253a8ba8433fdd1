section CM
variable {p : Program} {l : Launch} {e : Env} {s : State} {m : MethodId} {below : List Frame} {meth : Method} {c : Code} {ls : Array Slot} {H : Heap} {locs : List Loc} {b L i : Nat} {xs : Nat → Int32}
variable {D : va_G} {ad bd : Nat → Nat} {cI cQ cZ : ClassId} {run : Nat → Bool} {mp : Nat → Nat → Bool} {fr : Nat → Nat → Nat} {kd : Nat → Nat → Int32} {wd ct : Nat → Int32} {af cf : Int32} {fm : Nat → Nat} {cm wr mk : Nat → Bool} {wo : Nat → Int32}
set_option maxHeartbeats 4000000 in
set_option maxRecDepth 100000 in
theorem lo_spawn (C0 : lw_At p s m meth c b L xs) (hL : L ≤ 2560) (hi : i + 5 ≤ L) (hI : Iv run mp fr kd wd ct fm cm wr mk wo) (hG : gG D cls (fpT cI cQ cZ) (fun q => s.heap.size ≤ q) s (fpW ad cI cQ run mp fr kd wd ct af cf ++ rfW bd cI cZ run fm cm wr mk wo af cf) H locs) (hl : lv_has ls 4 [(3, .int (nI i)), (1, .ref (ad 0)), (2, .ref (bd 0)), (0, .ref b)]) (kk : ∀ (H : Heap) (locs : List Loc) (run : Nat → Bool) (mp : Nat → Nat → Bool) (fr : Nat → Nat → Nat) (kd : Nat → Nat → Int32) (wd ct : Nat → Int32) (af cf : Int32) (fm : Nat → Nat) (cm wr mk : Nat → Bool) (wo : Nat → Int32), Iv run mp fr kd wd ct fm cm wr mk wo → gG D cls (fpT cI cQ cZ) (fun q => s.heap.size ≤ q) s (fpW ad cI cQ run mp fr kd wd ct af cf ++ rfW bd cI cZ run fm cm wr mk wo af cf) H locs → W p l e room_1 s m #[Value.ref b] below meth c H locs 600000 7302250 (lw_Z below #[Value.ref b] s) (F0 m 686 ls [])) : W p l e room_1 s m #[Value.ref b] below meth c H locs 600000 7302250 (lw_Z below #[Value.ref b] s) (F0 m 116 ls []) := by
  obtain ⟨hx, hb, hr0, hml, hown, hts0, hX, hbl, hlk, hgv⟩ := C0
  have hown : s.vm.findClass RL = some m.cls := hown
  have hts : ∀ w ∈ gT, w.before #[Value.ref b] s = true := fun w h => hts0 w (List.mem_filter.mp h).1
  have hN : gN s := gN_of hts0
  obtain ⟨r, run', mp', fr', kd', wd', ct', af', cf', fm', cm', wr', mk', wo', h1, h2, hI2⟩ := op_spawn (l := l) (D := D) (ad := ad) (bd := bd) (cI := cI) (cQ := cQ) (cZ := cZ) (af := af) (cf := cf) hI 
  refine lv_aload_n hx hb dL_law_116 rfl (lv_at hl 1 rfl) ?_
  refine j_callA (As := []) (rest := []) (fs := [.ref (ad 1), .ref (ad 2), .int af, .int cf]) h1 hx hb hml hown hts hN hG t_66 t_67 t_68 t_1 t_69 nm_X2_spawn ⟨by decide, by decide⟩ fp_0 rfl hl.1 (Nat.le_of_ble_eq_true rfl) dL_law_117 ⟨by decide, by decide⟩ (fun H locs hG => ?_)
  refine W.eq (g2 := F0 m 120 ls [.int r]) rfl ?_
  refine lv_aload_n hx hb dL_law_120 rfl (lv_at hl 2 rfl) ?_
  refine j_callB (As := []) (rest := [.int r]) (fs := [.ref (bd 1), .ref (bd 2), .ref (bd 3), .ref (bd 4), .ref (bd 5), .ref (bd 6), .int af, .int cf]) h2 hx hb hml hown hts hN hG t_280 t_281 t_282 t_4 t_283 nm_X3_spawn ⟨by decide, by decide⟩ rf_0 rfl hl.1 (Nat.le_of_ble_eq_true rfl) dL_law_121 ⟨by decide, by decide⟩ (fun H locs hG => ?_)
  refine W.eq (g2 := F0 m 124 ls [.int r, .int r]) rfl ?_
  refine lv_icmp_eq (tgt := 686) hx hb dL_law_124 rfl (fun _ => ?_) (fun hh => absurd (rfl) hh)
  exact kk _ _ _ _ _ _ _ _ _ _ _ _ _ _ _ hI2 hG
set_option maxHeartbeats 4000000 in
set_option maxRecDepth 100000 in
theorem lo_fork (C0 : lw_At p s m meth c b L xs) (hL : L ≤ 2560) (hi : i + 5 ≤ L) (hI : Iv run mp fr kd wd ct fm cm wr mk wo) (hG : gG D cls (fpT cI cQ cZ) (fun q => s.heap.size ≤ q) s (fpW ad cI cQ run mp fr kd wd ct af cf ++ rfW bd cI cZ run fm cm wr mk wo af cf) H locs) (hl : lv_has ls 4 [(3, .int (nI i)), (1, .ref (ad 0)), (2, .ref (bd 0)), (0, .ref b)]) (kk : ∀ (H : Heap) (locs : List Loc) (run : Nat → Bool) (mp : Nat → Nat → Bool) (fr : Nat → Nat → Nat) (kd : Nat → Nat → Int32) (wd ct : Nat → Int32) (af cf : Int32) (fm : Nat → Nat) (cm wr mk : Nat → Bool) (wo : Nat → Int32), Iv run mp fr kd wd ct fm cm wr mk wo → gG D cls (fpT cI cQ cZ) (fun q => s.heap.size ≤ q) s (fpW ad cI cQ run mp fr kd wd ct af cf ++ rfW bd cI cZ run fm cm wr mk wo af cf) H locs → W p l e room_1 s m #[Value.ref b] below meth c H locs 600000 7302250 (lw_Z below #[Value.ref b] s) (F0 m 686 ls [])) : W p l e room_1 s m #[Value.ref b] below meth c H locs 600000 7302250 (lw_Z below #[Value.ref b] s) (F0 m 129 ls []) := by
  obtain ⟨hx, hb, hr0, hml, hown, hts0, hX, hbl, hlk, hgv⟩ := C0
  have hown : s.vm.findClass RL = some m.cls := hown
  have hts : ∀ w ∈ gT, w.before #[Value.ref b] s = true := fun w h => hts0 w (List.mem_filter.mp h).1
  have hN : gN s := gN_of hts0
  obtain ⟨r, run', mp', fr', kd', wd', ct', af', cf', fm', cm', wr', mk', wo', h1, h2, hI2⟩ := op_fork (l := l) (D := D) (ad := ad) (bd := bd) (cI := cI) (cQ := cQ) (cZ := cZ) (af := af) (cf := cf) hI (xs (i + 1))
  refine lv_aload_n hx hb dL_law_129 rfl (lv_at hl 1 rfl) ?_
  refine lv_aload_n hx hb dL_law_130 rfl (lv_at hl 3 rfl) ?_
  refine lv_iload_n hx hb dL_law_131 rfl (lv_at hl 0 rfl) ?_
  refine lv_iconst (v := nI 1) hx hb dL_law_132 (by decide) ?_
  refine lv_iadd hx hb dL_law_133 ?_
  refine g_top (y := nI (i + 1)) (nI_add i 1) ?_
  refine g_sld (i := i + 1) hx hb hX hbl hG (by omega) (by omega) dL_law_134 ?_
  refine j_callA (As := [.int (xs (i + 1))]) (rest := []) (fs := [.ref (ad 1), .ref (ad 2), .int af, .int cf]) h1 hx hb hml hown hts hN hG t_93 t_94 t_95 t_1 t_96 nm_X2_fork ⟨by decide, by decide⟩ fp_0 rfl hl.1 (Nat.le_of_ble_eq_true rfl) dL_law_135 ⟨by decide, by decide⟩ (fun H locs hG => ?_)
  refine W.eq (g2 := F0 m 138 ls [.int r]) rfl ?_
  refine lv_aload_n hx hb dL_law_138 rfl (lv_at hl 2 rfl) ?_
  refine lv_aload_n hx hb dL_law_139 rfl (lv_at hl 3 rfl) ?_
  refine lv_iload_n hx hb dL_law_140 rfl (lv_at hl 0 rfl) ?_
  refine lv_iconst (v := nI 1) hx hb dL_law_141 (by decide) ?_
  refine lv_iadd hx hb dL_law_142 ?_
  refine g_top (y := nI (i + 1)) (nI_add i 1) ?_
  refine g_sld (i := i + 1) hx hb hX hbl hG (by omega) (by omega) dL_law_143 ?_
  refine j_callB (As := [.int (xs (i + 1))]) (rest := [.int r]) (fs := [.ref (bd 1), .ref (bd 2), .ref (bd 3), .ref (bd 4), .ref (bd 5), .ref (bd 6), .int af, .int cf]) h2 hx hb hml hown hts hN hG t_289 t_290 t_291 t_4 t_292 nm_X3_fork ⟨by decide, by decide⟩ rf_0 rfl hl.1 (Nat.le_of_ble_eq_true rfl) dL_law_144 ⟨by decide, by decide⟩ (fun H locs hG => ?_)
  refine W.eq (g2 := F0 m 147 ls [.int r, .int r]) rfl ?_
  refine lv_icmp_eq (tgt := 686) hx hb dL_law_147 rfl (fun _ => ?_) (fun hh => absurd (rfl) hh)
  exact kk _ _ _ _ _ _ _ _ _ _ _ _ _ _ _ hI2 hG
set_option maxHeartbeats 4000000 in
set_option maxRecDepth 100000 in
theorem lo_exit (C0 : lw_At p s m meth c b L xs) (hL : L ≤ 2560) (hi : i + 5 ≤ L) (hI : Iv run mp fr kd wd ct fm cm wr mk wo) (hG : gG D cls (fpT cI cQ cZ) (fun q => s.heap.size ≤ q) s (fpW ad cI cQ run mp fr kd wd ct af cf ++ rfW bd cI cZ run fm cm wr mk wo af cf) H locs) (hl : lv_has ls 4 [(3, .int (nI i)), (1, .ref (ad 0)), (2, .ref (bd 0)), (0, .ref b)]) (kk : ∀ (H : Heap) (locs : List Loc) (run : Nat → Bool) (mp : Nat → Nat → Bool) (fr : Nat → Nat → Nat) (kd : Nat → Nat → Int32) (wd ct : Nat → Int32) (af cf : Int32) (fm : Nat → Nat) (cm wr mk : Nat → Bool) (wo : Nat → Int32), Iv run mp fr kd wd ct fm cm wr mk wo → gG D cls (fpT cI cQ cZ) (fun q => s.heap.size ≤ q) s (fpW ad cI cQ run mp fr kd wd ct af cf ++ rfW bd cI cZ run fm cm wr mk wo af cf) H locs → W p l e room_1 s m #[Value.ref b] below meth c H locs 600000 7302250 (lw_Z below #[Value.ref b] s) (F0 m 686 ls [])) : W p l e room_1 s m #[Value.ref b] below meth c H locs 600000 7302250 (lw_Z below #[Value.ref b] s) (F0 m 152 ls []) := by
  obtain ⟨hx, hb, hr0, hml, hown, hts0, hX, hbl, hlk, hgv⟩ := C0
  have hown : s.vm.findClass RL = some m.cls := hown
  have hts : ∀ w ∈ gT, w.before #[Value.ref b] s = true := fun w h => hts0 w (List.mem_filter.mp h).1
  have hN : gN s := gN_of hts0
  obtain ⟨r, run', mp', fr', kd', wd', ct', af', cf', fm', cm', wr', mk', wo', h1, h2, hI2⟩ := op_exit (l := l) (D := D) (ad := ad) (bd := bd) (cI := cI) (cQ := cQ) (cZ := cZ) (af := af) (cf := cf) hI (xs (i + 1))
  refine lv_aload_n hx hb dL_law_152 rfl (lv_at hl 1 rfl) ?_
  refine lv_aload_n hx hb dL_law_153 rfl (lv_at hl 3 rfl) ?_
  refine lv_iload_n hx hb dL_law_154 rfl (lv_at hl 0 rfl) ?_
  refine lv_iconst (v := nI 1) hx hb dL_law_155 (by decide) ?_
  refine lv_iadd hx hb dL_law_156 ?_
  refine g_top (y := nI (i + 1)) (nI_add i 1) ?_
  refine g_sld (i := i + 1) hx hb hX hbl hG (by omega) (by omega) dL_law_157 ?_
  refine j_callA (As := [.int (xs (i + 1))]) (rest := []) (fs := [.ref (ad 1), .ref (ad 2), .int af, .int cf]) h1 hx hb hml hown hts hN hG t_125 t_126 t_127 t_1 t_128 nm_X2_exit ⟨by decide, by decide⟩ fp_0 rfl hl.1 (Nat.le_of_ble_eq_true rfl) dL_law_158 ⟨by decide, by decide⟩ (fun H locs hG => ?_)
  refine W.eq (g2 := F0 m 161 ls [.int r]) rfl ?_
  refine lv_aload_n hx hb dL_law_161 rfl (lv_at hl 2 rfl) ?_
  refine lv_aload_n hx hb dL_law_162 rfl (lv_at hl 3 rfl) ?_
  refine lv_iload_n hx hb dL_law_163 rfl (lv_at hl 0 rfl) ?_
  refine lv_iconst (v := nI 1) hx hb dL_law_164 (by decide) ?_
  refine lv_iadd hx hb dL_law_165 ?_
  refine g_top (y := nI (i + 1)) (nI_add i 1) ?_
  refine g_sld (i := i + 1) hx hb hX hbl hG (by omega) (by omega) dL_law_166 ?_
  refine j_callB (As := [.int (xs (i + 1))]) (rest := [.int r]) (fs := [.ref (bd 1), .ref (bd 2), .ref (bd 3), .ref (bd 4), .ref (bd 5), .ref (bd 6), .int af, .int cf]) h2 hx hb hml hown hts hN hG t_297 t_298 t_299 t_4 t_300 nm_X3_exit ⟨by decide, by decide⟩ rf_0 rfl hl.1 (Nat.le_of_ble_eq_true rfl) dL_law_167 ⟨by decide, by decide⟩ (fun H locs hG => ?_)
  refine W.eq (g2 := F0 m 170 ls [.int r, .int r]) rfl ?_
  refine lv_icmp_eq (tgt := 686) hx hb dL_law_170 rfl (fun _ => ?_) (fun hh => absurd (rfl) hh)
  exact kk _ _ _ _ _ _ _ _ _ _ _ _ _ _ _ hI2 hG
set_option maxHeartbeats 4000000 in
set_option maxRecDepth 100000 in
theorem lo_map (C0 : lw_At p s m meth c b L xs) (hL : L ≤ 2560) (hi : i + 5 ≤ L) (hI : Iv run mp fr kd wd ct fm cm wr mk wo) (hG : gG D cls (fpT cI cQ cZ) (fun q => s.heap.size ≤ q) s (fpW ad cI cQ run mp fr kd wd ct af cf ++ rfW bd cI cZ run fm cm wr mk wo af cf) H locs) (hl : lv_has ls 4 [(3, .int (nI i)), (1, .ref (ad 0)), (2, .ref (bd 0)), (0, .ref b)]) (kk : ∀ (H : Heap) (locs : List Loc) (run : Nat → Bool) (mp : Nat → Nat → Bool) (fr : Nat → Nat → Nat) (kd : Nat → Nat → Int32) (wd ct : Nat → Int32) (af cf : Int32) (fm : Nat → Nat) (cm wr mk : Nat → Bool) (wo : Nat → Int32), Iv run mp fr kd wd ct fm cm wr mk wo → gG D cls (fpT cI cQ cZ) (fun q => s.heap.size ≤ q) s (fpW ad cI cQ run mp fr kd wd ct af cf ++ rfW bd cI cZ run fm cm wr mk wo af cf) H locs → W p l e room_1 s m #[Value.ref b] below meth c H locs 600000 7302250 (lw_Z below #[Value.ref b] s) (F0 m 686 ls [])) : W p l e room_1 s m #[Value.ref b] below meth c H locs 600000 7302250 (lw_Z below #[Value.ref b] s) (F0 m 175 ls []) := by
  obtain ⟨hx, hb, hr0, hml, hown, hts0, hX, hbl, hlk, hgv⟩ := C0
  have hown : s.vm.findClass RL = some m.cls := hown
  have hts : ∀ w ∈ gT, w.before #[Value.ref b] s = true := fun w h => hts0 w (List.mem_filter.mp h).1
  have hN : gN s := gN_of hts0
  by_cases hz : xs (i + 3) = 0
  · obtain ⟨r, run', mp', fr', kd', wd', ct', af', cf', fm', cm', wr', mk', wo', h1, h2, hI2⟩ := op_map (l := l) (D := D) (ad := ad) (bd := bd) (cI := cI) (cQ := cQ) (cZ := cZ) (af := af) (cf := cf) hI (xs (i + 1)) (xs (i + 2)) false
    refine lv_aload_n hx hb dL_law_175 rfl (lv_at hl 1 rfl) ?_
    refine lv_aload_n hx hb dL_law_176 rfl (lv_at hl 3 rfl) ?_
    refine lv_iload_n hx hb dL_law_177 rfl (lv_at hl 0 rfl) ?_
    refine lv_iconst (v := nI 1) hx hb dL_law_178 (by decide) ?_
    refine lv_iadd hx hb dL_law_179 ?_
    refine g_top (y := nI (i + 1)) (nI_add i 1) ?_
    refine g_sld (i := i + 1) hx hb hX hbl hG (by omega) (by omega) dL_law_180 ?_
    refine lv_aload_n hx hb dL_law_181 rfl (lv_at hl 3 rfl) ?_
    refine lv_iload_n hx hb dL_law_182 rfl (lv_at hl 0 rfl) ?_
    refine lv_iconst (v := nI 2) hx hb dL_law_183 (by decide) ?_
    refine lv_iadd hx hb dL_law_184 ?_
    refine g_top (y := nI (i + 2)) (nI_add i 2) ?_
    refine g_sld (i := i + 2) hx hb hX hbl hG (by omega) (by omega) dL_law_185 ?_
    refine lv_aload_n hx hb dL_law_186 rfl (lv_at hl 3 rfl) ?_
    refine lv_iload_n hx hb dL_law_187 rfl (lv_at hl 0 rfl) ?_
    refine lv_iconst (v := nI 3) hx hb dL_law_188 (by decide) ?_
    refine lv_iadd hx hb dL_law_189 ?_
    refine g_top (y := nI (i + 3)) (nI_add i 3) ?_
    refine g_sld (i := i + 3) hx hb hX hbl hG (by omega) (by omega) dL_law_190 ?_
    refine lv_if_eq (tgt := 198) hx hb dL_law_191 rfl (fun _ => ?_) (fun hh => absurd (hz) hh)
    refine lv_iconst (v := bI false) hx hb dL_law_198 (by decide) ?_
    refine j_callA (As := [.int (xs (i + 1)), .int (xs (i + 2)), .int (bI false)]) (rest := []) (fs := [.ref (ad 1), .ref (ad 2), .int af, .int cf]) h1 hx hb hml hown hts hN hG t_138 t_139 t_140 t_1 t_141 nm_X2_map ⟨by decide, by decide⟩ fp_0 rfl hl.1 (Nat.le_of_ble_eq_true rfl) dL_law_199 ⟨by decide, by decide⟩ (fun H locs hG => ?_)
    refine W.eq (g2 := F0 m 202 ls [.int r]) rfl ?_
    refine lv_aload_n hx hb dL_law_202 rfl (lv_at hl 2 rfl) ?_
    refine lv_aload_n hx hb dL_law_203 rfl (lv_at hl 3 rfl) ?_
    refine lv_iload_n hx hb dL_law_204 rfl (lv_at hl 0 rfl) ?_
    refine lv_iconst (v := nI 1) hx hb dL_law_205 (by decide) ?_
    refine lv_iadd hx hb dL_law_206 ?_
    refine g_top (y := nI (i + 1)) (nI_add i 1) ?_
    refine g_sld (i := i + 1) hx hb hX hbl hG (by omega) (by omega) dL_law_207 ?_
    refine lv_aload_n hx hb dL_law_208 rfl (lv_at hl 3 rfl) ?_
    refine lv_iload_n hx hb dL_law_209 rfl (lv_at hl 0 rfl) ?_
    refine lv_iconst (v := nI 2) hx hb dL_law_210 (by decide) ?_
    refine lv_iadd hx hb dL_law_211 ?_
    refine g_top (y := nI (i + 2)) (nI_add i 2) ?_
    refine g_sld (i := i + 2) hx hb hX hbl hG (by omega) (by omega) dL_law_212 ?_
    refine lv_aload_n hx hb dL_law_213 rfl (lv_at hl 3 rfl) ?_
    refine lv_iload_n hx hb dL_law_214 rfl (lv_at hl 0 rfl) ?_
    refine lv_iconst (v := nI 3) hx hb dL_law_215 (by decide) ?_
    refine lv_iadd hx hb dL_law_216 ?_
    refine g_top (y := nI (i + 3)) (nI_add i 3) ?_
    refine g_sld (i := i + 3) hx hb hX hbl hG (by omega) (by omega) dL_law_217 ?_
    refine lv_if_eq (tgt := 225) hx hb dL_law_218 rfl (fun _ => ?_) (fun hh => absurd (hz) hh)
    refine lv_iconst (v := bI false) hx hb dL_law_225 (by decide) ?_
    refine j_callB (As := [.int (xs (i + 1)), .int (xs (i + 2)), .int (bI false)]) (rest := [.int r]) (fs := [.ref (bd 1), .ref (bd 2), .ref (bd 3), .ref (bd 4), .ref (bd 5), .ref (bd 6), .int af, .int cf]) h2 hx hb hml hown hts hN hG t_305 t_306 t_307 t_4 t_308 nm_X3_map ⟨by decide, by decide⟩ rf_0 rfl hl.1 (Nat.le_of_ble_eq_true rfl) dL_law_226 ⟨by decide, by decide⟩ (fun H locs hG => ?_)
    refine W.eq (g2 := F0 m 229 ls [.int r, .int r]) rfl ?_
    refine lv_icmp_eq (tgt := 686) hx hb dL_law_229 rfl (fun _ => ?_) (fun hh => absurd (rfl) hh)
    exact kk _ _ _ _ _ _ _ _ _ _ _ _ _ _ _ hI2 hG
  · obtain ⟨r, run', mp', fr', kd', wd', ct', af', cf', fm', cm', wr', mk', wo', h1, h2, hI2⟩ := op_map (l := l) (D := D) (ad := ad) (bd := bd) (cI := cI) (cQ := cQ) (cZ := cZ) (af := af) (cf := cf) hI (xs (i + 1)) (xs (i + 2)) true
    refine lv_aload_n hx hb dL_law_175 rfl (lv_at hl 1 rfl) ?_
    refine lv_aload_n hx hb dL_law_176 rfl (lv_at hl 3 rfl) ?_
    refine lv_iload_n hx hb dL_law_177 rfl (lv_at hl 0 rfl) ?_
    refine lv_iconst (v := nI 1) hx hb dL_law_178 (by decide) ?_
    refine lv_iadd hx hb dL_law_179 ?_
    refine g_top (y := nI (i + 1)) (nI_add i 1) ?_
    refine g_sld (i := i + 1) hx hb hX hbl hG (by omega) (by omega) dL_law_180 ?_
    refine lv_aload_n hx hb dL_law_181 rfl (lv_at hl 3 rfl) ?_
    refine lv_iload_n hx hb dL_law_182 rfl (lv_at hl 0 rfl) ?_
    refine lv_iconst (v := nI 2) hx hb dL_law_183 (by decide) ?_
    refine lv_iadd hx hb dL_law_184 ?_
    refine g_top (y := nI (i + 2)) (nI_add i 2) ?_
    refine g_sld (i := i + 2) hx hb hX hbl hG (by omega) (by omega) dL_law_185 ?_
    refine lv_aload_n hx hb dL_law_186 rfl (lv_at hl 3 rfl) ?_
    refine lv_iload_n hx hb dL_law_187 rfl (lv_at hl 0 rfl) ?_
    refine lv_iconst (v := nI 3) hx hb dL_law_188 (by decide) ?_
    refine lv_iadd hx hb dL_law_189 ?_
    refine g_top (y := nI (i + 3)) (nI_add i 3) ?_
    refine g_sld (i := i + 3) hx hb hX hbl hG (by omega) (by omega) dL_law_190 ?_
    refine lv_if_eq (tgt := 198) hx hb dL_law_191 rfl (fun hh => absurd hh (hz)) (fun _ => ?_)
    refine lv_iconst (v := bI true) hx hb dL_law_194 (by decide) ?_
    refine lv_goto (tgt := 199) hx hb dL_law_195 rfl ?_
    refine j_callA (As := [.int (xs (i + 1)), .int (xs (i + 2)), .int (bI true)]) (rest := []) (fs := [.ref (ad 1), .ref (ad 2), .int af, .int cf]) h1 hx hb hml hown hts hN hG t_138 t_139 t_140 t_1 t_141 nm_X2_map ⟨by decide, by decide⟩ fp_0 rfl hl.1 (Nat.le_of_ble_eq_true rfl) dL_law_199 ⟨by decide, by decide⟩ (fun H locs hG => ?_)
    refine W.eq (g2 := F0 m 202 ls [.int r]) rfl ?_
    refine lv_aload_n hx hb dL_law_202 rfl (lv_at hl 2 rfl) ?_
    refine lv_aload_n hx hb dL_law_203 rfl (lv_at hl 3 rfl) ?_
    refine lv_iload_n hx hb dL_law_204 rfl (lv_at hl 0 rfl) ?_
    refine lv_iconst (v := nI 1) hx hb dL_law_205 (by decide) ?_
    refine lv_iadd hx hb dL_law_206 ?_
    refine g_top (y := nI (i + 1)) (nI_add i 1) ?_
    refine g_sld (i := i + 1) hx hb hX hbl hG (by omega) (by omega) dL_law_207 ?_
    refine lv_aload_n hx hb dL_law_208 rfl (lv_at hl 3 rfl) ?_
    refine lv_iload_n hx hb dL_law_209 rfl (lv_at hl 0 rfl) ?_
    refine lv_iconst (v := nI 2) hx hb dL_law_210 (by decide) ?_
    refine lv_iadd hx hb dL_law_211 ?_
    refine g_top (y := nI (i + 2)) (nI_add i 2) ?_
    refine g_sld (i := i + 2) hx hb hX hbl hG (by omega) (by omega) dL_law_212 ?_
    refine lv_aload_n hx hb dL_law_213 rfl (lv_at hl 3 rfl) ?_
    refine lv_iload_n hx hb dL_law_214 rfl (lv_at hl 0 rfl) ?_
    refine lv_iconst (v := nI 3) hx hb dL_law_215 (by decide) ?_
    refine lv_iadd hx hb dL_law_216 ?_
    refine g_top (y := nI (i + 3)) (nI_add i 3) ?_
    refine g_sld (i := i + 3) hx hb hX hbl hG (by omega) (by omega) dL_law_217 ?_
    refine lv_if_eq (tgt := 225) hx hb dL_law_218 rfl (fun hh => absurd hh (hz)) (fun _ => ?_)
    refine lv_iconst (v := bI true) hx hb dL_law_221 (by decide) ?_
    refine lv_goto (tgt := 226) hx hb dL_law_222 rfl ?_
    refine j_callB (As := [.int (xs (i + 1)), .int (xs (i + 2)), .int (bI true)]) (rest := [.int r]) (fs := [.ref (bd 1), .ref (bd 2), .ref (bd 3), .ref (bd 4), .ref (bd 5), .ref (bd 6), .int af, .int cf]) h2 hx hb hml hown hts hN hG t_305 t_306 t_307 t_4 t_308 nm_X3_map ⟨by decide, by decide⟩ rf_0 rfl hl.1 (Nat.le_of_ble_eq_true rfl) dL_law_226 ⟨by decide, by decide⟩ (fun H locs hG => ?_)
    refine W.eq (g2 := F0 m 229 ls [.int r, .int r]) rfl ?_
    refine lv_icmp_eq (tgt := 686) hx hb dL_law_229 rfl (fun _ => ?_) (fun hh => absurd (rfl) hh)
    exact kk _ _ _ _ _ _ _ _ _ _ _ _ _ _ _ hI2 hG
set_option maxHeartbeats 4000000 in
set_option maxRecDepth 100000 in
theorem lo_attach (C0 : lw_At p s m meth c b L xs) (hL : L ≤ 2560) (hi : i + 5 ≤ L) (hI : Iv run mp fr kd wd ct fm cm wr mk wo) (hG : gG D cls (fpT cI cQ cZ) (fun q => s.heap.size ≤ q) s (fpW ad cI cQ run mp fr kd wd ct af cf ++ rfW bd cI cZ run fm cm wr mk wo af cf) H locs) (hl : lv_has ls 4 [(3, .int (nI i)), (1, .ref (ad 0)), (2, .ref (bd 0)), (0, .ref b)]) (kk : ∀ (H : Heap) (locs : List Loc) (run : Nat → Bool) (mp : Nat → Nat → Bool) (fr : Nat → Nat → Nat) (kd : Nat → Nat → Int32) (wd ct : Nat → Int32) (af cf : Int32) (fm : Nat → Nat) (cm wr mk : Nat → Bool) (wo : Nat → Int32), Iv run mp fr kd wd ct fm cm wr mk wo → gG D cls (fpT cI cQ cZ) (fun q => s.heap.size ≤ q) s (fpW ad cI cQ run mp fr kd wd ct af cf ++ rfW bd cI cZ run fm cm wr mk wo af cf) H locs → W p l e room_1 s m #[Value.ref b] below meth c H locs 600000 7302250 (lw_Z below #[Value.ref b] s) (F0 m 686 ls [])) : W p l e room_1 s m #[Value.ref b] below meth c H locs 600000 7302250 (lw_Z below #[Value.ref b] s) (F0 m 234 ls []) := by
  obtain ⟨hx, hb, hr0, hml, hown, hts0, hX, hbl, hlk, hgv⟩ := C0
  have hown : s.vm.findClass RL = some m.cls := hown
  have hts : ∀ w ∈ gT, w.before #[Value.ref b] s = true := fun w h => hts0 w (List.mem_filter.mp h).1
  have hN : gN s := gN_of hts0
  obtain ⟨r, run', mp', fr', kd', wd', ct', af', cf', fm', cm', wr', mk', wo', h1, h2, hI2⟩ := op_attach (l := l) (D := D) (ad := ad) (bd := bd) (cI := cI) (cQ := cQ) (cZ := cZ) (af := af) (cf := cf) hI (xs (i + 1)) (xs (i + 2)) (xs (i + 3)) (xs (i + 4))
  refine lv_aload_n hx hb dL_law_234 rfl (lv_at hl 1 rfl) ?_
  refine lv_aload_n hx hb dL_law_235 rfl (lv_at hl 3 rfl) ?_
  refine lv_iload_n hx hb dL_law_236 rfl (lv_at hl 0 rfl) ?_
  refine lv_iconst (v := nI 1) hx hb dL_law_237 (by decide) ?_
  refine lv_iadd hx hb dL_law_238 ?_
  refine g_top (y := nI (i + 1)) (nI_add i 1) ?_
  refine g_sld (i := i + 1) hx hb hX hbl hG (by omega) (by omega) dL_law_239 ?_
  refine lv_aload_n hx hb dL_law_240 rfl (lv_at hl 3 rfl) ?_
  refine lv_iload_n hx hb dL_law_241 rfl (lv_at hl 0 rfl) ?_
  refine lv_iconst (v := nI 2) hx hb dL_law_242 (by decide) ?_
  refine lv_iadd hx hb dL_law_243 ?_
  refine g_top (y := nI (i + 2)) (nI_add i 2) ?_
  refine g_sld (i := i + 2) hx hb hX hbl hG (by omega) (by omega) dL_law_244 ?_
  refine lv_aload_n hx hb dL_law_245 rfl (lv_at hl 3 rfl) ?_
  refine lv_iload_n hx hb dL_law_246 rfl (lv_at hl 0 rfl) ?_
  refine lv_iconst (v := nI 3) hx hb dL_law_247 (by decide) ?_
  refine lv_iadd hx hb dL_law_248 ?_
  refine g_top (y := nI (i + 3)) (nI_add i 3) ?_
  refine g_sld (i := i + 3) hx hb hX hbl hG (by omega) (by omega) dL_law_249 ?_
  refine lv_aload_n hx hb dL_law_250 rfl (lv_at hl 3 rfl) ?_
  refine lv_iload_n hx hb dL_law_251 rfl (lv_at hl 0 rfl) ?_
  refine lv_iconst (v := nI 4) hx hb dL_law_252 (by decide) ?_
  refine lv_iadd hx hb dL_law_253 ?_
  refine g_top (y := nI (i + 4)) (nI_add i 4) ?_
  refine g_sld (i := i + 4) hx hb hX hbl hG (by omega) (by omega) dL_law_254 ?_
  refine j_callA (As := [.int (xs (i + 1)), .int (xs (i + 2)), .int (xs (i + 3)), .int (xs (i + 4))]) (rest := []) (fs := [.ref (ad 1), .ref (ad 2), .int af, .int cf]) h1 hx hb hml hown hts hN hG t_157 t_158 t_159 t_1 t_160 nm_X2_attach ⟨by decide, by decide⟩ fp_0 rfl hl.1 (Nat.le_of_ble_eq_true rfl) dL_law_255 ⟨by decide, by decide⟩ (fun H locs hG => ?_)
  refine W.eq (g2 := F0 m 258 ls [.int r]) rfl ?_
  refine lv_aload_n hx hb dL_law_258 rfl (lv_at hl 2 rfl) ?_
  refine lv_aload_n hx hb dL_law_259 rfl (lv_at hl 3 rfl) ?_
  refine lv_iload_n hx hb dL_law_260 rfl (lv_at hl 0 rfl) ?_
  refine lv_iconst (v := nI 1) hx hb dL_law_261 (by decide) ?_
  refine lv_iadd hx hb dL_law_262 ?_
  refine g_top (y := nI (i + 1)) (nI_add i 1) ?_
  refine g_sld (i := i + 1) hx hb hX hbl hG (by omega) (by omega) dL_law_263 ?_
  refine lv_aload_n hx hb dL_law_264 rfl (lv_at hl 3 rfl) ?_
  refine lv_iload_n hx hb dL_law_265 rfl (lv_at hl 0 rfl) ?_
  refine lv_iconst (v := nI 2) hx hb dL_law_266 (by decide) ?_
  refine lv_iadd hx hb dL_law_267 ?_
  refine g_top (y := nI (i + 2)) (nI_add i 2) ?_
  refine g_sld (i := i + 2) hx hb hX hbl hG (by omega) (by omega) dL_law_268 ?_
  refine lv_aload_n hx hb dL_law_269 rfl (lv_at hl 3 rfl) ?_
  refine lv_iload_n hx hb dL_law_270 rfl (lv_at hl 0 rfl) ?_
  refine lv_iconst (v := nI 3) hx hb dL_law_271 (by decide) ?_
  refine lv_iadd hx hb dL_law_272 ?_
  refine g_top (y := nI (i + 3)) (nI_add i 3) ?_
  refine g_sld (i := i + 3) hx hb hX hbl hG (by omega) (by omega) dL_law_273 ?_
  refine lv_aload_n hx hb dL_law_274 rfl (lv_at hl 3 rfl) ?_
  refine lv_iload_n hx hb dL_law_275 rfl (lv_at hl 0 rfl) ?_
  refine lv_iconst (v := nI 4) hx hb dL_law_276 (by decide) ?_
  refine lv_iadd hx hb dL_law_277 ?_
  refine g_top (y := nI (i + 4)) (nI_add i 4) ?_
  refine g_sld (i := i + 4) hx hb hX hbl hG (by omega) (by omega) dL_law_278 ?_
  refine j_callB (As := [.int (xs (i + 1)), .int (xs (i + 2)), .int (xs (i + 3)), .int (xs (i + 4))]) (rest := [.int r]) (fs := [.ref (bd 1), .ref (bd 2), .ref (bd 3), .ref (bd 4), .ref (bd 5), .ref (bd 6), .int af, .int cf]) h2 hx hb hml hown hts hN hG t_320 t_321 t_322 t_4 t_323 nm_X3_attach ⟨by decide, by decide⟩ rf_0 rfl hl.1 (Nat.le_of_ble_eq_true rfl) dL_law_279 ⟨by decide, by decide⟩ (fun H locs hG => ?_)
  refine W.eq (g2 := F0 m 282 ls [.int r, .int r]) rfl ?_
  refine lv_icmp_eq (tgt := 686) hx hb dL_law_282 rfl (fun _ => ?_) (fun hh => absurd (rfl) hh)
  exact kk _ _ _ _ _ _ _ _ _ _ _ _ _ _ _ hI2 hG
set_option maxHeartbeats 4000000 in
set_option maxRecDepth 100000 in
theorem lo_unmap (C0 : lw_At p s m meth c b L xs) (hL : L ≤ 2560) (hi : i + 5 ≤ L) (hI : Iv run mp fr kd wd ct fm cm wr mk wo) (hG : gG D cls (fpT cI cQ cZ) (fun q => s.heap.size ≤ q) s (fpW ad cI cQ run mp fr kd wd ct af cf ++ rfW bd cI cZ run fm cm wr mk wo af cf) H locs) (hl : lv_has ls 4 [(3, .int (nI i)), (1, .ref (ad 0)), (2, .ref (bd 0)), (0, .ref b)]) (kk : ∀ (H : Heap) (locs : List Loc) (run : Nat → Bool) (mp : Nat → Nat → Bool) (fr : Nat → Nat → Nat) (kd : Nat → Nat → Int32) (wd ct : Nat → Int32) (af cf : Int32) (fm : Nat → Nat) (cm wr mk : Nat → Bool) (wo : Nat → Int32), Iv run mp fr kd wd ct fm cm wr mk wo → gG D cls (fpT cI cQ cZ) (fun q => s.heap.size ≤ q) s (fpW ad cI cQ run mp fr kd wd ct af cf ++ rfW bd cI cZ run fm cm wr mk wo af cf) H locs → W p l e room_1 s m #[Value.ref b] below meth c H locs 600000 7302250 (lw_Z below #[Value.ref b] s) (F0 m 686 ls [])) : W p l e room_1 s m #[Value.ref b] below meth c H locs 600000 7302250 (lw_Z below #[Value.ref b] s) (F0 m 287 ls []) := by
  obtain ⟨hx, hb, hr0, hml, hown, hts0, hX, hbl, hlk, hgv⟩ := C0
  have hown : s.vm.findClass RL = some m.cls := hown
  have hts : ∀ w ∈ gT, w.before #[Value.ref b] s = true := fun w h => hts0 w (List.mem_filter.mp h).1
  have hN : gN s := gN_of hts0
  obtain ⟨r, run', mp', fr', kd', wd', ct', af', cf', fm', cm', wr', mk', wo', h1, h2, hI2⟩ := op_unmap (l := l) (D := D) (ad := ad) (bd := bd) (cI := cI) (cQ := cQ) (cZ := cZ) (af := af) (cf := cf) hI (xs (i + 1)) (xs (i + 2))
  refine lv_aload_n hx hb dL_law_287 rfl (lv_at hl 1 rfl) ?_
  refine lv_aload_n hx hb dL_law_288 rfl (lv_at hl 3 rfl) ?_
  refine lv_iload_n hx hb dL_law_289 rfl (lv_at hl 0 rfl) ?_
  refine lv_iconst (v := nI 1) hx hb dL_law_290 (by decide) ?_
  refine lv_iadd hx hb dL_law_291 ?_
  refine g_top (y := nI (i + 1)) (nI_add i 1) ?_
  refine g_sld (i := i + 1) hx hb hX hbl hG (by omega) (by omega) dL_law_292 ?_
  refine lv_aload_n hx hb dL_law_293 rfl (lv_at hl 3 rfl) ?_
  refine lv_iload_n hx hb dL_law_294 rfl (lv_at hl 0 rfl) ?_
  refine lv_iconst (v := nI 2) hx hb dL_law_295 (by decide) ?_
  refine lv_iadd hx hb dL_law_296 ?_
  refine g_top (y := nI (i + 2)) (nI_add i 2) ?_
  refine g_sld (i := i + 2) hx hb hX hbl hG (by omega) (by omega) dL_law_297 ?_
  refine j_callA (As := [.int (xs (i + 1)), .int (xs (i + 2))]) (rest := []) (fs := [.ref (ad 1), .ref (ad 2), .int af, .int cf]) h1 hx hb hml hown hts hN hG t_161 t_162 t_163 t_1 t_164 nm_X2_unmap ⟨by decide, by decide⟩ fp_0 rfl hl.1 (Nat.le_of_ble_eq_true rfl) dL_law_298 ⟨by decide, by decide⟩ (fun H locs hG => ?_)
  refine W.eq (g2 := F0 m 301 ls [.int r]) rfl ?_
  refine lv_aload_n hx hb dL_law_301 rfl (lv_at hl 2 rfl) ?_
  refine lv_aload_n hx hb dL_law_302 rfl (lv_at hl 3 rfl) ?_
  refine lv_iload_n hx hb dL_law_303 rfl (lv_at hl 0 rfl) ?_
  refine lv_iconst (v := nI 1) hx hb dL_law_304 (by decide) ?_
  refine lv_iadd hx hb dL_law_305 ?_
  refine g_top (y := nI (i + 1)) (nI_add i 1) ?_
  refine g_sld (i := i + 1) hx hb hX hbl hG (by omega) (by omega) dL_law_306 ?_
  refine lv_aload_n hx hb dL_law_307 rfl (lv_at hl 3 rfl) ?_
  refine lv_iload_n hx hb dL_law_308 rfl (lv_at hl 0 rfl) ?_
  refine lv_iconst (v := nI 2) hx hb dL_law_309 (by decide) ?_
  refine lv_iadd hx hb dL_law_310 ?_
  refine g_top (y := nI (i + 2)) (nI_add i 2) ?_
  refine g_sld (i := i + 2) hx hb hX hbl hG (by omega) (by omega) dL_law_311 ?_
  refine j_callB (As := [.int (xs (i + 1)), .int (xs (i + 2))]) (rest := [.int r]) (fs := [.ref (bd 1), .ref (bd 2), .ref (bd 3), .ref (bd 4), .ref (bd 5), .ref (bd 6), .int af, .int cf]) h2 hx hb hml hown hts hN hG t_324 t_325 t_326 t_4 t_327 nm_X3_unmap ⟨by decide, by decide⟩ rf_0 rfl hl.1 (Nat.le_of_ble_eq_true rfl) dL_law_312 ⟨by decide, by decide⟩ (fun H locs hG => ?_)
  refine W.eq (g2 := F0 m 315 ls [.int r, .int r]) rfl ?_
  refine lv_icmp_eq (tgt := 686) hx hb dL_law_315 rfl (fun _ => ?_) (fun hh => absurd (rfl) hh)
  exact kk _ _ _ _ _ _ _ _ _ _ _ _ _ _ _ hI2 hG
set_option maxHeartbeats 4000000 in
set_option maxRecDepth 100000 in
theorem lo_protect (C0 : lw_At p s m meth c b L xs) (hL : L ≤ 2560) (hi : i + 5 ≤ L) (hI : Iv run mp fr kd wd ct fm cm wr mk wo) (hG : gG D cls (fpT cI cQ cZ) (fun q => s.heap.size ≤ q) s (fpW ad cI cQ run mp fr kd wd ct af cf ++ rfW bd cI cZ run fm cm wr mk wo af cf) H locs) (hl : lv_has ls 4 [(3, .int (nI i)), (1, .ref (ad 0)), (2, .ref (bd 0)), (0, .ref b)]) (kk : ∀ (H : Heap) (locs : List Loc) (run : Nat → Bool) (mp : Nat → Nat → Bool) (fr : Nat → Nat → Nat) (kd : Nat → Nat → Int32) (wd ct : Nat → Int32) (af cf : Int32) (fm : Nat → Nat) (cm wr mk : Nat → Bool) (wo : Nat → Int32), Iv run mp fr kd wd ct fm cm wr mk wo → gG D cls (fpT cI cQ cZ) (fun q => s.heap.size ≤ q) s (fpW ad cI cQ run mp fr kd wd ct af cf ++ rfW bd cI cZ run fm cm wr mk wo af cf) H locs → W p l e room_1 s m #[Value.ref b] below meth c H locs 600000 7302250 (lw_Z below #[Value.ref b] s) (F0 m 686 ls [])) : W p l e room_1 s m #[Value.ref b] below meth c H locs 600000 7302250 (lw_Z below #[Value.ref b] s) (F0 m 320 ls []) := by
  obtain ⟨hx, hb, hr0, hml, hown, hts0, hX, hbl, hlk, hgv⟩ := C0
  have hown : s.vm.findClass RL = some m.cls := hown
  have hts : ∀ w ∈ gT, w.before #[Value.ref b] s = true := fun w h => hts0 w (List.mem_filter.mp h).1
  have hN : gN s := gN_of hts0
  by_cases hz : xs (i + 3) = 0
  · obtain ⟨r, run', mp', fr', kd', wd', ct', af', cf', fm', cm', wr', mk', wo', h1, h2, hI2⟩ := op_protect (l := l) (D := D) (ad := ad) (bd := bd) (cI := cI) (cQ := cQ) (cZ := cZ) (af := af) (cf := cf) hI (xs (i + 1)) (xs (i + 2)) false
    refine lv_aload_n hx hb dL_law_320 rfl (lv_at hl 1 rfl) ?_
    refine lv_aload_n hx hb dL_law_321 rfl (lv_at hl 3 rfl) ?_
    refine lv_iload_n hx hb dL_law_322 rfl (lv_at hl 0 rfl) ?_
    refine lv_iconst (v := nI 1) hx hb dL_law_323 (by decide) ?_
    refine lv_iadd hx hb dL_law_324 ?_
    refine g_top (y := nI (i + 1)) (nI_add i 1) ?_
    refine g_sld (i := i + 1) hx hb hX hbl hG (by omega) (by omega) dL_law_325 ?_
    refine lv_aload_n hx hb dL_law_326 rfl (lv_at hl 3 rfl) ?_
    refine lv_iload_n hx hb dL_law_327 rfl (lv_at hl 0 rfl) ?_
    refine lv_iconst (v := nI 2) hx hb dL_law_328 (by decide) ?_
    refine lv_iadd hx hb dL_law_329 ?_
    refine g_top (y := nI (i + 2)) (nI_add i 2) ?_
    refine g_sld (i := i + 2) hx hb hX hbl hG (by omega) (by omega) dL_law_330 ?_
    refine lv_aload_n hx hb dL_law_331 rfl (lv_at hl 3 rfl) ?_
    refine lv_iload_n hx hb dL_law_332 rfl (lv_at hl 0 rfl) ?_
    refine lv_iconst (v := nI 3) hx hb dL_law_333 (by decide) ?_
    refine lv_iadd hx hb dL_law_334 ?_
    refine g_top (y := nI (i + 3)) (nI_add i 3) ?_
    refine g_sld (i := i + 3) hx hb hX hbl hG (by omega) (by omega) dL_law_335 ?_
    refine lv_if_eq (tgt := 343) hx hb dL_law_336 rfl (fun _ => ?_) (fun hh => absurd (hz) hh)
    refine lv_iconst (v := bI false) hx hb dL_law_343 (by decide) ?_
    refine j_callA (As := [.int (xs (i + 1)), .int (xs (i + 2)), .int (bI false)]) (rest := []) (fs := [.ref (ad 1), .ref (ad 2), .int af, .int cf]) h1 hx hb hml hown hts hN hG t_169 t_170 t_171 t_1 t_172 nm_X2_protect ⟨by decide, by decide⟩ fp_0 rfl hl.1 (Nat.le_of_ble_eq_true rfl) dL_law_344 ⟨by decide, by decide⟩ (fun H locs hG => ?_)
    refine W.eq (g2 := F0 m 347 ls [.int r]) rfl ?_
    refine lv_aload_n hx hb dL_law_347 rfl (lv_at hl 2 rfl) ?_
    refine lv_aload_n hx hb dL_law_348 rfl (lv_at hl 3 rfl) ?_
    refine lv_iload_n hx hb dL_law_349 rfl (lv_at hl 0 rfl) ?_
    refine lv_iconst (v := nI 1) hx hb dL_law_350 (by decide) ?_
    refine lv_iadd hx hb dL_law_351 ?_
    refine g_top (y := nI (i + 1)) (nI_add i 1) ?_
    refine g_sld (i := i + 1) hx hb hX hbl hG (by omega) (by omega) dL_law_352 ?_
    refine lv_aload_n hx hb dL_law_353 rfl (lv_at hl 3 rfl) ?_
    refine lv_iload_n hx hb dL_law_354 rfl (lv_at hl 0 rfl) ?_
    refine lv_iconst (v := nI 2) hx hb dL_law_355 (by decide) ?_
    refine lv_iadd hx hb dL_law_356 ?_
    refine g_top (y := nI (i + 2)) (nI_add i 2) ?_
    refine g_sld (i := i + 2) hx hb hX hbl hG (by omega) (by omega) dL_law_357 ?_
    refine lv_aload_n hx hb dL_law_358 rfl (lv_at hl 3 rfl) ?_
    refine lv_iload_n hx hb dL_law_359 rfl (lv_at hl 0 rfl) ?_
    refine lv_iconst (v := nI 3) hx hb dL_law_360 (by decide) ?_
    refine lv_iadd hx hb dL_law_361 ?_
    refine g_top (y := nI (i + 3)) (nI_add i 3) ?_
    refine g_sld (i := i + 3) hx hb hX hbl hG (by omega) (by omega) dL_law_362 ?_
    refine lv_if_eq (tgt := 370) hx hb dL_law_363 rfl (fun _ => ?_) (fun hh => absurd (hz) hh)
    refine lv_iconst (v := bI false) hx hb dL_law_370 (by decide) ?_
    refine j_callB (As := [.int (xs (i + 1)), .int (xs (i + 2)), .int (bI false)]) (rest := [.int r]) (fs := [.ref (bd 1), .ref (bd 2), .ref (bd 3), .ref (bd 4), .ref (bd 5), .ref (bd 6), .int af, .int cf]) h2 hx hb hml hown hts hN hG t_332 t_333 t_334 t_4 t_335 nm_X3_protect ⟨by decide, by decide⟩ rf_0 rfl hl.1 (Nat.le_of_ble_eq_true rfl) dL_law_371 ⟨by decide, by decide⟩ (fun H locs hG => ?_)
    refine W.eq (g2 := F0 m 374 ls [.int r, .int r]) rfl ?_
    refine lv_icmp_eq (tgt := 686) hx hb dL_law_374 rfl (fun _ => ?_) (fun hh => absurd (rfl) hh)
    exact kk _ _ _ _ _ _ _ _ _ _ _ _ _ _ _ hI2 hG
  · obtain ⟨r, run', mp', fr', kd', wd', ct', af', cf', fm', cm', wr', mk', wo', h1, h2, hI2⟩ := op_protect (l := l) (D := D) (ad := ad) (bd := bd) (cI := cI) (cQ := cQ) (cZ := cZ) (af := af) (cf := cf) hI (xs (i + 1)) (xs (i + 2)) true
    refine lv_aload_n hx hb dL_law_320 rfl (lv_at hl 1 rfl) ?_
    refine lv_aload_n hx hb dL_law_321 rfl (lv_at hl 3 rfl) ?_
    refine lv_iload_n hx hb dL_law_322 rfl (lv_at hl 0 rfl) ?_
    refine lv_iconst (v := nI 1) hx hb dL_law_323 (by decide) ?_
    refine lv_iadd hx hb dL_law_324 ?_
    refine g_top (y := nI (i + 1)) (nI_add i 1) ?_
    refine g_sld (i := i + 1) hx hb hX hbl hG (by omega) (by omega) dL_law_325 ?_
    refine lv_aload_n hx hb dL_law_326 rfl (lv_at hl 3 rfl) ?_
    refine lv_iload_n hx hb dL_law_327 rfl (lv_at hl 0 rfl) ?_
    refine lv_iconst (v := nI 2) hx hb dL_law_328 (by decide) ?_
    refine lv_iadd hx hb dL_law_329 ?_
    refine g_top (y := nI (i + 2)) (nI_add i 2) ?_
    refine g_sld (i := i + 2) hx hb hX hbl hG (by omega) (by omega) dL_law_330 ?_
    refine lv_aload_n hx hb dL_law_331 rfl (lv_at hl 3 rfl) ?_
    refine lv_iload_n hx hb dL_law_332 rfl (lv_at hl 0 rfl) ?_
    refine lv_iconst (v := nI 3) hx hb dL_law_333 (by decide) ?_
    refine lv_iadd hx hb dL_law_334 ?_
    refine g_top (y := nI (i + 3)) (nI_add i 3) ?_
    refine g_sld (i := i + 3) hx hb hX hbl hG (by omega) (by omega) dL_law_335 ?_
    refine lv_if_eq (tgt := 343) hx hb dL_law_336 rfl (fun hh => absurd hh (hz)) (fun _ => ?_)
    refine lv_iconst (v := bI true) hx hb dL_law_339 (by decide) ?_
    refine lv_goto (tgt := 344) hx hb dL_law_340 rfl ?_
    refine j_callA (As := [.int (xs (i + 1)), .int (xs (i + 2)), .int (bI true)]) (rest := []) (fs := [.ref (ad 1), .ref (ad 2), .int af, .int cf]) h1 hx hb hml hown hts hN hG t_169 t_170 t_171 t_1 t_172 nm_X2_protect ⟨by decide, by decide⟩ fp_0 rfl hl.1 (Nat.le_of_ble_eq_true rfl) dL_law_344 ⟨by decide, by decide⟩ (fun H locs hG => ?_)
    refine W.eq (g2 := F0 m 347 ls [.int r]) rfl ?_
    refine lv_aload_n hx hb dL_law_347 rfl (lv_at hl 2 rfl) ?_
    refine lv_aload_n hx hb dL_law_348 rfl (lv_at hl 3 rfl) ?_
    refine lv_iload_n hx hb dL_law_349 rfl (lv_at hl 0 rfl) ?_
    refine lv_iconst (v := nI 1) hx hb dL_law_350 (by decide) ?_
    refine lv_iadd hx hb dL_law_351 ?_
    refine g_top (y := nI (i + 1)) (nI_add i 1) ?_
    refine g_sld (i := i + 1) hx hb hX hbl hG (by omega) (by omega) dL_law_352 ?_
    refine lv_aload_n hx hb dL_law_353 rfl (lv_at hl 3 rfl) ?_
    refine lv_iload_n hx hb dL_law_354 rfl (lv_at hl 0 rfl) ?_
    refine lv_iconst (v := nI 2) hx hb dL_law_355 (by decide) ?_
    refine lv_iadd hx hb dL_law_356 ?_
    refine g_top (y := nI (i + 2)) (nI_add i 2) ?_
    refine g_sld (i := i + 2) hx hb hX hbl hG (by omega) (by omega) dL_law_357 ?_
    refine lv_aload_n hx hb dL_law_358 rfl (lv_at hl 3 rfl) ?_
    refine lv_iload_n hx hb dL_law_359 rfl (lv_at hl 0 rfl) ?_
    refine lv_iconst (v := nI 3) hx hb dL_law_360 (by decide) ?_
    refine lv_iadd hx hb dL_law_361 ?_
    refine g_top (y := nI (i + 3)) (nI_add i 3) ?_
    refine g_sld (i := i + 3) hx hb hX hbl hG (by omega) (by omega) dL_law_362 ?_
    refine lv_if_eq (tgt := 370) hx hb dL_law_363 rfl (fun hh => absurd hh (hz)) (fun _ => ?_)
    refine lv_iconst (v := bI true) hx hb dL_law_366 (by decide) ?_
    refine lv_goto (tgt := 371) hx hb dL_law_367 rfl ?_
    refine j_callB (As := [.int (xs (i + 1)), .int (xs (i + 2)), .int (bI true)]) (rest := [.int r]) (fs := [.ref (bd 1), .ref (bd 2), .ref (bd 3), .ref (bd 4), .ref (bd 5), .ref (bd 6), .int af, .int cf]) h2 hx hb hml hown hts hN hG t_332 t_333 t_334 t_4 t_335 nm_X3_protect ⟨by decide, by decide⟩ rf_0 rfl hl.1 (Nat.le_of_ble_eq_true rfl) dL_law_371 ⟨by decide, by decide⟩ (fun H locs hG => ?_)
    refine W.eq (g2 := F0 m 374 ls [.int r, .int r]) rfl ?_
    refine lv_icmp_eq (tgt := 686) hx hb dL_law_374 rfl (fun _ => ?_) (fun hh => absurd (rfl) hh)
    exact kk _ _ _ _ _ _ _ _ _ _ _ _ _ _ _ hI2 hG
set_option maxHeartbeats 4000000 in
set_option maxRecDepth 100000 in
theorem lo_write (C0 : lw_At p s m meth c b L xs) (hL : L ≤ 2560) (hi : i + 5 ≤ L) (hI : Iv run mp fr kd wd ct fm cm wr mk wo) (hG : gG D cls (fpT cI cQ cZ) (fun q => s.heap.size ≤ q) s (fpW ad cI cQ run mp fr kd wd ct af cf ++ rfW bd cI cZ run fm cm wr mk wo af cf) H locs) (hl : lv_has ls 4 [(3, .int (nI i)), (1, .ref (ad 0)), (2, .ref (bd 0)), (0, .ref b)]) (kk : ∀ (H : Heap) (locs : List Loc) (run : Nat → Bool) (mp : Nat → Nat → Bool) (fr : Nat → Nat → Nat) (kd : Nat → Nat → Int32) (wd ct : Nat → Int32) (af cf : Int32) (fm : Nat → Nat) (cm wr mk : Nat → Bool) (wo : Nat → Int32), Iv run mp fr kd wd ct fm cm wr mk wo → gG D cls (fpT cI cQ cZ) (fun q => s.heap.size ≤ q) s (fpW ad cI cQ run mp fr kd wd ct af cf ++ rfW bd cI cZ run fm cm wr mk wo af cf) H locs → W p l e room_1 s m #[Value.ref b] below meth c H locs 600000 7302250 (lw_Z below #[Value.ref b] s) (F0 m 686 ls [])) : W p l e room_1 s m #[Value.ref b] below meth c H locs 600000 7302250 (lw_Z below #[Value.ref b] s) (F0 m 379 ls []) := by
  obtain ⟨hx, hb, hr0, hml, hown, hts0, hX, hbl, hlk, hgv⟩ := C0
  have hown : s.vm.findClass RL = some m.cls := hown
  have hts : ∀ w ∈ gT, w.before #[Value.ref b] s = true := fun w h => hts0 w (List.mem_filter.mp h).1
  have hN : gN s := gN_of hts0
  obtain ⟨r, run', mp', fr', kd', wd', ct', af', cf', fm', cm', wr', mk', wo', h1, h2, hI2⟩ := op_write (l := l) (D := D) (ad := ad) (bd := bd) (cI := cI) (cQ := cQ) (cZ := cZ) (af := af) (cf := cf) hI (xs (i + 1)) (xs (i + 2)) (xs (i + 3))
  refine lv_aload_n hx hb dL_law_379 rfl (lv_at hl 1 rfl) ?_
  refine lv_aload_n hx hb dL_law_380 rfl (lv_at hl 3 rfl) ?_
  refine lv_iload_n hx hb dL_law_381 rfl (lv_at hl 0 rfl) ?_
  refine lv_iconst (v := nI 1) hx hb dL_law_382 (by decide) ?_
  refine lv_iadd hx hb dL_law_383 ?_
  refine g_top (y := nI (i + 1)) (nI_add i 1) ?_
  refine g_sld (i := i + 1) hx hb hX hbl hG (by omega) (by omega) dL_law_384 ?_
  refine lv_aload_n hx hb dL_law_385 rfl (lv_at hl 3 rfl) ?_
  refine lv_iload_n hx hb dL_law_386 rfl (lv_at hl 0 rfl) ?_
  refine lv_iconst (v := nI 2) hx hb dL_law_387 (by decide) ?_
  refine lv_iadd hx hb dL_law_388 ?_
  refine g_top (y := nI (i + 2)) (nI_add i 2) ?_
  refine g_sld (i := i + 2) hx hb hX hbl hG (by omega) (by omega) dL_law_389 ?_
  refine lv_aload_n hx hb dL_law_390 rfl (lv_at hl 3 rfl) ?_
  refine lv_iload_n hx hb dL_law_391 rfl (lv_at hl 0 rfl) ?_
  refine lv_iconst (v := nI 3) hx hb dL_law_392 (by decide) ?_
  refine lv_iadd hx hb dL_law_393 ?_
  refine g_top (y := nI (i + 3)) (nI_add i 3) ?_
  refine g_sld (i := i + 3) hx hb hX hbl hG (by omega) (by omega) dL_law_394 ?_
  refine j_callA (As := [.int (xs (i + 1)), .int (xs (i + 2)), .int (xs (i + 3))]) (rest := []) (fs := [.ref (ad 1), .ref (ad 2), .int af, .int cf]) h1 hx hb hml hown hts hN hG t_173 t_174 t_175 t_1 t_176 nm_X2_write ⟨by decide, by decide⟩ fp_0 rfl hl.1 (Nat.le_of_ble_eq_true rfl) dL_law_395 ⟨by decide, by decide⟩ (fun H locs hG => ?_)
  refine W.eq (g2 := F0 m 398 ls [.int r]) rfl ?_
  refine lv_aload_n hx hb dL_law_398 rfl (lv_at hl 2 rfl) ?_
  refine lv_aload_n hx hb dL_law_399 rfl (lv_at hl 3 rfl) ?_
  refine lv_iload_n hx hb dL_law_400 rfl (lv_at hl 0 rfl) ?_
  refine lv_iconst (v := nI 1) hx hb dL_law_401 (by decide) ?_
  refine lv_iadd hx hb dL_law_402 ?_
  refine g_top (y := nI (i + 1)) (nI_add i 1) ?_
  refine g_sld (i := i + 1) hx hb hX hbl hG (by omega) (by omega) dL_law_403 ?_
  refine lv_aload_n hx hb dL_law_404 rfl (lv_at hl 3 rfl) ?_
  refine lv_iload_n hx hb dL_law_405 rfl (lv_at hl 0 rfl) ?_
  refine lv_iconst (v := nI 2) hx hb dL_law_406 (by decide) ?_
  refine lv_iadd hx hb dL_law_407 ?_
  refine g_top (y := nI (i + 2)) (nI_add i 2) ?_
  refine g_sld (i := i + 2) hx hb hX hbl hG (by omega) (by omega) dL_law_408 ?_
  refine lv_aload_n hx hb dL_law_409 rfl (lv_at hl 3 rfl) ?_
  refine lv_iload_n hx hb dL_law_410 rfl (lv_at hl 0 rfl) ?_
  refine lv_iconst (v := nI 3) hx hb dL_law_411 (by decide) ?_
  refine lv_iadd hx hb dL_law_412 ?_
  refine g_top (y := nI (i + 3)) (nI_add i 3) ?_
  refine g_sld (i := i + 3) hx hb hX hbl hG (by omega) (by omega) dL_law_413 ?_
  refine j_callB (As := [.int (xs (i + 1)), .int (xs (i + 2)), .int (xs (i + 3))]) (rest := [.int r]) (fs := [.ref (bd 1), .ref (bd 2), .ref (bd 3), .ref (bd 4), .ref (bd 5), .ref (bd 6), .int af, .int cf]) h2 hx hb hml hown hts hN hG t_336 t_337 t_338 t_4 t_339 nm_X3_write ⟨by decide, by decide⟩ rf_0 rfl hl.1 (Nat.le_of_ble_eq_true rfl) dL_law_414 ⟨by decide, by decide⟩ (fun H locs hG => ?_)
  refine W.eq (g2 := F0 m 417 ls [.int r, .int r]) rfl ?_
  refine lv_icmp_eq (tgt := 686) hx hb dL_law_417 rfl (fun _ => ?_) (fun hh => absurd (rfl) hh)
  exact kk _ _ _ _ _ _ _ _ _ _ _ _ _ _ _ hI2 hG
set_option maxHeartbeats 4000000 in
set_option maxRecDepth 100000 in
theorem lo_read (C0 : lw_At p s m meth c b L xs) (hL : L ≤ 2560) (hi : i + 5 ≤ L) (hI : Iv run mp fr kd wd ct fm cm wr mk wo) (hG : gG D cls (fpT cI cQ cZ) (fun q => s.heap.size ≤ q) s (fpW ad cI cQ run mp fr kd wd ct af cf ++ rfW bd cI cZ run fm cm wr mk wo af cf) H locs) (hl : lv_has ls 4 [(3, .int (nI i)), (1, .ref (ad 0)), (2, .ref (bd 0)), (0, .ref b)]) (kk : ∀ (H : Heap) (locs : List Loc) (run : Nat → Bool) (mp : Nat → Nat → Bool) (fr : Nat → Nat → Nat) (kd : Nat → Nat → Int32) (wd ct : Nat → Int32) (af cf : Int32) (fm : Nat → Nat) (cm wr mk : Nat → Bool) (wo : Nat → Int32), Iv run mp fr kd wd ct fm cm wr mk wo → gG D cls (fpT cI cQ cZ) (fun q => s.heap.size ≤ q) s (fpW ad cI cQ run mp fr kd wd ct af cf ++ rfW bd cI cZ run fm cm wr mk wo af cf) H locs → W p l e room_1 s m #[Value.ref b] below meth c H locs 600000 7302250 (lw_Z below #[Value.ref b] s) (F0 m 686 ls [])) : W p l e room_1 s m #[Value.ref b] below meth c H locs 600000 7302250 (lw_Z below #[Value.ref b] s) (F0 m 422 ls []) := by
  obtain ⟨hx, hb, hr0, hml, hown, hts0, hX, hbl, hlk, hgv⟩ := C0
  have hown : s.vm.findClass RL = some m.cls := hown
  have hts : ∀ w ∈ gT, w.before #[Value.ref b] s = true := fun w h => hts0 w (List.mem_filter.mp h).1
  have hN : gN s := gN_of hts0
  obtain ⟨r, run', mp', fr', kd', wd', ct', af', cf', fm', cm', wr', mk', wo', h1, h2, hI2⟩ := op_read (l := l) (D := D) (ad := ad) (bd := bd) (cI := cI) (cQ := cQ) (cZ := cZ) (af := af) (cf := cf) hI (xs (i + 1)) (xs (i + 2))
  refine lv_aload_n hx hb dL_law_422 rfl (lv_at hl 1 rfl) ?_
  refine lv_aload_n hx hb dL_law_423 rfl (lv_at hl 3 rfl) ?_
  refine lv_iload_n hx hb dL_law_424 rfl (lv_at hl 0 rfl) ?_
  refine lv_iconst (v := nI 1) hx hb dL_law_425 (by decide) ?_
  refine lv_iadd hx hb dL_law_426 ?_
  refine g_top (y := nI (i + 1)) (nI_add i 1) ?_
  refine g_sld (i := i + 1) hx hb hX hbl hG (by omega) (by omega) dL_law_427 ?_
  refine lv_aload_n hx hb dL_law_428 rfl (lv_at hl 3 rfl) ?_
  refine lv_iload_n hx hb dL_law_429 rfl (lv_at hl 0 rfl) ?_
  refine lv_iconst (v := nI 2) hx hb dL_law_430 (by decide) ?_
  refine lv_iadd hx hb dL_law_431 ?_
  refine g_top (y := nI (i + 2)) (nI_add i 2) ?_
  refine g_sld (i := i + 2) hx hb hX hbl hG (by omega) (by omega) dL_law_432 ?_
  refine j_callA (As := [.int (xs (i + 1)), .int (xs (i + 2))]) (rest := []) (fs := [.ref (ad 1), .ref (ad 2), .int af, .int cf]) h1 hx hb hml hown hts hN hG t_189 t_190 t_191 t_1 t_192 nm_X2_read ⟨by decide, by decide⟩ fp_0 rfl hl.1 (Nat.le_of_ble_eq_true rfl) dL_law_433 ⟨by decide, by decide⟩ (fun H locs hG => ?_)
  refine W.eq (g2 := F0 m 436 ls [.long r]) rfl ?_
  refine lv_aload_n hx hb dL_law_436 rfl (lv_at hl 2 rfl) ?_
  refine lv_aload_n hx hb dL_law_437 rfl (lv_at hl 3 rfl) ?_
  refine lv_iload_n hx hb dL_law_438 rfl (lv_at hl 0 rfl) ?_
  refine lv_iconst (v := nI 1) hx hb dL_law_439 (by decide) ?_
  refine lv_iadd hx hb dL_law_440 ?_
  refine g_top (y := nI (i + 1)) (nI_add i 1) ?_
  refine g_sld (i := i + 1) hx hb hX hbl hG (by omega) (by omega) dL_law_441 ?_
  refine lv_aload_n hx hb dL_law_442 rfl (lv_at hl 3 rfl) ?_
  refine lv_iload_n hx hb dL_law_443 rfl (lv_at hl 0 rfl) ?_
  refine lv_iconst (v := nI 2) hx hb dL_law_444 (by decide) ?_
  refine lv_iadd hx hb dL_law_445 ?_
  refine g_top (y := nI (i + 2)) (nI_add i 2) ?_
  refine g_sld (i := i + 2) hx hb hX hbl hG (by omega) (by omega) dL_law_446 ?_
  refine j_callB (As := [.int (xs (i + 1)), .int (xs (i + 2))]) (rest := [.long r]) (fs := [.ref (bd 1), .ref (bd 2), .ref (bd 3), .ref (bd 4), .ref (bd 5), .ref (bd 6), .int af, .int cf]) h2 hx hb hml hown hts hN hG t_343 t_344 t_345 t_4 t_346 nm_X3_read ⟨by decide, by decide⟩ rf_0 rfl hl.1 (Nat.le_of_ble_eq_true rfl) dL_law_447 ⟨by decide, by decide⟩ (fun H locs hG => ?_)
  refine W.eq (g2 := F0 m 450 ls [.long r, .long r]) rfl ?_
  refine W.lcmp hx hb dL_law_450 ?_
  refine lv_if_eq (tgt := 686) hx hb dL_law_451 rfl (fun _ => ?_) (fun hh => absurd ((lg_cmp_eq _ _).mpr rfl) hh)
  exact kk _ _ _ _ _ _ _ _ _ _ _ _ _ _ _ hI2 hG
set_option maxHeartbeats 4000000 in
set_option maxRecDepth 100000 in
theorem lo_free (C0 : lw_At p s m meth c b L xs) (hL : L ≤ 2560) (hi : i + 5 ≤ L) (hI : Iv run mp fr kd wd ct fm cm wr mk wo) (hG : gG D cls (fpT cI cQ cZ) (fun q => s.heap.size ≤ q) s (fpW ad cI cQ run mp fr kd wd ct af cf ++ rfW bd cI cZ run fm cm wr mk wo af cf) H locs) (hl : lv_has ls 4 [(3, .int (nI i)), (1, .ref (ad 0)), (2, .ref (bd 0)), (0, .ref b)]) (kk : ∀ (H : Heap) (locs : List Loc) (run : Nat → Bool) (mp : Nat → Nat → Bool) (fr : Nat → Nat → Nat) (kd : Nat → Nat → Int32) (wd ct : Nat → Int32) (af cf : Int32) (fm : Nat → Nat) (cm wr mk : Nat → Bool) (wo : Nat → Int32), Iv run mp fr kd wd ct fm cm wr mk wo → gG D cls (fpT cI cQ cZ) (fun q => s.heap.size ≤ q) s (fpW ad cI cQ run mp fr kd wd ct af cf ++ rfW bd cI cZ run fm cm wr mk wo af cf) H locs → W p l e room_1 s m #[Value.ref b] below meth c H locs 600000 7302250 (lw_Z below #[Value.ref b] s) (F0 m 686 ls [])) : W p l e room_1 s m #[Value.ref b] below meth c H locs 600000 7302250 (lw_Z below #[Value.ref b] s) (F0 m 456 ls []) := by
  obtain ⟨hx, hb, hr0, hml, hown, hts0, hX, hbl, hlk, hgv⟩ := C0
  have hown : s.vm.findClass RL = some m.cls := hown
  have hts : ∀ w ∈ gT, w.before #[Value.ref b] s = true := fun w h => hts0 w (List.mem_filter.mp h).1
  have hN : gN s := gN_of hts0
  obtain ⟨r, run', mp', fr', kd', wd', ct', af', cf', fm', cm', wr', mk', wo', h1, h2, hI2⟩ := op_free (l := l) (D := D) (ad := ad) (bd := bd) (cI := cI) (cQ := cQ) (cZ := cZ) (af := af) (cf := cf) hI 
  refine lv_aload_n hx hb dL_law_456 rfl (lv_at hl 1 rfl) ?_
  refine j_callA (As := []) (rest := []) (fs := [.ref (ad 1), .ref (ad 2), .int af, .int cf]) h1 hx hb hml hown hts hN hG t_194 t_195 t_196 t_1 t_197 nm_X2_free ⟨by decide, by decide⟩ fp_0 rfl hl.1 (Nat.le_of_ble_eq_true rfl) dL_law_457 ⟨by decide, by decide⟩ (fun H locs hG => ?_)
  refine W.eq (g2 := F0 m 460 ls [.int r]) rfl ?_
  refine lv_aload_n hx hb dL_law_460 rfl (lv_at hl 2 rfl) ?_
  refine j_callB (As := []) (rest := [.int r]) (fs := [.ref (bd 1), .ref (bd 2), .ref (bd 3), .ref (bd 4), .ref (bd 5), .ref (bd 6), .int af, .int cf]) h2 hx hb hml hown hts hN hG t_264 t_265 t_266 t_4 t_267 nm_X3_free ⟨by decide, by decide⟩ rf_0 rfl hl.1 (Nat.le_of_ble_eq_true rfl) dL_law_461 ⟨by decide, by decide⟩ (fun H locs hG => ?_)
  refine W.eq (g2 := F0 m 464 ls [.int r, .int r]) rfl ?_
  refine lv_icmp_eq (tgt := 686) hx hb dL_law_464 rfl (fun _ => ?_) (fun hh => absurd (rfl) hh)
  exact kk _ _ _ _ _ _ _ _ _ _ _ _ _ _ _ hI2 hG
set_option maxHeartbeats 4000000 in
set_option maxRecDepth 100000 in
theorem lo_tables (C0 : lw_At p s m meth c b L xs) (hL : L ≤ 2560) (hi : i + 5 ≤ L) (hI : Iv run mp fr kd wd ct fm cm wr mk wo) (hG : gG D cls (fpT cI cQ cZ) (fun q => s.heap.size ≤ q) s (fpW ad cI cQ run mp fr kd wd ct af cf ++ rfW bd cI cZ run fm cm wr mk wo af cf) H locs) (hl : lv_has ls 4 [(3, .int (nI i)), (1, .ref (ad 0)), (2, .ref (bd 0)), (0, .ref b)]) (kk : ∀ (H : Heap) (locs : List Loc) (run : Nat → Bool) (mp : Nat → Nat → Bool) (fr : Nat → Nat → Nat) (kd : Nat → Nat → Int32) (wd ct : Nat → Int32) (af cf : Int32) (fm : Nat → Nat) (cm wr mk : Nat → Bool) (wo : Nat → Int32), Iv run mp fr kd wd ct fm cm wr mk wo → gG D cls (fpT cI cQ cZ) (fun q => s.heap.size ≤ q) s (fpW ad cI cQ run mp fr kd wd ct af cf ++ rfW bd cI cZ run fm cm wr mk wo af cf) H locs → W p l e room_1 s m #[Value.ref b] below meth c H locs 600000 7302250 (lw_Z below #[Value.ref b] s) (F0 m 686 ls [])) : W p l e room_1 s m #[Value.ref b] below meth c H locs 600000 7302250 (lw_Z below #[Value.ref b] s) (F0 m 469 ls []) := by
  obtain ⟨hx, hb, hr0, hml, hown, hts0, hX, hbl, hlk, hgv⟩ := C0
  have hown : s.vm.findClass RL = some m.cls := hown
  have hts : ∀ w ∈ gT, w.before #[Value.ref b] s = true := fun w h => hts0 w (List.mem_filter.mp h).1
  have hN : gN s := gN_of hts0
  obtain ⟨r, run', mp', fr', kd', wd', ct', af', cf', fm', cm', wr', mk', wo', h1, h2, hI2⟩ := op_tables (l := l) (D := D) (ad := ad) (bd := bd) (cI := cI) (cQ := cQ) (cZ := cZ) (af := af) (cf := cf) hI (xs (i + 1))
  refine lv_aload_n hx hb dL_law_469 rfl (lv_at hl 1 rfl) ?_
  refine lv_aload_n hx hb dL_law_470 rfl (lv_at hl 3 rfl) ?_
  refine lv_iload_n hx hb dL_law_471 rfl (lv_at hl 0 rfl) ?_
  refine lv_iconst (v := nI 1) hx hb dL_law_472 (by decide) ?_
  refine lv_iadd hx hb dL_law_473 ?_
  refine g_top (y := nI (i + 1)) (nI_add i 1) ?_
  refine g_sld (i := i + 1) hx hb hX hbl hG (by omega) (by omega) dL_law_474 ?_
  refine j_callA (As := [.int (xs (i + 1))]) (rest := []) (fs := [.ref (ad 1), .ref (ad 2), .int af, .int cf]) h1 hx hb hml hown hts hN hG t_198 t_199 t_200 t_1 t_201 nm_X2_tables ⟨by decide, by decide⟩ fp_0 rfl hl.1 (Nat.le_of_ble_eq_true rfl) dL_law_475 ⟨by decide, by decide⟩ (fun H locs hG => ?_)
  refine W.eq (g2 := F0 m 478 ls [.int r]) rfl ?_
  refine lv_aload_n hx hb dL_law_478 rfl (lv_at hl 2 rfl) ?_
  refine lv_aload_n hx hb dL_law_479 rfl (lv_at hl 3 rfl) ?_
  refine lv_iload_n hx hb dL_law_480 rfl (lv_at hl 0 rfl) ?_
  refine lv_iconst (v := nI 1) hx hb dL_law_481 (by decide) ?_
  refine lv_iadd hx hb dL_law_482 ?_
  refine g_top (y := nI (i + 1)) (nI_add i 1) ?_
  refine g_sld (i := i + 1) hx hb hX hbl hG (by omega) (by omega) dL_law_483 ?_
  refine j_callB (As := [.int (xs (i + 1))]) (rest := [.int r]) (fs := [.ref (bd 1), .ref (bd 2), .ref (bd 3), .ref (bd 4), .ref (bd 5), .ref (bd 6), .int af, .int cf]) h2 hx hb hml hown hts hN hG t_348 t_349 t_350 t_4 t_351 nm_X3_tables ⟨by decide, by decide⟩ rf_0 rfl hl.1 (Nat.le_of_ble_eq_true rfl) dL_law_484 ⟨by decide, by decide⟩ (fun H locs hG => ?_)
  refine W.eq (g2 := F0 m 487 ls [.int r, .int r]) rfl ?_
  refine lv_icmp_eq (tgt := 686) hx hb dL_law_487 rfl (fun _ => ?_) (fun hh => absurd (rfl) hh)
  exact kk _ _ _ _ _ _ _ _ _ _ _ _ _ _ _ hI2 hG
set_option maxHeartbeats 4000000 in
set_option maxRecDepth 100000 in
theorem lo_pages (C0 : lw_At p s m meth c b L xs) (hL : L ≤ 2560) (hi : i + 5 ≤ L) (hI : Iv run mp fr kd wd ct fm cm wr mk wo) (hG : gG D cls (fpT cI cQ cZ) (fun q => s.heap.size ≤ q) s (fpW ad cI cQ run mp fr kd wd ct af cf ++ rfW bd cI cZ run fm cm wr mk wo af cf) H locs) (hl : lv_has ls 4 [(3, .int (nI i)), (1, .ref (ad 0)), (2, .ref (bd 0)), (0, .ref b)]) (kk : ∀ (H : Heap) (locs : List Loc) (run : Nat → Bool) (mp : Nat → Nat → Bool) (fr : Nat → Nat → Nat) (kd : Nat → Nat → Int32) (wd ct : Nat → Int32) (af cf : Int32) (fm : Nat → Nat) (cm wr mk : Nat → Bool) (wo : Nat → Int32), Iv run mp fr kd wd ct fm cm wr mk wo → gG D cls (fpT cI cQ cZ) (fun q => s.heap.size ≤ q) s (fpW ad cI cQ run mp fr kd wd ct af cf ++ rfW bd cI cZ run fm cm wr mk wo af cf) H locs → W p l e room_1 s m #[Value.ref b] below meth c H locs 600000 7302250 (lw_Z below #[Value.ref b] s) (F0 m 686 ls [])) : W p l e room_1 s m #[Value.ref b] below meth c H locs 600000 7302250 (lw_Z below #[Value.ref b] s) (F0 m 492 ls []) := by
  obtain ⟨hx, hb, hr0, hml, hown, hts0, hX, hbl, hlk, hgv⟩ := C0
  have hown : s.vm.findClass RL = some m.cls := hown
  have hts : ∀ w ∈ gT, w.before #[Value.ref b] s = true := fun w h => hts0 w (List.mem_filter.mp h).1
  have hN : gN s := gN_of hts0
  obtain ⟨r, run', mp', fr', kd', wd', ct', af', cf', fm', cm', wr', mk', wo', h1, h2, hI2⟩ := op_pages (l := l) (D := D) (ad := ad) (bd := bd) (cI := cI) (cQ := cQ) (cZ := cZ) (af := af) (cf := cf) hI (xs (i + 1))
  refine lv_aload_n hx hb dL_law_492 rfl (lv_at hl 1 rfl) ?_
  refine lv_aload_n hx hb dL_law_493 rfl (lv_at hl 3 rfl) ?_
  refine lv_iload_n hx hb dL_law_494 rfl (lv_at hl 0 rfl) ?_
  refine lv_iconst (v := nI 1) hx hb dL_law_495 (by decide) ?_
  refine lv_iadd hx hb dL_law_496 ?_
  refine g_top (y := nI (i + 1)) (nI_add i 1) ?_
  refine g_sld (i := i + 1) hx hb hX hbl hG (by omega) (by omega) dL_law_497 ?_
  refine j_callA (As := [.int (xs (i + 1))]) (rest := []) (fs := [.ref (ad 1), .ref (ad 2), .int af, .int cf]) h1 hx hb hml hown hts hN hG t_202 t_203 t_204 t_1 t_205 nm_X2_pages ⟨by decide, by decide⟩ fp_0 rfl hl.1 (Nat.le_of_ble_eq_true rfl) dL_law_498 ⟨by decide, by decide⟩ (fun H locs hG => ?_)
  refine W.eq (g2 := F0 m 501 ls [.int r]) rfl ?_
  refine lv_aload_n hx hb dL_law_501 rfl (lv_at hl 2 rfl) ?_
  refine lv_aload_n hx hb dL_law_502 rfl (lv_at hl 3 rfl) ?_
  refine lv_iload_n hx hb dL_law_503 rfl (lv_at hl 0 rfl) ?_
  refine lv_iconst (v := nI 1) hx hb dL_law_504 (by decide) ?_
  refine lv_iadd hx hb dL_law_505 ?_
  refine g_top (y := nI (i + 1)) (nI_add i 1) ?_
  refine g_sld (i := i + 1) hx hb hX hbl hG (by omega) (by omega) dL_law_506 ?_
  refine j_callB (As := [.int (xs (i + 1))]) (rest := [.int r]) (fs := [.ref (bd 1), .ref (bd 2), .ref (bd 3), .ref (bd 4), .ref (bd 5), .ref (bd 6), .int af, .int cf]) h2 hx hb hml hown hts hN hG t_352 t_353 t_354 t_4 t_355 nm_X3_pages ⟨by decide, by decide⟩ rf_0 rfl hl.1 (Nat.le_of_ble_eq_true rfl) dL_law_507 ⟨by decide, by decide⟩ (fun H locs hG => ?_)
  refine W.eq (g2 := F0 m 510 ls [.int r, .int r]) rfl ?_
  refine lv_icmp_eq (tgt := 686) hx hb dL_law_510 rfl (fun _ => ?_) (fun hh => absurd (rfl) hh)
  exact kk _ _ _ _ _ _ _ _ _ _ _ _ _ _ _ hI2 hG
set_option maxHeartbeats 4000000 in
set_option maxRecDepth 100000 in
theorem lo_count (C0 : lw_At p s m meth c b L xs) (hL : L ≤ 2560) (hi : i + 5 ≤ L) (hI : Iv run mp fr kd wd ct fm cm wr mk wo) (hG : gG D cls (fpT cI cQ cZ) (fun q => s.heap.size ≤ q) s (fpW ad cI cQ run mp fr kd wd ct af cf ++ rfW bd cI cZ run fm cm wr mk wo af cf) H locs) (hl : lv_has ls 4 [(3, .int (nI i)), (1, .ref (ad 0)), (2, .ref (bd 0)), (0, .ref b)]) (kk : ∀ (H : Heap) (locs : List Loc) (run : Nat → Bool) (mp : Nat → Nat → Bool) (fr : Nat → Nat → Nat) (kd : Nat → Nat → Int32) (wd ct : Nat → Int32) (af cf : Int32) (fm : Nat → Nat) (cm wr mk : Nat → Bool) (wo : Nat → Int32), Iv run mp fr kd wd ct fm cm wr mk wo → gG D cls (fpT cI cQ cZ) (fun q => s.heap.size ≤ q) s (fpW ad cI cQ run mp fr kd wd ct af cf ++ rfW bd cI cZ run fm cm wr mk wo af cf) H locs → W p l e room_1 s m #[Value.ref b] below meth c H locs 600000 7302250 (lw_Z below #[Value.ref b] s) (F0 m 686 ls [])) : W p l e room_1 s m #[Value.ref b] below meth c H locs 600000 7302250 (lw_Z below #[Value.ref b] s) (F0 m 515 ls []) := by
  obtain ⟨hx, hb, hr0, hml, hown, hts0, hX, hbl, hlk, hgv⟩ := C0
  have hown : s.vm.findClass RL = some m.cls := hown
  have hts : ∀ w ∈ gT, w.before #[Value.ref b] s = true := fun w h => hts0 w (List.mem_filter.mp h).1
  have hN : gN s := gN_of hts0
  obtain ⟨r, run', mp', fr', kd', wd', ct', af', cf', fm', cm', wr', mk', wo', h1, h2, hI2⟩ := op_count (l := l) (D := D) (ad := ad) (bd := bd) (cI := cI) (cQ := cQ) (cZ := cZ) (af := af) (cf := cf) hI (xs (i + 1)) (xs (i + 2))
  refine lv_aload_n hx hb dL_law_515 rfl (lv_at hl 1 rfl) ?_
  refine lv_aload_n hx hb dL_law_516 rfl (lv_at hl 3 rfl) ?_
  refine lv_iload_n hx hb dL_law_517 rfl (lv_at hl 0 rfl) ?_
  refine lv_iconst (v := nI 1) hx hb dL_law_518 (by decide) ?_
  refine lv_iadd hx hb dL_law_519 ?_
  refine g_top (y := nI (i + 1)) (nI_add i 1) ?_
  refine g_sld (i := i + 1) hx hb hX hbl hG (by omega) (by omega) dL_law_520 ?_
  refine lv_aload_n hx hb dL_law_521 rfl (lv_at hl 3 rfl) ?_
  refine lv_iload_n hx hb dL_law_522 rfl (lv_at hl 0 rfl) ?_
  refine lv_iconst (v := nI 2) hx hb dL_law_523 (by decide) ?_
  refine lv_iadd hx hb dL_law_524 ?_
  refine g_top (y := nI (i + 2)) (nI_add i 2) ?_
  refine g_sld (i := i + 2) hx hb hX hbl hG (by omega) (by omega) dL_law_525 ?_
  refine j_callA (As := [.int (xs (i + 1)), .int (xs (i + 2))]) (rest := []) (fs := [.ref (ad 1), .ref (ad 2), .int af, .int cf]) h1 hx hb hml hown hts hN hG t_212 t_213 t_214 t_1 t_215 nm_X2_count ⟨by decide, by decide⟩ fp_0 rfl hl.1 (Nat.le_of_ble_eq_true rfl) dL_law_526 ⟨by decide, by decide⟩ (fun H locs hG => ?_)
  refine W.eq (g2 := F0 m 529 ls [.int r]) rfl ?_
  refine lv_aload_n hx hb dL_law_529 rfl (lv_at hl 2 rfl) ?_
  refine lv_aload_n hx hb dL_law_530 rfl (lv_at hl 3 rfl) ?_
  refine lv_iload_n hx hb dL_law_531 rfl (lv_at hl 0 rfl) ?_
  refine lv_iconst (v := nI 1) hx hb dL_law_532 (by decide) ?_
  refine lv_iadd hx hb dL_law_533 ?_
  refine g_top (y := nI (i + 1)) (nI_add i 1) ?_
  refine g_sld (i := i + 1) hx hb hX hbl hG (by omega) (by omega) dL_law_534 ?_
  refine lv_aload_n hx hb dL_law_535 rfl (lv_at hl 3 rfl) ?_
  refine lv_iload_n hx hb dL_law_536 rfl (lv_at hl 0 rfl) ?_
  refine lv_iconst (v := nI 2) hx hb dL_law_537 (by decide) ?_
  refine lv_iadd hx hb dL_law_538 ?_
  refine g_top (y := nI (i + 2)) (nI_add i 2) ?_
  refine g_sld (i := i + 2) hx hb hX hbl hG (by omega) (by omega) dL_law_539 ?_
  refine j_callB (As := [.int (xs (i + 1)), .int (xs (i + 2))]) (rest := [.int r]) (fs := [.ref (bd 1), .ref (bd 2), .ref (bd 3), .ref (bd 4), .ref (bd 5), .ref (bd 6), .int af, .int cf]) h2 hx hb hml hown hts hN hG t_356 t_357 t_358 t_4 t_359 nm_X3_count ⟨by decide, by decide⟩ rf_0 rfl hl.1 (Nat.le_of_ble_eq_true rfl) dL_law_540 ⟨by decide, by decide⟩ (fun H locs hG => ?_)
  refine W.eq (g2 := F0 m 543 ls [.int r, .int r]) rfl ?_
  refine lv_icmp_eq (tgt := 686) hx hb dL_law_543 rfl (fun _ => ?_) (fun hh => absurd (rfl) hh)
  exact kk _ _ _ _ _ _ _ _ _ _ _ _ _ _ _ hI2 hG
set_option maxHeartbeats 4000000 in
set_option maxRecDepth 100000 in
theorem lo_mapping (C0 : lw_At p s m meth c b L xs) (hL : L ≤ 2560) (hi : i + 5 ≤ L) (hI : Iv run mp fr kd wd ct fm cm wr mk wo) (hG : gG D cls (fpT cI cQ cZ) (fun q => s.heap.size ≤ q) s (fpW ad cI cQ run mp fr kd wd ct af cf ++ rfW bd cI cZ run fm cm wr mk wo af cf) H locs) (hl : lv_has ls 4 [(3, .int (nI i)), (1, .ref (ad 0)), (2, .ref (bd 0)), (0, .ref b)]) (kk : ∀ (H : Heap) (locs : List Loc) (run : Nat → Bool) (mp : Nat → Nat → Bool) (fr : Nat → Nat → Nat) (kd : Nat → Nat → Int32) (wd ct : Nat → Int32) (af cf : Int32) (fm : Nat → Nat) (cm wr mk : Nat → Bool) (wo : Nat → Int32), Iv run mp fr kd wd ct fm cm wr mk wo → gG D cls (fpT cI cQ cZ) (fun q => s.heap.size ≤ q) s (fpW ad cI cQ run mp fr kd wd ct af cf ++ rfW bd cI cZ run fm cm wr mk wo af cf) H locs → W p l e room_1 s m #[Value.ref b] below meth c H locs 600000 7302250 (lw_Z below #[Value.ref b] s) (F0 m 686 ls [])) : W p l e room_1 s m #[Value.ref b] below meth c H locs 600000 7302250 (lw_Z below #[Value.ref b] s) (F0 m 548 ls []) := by
  obtain ⟨hx, hb, hr0, hml, hown, hts0, hX, hbl, hlk, hgv⟩ := C0
  have hown : s.vm.findClass RL = some m.cls := hown
  have hts : ∀ w ∈ gT, w.before #[Value.ref b] s = true := fun w h => hts0 w (List.mem_filter.mp h).1
  have hN : gN s := gN_of hts0
  obtain ⟨r, run', mp', fr', kd', wd', ct', af', cf', fm', cm', wr', mk', wo', h1, h2, hI2⟩ := op_mapping (l := l) (D := D) (ad := ad) (bd := bd) (cI := cI) (cQ := cQ) (cZ := cZ) (af := af) (cf := cf) hI (xs (i + 1)) (xs (i + 2))
  refine lv_aload_n hx hb dL_law_548 rfl (lv_at hl 1 rfl) ?_
  refine lv_aload_n hx hb dL_law_549 rfl (lv_at hl 3 rfl) ?_
  refine lv_iload_n hx hb dL_law_550 rfl (lv_at hl 0 rfl) ?_
  refine lv_iconst (v := nI 1) hx hb dL_law_551 (by decide) ?_
  refine lv_iadd hx hb dL_law_552 ?_
  refine g_top (y := nI (i + 1)) (nI_add i 1) ?_
  refine g_sld (i := i + 1) hx hb hX hbl hG (by omega) (by omega) dL_law_553 ?_
  refine lv_aload_n hx hb dL_law_554 rfl (lv_at hl 3 rfl) ?_
  refine lv_iload_n hx hb dL_law_555 rfl (lv_at hl 0 rfl) ?_
  refine lv_iconst (v := nI 2) hx hb dL_law_556 (by decide) ?_
  refine lv_iadd hx hb dL_law_557 ?_
  refine g_top (y := nI (i + 2)) (nI_add i 2) ?_
  refine g_sld (i := i + 2) hx hb hX hbl hG (by omega) (by omega) dL_law_558 ?_
  refine j_callA (As := [.int (xs (i + 1)), .int (xs (i + 2))]) (rest := []) (fs := [.ref (ad 1), .ref (ad 2), .int af, .int cf]) h1 hx hb hml hown hts hN hG t_216 t_217 t_218 t_1 t_219 nm_X2_mapping ⟨by decide, by decide⟩ fp_0 rfl hl.1 (Nat.le_of_ble_eq_true rfl) dL_law_559 ⟨by decide, by decide⟩ (fun H locs hG => ?_)
  refine W.eq (g2 := F0 m 562 ls [.int r]) rfl ?_
  refine lv_aload_n hx hb dL_law_562 rfl (lv_at hl 2 rfl) ?_
  refine lv_aload_n hx hb dL_law_563 rfl (lv_at hl 3 rfl) ?_
  refine lv_iload_n hx hb dL_law_564 rfl (lv_at hl 0 rfl) ?_
  refine lv_iconst (v := nI 1) hx hb dL_law_565 (by decide) ?_
  refine lv_iadd hx hb dL_law_566 ?_
  refine g_top (y := nI (i + 1)) (nI_add i 1) ?_
  refine g_sld (i := i + 1) hx hb hX hbl hG (by omega) (by omega) dL_law_567 ?_
  refine lv_aload_n hx hb dL_law_568 rfl (lv_at hl 3 rfl) ?_
  refine lv_iload_n hx hb dL_law_569 rfl (lv_at hl 0 rfl) ?_
  refine lv_iconst (v := nI 2) hx hb dL_law_570 (by decide) ?_
  refine lv_iadd hx hb dL_law_571 ?_
  refine g_top (y := nI (i + 2)) (nI_add i 2) ?_
  refine g_sld (i := i + 2) hx hb hX hbl hG (by omega) (by omega) dL_law_572 ?_
  refine j_callB (As := [.int (xs (i + 1)), .int (xs (i + 2))]) (rest := [.int r]) (fs := [.ref (bd 1), .ref (bd 2), .ref (bd 3), .ref (bd 4), .ref (bd 5), .ref (bd 6), .int af, .int cf]) h2 hx hb hml hown hts hN hG t_360 t_361 t_362 t_4 t_363 nm_X3_mapping ⟨by decide, by decide⟩ rf_0 rfl hl.1 (Nat.le_of_ble_eq_true rfl) dL_law_573 ⟨by decide, by decide⟩ (fun H locs hG => ?_)
  refine W.eq (g2 := F0 m 576 ls [.int r, .int r]) rfl ?_
  refine lv_icmp_eq (tgt := 686) hx hb dL_law_576 rfl (fun _ => ?_) (fun hh => absurd (rfl) hh)
  exact kk _ _ _ _ _ _ _ _ _ _ _ _ _ _ _ hI2 hG
set_option maxHeartbeats 4000000 in
set_option maxRecDepth 100000 in
theorem lo_twin (C0 : lw_At p s m meth c b L xs) (hL : L ≤ 2560) (hi : i + 5 ≤ L) (hI : Iv run mp fr kd wd ct fm cm wr mk wo) (hG : gG D cls (fpT cI cQ cZ) (fun q => s.heap.size ≤ q) s (fpW ad cI cQ run mp fr kd wd ct af cf ++ rfW bd cI cZ run fm cm wr mk wo af cf) H locs) (hl : lv_has ls 4 [(3, .int (nI i)), (1, .ref (ad 0)), (2, .ref (bd 0)), (0, .ref b)]) (kk : ∀ (H : Heap) (locs : List Loc) (run : Nat → Bool) (mp : Nat → Nat → Bool) (fr : Nat → Nat → Nat) (kd : Nat → Nat → Int32) (wd ct : Nat → Int32) (af cf : Int32) (fm : Nat → Nat) (cm wr mk : Nat → Bool) (wo : Nat → Int32), Iv run mp fr kd wd ct fm cm wr mk wo → gG D cls (fpT cI cQ cZ) (fun q => s.heap.size ≤ q) s (fpW ad cI cQ run mp fr kd wd ct af cf ++ rfW bd cI cZ run fm cm wr mk wo af cf) H locs → W p l e room_1 s m #[Value.ref b] below meth c H locs 600000 7302250 (lw_Z below #[Value.ref b] s) (F0 m 686 ls [])) : W p l e room_1 s m #[Value.ref b] below meth c H locs 600000 7302250 (lw_Z below #[Value.ref b] s) (F0 m 581 ls []) := by
  obtain ⟨hx, hb, hr0, hml, hown, hts0, hX, hbl, hlk, hgv⟩ := C0
  have hown : s.vm.findClass RL = some m.cls := hown
  have hts : ∀ w ∈ gT, w.before #[Value.ref b] s = true := fun w h => hts0 w (List.mem_filter.mp h).1
  have hN : gN s := gN_of hts0
  obtain ⟨r, run', mp', fr', kd', wd', ct', af', cf', fm', cm', wr', mk', wo', h1, h2, hI2⟩ := op_twin (l := l) (D := D) (ad := ad) (bd := bd) (cI := cI) (cQ := cQ) (cZ := cZ) (af := af) (cf := cf) hI (xs (i + 1)) (xs (i + 2)) (xs (i + 3)) (xs (i + 4))
  refine lv_aload_n hx hb dL_law_581 rfl (lv_at hl 1 rfl) ?_
  refine lv_aload_n hx hb dL_law_582 rfl (lv_at hl 3 rfl) ?_
  refine lv_iload_n hx hb dL_law_583 rfl (lv_at hl 0 rfl) ?_
  refine lv_iconst (v := nI 1) hx hb dL_law_584 (by decide) ?_
  refine lv_iadd hx hb dL_law_585 ?_
  refine g_top (y := nI (i + 1)) (nI_add i 1) ?_
  refine g_sld (i := i + 1) hx hb hX hbl hG (by omega) (by omega) dL_law_586 ?_
  refine lv_aload_n hx hb dL_law_587 rfl (lv_at hl 3 rfl) ?_
  refine lv_iload_n hx hb dL_law_588 rfl (lv_at hl 0 rfl) ?_
  refine lv_iconst (v := nI 2) hx hb dL_law_589 (by decide) ?_
  refine lv_iadd hx hb dL_law_590 ?_
  refine g_top (y := nI (i + 2)) (nI_add i 2) ?_
  refine g_sld (i := i + 2) hx hb hX hbl hG (by omega) (by omega) dL_law_591 ?_
  refine lv_aload_n hx hb dL_law_592 rfl (lv_at hl 3 rfl) ?_
  refine lv_iload_n hx hb dL_law_593 rfl (lv_at hl 0 rfl) ?_
  refine lv_iconst (v := nI 3) hx hb dL_law_594 (by decide) ?_
  refine lv_iadd hx hb dL_law_595 ?_
  refine g_top (y := nI (i + 3)) (nI_add i 3) ?_
  refine g_sld (i := i + 3) hx hb hX hbl hG (by omega) (by omega) dL_law_596 ?_
  refine lv_aload_n hx hb dL_law_597 rfl (lv_at hl 3 rfl) ?_
  refine lv_iload_n hx hb dL_law_598 rfl (lv_at hl 0 rfl) ?_
  refine lv_iconst (v := nI 4) hx hb dL_law_599 (by decide) ?_
  refine lv_iadd hx hb dL_law_600 ?_
  refine g_top (y := nI (i + 4)) (nI_add i 4) ?_
  refine g_sld (i := i + 4) hx hb hX hbl hG (by omega) (by omega) dL_law_601 ?_
  refine j_callA (As := [.int (xs (i + 1)), .int (xs (i + 2)), .int (xs (i + 3)), .int (xs (i + 4))]) (rest := []) (fs := [.ref (ad 1), .ref (ad 2), .int af, .int cf]) h1 hx hb hml hown hts hN hG t_220 t_221 t_222 t_1 t_223 nm_X2_twin ⟨by decide, by decide⟩ fp_0 rfl hl.1 (Nat.le_of_ble_eq_true rfl) dL_law_602 ⟨by decide, by decide⟩ (fun H locs hG => ?_)
  refine W.eq (g2 := F0 m 605 ls [.int r]) rfl ?_
  refine lv_aload_n hx hb dL_law_605 rfl (lv_at hl 2 rfl) ?_
  refine lv_aload_n hx hb dL_law_606 rfl (lv_at hl 3 rfl) ?_
  refine lv_iload_n hx hb dL_law_607 rfl (lv_at hl 0 rfl) ?_
  refine lv_iconst (v := nI 1) hx hb dL_law_608 (by decide) ?_
  refine lv_iadd hx hb dL_law_609 ?_
  refine g_top (y := nI (i + 1)) (nI_add i 1) ?_
  refine g_sld (i := i + 1) hx hb hX hbl hG (by omega) (by omega) dL_law_610 ?_
  refine lv_aload_n hx hb dL_law_611 rfl (lv_at hl 3 rfl) ?_
  refine lv_iload_n hx hb dL_law_612 rfl (lv_at hl 0 rfl) ?_
  refine lv_iconst (v := nI 2) hx hb dL_law_613 (by decide) ?_
  refine lv_iadd hx hb dL_law_614 ?_
  refine g_top (y := nI (i + 2)) (nI_add i 2) ?_
  refine g_sld (i := i + 2) hx hb hX hbl hG (by omega) (by omega) dL_law_615 ?_
  refine lv_aload_n hx hb dL_law_616 rfl (lv_at hl 3 rfl) ?_
  refine lv_iload_n hx hb dL_law_617 rfl (lv_at hl 0 rfl) ?_
  refine lv_iconst (v := nI 3) hx hb dL_law_618 (by decide) ?_
  refine lv_iadd hx hb dL_law_619 ?_
  refine g_top (y := nI (i + 3)) (nI_add i 3) ?_
  refine g_sld (i := i + 3) hx hb hX hbl hG (by omega) (by omega) dL_law_620 ?_
  refine lv_aload_n hx hb dL_law_621 rfl (lv_at hl 3 rfl) ?_
  refine lv_iload_n hx hb dL_law_622 rfl (lv_at hl 0 rfl) ?_
  refine lv_iconst (v := nI 4) hx hb dL_law_623 (by decide) ?_
  refine lv_iadd hx hb dL_law_624 ?_
  refine g_top (y := nI (i + 4)) (nI_add i 4) ?_
  refine g_sld (i := i + 4) hx hb hX hbl hG (by omega) (by omega) dL_law_625 ?_
  refine j_callB (As := [.int (xs (i + 1)), .int (xs (i + 2)), .int (xs (i + 3)), .int (xs (i + 4))]) (rest := [.int r]) (fs := [.ref (bd 1), .ref (bd 2), .ref (bd 3), .ref (bd 4), .ref (bd 5), .ref (bd 6), .int af, .int cf]) h2 hx hb hml hown hts hN hG t_364 t_365 t_366 t_4 t_367 nm_X3_twin ⟨by decide, by decide⟩ rf_0 rfl hl.1 (Nat.le_of_ble_eq_true rfl) dL_law_626 ⟨by decide, by decide⟩ (fun H locs hG => ?_)
  refine W.eq (g2 := F0 m 629 ls [.int r, .int r]) rfl ?_
  refine lv_icmp_eq (tgt := 686) hx hb dL_law_629 rfl (fun _ => ?_) (fun hh => absurd (rfl) hh)
  exact kk _ _ _ _ _ _ _ _ _ _ _ _ _ _ _ hI2 hG
set_option maxHeartbeats 4000000 in
set_option maxRecDepth 100000 in
theorem lo_running (C0 : lw_At p s m meth c b L xs) (hL : L ≤ 2560) (hi : i + 5 ≤ L) (hI : Iv run mp fr kd wd ct fm cm wr mk wo) (hG : gG D cls (fpT cI cQ cZ) (fun q => s.heap.size ≤ q) s (fpW ad cI cQ run mp fr kd wd ct af cf ++ rfW bd cI cZ run fm cm wr mk wo af cf) H locs) (hl : lv_has ls 4 [(3, .int (nI i)), (1, .ref (ad 0)), (2, .ref (bd 0)), (0, .ref b)]) (kk : ∀ (H : Heap) (locs : List Loc) (run : Nat → Bool) (mp : Nat → Nat → Bool) (fr : Nat → Nat → Nat) (kd : Nat → Nat → Int32) (wd ct : Nat → Int32) (af cf : Int32) (fm : Nat → Nat) (cm wr mk : Nat → Bool) (wo : Nat → Int32), Iv run mp fr kd wd ct fm cm wr mk wo → gG D cls (fpT cI cQ cZ) (fun q => s.heap.size ≤ q) s (fpW ad cI cQ run mp fr kd wd ct af cf ++ rfW bd cI cZ run fm cm wr mk wo af cf) H locs → W p l e room_1 s m #[Value.ref b] below meth c H locs 600000 7302250 (lw_Z below #[Value.ref b] s) (F0 m 686 ls [])) : W p l e room_1 s m #[Value.ref b] below meth c H locs 600000 7302250 (lw_Z below #[Value.ref b] s) (F0 m 634 ls []) := by
  obtain ⟨hx, hb, hr0, hml, hown, hts0, hX, hbl, hlk, hgv⟩ := C0
  have hown : s.vm.findClass RL = some m.cls := hown
  have hts : ∀ w ∈ gT, w.before #[Value.ref b] s = true := fun w h => hts0 w (List.mem_filter.mp h).1
  have hN : gN s := gN_of hts0
  obtain ⟨r, run', mp', fr', kd', wd', ct', af', cf', fm', cm', wr', mk', wo', h1, h2, hI2⟩ := op_running (l := l) (D := D) (ad := ad) (bd := bd) (cI := cI) (cQ := cQ) (cZ := cZ) (af := af) (cf := cf) hI 
  refine lv_aload_n hx hb dL_law_634 rfl (lv_at hl 1 rfl) ?_
  refine j_callA (As := []) (rest := []) (fs := [.ref (ad 1), .ref (ad 2), .int af, .int cf]) h1 hx hb hml hown hts hN hG t_224 t_225 t_226 t_1 t_227 nm_X2_running ⟨by decide, by decide⟩ fp_0 rfl hl.1 (Nat.le_of_ble_eq_true rfl) dL_law_635 ⟨by decide, by decide⟩ (fun H locs hG => ?_)
  refine W.eq (g2 := F0 m 638 ls [.int r]) rfl ?_
  refine lv_aload_n hx hb dL_law_638 rfl (lv_at hl 2 rfl) ?_
  refine j_callB (As := []) (rest := [.int r]) (fs := [.ref (bd 1), .ref (bd 2), .ref (bd 3), .ref (bd 4), .ref (bd 5), .ref (bd 6), .int af, .int cf]) h2 hx hb hml hown hts hN hG t_368 t_369 t_370 t_4 t_371 nm_X3_running ⟨by decide, by decide⟩ rf_0 rfl hl.1 (Nat.le_of_ble_eq_true rfl) dL_law_639 ⟨by decide, by decide⟩ (fun H locs hG => ?_)
  refine W.eq (g2 := F0 m 642 ls [.int r, .int r]) rfl ?_
  refine lv_icmp_eq (tgt := 686) hx hb dL_law_642 rfl (fun _ => ?_) (fun hh => absurd (rfl) hh)
  exact kk _ _ _ _ _ _ _ _ _ _ _ _ _ _ _ hI2 hG
set_option maxHeartbeats 4000000 in
set_option maxRecDepth 100000 in
theorem lo_faults (C0 : lw_At p s m meth c b L xs) (hL : L ≤ 2560) (hi : i + 5 ≤ L) (hI : Iv run mp fr kd wd ct fm cm wr mk wo) (hG : gG D cls (fpT cI cQ cZ) (fun q => s.heap.size ≤ q) s (fpW ad cI cQ run mp fr kd wd ct af cf ++ rfW bd cI cZ run fm cm wr mk wo af cf) H locs) (hl : lv_has ls 4 [(3, .int (nI i)), (1, .ref (ad 0)), (2, .ref (bd 0)), (0, .ref b)]) (kk : ∀ (H : Heap) (locs : List Loc) (run : Nat → Bool) (mp : Nat → Nat → Bool) (fr : Nat → Nat → Nat) (kd : Nat → Nat → Int32) (wd ct : Nat → Int32) (af cf : Int32) (fm : Nat → Nat) (cm wr mk : Nat → Bool) (wo : Nat → Int32), Iv run mp fr kd wd ct fm cm wr mk wo → gG D cls (fpT cI cQ cZ) (fun q => s.heap.size ≤ q) s (fpW ad cI cQ run mp fr kd wd ct af cf ++ rfW bd cI cZ run fm cm wr mk wo af cf) H locs → W p l e room_1 s m #[Value.ref b] below meth c H locs 600000 7302250 (lw_Z below #[Value.ref b] s) (F0 m 686 ls [])) : W p l e room_1 s m #[Value.ref b] below meth c H locs 600000 7302250 (lw_Z below #[Value.ref b] s) (F0 m 647 ls []) := by
  obtain ⟨hx, hb, hr0, hml, hown, hts0, hX, hbl, hlk, hgv⟩ := C0
  have hown : s.vm.findClass RL = some m.cls := hown
  have hts : ∀ w ∈ gT, w.before #[Value.ref b] s = true := fun w h => hts0 w (List.mem_filter.mp h).1
  have hN : gN s := gN_of hts0
  by_cases hz : xs (i + 1) = 0
  · obtain ⟨r, run', mp', fr', kd', wd', ct', af', cf', fm', cm', wr', mk', wo', h1, h2, hI2⟩ := op_faults (l := l) (D := D) (ad := ad) (bd := bd) (cI := cI) (cQ := cQ) (cZ := cZ) (af := af) (cf := cf) hI 0
    refine lv_aload_n hx hb dL_law_647 rfl (lv_at hl 1 rfl) ?_
    refine lv_aload_n hx hb dL_law_648 rfl (lv_at hl 3 rfl) ?_
    refine lv_iload_n hx hb dL_law_649 rfl (lv_at hl 0 rfl) ?_
    refine lv_iconst (v := nI 1) hx hb dL_law_650 (by decide) ?_
    refine lv_iadd hx hb dL_law_651 ?_
    refine g_top (y := nI (i + 1)) (nI_add i 1) ?_
    refine g_sld (i := i + 1) hx hb hX hbl hG (by omega) (by omega) dL_law_652 ?_
    refine lv_if_eq (tgt := 660) hx hb dL_law_653 rfl (fun _ => ?_) (fun hh => absurd (hz) hh)
    refine lv_iconst (v := 0) hx hb dL_law_660 (by decide) ?_
    refine j_callA (As := [.int 0]) (rest := []) (fs := [.ref (ad 1), .ref (ad 2), .int af, .int cf]) h1 hx hb hml hown hts hN hG t_228 t_229 t_230 t_1 t_231 nm_X2_faults ⟨by decide, by decide⟩ fp_0 rfl hl.1 (Nat.le_of_ble_eq_true rfl) dL_law_661 ⟨by decide, by decide⟩ (fun H locs hG => ?_)
    refine W.eq (g2 := F0 m 664 ls [.int r]) rfl ?_
    refine lv_aload_n hx hb dL_law_664 rfl (lv_at hl 2 rfl) ?_
    refine lv_aload_n hx hb dL_law_665 rfl (lv_at hl 3 rfl) ?_
    refine lv_iload_n hx hb dL_law_666 rfl (lv_at hl 0 rfl) ?_
    refine lv_iconst (v := nI 1) hx hb dL_law_667 (by decide) ?_
    refine lv_iadd hx hb dL_law_668 ?_
    refine g_top (y := nI (i + 1)) (nI_add i 1) ?_
    refine g_sld (i := i + 1) hx hb hX hbl hG (by omega) (by omega) dL_law_669 ?_
    refine lv_if_eq (tgt := 677) hx hb dL_law_670 rfl (fun _ => ?_) (fun hh => absurd (hz) hh)
    refine lv_iconst (v := 0) hx hb dL_law_677 (by decide) ?_
    refine j_callB (As := [.int 0]) (rest := [.int r]) (fs := [.ref (bd 1), .ref (bd 2), .ref (bd 3), .ref (bd 4), .ref (bd 5), .ref (bd 6), .int af, .int cf]) h2 hx hb hml hown hts hN hG t_372 t_373 t_374 t_4 t_375 nm_X3_faults ⟨by decide, by decide⟩ rf_0 rfl hl.1 (Nat.le_of_ble_eq_true rfl) dL_law_678 ⟨by decide, by decide⟩ (fun H locs hG => ?_)
    refine W.eq (g2 := F0 m 681 ls [.int r, .int r]) rfl ?_
    refine lv_icmp_eq (tgt := 686) hx hb dL_law_681 rfl (fun _ => ?_) (fun hh => absurd (rfl) hh)
    exact kk _ _ _ _ _ _ _ _ _ _ _ _ _ _ _ hI2 hG
  · obtain ⟨r, run', mp', fr', kd', wd', ct', af', cf', fm', cm', wr', mk', wo', h1, h2, hI2⟩ := op_faults (l := l) (D := D) (ad := ad) (bd := bd) (cI := cI) (cQ := cQ) (cZ := cZ) (af := af) (cf := cf) hI 1
    refine lv_aload_n hx hb dL_law_647 rfl (lv_at hl 1 rfl) ?_
    refine lv_aload_n hx hb dL_law_648 rfl (lv_at hl 3 rfl) ?_
    refine lv_iload_n hx hb dL_law_649 rfl (lv_at hl 0 rfl) ?_
    refine lv_iconst (v := nI 1) hx hb dL_law_650 (by decide) ?_
    refine lv_iadd hx hb dL_law_651 ?_
    refine g_top (y := nI (i + 1)) (nI_add i 1) ?_
    refine g_sld (i := i + 1) hx hb hX hbl hG (by omega) (by omega) dL_law_652 ?_
    refine lv_if_eq (tgt := 660) hx hb dL_law_653 rfl (fun hh => absurd hh (hz)) (fun _ => ?_)
    refine lv_iconst (v := 1) hx hb dL_law_656 (by decide) ?_
    refine lv_goto (tgt := 661) hx hb dL_law_657 rfl ?_
    refine j_callA (As := [.int 1]) (rest := []) (fs := [.ref (ad 1), .ref (ad 2), .int af, .int cf]) h1 hx hb hml hown hts hN hG t_228 t_229 t_230 t_1 t_231 nm_X2_faults ⟨by decide, by decide⟩ fp_0 rfl hl.1 (Nat.le_of_ble_eq_true rfl) dL_law_661 ⟨by decide, by decide⟩ (fun H locs hG => ?_)
    refine W.eq (g2 := F0 m 664 ls [.int r]) rfl ?_
    refine lv_aload_n hx hb dL_law_664 rfl (lv_at hl 2 rfl) ?_
    refine lv_aload_n hx hb dL_law_665 rfl (lv_at hl 3 rfl) ?_
    refine lv_iload_n hx hb dL_law_666 rfl (lv_at hl 0 rfl) ?_
    refine lv_iconst (v := nI 1) hx hb dL_law_667 (by decide) ?_
    refine lv_iadd hx hb dL_law_668 ?_
    refine g_top (y := nI (i + 1)) (nI_add i 1) ?_
    refine g_sld (i := i + 1) hx hb hX hbl hG (by omega) (by omega) dL_law_669 ?_
    refine lv_if_eq (tgt := 677) hx hb dL_law_670 rfl (fun hh => absurd hh (hz)) (fun _ => ?_)
    refine lv_iconst (v := 1) hx hb dL_law_673 (by decide) ?_
    refine lv_goto (tgt := 678) hx hb dL_law_674 rfl ?_
    refine j_callB (As := [.int 1]) (rest := [.int r]) (fs := [.ref (bd 1), .ref (bd 2), .ref (bd 3), .ref (bd 4), .ref (bd 5), .ref (bd 6), .int af, .int cf]) h2 hx hb hml hown hts hN hG t_372 t_373 t_374 t_4 t_375 nm_X3_faults ⟨by decide, by decide⟩ rf_0 rfl hl.1 (Nat.le_of_ble_eq_true rfl) dL_law_678 ⟨by decide, by decide⟩ (fun H locs hG => ?_)
    refine W.eq (g2 := F0 m 681 ls [.int r, .int r]) rfl ?_
    refine lv_icmp_eq (tgt := 686) hx hb dL_law_681 rfl (fun _ => ?_) (fun hh => absurd (rfl) hh)
    exact kk _ _ _ _ _ _ _ _ _ _ _ _ _ _ _ hI2 hG
end CM
