section CM
variable {l : Launch} {D : va_G} {A : Nat → Prop} {ad : Nat → Nat} {cI cQ cZ : ClassId} {run : Nat → Bool} {mp : Nat → Nat → Bool} {fr : Nat → Nat → Nat} {kd : Nat → Nat → Int32} {wd ct : Nat → Int32} {af cf : Int32}
set_option maxHeartbeats 4000000 in
set_option maxRecDepth 100000 in
theorem fm_usedFrames  : gM l yX1_usedFrames cX1_usedFrames 3 (some .int) 0 0 D cls (fpT cI cQ cZ) A (fpW ad cI cQ run mp fr kd wd ct af cf) [.ref (ad 2)] (some (.int (nI (usN ct 24)))) (fpW ad cI cQ run mp fr kd wd ct af cf) := by
  refine gM_of (by decide) (Nat.le_of_ble_eq_true rfl) ?_
  intro p e s m args below meth c ls hx hb hml hown hts hN hr hlk hl hG
  have hown : s.vm.findClass RX1 = some m.cls := hown
  have hl : lv_has ls 3 [(0, .ref (ad 2))] := hl
  refine lv_iconst (v := nI 0) hx hb dX1_usedFrames_0 (by decide) ?_
  refine lv_istore_n (lv' := [(1, .int (nI 0)), (0, .ref (ad 2))]) hx hb dX1_usedFrames_1 rfl hl (by decide) rfl (fun ls hl => ?_)
  refine lv_iconst (v := nI 0) hx hb dX1_usedFrames_2 (by decide) ?_
  refine lv_istore_n (lv' := [(2, .int (nI 0)), (1, .int (nI 0)), (0, .ref (ad 2))]) hx hb dX1_usedFrames_3 rfl hl (by decide) rfl (fun ls hl => ?_)
  have loop : ∀ (n i : Nat) (ls : Array Slot), i + n = 24 → lv_has ls 3 [(2, .int (nI i)), (1, .int (nI (usN ct i))), (0, .ref (ad 2))] → W p l e (gR 0 0) s m args below meth c s.heap [] 0 0 (gQ below args s D cls (fpT cI cQ cZ) A (some (.int (nI (usN ct 24)))) (fpW ad cI cQ run mp fr kd wd ct af cf)) (F0 m 4 ls []) := by
    intro n
    induction n with
    | zero =>
      intro i ls hi hl
      obtain rfl : i = 24 := by omega
      refine lv_iload_n hx hb dX1_usedFrames_4 rfl (lv_at hl 0 rfl) ?_
      refine lv_bipush (v := nI 24) hx hb dX1_usedFrames_5 (by decide) ?_
      refine lv_icmp_ge (tgt := 28) hx hb dX1_usedFrames_7 rfl (fun _ => ?_) (fun hh => absurd (nI_le (Nat.le_refl 24) (by decide)) hh)
      refine lv_iload_n hx hb dX1_usedFrames_28 rfl (lv_at hl 1 rfl) ?_
      exact g_iret hx hb hr hlk hG dX1_usedFrames_29
    | succ n ih =>
      intro i ls hi hl
      have hi2 : i < 24 := by omega
      refine lv_iload_n hx hb dX1_usedFrames_4 rfl (lv_at hl 0 rfl) ?_
      refine lv_bipush (v := nI 24) hx hb dX1_usedFrames_5 (by decide) ?_
      refine lv_icmp_ge (tgt := 28) hx hb dX1_usedFrames_7 rfl (fun hh => absurd hh (nI_ge hi2 (by decide))) (fun _ => ?_)
      refine lv_aload_n hx hb dX1_usedFrames_10 rfl (lv_at hl 2 rfl) ?_
      refine g_get (k := 1) (v := .ref (ad 4)) (C := RX1) (ref := RX1) (fs := [.ref (ad 3), .ref (ad 4)]) hx hb hown hts hG gX1 rfl fp_2 (by decide) t_46 rfl rfl dX1_usedFrames_11 ?_
      refine lv_iload_n hx hb dX1_usedFrames_14 rfl (lv_at hl 0 rfl) ?_
      refine g_iald (i := i) (t0 := 0) hx hb hG fp_4 rfl (hi2) (by decide) dX1_usedFrames_15 ?_
      by_cases hc : 0 < ct i
      · have hu : usN ct (i + 1) = usN ct i + 1 := by simp [usN, hc]
        refine lv_if_le (tgt := 22) hx hb dX1_usedFrames_16 rfl (fun hh => absurd hh (Int32.not_le.mpr hc)) (fun _ => ?_)
        refine lv_iinc (k := 1) (v := nI (usN ct (i + 1))) (lv' := [(1, .int (nI (usN ct (i + 1)))), (2, .int (nI i)), (0, .ref (ad 2))]) hx hb dX1_usedFrames_19 hl rfl (by rw [hu]; exact nI_1 _) (by decide) rfl (fun ls hl => ?_)
        refine lv_iinc (k := 1) (v := nI (i + 1)) (lv' := [(2, .int (nI (i + 1))), (1, .int (nI (usN ct (i + 1)))), (0, .ref (ad 2))]) hx hb dX1_usedFrames_22 hl rfl (nI_1 i) (by decide) rfl (fun ls hl => ?_)
        refine lv_goto (tgt := 4) hx hb dX1_usedFrames_25 rfl ?_
        exact ih (i + 1) _ (by omega) (lv_sub hl [0, 1, 2] rfl)
      · have hu : usN ct (i + 1) = usN ct i := by simp [usN, hc]
        refine lv_if_le (tgt := 22) hx hb dX1_usedFrames_16 rfl (fun _ => ?_) (fun hh => absurd (Int32.not_lt.mp hc) hh)
        refine lv_iinc (k := 0) (v := nI (i + 1)) (lv' := [(2, .int (nI (i + 1))), (1, .int (nI (usN ct i))), (0, .ref (ad 2))]) hx hb dX1_usedFrames_22 hl rfl (nI_1 i) (by decide) rfl (fun ls hl => ?_)
        refine lv_goto (tgt := 4) hx hb dX1_usedFrames_25 rfl ?_
        exact ih (i + 1) _ (by omega) (by rw [hu]; exact lv_sub hl [0, 1, 2] rfl)
  exact loop 24 0 _ rfl (lv_sub hl [0, 1, 2] rfl)
set_option maxHeartbeats 4000000 in
set_option maxRecDepth 100000 in
theorem fm_unusedFrame  : gM l yX1_unusedFrame cX1_unusedFrame 3 (some .int) 0 0 D cls (fpT cI cQ cZ) A (fpW ad cI cQ run mp fr kd wd ct af cf) [.ref (ad 2)] (some (.int (nI (unF ct 24)))) (fpW ad cI cQ run mp fr kd wd ct af cf) := by
  refine gM_of (by decide) (Nat.le_of_ble_eq_true rfl) ?_
  intro p e s m args below meth c ls hx hb hml hown hts hN hr hlk hl hG
  have hown : s.vm.findClass RX1 = some m.cls := hown
  have hl : lv_has ls 3 [(0, .ref (ad 2))] := hl
  refine lv_iconst (v := nI 0) hx hb dX1_unusedFrame_0 (by decide) ?_
  refine lv_istore_n (lv' := [(1, .int (nI 0)), (0, .ref (ad 2))]) hx hb dX1_unusedFrame_1 rfl hl (by decide) rfl (fun ls hl => ?_)
  refine lv_iconst (v := nI 0) hx hb dX1_unusedFrame_2 (by decide) ?_
  refine lv_istore_n (lv' := [(2, .int (nI 0)), (1, .int (nI 0)), (0, .ref (ad 2))]) hx hb dX1_unusedFrame_3 rfl hl (by decide) rfl (fun ls hl => ?_)
  have loop : ∀ (n i : Nat) (ls : Array Slot), i + n = 24 → lv_has ls 3 [(2, .int (nI i)), (1, .int (nI (unF ct i))), (0, .ref (ad 2))] → W p l e (gR 0 0) s m args below meth c s.heap [] 0 0 (gQ below args s D cls (fpT cI cQ cZ) A (some (.int (nI (unF ct 24)))) (fpW ad cI cQ run mp fr kd wd ct af cf)) (F0 m 4 ls []) := by
    intro n
    induction n with
    | zero =>
      intro i ls hi hl
      obtain rfl : i = 24 := by omega
      refine lv_iload_n hx hb dX1_unusedFrame_4 rfl (lv_at hl 0 rfl) ?_
      refine lv_bipush (v := nI 24) hx hb dX1_unusedFrame_5 (by decide) ?_
      refine lv_icmp_ge (tgt := 27) hx hb dX1_unusedFrame_7 rfl (fun _ => ?_) (fun hh => absurd (nI_le (Nat.le_refl 24) (by decide)) hh)
      refine lv_iload_n hx hb dX1_unusedFrame_27 rfl (lv_at hl 1 rfl) ?_
      exact g_iret hx hb hr hlk hG dX1_unusedFrame_28
    | succ n ih =>
      intro i ls hi hl
      have hi2 : i < 24 := by omega
      refine lv_iload_n hx hb dX1_unusedFrame_4 rfl (lv_at hl 0 rfl) ?_
      refine lv_bipush (v := nI 24) hx hb dX1_unusedFrame_5 (by decide) ?_
      refine lv_icmp_ge (tgt := 27) hx hb dX1_unusedFrame_7 rfl (fun hh => absurd hh (nI_ge hi2 (by decide))) (fun _ => ?_)
      refine lv_aload_n hx hb dX1_unusedFrame_10 rfl (lv_at hl 2 rfl) ?_
      refine g_get (k := 1) (v := .ref (ad 4)) (C := RX1) (ref := RX1) (fs := [.ref (ad 3), .ref (ad 4)]) hx hb hown hts hG gX1 rfl fp_2 (by decide) t_46 rfl rfl dX1_unusedFrame_11 ?_
      refine lv_iload_n hx hb dX1_unusedFrame_14 rfl (lv_at hl 0 rfl) ?_
      refine g_iald (i := i) (t0 := 0) hx hb hG fp_4 rfl (hi2) (by decide) dX1_unusedFrame_15 ?_
      by_cases hc : ct i = 0
      · have hu : unF ct (i + 1) = i := by simp [unF, hc]
        refine lv_if_ne (tgt := 21) hx hb dX1_unusedFrame_16 rfl (fun hh => absurd (hc) hh) (fun _ => ?_)
        refine lv_iload_n hx hb dX1_unusedFrame_19 rfl (lv_at hl 0 rfl) ?_
        refine lv_istore_n (lv' := [(1, .int (nI i)), (2, .int (nI i)), (0, .ref (ad 2))]) hx hb dX1_unusedFrame_20 rfl hl (by decide) rfl (fun ls hl => ?_)
        refine lv_iinc (k := 1) (v := nI (i + 1)) (lv' := [(2, .int (nI (i + 1))), (1, .int (nI i)), (0, .ref (ad 2))]) hx hb dX1_unusedFrame_21 hl rfl (nI_1 i) (by decide) rfl (fun ls hl => ?_)
        refine lv_goto (tgt := 4) hx hb dX1_unusedFrame_24 rfl ?_
        exact ih (i + 1) _ (by omega) (by rw [hu]; exact lv_sub hl [0, 1, 2] rfl)
      · have hu : unF ct (i + 1) = unF ct i := by simp [unF, hc]
        refine lv_if_ne (tgt := 21) hx hb dX1_unusedFrame_16 rfl (fun _ => ?_) (fun hh => absurd hh (hc))
        refine lv_iinc (k := 0) (v := nI (i + 1)) (lv' := [(2, .int (nI (i + 1))), (1, .int (nI (unF ct i))), (0, .ref (ad 2))]) hx hb dX1_unusedFrame_21 hl rfl (nI_1 i) (by decide) rfl (fun ls hl => ?_)
        refine lv_goto (tgt := 4) hx hb dX1_unusedFrame_24 rfl ?_
        exact ih (i + 1) _ (by omega) (by rw [hu]; exact lv_sub hl [0, 1, 2] rfl)
  exact loop 24 0 _ rfl (lv_sub hl [0, 1, 2] rfl)
def blN (wd : Nat → Int32) (f w : Nat) : Nat → Int32 := fun i => if f * 4 ≤ i ∧ i < f * 4 + w then 0 else wd i
def blW (wd : Nat → Int32) (f : Nat) : Nat → Int32 := blN wd f 4
theorem blN_0 (wd : Nat → Int32) (f : Nat) : blN wd f 0 = wd := by
  funext i
  have h : ¬ (f * 4 ≤ i ∧ i < f * 4 + 0) := by omega
  simp only [blN, if_neg h]
theorem blN_s (wd : Nat → Int32) (f w : Nat) : upd (blN wd f w) (f * 4 + w) 0 = blN wd f (w + 1) := by
  funext i
  by_cases h : i = f * 4 + w
  · have h2 : f * 4 ≤ i ∧ i < f * 4 + (w + 1) := by omega
    simp only [upd, blN, if_pos h, if_pos h2]
  · by_cases h3 : f * 4 ≤ i ∧ i < f * 4 + w
    · have h2 : f * 4 ≤ i ∧ i < f * 4 + (w + 1) := by omega
      simp only [upd, blN, if_neg h, if_pos h3, if_pos h2]
    · have h2 : ¬ (f * 4 ≤ i ∧ i < f * 4 + (w + 1)) := by omega
      simp only [upd, blN, if_neg h, if_neg h3, if_neg h2]
def cpN (wd : Nat → Int32) (a b w : Nat) : Nat → Int32 := fun i => if b * 4 ≤ i ∧ i < b * 4 + w then wd (a * 4 + (i - b * 4)) else wd i
def cpW (wd : Nat → Int32) (a b : Nat) : Nat → Int32 := cpN wd a b 4
theorem cpN_0 (wd : Nat → Int32) (a b : Nat) : cpN wd a b 0 = wd := by
  funext i
  have h : ¬ (b * 4 ≤ i ∧ i < b * 4 + 0) := by omega
  simp only [cpN, if_neg h]
theorem cpN_r (wd : Nat → Int32) (a b w : Nat) (hw : w < 4) : cpN wd a b w (a * 4 + w) = wd (a * 4 + w) := by
  by_cases h : b * 4 ≤ a * 4 + w ∧ a * 4 + w < b * 4 + w
  · omega
  · simp only [cpN, if_neg h]
theorem cpN_s (wd : Nat → Int32) (a b w : Nat) (hw : w < 4) : upd (cpN wd a b w) (b * 4 + w) (cpN wd a b w (a * 4 + w)) = cpN wd a b (w + 1) := by
  rw [cpN_r wd a b w hw]
  funext i
  by_cases h : i = b * 4 + w
  · subst h
    have h2 : b * 4 ≤ b * 4 + w ∧ b * 4 + w < b * 4 + (w + 1) := by omega
    have h3 : b * 4 + w - b * 4 = w := by omega
    simp only [upd, cpN, if_pos h2, h3, if_pos]
  · by_cases h3 : b * 4 ≤ i ∧ i < b * 4 + w
    · have h2 : b * 4 ≤ i ∧ i < b * 4 + (w + 1) := by omega
      simp only [upd, cpN, if_neg h, if_pos h3, if_pos h2]
    · have h2 : ¬ (b * 4 ≤ i ∧ i < b * 4 + (w + 1)) := by omega
      simp only [upd, cpN, if_neg h, if_neg h3, if_neg h2]
set_option maxHeartbeats 4000000 in
set_option maxRecDepth 100000 in
theorem fm_blank {f : Nat} (hf : f < 24) : gM l yX1_blank cX1_blank 3 none 0 0 D cls (fpT cI cQ cZ) A (fpW ad cI cQ run mp fr kd wd ct af cf) [.ref (ad 2), .int (nI f)] none (fpW ad cI cQ run mp fr kd (blW wd f) ct af cf) := by
  refine gM_of (by decide) (Nat.le_of_ble_eq_true rfl) ?_
  intro p e s m args below meth c ls hx hb hml hown hts hN hr hlk hl hG
  have hown : s.vm.findClass RX1 = some m.cls := hown
  have hl : lv_has ls 3 [(0, .ref (ad 2)), (1, .int (nI f))] := hl
  refine lv_iconst (v := nI 0) hx hb dX1_blank_0 (by decide) ?_
  refine lv_istore_n (lv' := [(2, .int (nI 0)), (0, .ref (ad 2)), (1, .int (nI f))]) hx hb dX1_blank_1 rfl hl (by decide) rfl (fun ls hl => ?_)
  have loop : ∀ (n i : Nat) (H : Heap) (locs : List Loc) (ls : Array Slot), i + n = 4 → gG D cls (fpT cI cQ cZ) A s (fpW ad cI cQ run mp fr kd (blN wd f i) ct af cf) H locs → lv_has ls 3 [(2, .int (nI i)), (0, .ref (ad 2)), (1, .int (nI f))] → W p l e (gR 0 0) s m args below meth c H locs 0 0 (gQ below args s D cls (fpT cI cQ cZ) A none (fpW ad cI cQ run mp fr kd (blW wd f) ct af cf)) (F0 m 2 ls []) := by
    intro n
    induction n with
    | zero =>
      intro i H locs ls hi hG hl
      obtain rfl : i = 4 := by omega
      refine lv_iload_n hx hb dX1_blank_2 rfl (lv_at hl 0 rfl) ?_
      refine lv_iconst (v := nI 4) hx hb dX1_blank_3 (by decide) ?_
      refine lv_icmp_ge (tgt := 24) hx hb dX1_blank_4 rfl (fun _ => ?_) (fun hh => absurd (nI_le (Nat.le_refl 4) (by decide)) hh)
      exact g_vret hx hb hr hlk hG dX1_blank_24
    | succ n ih =>
      intro i H locs ls hi hG hl
      have hi2 : i < 4 := by omega
      refine lv_iload_n hx hb dX1_blank_2 rfl (lv_at hl 0 rfl) ?_
      refine lv_iconst (v := nI 4) hx hb dX1_blank_3 (by decide) ?_
      refine lv_icmp_ge (tgt := 24) hx hb dX1_blank_4 rfl (fun hh => absurd hh (nI_ge hi2 (by decide))) (fun _ => ?_)
      refine lv_aload_n hx hb dX1_blank_7 rfl (lv_at hl 1 rfl) ?_
      refine g_get (k := 0) (v := .ref (ad 3)) (C := RX1) (ref := RX1) (fs := [.ref (ad 3), .ref (ad 4)]) hx hb hown hts hG gX1 rfl fp_2 (by decide) t_44 rfl rfl dX1_blank_8 ?_
      refine lv_iload_n hx hb dX1_blank_11 rfl (lv_at hl 2 rfl) ?_
      refine lv_iconst (v := nI 4) hx hb dX1_blank_12 (by decide) ?_
      refine lv_imul hx hb dX1_blank_13 ?_
      refine g_top (y := nI (f * 4)) (pk_mul f 4) ?_
      refine lv_iload_n hx hb dX1_blank_14 rfl (lv_at hl 0 rfl) ?_
      refine lv_iadd hx hb dX1_blank_15 ?_
      refine g_top (y := nI (f * 4 + i)) (nI_add _ _) ?_
      refine lv_iconst (v := 0) hx hb dX1_blank_16 (by decide) ?_
      refine g_iast (i := (f * 4 + i)) (x := 0) (t0 := 0) (ws' := fpW ad cI cQ run mp fr kd (blN wd f (i + 1)) ct af cf) hx hb hG fp_3 rfl ((by omega)) (by decide) (by rw [blN_s]; exact fp_s3 _) dX1_blank_17 (fun H locs hG => ?_)
      refine lv_iinc (k := 0) (v := nI (i + 1)) (lv' := [(2, .int (nI (i + 1))), (0, .ref (ad 2)), (1, .int (nI f))]) hx hb dX1_blank_18 hl rfl (nI_1 i) (by decide) rfl (fun ls hl => ?_)
      refine lv_goto (tgt := 2) hx hb dX1_blank_21 rfl ?_
      exact ih (i + 1) _ _ _ (by omega) hG (lv_sub hl [0, 1, 2] rfl)
  exact loop 4 0 _ _ _ rfl (by rw [blN_0]; exact hG) (lv_sub hl [0, 1, 2] rfl)
set_option maxHeartbeats 4000000 in
set_option maxRecDepth 100000 in
theorem fm_copy {f g : Nat} (hf : f < 24) (hg : g < 24) : gM l yX1_copy cX1_copy 4 none 0 0 D cls (fpT cI cQ cZ) A (fpW ad cI cQ run mp fr kd wd ct af cf) [.ref (ad 2), .int (nI f), .int (nI g)] none (fpW ad cI cQ run mp fr kd (cpW wd f g) ct af cf) := by
  refine gM_of (by decide) (Nat.le_of_ble_eq_true rfl) ?_
  intro p e s m args below meth c ls hx hb hml hown hts hN hr hlk hl hG
  have hown : s.vm.findClass RX1 = some m.cls := hown
  have hl : lv_has ls 4 [(0, .ref (ad 2)), (1, .int (nI f)), (2, .int (nI g))] := hl
  refine lv_iconst (v := nI 0) hx hb dX1_copy_0 (by decide) ?_
  refine lv_istore_n (lv' := [(3, .int (nI 0)), (0, .ref (ad 2)), (1, .int (nI f)), (2, .int (nI g))]) hx hb dX1_copy_1 rfl hl (by decide) rfl (fun ls hl => ?_)
  have loop : ∀ (n i : Nat) (H : Heap) (locs : List Loc) (ls : Array Slot), i + n = 4 → gG D cls (fpT cI cQ cZ) A s (fpW ad cI cQ run mp fr kd (cpN wd f g i) ct af cf) H locs → lv_has ls 4 [(3, .int (nI i)), (0, .ref (ad 2)), (1, .int (nI f)), (2, .int (nI g))] → W p l e (gR 0 0) s m args below meth c H locs 0 0 (gQ below args s D cls (fpT cI cQ cZ) A none (fpW ad cI cQ run mp fr kd (cpW wd f g) ct af cf)) (F0 m 2 ls []) := by
    intro n
    induction n with
    | zero =>
      intro i H locs ls hi hG hl
      obtain rfl : i = 4 := by omega
      refine lv_iload_n hx hb dX1_copy_2 rfl (lv_at hl 0 rfl) ?_
      refine lv_iconst (v := nI 4) hx hb dX1_copy_3 (by decide) ?_
      refine lv_icmp_ge (tgt := 33) hx hb dX1_copy_4 rfl (fun _ => ?_) (fun hh => absurd (nI_le (Nat.le_refl 4) (by decide)) hh)
      exact g_vret hx hb hr hlk hG dX1_copy_33
    | succ n ih =>
      intro i H locs ls hi hG hl
      have hi2 : i < 4 := by omega
      refine lv_iload_n hx hb dX1_copy_2 rfl (lv_at hl 0 rfl) ?_
      refine lv_iconst (v := nI 4) hx hb dX1_copy_3 (by decide) ?_
      refine lv_icmp_ge (tgt := 33) hx hb dX1_copy_4 rfl (fun hh => absurd hh (nI_ge hi2 (by decide))) (fun _ => ?_)
      refine lv_aload_n hx hb dX1_copy_7 rfl (lv_at hl 1 rfl) ?_
      refine g_get (k := 0) (v := .ref (ad 3)) (C := RX1) (ref := RX1) (fs := [.ref (ad 3), .ref (ad 4)]) hx hb hown hts hG gX1 rfl fp_2 (by decide) t_44 rfl rfl dX1_copy_8 ?_
      refine lv_iload_n hx hb dX1_copy_11 rfl (lv_at hl 3 rfl) ?_
      refine lv_iconst (v := nI 4) hx hb dX1_copy_12 (by decide) ?_
      refine lv_imul hx hb dX1_copy_13 ?_
      refine g_top (y := nI (g * 4)) (pk_mul g 4) ?_
      refine lv_iload_n hx hb dX1_copy_14 rfl (lv_at hl 0 rfl) ?_
      refine lv_iadd hx hb dX1_copy_15 ?_
      refine g_top (y := nI (g * 4 + i)) (nI_add _ _) ?_
      refine lv_aload_n hx hb dX1_copy_16 rfl (lv_at hl 1 rfl) ?_
      refine g_get (k := 0) (v := .ref (ad 3)) (C := RX1) (ref := RX1) (fs := [.ref (ad 3), .ref (ad 4)]) hx hb hown hts hG gX1 rfl fp_2 (by decide) t_44 rfl rfl dX1_copy_17 ?_
      refine lv_iload_n hx hb dX1_copy_20 rfl (lv_at hl 2 rfl) ?_
      refine lv_iconst (v := nI 4) hx hb dX1_copy_21 (by decide) ?_
      refine lv_imul hx hb dX1_copy_22 ?_
      refine g_top (y := nI (f * 4)) (pk_mul f 4) ?_
      refine lv_iload_n hx hb dX1_copy_23 rfl (lv_at hl 0 rfl) ?_
      refine lv_iadd hx hb dX1_copy_24 ?_
      refine g_top (y := nI (f * 4 + i)) (nI_add _ _) ?_
      refine g_iald (i := (f * 4 + i)) (t0 := 0) hx hb hG fp_3 rfl ((by omega)) (by decide) dX1_copy_25 ?_
      refine g_iast (i := (g * 4 + i)) (x := (cpN wd f g i) (f * 4 + i)) (t0 := 0) (ws' := fpW ad cI cQ run mp fr kd (cpN wd f g (i + 1)) ct af cf) hx hb hG fp_3 rfl ((by omega)) (by decide) (by rw [cpN_s wd f g i hi2]; exact fp_s3 _) dX1_copy_26 (fun H locs hG => ?_)
      refine lv_iinc (k := 0) (v := nI (i + 1)) (lv' := [(3, .int (nI (i + 1))), (0, .ref (ad 2)), (1, .int (nI f)), (2, .int (nI g))]) hx hb dX1_copy_27 hl rfl (nI_1 i) (by decide) rfl (fun ls hl => ?_)
      refine lv_goto (tgt := 2) hx hb dX1_copy_30 rfl ?_
      exact ih (i + 1) _ _ _ (by omega) hG (lv_sub hl [0, 1, 2, 3] rfl)
  exact loop 4 0 _ _ _ rfl (by rw [cpN_0]; exact hG) (lv_sub hl [0, 1, 2, 3] rfl)
end CM
