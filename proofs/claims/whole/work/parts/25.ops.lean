section CM
variable {l : Launch} {D : va_G} {ad bd : Nat → Nat} {cI cQ cZ : ClassId} {run : Nat → Bool} {mp : Nat → Nat → Bool} {fr : Nat → Nat → Nat} {kd : Nat → Nat → Int32} {wd ct : Nat → Int32} {af cf : Int32} {fm : Nat → Nat} {cm wr mk : Nat → Bool} {wo : Nat → Int32}
theorem Iv.need (hI : Iv run mp fr kd wd ct fm cm wr mk wo) {j k : Nat} (hj : j < 5) (hk : k < 64) (h0 : fm (64 * j + k) = 0) : nI (tbN (up1 (mp j) k true)) - nI (tbN (mp j)) = nI (mrN (pgS fm j) k) := by
  have h1 : tbN (up1 (mp j) k true) = tbN (up1 (pgS fm j) k true) := by
    apply tbN_ext
    intro i hi
    by_cases e : i = k
    · subst e; rw [up1_s, up1_s]
    · rw [up1_n e, up1_n e]; exact hI.1.pg hj hi
  rw [h1, hI.tb hj, tb_add hk (pg_f h0), pk_sub (Nat.le_add_right _ _)]
  congr 1
  omega
theorem one_add (a : Nat) : (1 : Int32) + nI a = nI (1 + a) := nI_add 1 a
theorem Iv.idle (hI : Iv run mp fr kd wd ct fm cm wr mk wo) {j k v : Nat} (hr : run j = true) (hk : k < 64) : ∀ i, i < 5 → run i = false → ∀ q, q < 64 → up1 fm (64 * j + k) v (64 * i + q) = 0 := by
  intro i hi hr2 q hq
  have e : ¬ i = j := fun e => by rw [e, hr] at hr2; cases hr2
  rw [up1_n (by omega)]
  exact hI.2.1 i hi hr2 q hq
set_option maxHeartbeats 4000000 in
set_option maxRecDepth 100000 in
theorem op_map (hI : Iv run mp fr kd wd ct fm cm wr mk wo) (x y : Int32) (z : Bool) : ∃ (r : Int32) (run' : Nat → Bool) (mp' : Nat → Nat → Bool) (fr' : Nat → Nat → Nat) (kd' : Nat → Nat → Int32) (wd' ct' : Nat → Int32) (af' cf' : Int32) (fm' : Nat → Nat) (cm' wr' mk' : Nat → Bool) (wo' : Nat → Int32), (∀ A : Nat → Prop, gM l yX2_map cX2_map 7 (some .int) 4 90 D cls (fpT cI cQ cZ) A (fpW ad cI cQ run mp fr kd wd ct af cf) [.ref (ad 0), .int x, .int y, .int (bI z)] (some (.int r)) (fpW ad cI cQ run' mp' fr' kd' wd' ct' af' cf')) ∧ (∀ A : Nat → Prop, gM l yX3_map cX3_map 8 (some .int) 3 70 D cls (fpT cI cQ cZ) A (rfW bd cI cZ run fm cm wr mk wo af cf) [.ref (bd 0), .int x, .int y, .int (bI z)] (some (.int r)) (rfW bd cI cZ run' fm' cm' wr' mk' wo' af' cf')) ∧ Iv run' mp' fr' kd' wd' ct' fm' cm' wr' mk' wo' := by
  by_cases h : rn run x
  · obtain ⟨j, hj, rfl, hr⟩ := h
    by_cases h2 : pgI y
    · obtain ⟨k, hk, rfl⟩ := h2
      rcases Nat.eq_zero_or_pos (fm (64 * j + k)) with e | e
      · have hn := hI.need hj hk e
        have hmf := (hI.mf hj hk).mpr e
        have hfn := hI.fn
        have ht := hI.2.2
        by_cases h3 : 1 + mrN (pgS fm j) k ≤ 24 - tot run fm
        · have h3r : 1 + nI (mrN (pgS fm j) k) ≤ frR run fm := by rw [hfn, one_add, nI_leI (by omega) (by omega)]; exact h3
          have h3c : 1 + (nI (tbN (up1 (mp j) k true)) - nI (tbN (mp j))) ≤ frF run mp ct := by rw [hn, hI.fre]; exact h3r
          have hus : usR fm 24 < 24 := by unfold tot at h3; omega
          obtain ⟨g, hg, hgm, hgu⟩ := ref_un fm
          have hgz := ref_un0 hg hgm hgu hus
          obtain ⟨hcz, hc⟩ := hI.1.un hus
          have hco := hI.1.new (x0 := 64 * j + k) (c0 := unF ct 24) (g0 := g) (v := nI (mpI true z false)) (c := z) (w := true) (k := false) (wd' := blW wd (unF ct 24)) (wo' := blW wo g) (by omega) e hc (by omega) hcz hgz rfl (fun a q hq hne => blW_ne wd hq hne) (fun a q hq hne => blW_ne wo hq hne) (fun q hq => by rw [blW_eq wd _ q hq, blW_eq wo _ q hq])
          have hI2 : Iv run (up1 mp j (up1 (mp j) k true)) (up1 fr j (up1 (fr j) k (unF ct 24))) (up1 kd j (upd (kd j) k (nI (mpI true z false)))) (blW wd (unF ct 24)) (upd ct (unF ct 24) (ct (unF ct 24) + 1)) (up1 fm (64 * j + k) (g + 1)) (up1 cm (64 * j + k) z) (up1 wr (64 * j + k) true) (up1 mk (64 * j + k) false) (blW wo g) := by
            refine ⟨by rw [fl_up mp hk, fl_up fr hk, fl_upd kd hk]; exact hco, hI.idle hr hk, ?_⟩
            have a1 := us_new (fm := fm) (x0 := 64 * j + k) (g0 := g) (by omega)
            have a2 := tot_add (fm := fm) (v := g + 1) hj hr hk e (by omega)
            unfold tot at h3 ⊢
            omega
          refine ⟨1 + nI (mrN (pgS fm j) k), _, _, _, _, _, _, _, _, _, _, _, _, _, fun A => ?_, fun A => rp_map_ok hj hk hr hI.1.1 e h3r hg hgm hgu, hI2⟩
          rw [← hn]
          cases z
          · exact fp_map_p hj hk hr hmf h3c rfl
          · exact fp_map_c hj hk hr hmf h3c (by decide)
        · have h3r : ¬ 1 + nI (mrN (pgS fm j) k) ≤ frR run fm := by rw [hfn, one_add, nI_leI (by have := tb_le (pgS fm j); have := tb_add (b := pgS fm j) hk (pg_f e); have := tb_le (up1 (pgS fm j) k true); omega) (by omega)]; exact h3
          have h3c : ¬ 1 + (nI (tbN (up1 (mp j) k true)) - nI (tbN (mp j))) ≤ frF run mp ct := by rw [hn, hI.fre]; exact h3r
          exact ⟨-8, run, mp, fr, kd, wd, ct, af, cf, fm, cm, wr, mk, wo, fun A => fp_map_8 hj hk hr hmf h3c, fun A => rp_map_8 hj hk hr hI.1.1 e h3r, hI⟩
      · exact ⟨-4, run, mp, fr, kd, wd, ct, af, cf, fm, cm, wr, mk, wo, fun A => fp_map_4 hj hk hr ((hI.mt hj hk).mpr e), fun A => rp_map_4 hj hk hr hI.1.1 e, hI⟩
    · exact ⟨-2, run, mp, fr, kd, wd, ct, af, cf, fm, cm, wr, mk, wo, fun A => fp_map_2 hj hr h2, fun A => rp_map_2 hj hr h2, hI⟩
  · exact ⟨-1, run, mp, fr, kd, wd, ct, af, cf, fm, cm, wr, mk, wo, fun A => fp_map_1 h, fun A => rp_map_1 h, hI⟩
set_option maxHeartbeats 4000000 in
set_option maxRecDepth 100000 in
theorem op_attach (hI : Iv run mp fr kd wd ct fm cm wr mk wo) (x y u v : Int32) : ∃ (r : Int32) (run' : Nat → Bool) (mp' : Nat → Nat → Bool) (fr' : Nat → Nat → Nat) (kd' : Nat → Nat → Int32) (wd' ct' : Nat → Int32) (af' cf' : Int32) (fm' : Nat → Nat) (cm' wr' mk' : Nat → Bool) (wo' : Nat → Int32), (∀ A : Nat → Prop, gM l yX2_attach cX2_attach 9 (some .int) 4 90 D cls (fpT cI cQ cZ) A (fpW ad cI cQ run mp fr kd wd ct af cf) [.ref (ad 0), .int x, .int y, .int u, .int v] (some (.int r)) (fpW ad cI cQ run' mp' fr' kd' wd' ct' af' cf')) ∧ (∀ A : Nat → Prop, gM l yX3_attach cX3_attach 8 (some .int) 3 70 D cls (fpT cI cQ cZ) A (rfW bd cI cZ run fm cm wr mk wo af cf) [.ref (bd 0), .int x, .int y, .int u, .int v] (some (.int r)) (rfW bd cI cZ run' fm' cm' wr' mk' wo' af' cf')) ∧ Iv run' mp' fr' kd' wd' ct' fm' cm' wr' mk' wo' := by
  by_cases h : rn run x
  · obtain ⟨j, hj, rfl, hr⟩ := h
    by_cases hu : rn run u
    · obtain ⟨n, hn, rfl, hrn⟩ := hu
      by_cases h2 : pgI y
      · obtain ⟨k, hk, rfl⟩ := h2
        by_cases h3 : pgI v
        · obtain ⟨i, hi, rfl⟩ := h3
          rcases Nat.eq_zero_or_pos (fm (64 * n + i)) with e1 | e1
          · exact ⟨-3, run, mp, fr, kd, wd, ct, af, cf, fm, cm, wr, mk, wo, fun A => fp_attach_3 hj hr hn hrn hk hi ((hI.mf hn hi).mpr e1), fun A => rp_attach_3 hj hr hn hrn hk hi hI.1.1 e1, hI⟩
          have hms := (hI.mt hn hi).mpr e1
          rcases Nat.eq_zero_or_pos (fm (64 * j + k)) with e | e
          · have hmf := (hI.mf hj hk).mpr e
            obtain ⟨hf, hkd, hwd⟩ := hI.at hn hi e1
            have hw := kd_w (wr (64 * n + i)) (cm (64 * n + i)) (mk (64 * n + i))
            rw [← hkd] at hw
            cases hcm : cm (64 * n + i)
            · exact ⟨-6, run, mp, fr, kd, wd, ct, af, cf, fm, cm, wr, mk, wo, fun A => fp_attach_6 hj hr hn hrn hk hi hms hmf (hw.2.1.mpr hcm), fun A => rp_attach_6 hj hr hn hrn hk hi hI.1.1 e1 e hcm, hI⟩
            have h5 : ¬ kd n i &&& 2 = 0 := fun q => by rw [hw.2.1.mp q] at hcm; cases hcm
            have hnd := hI.need hj hk e
            have hfn := hI.fn
            have ht := hI.2.2
            by_cases h6 : mrN (pgS fm j) k ≤ 24 - tot run fm
            · have h6r : nI (mrN (pgS fm j) k) ≤ frR run fm := by rw [hfn, nI_leI (by omega) (by omega)]; exact h6
              have h6c : (nI (tbN (up1 (mp j) k true)) - nI (tbN (mp j))) ≤ frF run mp ct := by rw [hnd, hI.fre]; exact h6r
              have hco := hI.1.attach (x0 := 64 * j + k) (y0 := 64 * n + i) (v := nI (mpI (wr (64 * n + i)) true false)) (c := true) (w := wr (64 * n + i)) (k := false) (by omega) (by omega) e e1 rfl
              rw [fl_at fr hi] at hco
              have hI2 : Iv run (up1 mp j (up1 (mp j) k true)) (up1 fr j (up1 (fr j) k (fr n i))) (up1 kd j (upd (kd j) k (nI (mpI (wr (64 * n + i)) true false)))) wd (upd ct (fr n i) (ct (fr n i) + 1)) (up1 fm (64 * j + k) (fm (64 * n + i))) (up1 cm (64 * j + k) true) (up1 wr (64 * j + k) (wr (64 * n + i))) (up1 mk (64 * j + k) false) wo := by
                refine ⟨by rw [fl_up mp hk, fl_up fr hk, fl_upd kd hk]; exact hco, hI.idle hr hk, ?_⟩
                have a1 := us_att (fm := fm) (x0 := 64 * j + k) (y0 := 64 * n + i) (by omega)
                have a2 := tot_add (fm := fm) (v := fm (64 * n + i)) hj hr hk e e1
                unfold tot at h6 ht ⊢
                omega
              refine ⟨nI (mrN (pgS fm j) k), _, _, _, _, _, _, _, _, _, _, _, _, _, fun A => ?_, fun A => rp_attach_ok hj hr hn hrn hk hi hI.1.1 e1 e hcm h6r, hI2⟩
              rw [← hnd]
              cases hwr : wr (64 * n + i)
              · exact fp_attach_r hj hr hn hrn hk hi hms hmf h5 h6c hf (hw.1.mpr hwr)
              · exact fp_attach_w hj hr hn hrn hk hi hms hmf h5 h6c hf (fun q => by rw [hw.1.mp q] at hwr; cases hwr)
            · have h6r : ¬ nI (mrN (pgS fm j) k) ≤ frR run fm := by rw [hfn, nI_leI (by have := tb_add (b := pgS fm j) hk (pg_f e); have := tb_le (up1 (pgS fm j) k true); omega) (by omega)]; exact h6
              have h6c : ¬ (nI (tbN (up1 (mp j) k true)) - nI (tbN (mp j))) ≤ frF run mp ct := by rw [hnd, hI.fre]; exact h6r
              exact ⟨-8, run, mp, fr, kd, wd, ct, af, cf, fm, cm, wr, mk, wo, fun A => fp_attach_8 hj hr hn hrn hk hi hms hmf h5 h6c, fun A => rp_attach_8 hj hr hn hrn hk hi hI.1.1 e1 e hcm h6r, hI⟩
          · exact ⟨-4, run, mp, fr, kd, wd, ct, af, cf, fm, cm, wr, mk, wo, fun A => fp_attach_4 hj hr hn hrn hk hi hms ((hI.mt hj hk).mpr e), fun A => rp_attach_4 hj hr hn hrn hk hi hI.1.1 e1 e, hI⟩
        · exact ⟨-2, run, mp, fr, kd, wd, ct, af, cf, fm, cm, wr, mk, wo, fun A => fp_attach_2b hj hr hn hrn hk h3, fun A => rp_attach_2b hj hr hn hrn hk h3, hI⟩
      · exact ⟨-2, run, mp, fr, kd, wd, ct, af, cf, fm, cm, wr, mk, wo, fun A => fp_attach_2a hj hr hn hrn h2, fun A => rp_attach_2a hj hr hn hrn h2, hI⟩
    · exact ⟨-1, run, mp, fr, kd, wd, ct, af, cf, fm, cm, wr, mk, wo, fun A => fp_attach_1b hj hr hu, fun A => rp_attach_1b hj hr hu, hI⟩
  · exact ⟨-1, run, mp, fr, kd, wd, ct, af, cf, fm, cm, wr, mk, wo, fun A => fp_attach_1a h, fun A => rp_attach_1a h, hI⟩
theorem not_pg1 : ¬ pgI (-1) := by
  intro ⟨k, hk, e⟩
  have h1 : (nI k).toInt = (k : Int) := nI_toInt (by omega)
  rw [← e] at h1
  have h2 : (-1 : Int32).toInt = -1 := by decide
  omega
theorem not_pg4 {a : Int32} (h0 : ¬ a < 0) (h : nI 256 ≤ a) : ¬ pgI (a / nI 4) := by
  intro ⟨k, hk, e⟩
  obtain ⟨q, hq, rfl⟩ := nI_of h0
  rw [nI_leI (by decide) hq] at h
  rw [pk_div hq (by decide) (by decide), nI_eq (by omega) (by omega)] at e
  omega
set_option maxHeartbeats 4000000 in
set_option maxRecDepth 100000 in
theorem rf_ad (hI : Iv run mp fr kd wd ct fm cm wr mk wo) (x a : Int32) : (∃ r y : Int32, (r = -1 ∨ r = -2 ∨ r = -3) ∧ (∀ A : Nat → Prop, gM l yX2_refusalOfAddress cX2_refusalOfAddress 3 (some .int) 2 43 D cls (fpT cI cQ cZ) A (fpW ad cI cQ run mp fr kd wd ct af cf) [.ref (ad 0), .int x, .int a] (some (.int r)) (fpW ad cI cQ run mp fr kd wd ct af cf)) ∧ (∀ A : Nat → Prop, gM l yX3_pageOf cX3_pageOf 1 (some .int) 0 0 D cls (fpT cI cQ cZ) A (rfW bd cI cZ run fm cm wr mk wo af cf) [.int a] (some (.int y)) (rfW bd cI cZ run fm cm wr mk wo af cf)) ∧ (∀ A : Nat → Prop, gM l yX3_bar cX3_bar 3 (some .int) 1 21 D cls (fpT cI cQ cZ) A (rfW bd cI cZ run fm cm wr mk wo af cf) [.ref (bd 0), .int x, .int y] (some (.int r)) (rfW bd cI cZ run fm cm wr mk wo af cf))) ∨ ∃ j q, j < 5 ∧ q < 256 ∧ run j = true ∧ x = nI j ∧ a = nI q ∧ 0 < fm (64 * j + q / 4) := by
  by_cases h0 : a < 0
  · by_cases h : rn run x
    · obtain ⟨j, hj, rfl, hr⟩ := h
      exact Or.inl ⟨-2, -1, Or.inr (Or.inl rfl), fun A => fm_rA_neg h0 (fm_rM_2 hj hr not_pg1), fun A => rm_pageOf_neg h0, fun A => rm_bar_2 hj hr not_pg1⟩
    · exact Or.inl ⟨-1, -1, Or.inl rfl, fun A => fm_rA_neg h0 (fm_rM_1 h), fun A => rm_pageOf_neg h0, fun A => rm_bar_1 h⟩
  · rcases pk_ix a (n := 256) (by decide) with h1 | h1 | ⟨q, hq, rfl⟩
    · exact absurd h1 h0
    · by_cases h : rn run x
      · obtain ⟨j, hj, rfl, hr⟩ := h
        exact Or.inl ⟨-2, -1, Or.inr (Or.inl rfl), fun A => fm_rA_pos h0 (fm_rM_2 hj hr (not_pg4 h0 h1)), fun A => rm_pageOf_big h0 h1, fun A => rm_bar_2 hj hr not_pg1⟩
      · exact Or.inl ⟨-1, -1, Or.inl rfl, fun A => fm_rA_pos h0 (fm_rM_1 h), fun A => rm_pageOf_big h0 h1, fun A => rm_bar_1 h⟩
    · have hd : nI q / nI 4 = nI (q / 4) := pk_div (Nat.lt_trans hq (by decide)) (by decide) (by decide)
      rcases rf_mp (l := l) (D := D) (ad := ad) (bd := bd) (cI := cI) (cQ := cQ) (cZ := cZ) (af := af) (cf := cf) hI x (nI (q / 4)) with ⟨r, h1, h2, h3⟩ | ⟨j, k, hj, hk, hr, rfl, e, hp⟩
      · exact Or.inl ⟨r, nI (q / 4), h1, fun A => fm_rA_pos h0 (by rw [hd]; exact h2 A), fun A => rm_pageOf_t hq, h3⟩
      · rw [nI_eq (by omega) (by omega)] at e
        subst e
        exact Or.inr ⟨j, q, hj, hq, hr, rfl, rfl, hp⟩
set_option maxHeartbeats 4000000 in
set_option maxRecDepth 100000 in
theorem op_read (hI : Iv run mp fr kd wd ct fm cm wr mk wo) (x a : Int32) : ∃ (r : Int64) (run' : Nat → Bool) (mp' : Nat → Nat → Bool) (fr' : Nat → Nat → Nat) (kd' : Nat → Nat → Int32) (wd' ct' : Nat → Int32) (af' cf' : Int32) (fm' : Nat → Nat) (cm' wr' mk' : Nat → Bool) (wo' : Nat → Int32), (∀ A : Nat → Prop, gM l yX2_read cX2_read 4 (some .long) 3 65 D cls (fpT cI cQ cZ) A (fpW ad cI cQ run mp fr kd wd ct af cf) [.ref (ad 0), .int x, .int a] (some (.long r)) (fpW ad cI cQ run' mp' fr' kd' wd' ct' af' cf')) ∧ (∀ A : Nat → Prop, gM l yX3_read cX3_read 4 (some .long) 2 43 D cls (fpT cI cQ cZ) A (rfW bd cI cZ run fm cm wr mk wo af cf) [.ref (bd 0), .int x, .int a] (some (.long r)) (rfW bd cI cZ run' fm' cm' wr' mk' wo' af' cf')) ∧ Iv run' mp' fr' kd' wd' ct' fm' cm' wr' mk' wo' := by
  rcases rf_ad (l := l) (D := D) (ad := ad) (bd := bd) (cI := cI) (cQ := cQ) (cZ := cZ) (af := af) (cf := cf) hI x a with ⟨r, y, h1, h2, h3, h4⟩ | ⟨j, q, hj, hq, hr, rfl, rfl, hp⟩
  · exact ⟨1099511627776, run, mp, fr, kd, wd, ct, af, cf, fm, cm, wr, mk, wo, fun A => fp_read_no (neg_ne h1) (h2 A), fun A => rp_read_no (neg_nle h1) (h3 A) (h4 A), hI⟩
  have hk : q / 4 < 64 := by omega
  obtain ⟨hf, hkd, hwd⟩ := hI.at hj hk hp
  have hw := hwd (q % 4) (by omega)
  exact ⟨(wo ((fm (64 * j + q / 4) - 1) * 4 + q % 4)).toInt64, run, mp, fr, kd, wd, ct, af, cf, fm, cm, wr, mk, wo, fun A => (by rw [← hw]; exact fp_read_ok hj hq hr ((hI.mt hj hk).mpr hp) hf), fun A => rp_read_ok hj hq hr hp hI.1.1, hI⟩
set_option maxHeartbeats 4000000 in
set_option maxRecDepth 100000 in
theorem op_write (hI : Iv run mp fr kd wd ct fm cm wr mk wo) (x a z : Int32) : ∃ (r : Int32) (run' : Nat → Bool) (mp' : Nat → Nat → Bool) (fr' : Nat → Nat → Nat) (kd' : Nat → Nat → Int32) (wd' ct' : Nat → Int32) (af' cf' : Int32) (fm' : Nat → Nat) (cm' wr' mk' : Nat → Bool) (wo' : Nat → Int32), (∀ A : Nat → Prop, gM l yX2_write cX2_write 8 (some .int) 5 116 D cls (fpT cI cQ cZ) A (fpW ad cI cQ run mp fr kd wd ct af cf) [.ref (ad 0), .int x, .int a, .int z] (some (.int r)) (fpW ad cI cQ run' mp' fr' kd' wd' ct' af' cf')) ∧ (∀ A : Nat → Prop, gM l yX3_write cX3_write 12 (some .int) 3 70 D cls (fpT cI cQ cZ) A (rfW bd cI cZ run fm cm wr mk wo af cf) [.ref (bd 0), .int x, .int a, .int z] (some (.int r)) (rfW bd cI cZ run' fm' cm' wr' mk' wo' af' cf')) ∧ Iv run' mp' fr' kd' wd' ct' fm' cm' wr' mk' wo' := by
  rcases rf_ad (l := l) (D := D) (ad := ad) (bd := bd) (cI := cI) (cQ := cQ) (cZ := cZ) (af := af) (cf := cf) hI x a with ⟨r, y, h1, h2, h3, h4⟩ | ⟨j, q, hj, hq, hr, rfl, rfl, hp⟩
  · exact ⟨r, run, mp, fr, kd, wd, ct, af, cf, fm, cm, wr, mk, wo, fun A => fp_write_no (neg_ne h1) (h2 A), fun A => rp_write_no (neg_nle h1) (h3 A) (h4 A), hI⟩
  have hk : q / 4 < 64 := by omega
  obtain ⟨hf, hkd, hwd⟩ := hI.at hj hk hp
  have hmt := (hI.mt hj hk).mpr hp
  have hw := kd_w (wr (64 * j + q / 4)) (cm (64 * j + q / 4)) (mk (64 * j + q / 4))
  rw [← hkd] at hw
  cases hwr : wr (64 * j + q / 4)
  · exact ⟨-5, run, mp, fr, kd, wd, ct, af, cf, fm, cm, wr, mk, wo, fun A => fp_write_5 hj hq hr hmt (hw.1.mpr hwr), fun A => rp_write_5 hj hq hr hp hI.1.1 hwr, hI⟩
  have h3 : ¬ kd j (q / 4) &&& 1 = 0 := fun z => by rw [hw.1.mp z] at hwr; cases hwr
  cases hmk : mk (64 * j + q / 4)
  · have h4 := hw.2.2.1.mpr hmk
    have hco := hI.1.word (x0 := (64 * j + q / 4)) (w0 := q % 4) (by omega) hp (by omega) z
    rw [fl_at fr hk] at hco
    have e2 : up1 mk (64 * j + q / 4) false = mk := up1_id' mk _ hmk
    refine ⟨0, run, mp, fr, kd, _, ct, af, cf, fm, cm, wr, up1 mk (64 * j + q / 4) false, _, fun A => fp_write_0 hj hq hr hmt h3 h4 hf, fun A => rp_write_0 hj hq hr hp hI.1.1 hwr hmk, ?_⟩
    rw [e2]
    exact ⟨hco, hI.2.1, hI.2.2⟩
  have h4 : ¬ kd j (q / 4) &&& 4 = 0 := fun z => by rw [hw.2.2.1.mp z] at hmk; cases hmk
  have hct := hI.cnt hj hk hp
  have hld := ldN_le fm (fm (64 * j + q / 4) - 1)
  have hv4 : kd j (q / 4) ^^^ 4 = nI (mpI (wr (64 * j + q / 4)) (cm (64 * j + q / 4)) false) := by rw [hw.2.2.2.2, hmk]; rfl
  have hco1 := hI.1.kind (x0 := (64 * j + q / 4)) (v := kd j (q / 4) ^^^ 4) (c := cm (64 * j + q / 4)) (w := wr (64 * j + q / 4)) (k := false) hv4
  rw [up1_id, up1_id] at hco1
  by_cases hL : ldN fm (fm (64 * j + q / 4) - 1) ≤ 1
  · have h5 : ct (fr j (q / 4)) ≤ 1 := by rw [hct]; exact (nI_leI (b := 1) (by omega) (by decide)).mpr hL
    have hco := hco1.word (x0 := (64 * j + q / 4)) (w0 := q % 4) (by omega) hp (by omega) z
    rw [fl_at fr hk] at hco
    refine ⟨1, _, _, _, _, _, _, _, _, _, _, _, _, _, fun A => fp_write_1 hj hq hr hmt h3 h4 hf h5, fun A => rp_write_1 hj hq hr hp hI.1.1 hwr hmk hL, ?_, hI.2.1, hI.2.2⟩
    rw [fl_upd kd hk]
    exact hco
  have h5 : ¬ ct (fr j (q / 4)) ≤ 1 := by rw [hct]; exact fun z => hL ((nI_leI (b := 1) (by omega) (by decide)).mp z)
  have hfn := hI.fn
  have ht := hI.2.2
  by_cases h6 : tot run fm = 24
  · have h6r : frR run fm = 0 := by rw [hfn, h6]; rfl
    have h6c : ¬ 1 ≤ frF run mp ct := by rw [hI.fre, h6r]; decide
    exact ⟨-8, run, mp, fr, kd, wd, ct, af, cf, fm, cm, wr, mk, wo, fun A => fp_write_8 hj hq hr hmt h3 h4 hf h5 h6c, fun A => rp_write_8 hj hq hr hp hI.1.1 hwr hmk (by omega) h6r, hI⟩
  have h6r : ¬ frR run fm = 0 := by rw [hfn]; exact nI_ne0 (by omega) (by omega)
  have h6c : 1 ≤ frF run mp ct := by rw [hI.fre, hfn]; exact (nI_leI (a := 1) (by decide) (by omega)).mpr (by omega)
  have hus : usR fm 24 < 24 := by unfold tot at h6 ht; omega
  obtain ⟨g, hg, hgm, hgu⟩ := ref_un fm
  have hgz := ref_un0 hg hgm hgu hus
  obtain ⟨hcz, hc⟩ := hI.1.un hus
  have hco2 := hco1.clear (x0 := (64 * j + q / 4)) (by omega) hp (cm (64 * j + q / 4)) (wr (64 * j + q / 4)) false
  rw [up1_id, up1_id, up1_up1, fl_at fr hk] at hco2
  have hcz2 : cN (up1 (fl mp) (64 * j + q / 4) false) (fl fr) (unF ct 24) = 0 := by
    have := cN_clr (m := fl mp) (f := fl fr) (x0 := (64 * j + q / 4)) (c := unF ct 24) (by omega)
    omega
  have hgz2 : ldN (up1 fm (64 * j + q / 4) 0) g = 0 := by
    rcases Nat.eq_zero_or_pos (ldN (up1 fm (64 * j + q / 4) 0) g) with z | z
    · exact z
    · obtain ⟨x, b1, b2⟩ := ld_ex.mp z
      have b3 : ¬ x = (64 * j + q / 4) := fun e => by rw [e, up1_s] at b2; omega
      rw [up1_n b3] at b2
      have := ld_ex.mpr ⟨x, b1, b2⟩
      omega
  have hco3 := hco2.new (x0 := (64 * j + q / 4)) (c0 := unF ct 24) (g0 := g) (v := kd j (q / 4) ^^^ 4) (c := cm (64 * j + q / 4)) (w := wr (64 * j + q / 4)) (k := false) (wd' := cpW wd (fr j (q / 4)) (unF ct 24)) (wo' := cpW wo (fm (64 * j + q / 4) - 1) g) (by omega) up1_s hc (by omega) hcz2 hgz2 hv4 (fun a w h1 h2 => cpW_ne wd _ h1 h2) (fun a w h1 h2 => cpW_ne wo _ h1 h2) (fun w h1 => by rw [cpW_eq wd _ _ w h1, cpW_eq wo _ _ w h1]; exact hwd w h1)
  rw [up1_id, up1_id, up1_up1, up1_up1 mk, up1_up1 fm] at hco3
  have hco4 := hco3.word (x0 := (64 * j + q / 4)) (w0 := q % 4) (by omega) (by rw [up1_s]; omega) (by omega) z
  rw [up1_s, up1_s] at hco4
  refine ⟨2, _, _, _, _, _, _, _, _, _, _, _, _, _, fun A => fp_write_2 hj hq hr hmt h3 h4 hf h5 h6c, fun A => rp_write_2 hj hq hr hp hI.1.1 hwr hmk (by omega) h6r hg hgm hgu, ?_, hI.idle hr hk, ?_⟩
  · rw [fl_up _ hk, fl_up mp hk, fl_up fr hk, fl_upd _ hk, fl_upd kd hk, up1_up1, up1_s, upd_s, up1_up1]
    rw [up1_up1] at hco4
    exact hco4
  · have a1 := us_new (fm := fm) (x0 := (64 * j + q / 4)) (g0 := g) (by omega)
    have a2 := ts_mv (fm := fm) (v := g + 1) hj hr hk hp (by omega)
    unfold tot at ht h6 ⊢
    omega
end CM
