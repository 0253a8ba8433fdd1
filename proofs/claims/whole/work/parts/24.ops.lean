section CM
variable {l : Launch} {D : va_G} {ad bd : Nat → Nat} {cI cQ cZ : ClassId} {run : Nat → Bool} {mp : Nat → Nat → Bool} {fr : Nat → Nat → Nat} {kd : Nat → Nat → Int32} {wd ct : Nat → Int32} {af cf : Int32} {fm : Nat → Nat} {cm wr mk : Nat → Bool} {wo : Nat → Int32}
def Iv (run : Nat → Bool) (mp : Nat → Nat → Bool) (fr : Nat → Nat → Nat) (kd : Nat → Nat → Int32) (wd ct : Nat → Int32) (fm : Nat → Nat) (cm wr mk : Nat → Bool) (wo : Nat → Int32) : Prop :=
  Co (fl mp) (fl fr) (fl kd) wd ct fm cm wr mk wo ∧ (∀ j, j < 5 → run j = false → ∀ k, k < 64 → fm (64 * j + k) = 0) ∧ tot run fm ≤ 24
theorem Iv.co (hI : Iv run mp fr kd wd ct fm cm wr mk wo) : Co (fl mp) (fl fr) (fl kd) wd ct fm cm wr mk wo := hI.1
theorem Iv.fre (hI : Iv run mp fr kd wd ct fm cm wr mk wo) : frF run mp ct = frR run fm := hI.1.fr run
theorem Iv.tb (hI : Iv run mp fr kd wd ct fm cm wr mk wo) {j : Nat} (hj : j < 5) : tbN (mp j) = tbN (pgS fm j) := tbN_ext (fun k hk => hI.1.pg hj hk)
theorem Iv.fn (hI : Iv run mp fr kd wd ct fm cm wr mk wo) : frR run fm = nI (24 - tot run fm) := frR_nat hI.2.2
theorem Iv.mt (hI : Iv run mp fr kd wd ct fm cm wr mk wo) {j k : Nat} (hj : j < 5) (hk : k < 64) : mp j k = true ↔ 0 < fm (64 * j + k) := by
  have h := hI.1.mt (x := 64 * j + k) (by omega)
  rw [fl_at mp hk] at h
  exact h
theorem Iv.mf (hI : Iv run mp fr kd wd ct fm cm wr mk wo) {j k : Nat} (hj : j < 5) (hk : k < 64) : mp j k = false ↔ fm (64 * j + k) = 0 := by
  have h := hI.1.mf (x := 64 * j + k) (by omega)
  rw [fl_at mp hk] at h
  exact h
theorem Iv.at (hI : Iv run mp fr kd wd ct fm cm wr mk wo) {j k : Nat} (hj : j < 5) (hk : k < 64) (hp : 0 < fm (64 * j + k)) : fr j k < 24 ∧ kd j k = nI (mpI (wr (64 * j + k)) (cm (64 * j + k)) (mk (64 * j + k))) ∧ ∀ w, w < 4 → wd (fr j k * 4 + w) = wo ((fm (64 * j + k) - 1) * 4 + w) := by
  have h := hI.1.2.2.1 (64 * j + k) (by omega) hp
  rw [fl_at fr hk, fl_at kd hk] at h
  exact h
theorem Iv.cnt (hI : Iv run mp fr kd wd ct fm cm wr mk wo) {j k : Nat} (hj : j < 5) (hk : k < 64) (hp : 0 < fm (64 * j + k)) : ct (fr j k) = nI (ldN fm (fm (64 * j + k) - 1)) := by
  have h := hI.1.ctr (x := 64 * j + k) (by omega) hp
  rw [fl_at fr hk] at h
  exact h
theorem kd_w : ∀ w c m : Bool, (nI (mpI w c m) &&& 1 = 0 ↔ w = false) ∧ (nI (mpI w c m) &&& 2 = 0 ↔ c = false) ∧ (nI (mpI w c m) &&& 4 = 0 ↔ m = false) ∧ nI (mpI w c m) ^^^ 1 = nI (mpI (!w) c m) ∧ nI (mpI w c m) ^^^ 4 = nI (mpI w c (!m)) := by decide
theorem idle_or (run : Nat → Bool) : (∀ i, i < 5 → run i = true) ∨ ∃ n, n < 5 ∧ run n = false ∧ ∀ i, i < n → run i = true := by
  by_cases h : ∃ n, n < 5 ∧ run n = false
  · obtain ⟨n, ⟨h1, h2⟩, h3⟩ := pk_least (fun n => n < 5 ∧ run n = false) h
    refine Or.inr ⟨n, h1, h2, fun i hi => ?_⟩
    cases hr : run i
    · exact absurd ⟨by omega, hr⟩ (h3 i hi)
    · rfl
  · refine Or.inl (fun i hi => ?_)
    cases hr : run i
    · exact absurd ⟨i, hi, hr⟩ h
    · rfl
theorem tb_emp {fm : Nat → Nat} {j : Nat} (h : ∀ k, k < 64 → fm (64 * j + k) = 0) : tbN (pgS fm j) = 1 := by
  rw [← tbN_0]
  apply tbN_ext
  intro k hk
  simp [pgS, h k hk]
set_option maxHeartbeats 4000000 in
set_option maxRecDepth 100000 in
theorem op_spawn (hI : Iv run mp fr kd wd ct fm cm wr mk wo) : ∃ (r : Int32) (run' : Nat → Bool) (mp' : Nat → Nat → Bool) (fr' : Nat → Nat → Nat) (kd' : Nat → Nat → Int32) (wd' ct' : Nat → Int32) (af' cf' : Int32) (fm' : Nat → Nat) (cm' wr' mk' : Nat → Bool) (wo' : Nat → Int32), (∀ A : Nat → Prop, gM l yX2_spawn cX2_spawn 2 (some .int) 4 90 D cls (fpT cI cQ cZ) A (fpW ad cI cQ run mp fr kd wd ct af cf) [.ref (ad 0)] (some (.int r)) (fpW ad cI cQ run' mp' fr' kd' wd' ct' af' cf')) ∧ (∀ A : Nat → Prop, gM l yX3_spawn cX3_spawn 2 (some .int) 3 70 D cls (fpT cI cQ cZ) A (rfW bd cI cZ run fm cm wr mk wo af cf) [.ref (bd 0)] (some (.int r)) (rfW bd cI cZ run' fm' cm' wr' mk' wo' af' cf')) ∧ Iv run' mp' fr' kd' wd' ct' fm' cm' wr' mk' wo' := by
  rcases idle_or run with hall | ⟨j, hj, h0, hm⟩
  · exact ⟨-7, run, mp, fr, kd, wd, ct, af, cf, fm, cm, wr, mk, wo, fun A => fp_spawn_full hall, fun A => rp_spawn_full hall, hI⟩
  by_cases h2 : nI 1 ≤ frR run fm
  · have hn := hI.fn
    have ht := hI.2.2
    rw [hn, nI_leI (by decide) (by omega)] at h2
    refine ⟨nI j, up1 run j true, mp, fr, kd, wd, ct, af, cf, fm, cm, wr, mk, wo, fun A => fp_spawn_ok hj h0 hm (by rw [hI.fre, hn, nI_leI (by decide) (by omega)]; exact h2), fun A => rp_spawn_ok hj h0 hm hI.1.1 (by rw [hn, nI_leI (by decide) (by omega)]; exact h2), hI.1, fun i hi hr k hk => ?_, ?_⟩
    · have e : ¬ i = j := fun e => by rw [e, up1_s] at hr; cases hr
      rw [up1_n e] at hr
      exact hI.2.1 i hi hr k hk
    · unfold tot at h2 ⊢
      rw [ts_run hj h0, tb_emp (hI.2.1 j hj h0)]
      omega
  · exact ⟨-8, run, mp, fr, kd, wd, ct, af, cf, fm, cm, wr, mk, wo, fun A => fp_spawn_room hj h0 hm (by rw [hI.fre]; exact h2), fun A => rp_spawn_room hj h0 hm hI.1.1 h2, hI⟩
set_option maxHeartbeats 4000000 in
set_option maxRecDepth 100000 in
theorem op_free (hI : Iv run mp fr kd wd ct fm cm wr mk wo) : ∃ (r : Int32) (run' : Nat → Bool) (mp' : Nat → Nat → Bool) (fr' : Nat → Nat → Nat) (kd' : Nat → Nat → Int32) (wd' ct' : Nat → Int32) (af' cf' : Int32) (fm' : Nat → Nat) (cm' wr' mk' : Nat → Bool) (wo' : Nat → Int32), (∀ A : Nat → Prop, gM l yX2_free cX2_free 1 (some .int) 4 90 D cls (fpT cI cQ cZ) A (fpW ad cI cQ run mp fr kd wd ct af cf) [.ref (ad 0)] (some (.int r)) (fpW ad cI cQ run' mp' fr' kd' wd' ct' af' cf')) ∧ (∀ A : Nat → Prop, gM l yX3_free cX3_free 3 (some .int) 2 48 D cls (fpT cI cQ cZ) A (rfW bd cI cZ run fm cm wr mk wo af cf) [.ref (bd 0)] (some (.int r)) (rfW bd cI cZ run' fm' cm' wr' mk' wo' af' cf')) ∧ Iv run' mp' fr' kd' wd' ct' fm' cm' wr' mk' wo' := by
  exact ⟨frR run fm, run, mp, fr, kd, wd, ct, af, cf, fm, cm, wr, mk, wo, fun A => (by have h := fp_free (l := l) (D := D) (A := A) (ad := ad) (cI := cI) (cQ := cQ) (cZ := cZ) (run := run) (mp := mp) (fr := fr) (kd := kd) (wd := wd) (ct := ct) (af := af) (cf := cf); rw [hI.fre] at h; exact h), fun A => rm_free hI.1.1, hI⟩
set_option maxHeartbeats 4000000 in
set_option maxRecDepth 100000 in
theorem op_running (hI : Iv run mp fr kd wd ct fm cm wr mk wo) : ∃ (r : Int32) (run' : Nat → Bool) (mp' : Nat → Nat → Bool) (fr' : Nat → Nat → Nat) (kd' : Nat → Nat → Int32) (wd' ct' : Nat → Int32) (af' cf' : Int32) (fm' : Nat → Nat) (cm' wr' mk' : Nat → Bool) (wo' : Nat → Int32), (∀ A : Nat → Prop, gM l yX2_running cX2_running 3 (some .int) 0 0 D cls (fpT cI cQ cZ) A (fpW ad cI cQ run mp fr kd wd ct af cf) [.ref (ad 0)] (some (.int r)) (fpW ad cI cQ run' mp' fr' kd' wd' ct' af' cf')) ∧ (∀ A : Nat → Prop, gM l yX3_running cX3_running 3 (some .int) 0 0 D cls (fpT cI cQ cZ) A (rfW bd cI cZ run fm cm wr mk wo af cf) [.ref (bd 0)] (some (.int r)) (rfW bd cI cZ run' fm' cm' wr' mk' wo' af' cf')) ∧ Iv run' mp' fr' kd' wd' ct' fm' cm' wr' mk' wo' := by
  exact ⟨rnS run 5, run, mp, fr, kd, wd, ct, af, cf, fm, cm, wr, mk, wo, fun A => fp_running, fun A => rp_running, hI⟩
set_option maxHeartbeats 4000000 in
set_option maxRecDepth 100000 in
theorem op_faults (hI : Iv run mp fr kd wd ct fm cm wr mk wo) (x : Int32) : ∃ (r : Int32) (run' : Nat → Bool) (mp' : Nat → Nat → Bool) (fr' : Nat → Nat → Nat) (kd' : Nat → Nat → Int32) (wd' ct' : Nat → Int32) (af' cf' : Int32) (fm' : Nat → Nat) (cm' wr' mk' : Nat → Bool) (wo' : Nat → Int32), (∀ A : Nat → Prop, gM l yX2_faults cX2_faults 2 (some .int) 0 0 D cls (fpT cI cQ cZ) A (fpW ad cI cQ run mp fr kd wd ct af cf) [.ref (ad 0), .int x] (some (.int r)) (fpW ad cI cQ run' mp' fr' kd' wd' ct' af' cf')) ∧ (∀ A : Nat → Prop, gM l yX3_faults cX3_faults 2 (some .int) 0 0 D cls (fpT cI cQ cZ) A (rfW bd cI cZ run fm cm wr mk wo af cf) [.ref (bd 0), .int x] (some (.int r)) (rfW bd cI cZ run' fm' cm' wr' mk' wo' af' cf')) ∧ Iv run' mp' fr' kd' wd' ct' fm' cm' wr' mk' wo' := by
  by_cases h : x = 0
  · exact ⟨af, run, mp, fr, kd, wd, ct, af, cf, fm, cm, wr, mk, wo, fun A => fp_faults_a h, fun A => rp_faults_a h, hI⟩
  · exact ⟨cf, run, mp, fr, kd, wd, ct, af, cf, fm, cm, wr, mk, wo, fun A => fp_faults_c h, fun A => rp_faults_c h, hI⟩
set_option maxHeartbeats 4000000 in
set_option maxRecDepth 100000 in
theorem op_tables (hI : Iv run mp fr kd wd ct fm cm wr mk wo) (x : Int32) : ∃ (r : Int32) (run' : Nat → Bool) (mp' : Nat → Nat → Bool) (fr' : Nat → Nat → Nat) (kd' : Nat → Nat → Int32) (wd' ct' : Nat → Int32) (af' cf' : Int32) (fm' : Nat → Nat) (cm' wr' mk' : Nat → Bool) (wo' : Nat → Int32), (∀ A : Nat → Prop, gM l yX2_tables cX2_tables 2 (some .int) 3 68 D cls (fpT cI cQ cZ) A (fpW ad cI cQ run mp fr kd wd ct af cf) [.ref (ad 0), .int x] (some (.int r)) (fpW ad cI cQ run' mp' fr' kd' wd' ct' af' cf')) ∧ (∀ A : Nat → Prop, gM l yX3_tables cX3_tables 2 (some .int) 2 48 D cls (fpT cI cQ cZ) A (rfW bd cI cZ run fm cm wr mk wo af cf) [.ref (bd 0), .int x] (some (.int r)) (rfW bd cI cZ run' fm' cm' wr' mk' wo' af' cf')) ∧ Iv run' mp' fr' kd' wd' ct' fm' cm' wr' mk' wo' := by
  by_cases h : rn run x
  · obtain ⟨j, hj, rfl, hr⟩ := h
    have ht := hI.tb hj
    exact ⟨nI (tbN (pgS fm j)), run, mp, fr, kd, wd, ct, af, cf, fm, cm, wr, mk, wo, fun A => (by rw [← ht]; exact fp_tables_ok hj hr), fun A => rp_tables_ok hj hr hI.1.1, hI⟩
  · exact ⟨-1, run, mp, fr, kd, wd, ct, af, cf, fm, cm, wr, mk, wo, fun A => fp_tables_1 h, fun A => rp_tables_1 h, hI⟩
set_option maxHeartbeats 4000000 in
set_option maxRecDepth 100000 in
theorem op_pages (hI : Iv run mp fr kd wd ct fm cm wr mk wo) (x : Int32) : ∃ (r : Int32) (run' : Nat → Bool) (mp' : Nat → Nat → Bool) (fr' : Nat → Nat → Nat) (kd' : Nat → Nat → Int32) (wd' ct' : Nat → Int32) (af' cf' : Int32) (fm' : Nat → Nat) (cm' wr' mk' : Nat → Bool) (wo' : Nat → Int32), (∀ A : Nat → Prop, gM l yX2_pages cX2_pages 2 (some .int) 1 21 D cls (fpT cI cQ cZ) A (fpW ad cI cQ run mp fr kd wd ct af cf) [.ref (ad 0), .int x] (some (.int r)) (fpW ad cI cQ run' mp' fr' kd' wd' ct' af' cf')) ∧ (∀ A : Nat → Prop, gM l yX3_pages cX3_pages 4 (some .int) 1 21 D cls (fpT cI cQ cZ) A (rfW bd cI cZ run fm cm wr mk wo af cf) [.ref (bd 0), .int x] (some (.int r)) (rfW bd cI cZ run' fm' cm' wr' mk' wo' af' cf')) ∧ Iv run' mp' fr' kd' wd' ct' fm' cm' wr' mk' wo' := by
  by_cases h : rn run x
  · obtain ⟨j, hj, rfl, hr⟩ := h
    have ht : bcI (en (mp j)) = nI (pcN (pgS fm j) 64) := by
      rw [bcI_en]
      congr 1
      exact pc_ext 64 (fun k hk => hI.1.pg hj hk)
    exact ⟨nI (pcN (pgS fm j) 64), run, mp, fr, kd, wd, ct, af, cf, fm, cm, wr, mk, wo, fun A => (by rw [← ht]; exact fp_pages_ok hj hr), fun A => rp_pages_ok hj hr hI.1.1, hI⟩
  · exact ⟨-1, run, mp, fr, kd, wd, ct, af, cf, fm, cm, wr, mk, wo, fun A => fp_pages_1 h, fun A => rp_pages_1 h, hI⟩
theorem rf_mp (hI : Iv run mp fr kd wd ct fm cm wr mk wo) (x y : Int32) : (∃ r : Int32, (r = -1 ∨ r = -2 ∨ r = -3) ∧ (∀ A : Nat → Prop, gM l yX2_refusalOfMapped cX2_refusalOfMapped 3 (some .int) 1 21 D cls (fpT cI cQ cZ) A (fpW ad cI cQ run mp fr kd wd ct af cf) [.ref (ad 0), .int x, .int y] (some (.int r)) (fpW ad cI cQ run mp fr kd wd ct af cf)) ∧ (∀ A : Nat → Prop, gM l yX3_bar cX3_bar 3 (some .int) 1 21 D cls (fpT cI cQ cZ) A (rfW bd cI cZ run fm cm wr mk wo af cf) [.ref (bd 0), .int x, .int y] (some (.int r)) (rfW bd cI cZ run fm cm wr mk wo af cf))) ∨ ∃ j k, j < 5 ∧ k < 64 ∧ run j = true ∧ x = nI j ∧ y = nI k ∧ 0 < fm (64 * j + k) := by
  by_cases h : rn run x
  · obtain ⟨j, hj, rfl, hr⟩ := h
    by_cases h2 : pgI y
    · obtain ⟨k, hk, rfl⟩ := h2
      rcases Nat.eq_zero_or_pos (fm (64 * j + k)) with e | e
      · exact Or.inl ⟨-3, Or.inr (Or.inr rfl), fun A => fm_rM_3 hj hr hk ((hI.mf hj hk).mpr e), fun A => rm_bar_3 hj hk hr e⟩
      · exact Or.inr ⟨j, k, hj, hk, hr, rfl, rfl, e⟩
    · exact Or.inl ⟨-2, Or.inr (Or.inl rfl), fun A => fm_rM_2 hj hr h2, fun A => rm_bar_2 hj hr h2⟩
  · exact Or.inl ⟨-1, Or.inl rfl, fun A => fm_rM_1 h, fun A => rm_bar_1 h⟩
theorem neg_ne {r : Int32} (h : r = -1 ∨ r = -2 ∨ r = -3) : ¬ r = 0 := by rcases h with rfl | rfl | rfl <;> decide
theorem neg_nle {r : Int32} (h : r = -1 ∨ r = -2 ∨ r = -3) : ¬ 0 ≤ r := by rcases h with rfl | rfl | rfl <;> decide
set_option maxHeartbeats 4000000 in
set_option maxRecDepth 100000 in
theorem op_count (hI : Iv run mp fr kd wd ct fm cm wr mk wo) (x y : Int32) : ∃ (r : Int32) (run' : Nat → Bool) (mp' : Nat → Nat → Bool) (fr' : Nat → Nat → Nat) (kd' : Nat → Nat → Int32) (wd' ct' : Nat → Int32) (af' cf' : Int32) (fm' : Nat → Nat) (cm' wr' mk' : Nat → Bool) (wo' : Nat → Int32), (∀ A : Nat → Prop, gM l yX2_count cX2_count 4 (some .int) 2 43 D cls (fpT cI cQ cZ) A (fpW ad cI cQ run mp fr kd wd ct af cf) [.ref (ad 0), .int x, .int y] (some (.int r)) (fpW ad cI cQ run' mp' fr' kd' wd' ct' af' cf')) ∧ (∀ A : Nat → Prop, gM l yX3_count cX3_count 4 (some .int) 2 43 D cls (fpT cI cQ cZ) A (rfW bd cI cZ run fm cm wr mk wo af cf) [.ref (bd 0), .int x, .int y] (some (.int r)) (rfW bd cI cZ run' fm' cm' wr' mk' wo' af' cf')) ∧ Iv run' mp' fr' kd' wd' ct' fm' cm' wr' mk' wo' := by
  rcases rf_mp (l := l) (D := D) (ad := ad) (bd := bd) (cI := cI) (cQ := cQ) (cZ := cZ) (af := af) (cf := cf) hI x y with ⟨r, h1, h2, h3⟩ | ⟨j, k, hj, hk, hr, rfl, rfl, hp⟩
  · exact ⟨r, run, mp, fr, kd, wd, ct, af, cf, fm, cm, wr, mk, wo, fun A => fp_count_no (neg_ne h1) (h2 A), fun A => rp_count_no (neg_nle h1) (h3 A), hI⟩
  have h4 := hI.cnt hj hk hp
  exact ⟨nI (ldN fm (fm (64 * j + k) - 1)), run, mp, fr, kd, wd, ct, af, cf, fm, cm, wr, mk, wo, fun A => (by rw [← h4]; exact fp_count_ok hj hk hr ((hI.mt hj hk).mpr hp) (hI.at hj hk hp).1), fun A => rp_count_ok hj hk hr hp hI.1.1, hI⟩
set_option maxHeartbeats 4000000 in
set_option maxRecDepth 100000 in
theorem op_mapping (hI : Iv run mp fr kd wd ct fm cm wr mk wo) (x y : Int32) : ∃ (r : Int32) (run' : Nat → Bool) (mp' : Nat → Nat → Bool) (fr' : Nat → Nat → Nat) (kd' : Nat → Nat → Int32) (wd' ct' : Nat → Int32) (af' cf' : Int32) (fm' : Nat → Nat) (cm' wr' mk' : Nat → Bool) (wo' : Nat → Int32), (∀ A : Nat → Prop, gM l yX2_mapping cX2_mapping 4 (some .int) 2 43 D cls (fpT cI cQ cZ) A (fpW ad cI cQ run mp fr kd wd ct af cf) [.ref (ad 0), .int x, .int y] (some (.int r)) (fpW ad cI cQ run' mp' fr' kd' wd' ct' af' cf')) ∧ (∀ A : Nat → Prop, gM l yX3_mapping cX3_mapping 5 (some .int) 2 43 D cls (fpT cI cQ cZ) A (rfW bd cI cZ run fm cm wr mk wo af cf) [.ref (bd 0), .int x, .int y] (some (.int r)) (rfW bd cI cZ run' fm' cm' wr' mk' wo' af' cf')) ∧ Iv run' mp' fr' kd' wd' ct' fm' cm' wr' mk' wo' := by
  rcases rf_mp (l := l) (D := D) (ad := ad) (bd := bd) (cI := cI) (cQ := cQ) (cZ := cZ) (af := af) (cf := cf) hI x y with ⟨r, h1, h2, h3⟩ | ⟨j, k, hj, hk, hr, rfl, rfl, hp⟩
  · exact ⟨r, run, mp, fr, kd, wd, ct, af, cf, fm, cm, wr, mk, wo, fun A => fp_mapping_no (neg_ne h1) (h2 A), fun A => rp_mapping_no (neg_nle h1) (h3 A), hI⟩
  have h4 := (hI.at hj hk hp).2.1
  exact ⟨nI (mpI (wr (64 * j + k)) (cm (64 * j + k)) (mk (64 * j + k))), run, mp, fr, kd, wd, ct, af, cf, fm, cm, wr, mk, wo, fun A => (by rw [← h4]; exact fp_mapping_ok hj hk hr ((hI.mt hj hk).mpr hp)), fun A => rp_mapping_ok hj hk hr hp hI.1.1, hI⟩
set_option maxHeartbeats 4000000 in
set_option maxRecDepth 100000 in
theorem op_protect (hI : Iv run mp fr kd wd ct fm cm wr mk wo) (x y : Int32) (z : Bool) : ∃ (r : Int32) (run' : Nat → Bool) (mp' : Nat → Nat → Bool) (fr' : Nat → Nat → Nat) (kd' : Nat → Nat → Int32) (wd' ct' : Nat → Int32) (af' cf' : Int32) (fm' : Nat → Nat) (cm' wr' mk' : Nat → Bool) (wo' : Nat → Int32), (∀ A : Nat → Prop, gM l yX2_protect cX2_protect 6 (some .int) 2 43 D cls (fpT cI cQ cZ) A (fpW ad cI cQ run mp fr kd wd ct af cf) [.ref (ad 0), .int x, .int y, .int (bI z)] (some (.int r)) (fpW ad cI cQ run' mp' fr' kd' wd' ct' af' cf')) ∧ (∀ A : Nat → Prop, gM l yX3_protect cX3_protect 6 (some .int) 2 43 D cls (fpT cI cQ cZ) A (rfW bd cI cZ run fm cm wr mk wo af cf) [.ref (bd 0), .int x, .int y, .int (bI z)] (some (.int r)) (rfW bd cI cZ run' fm' cm' wr' mk' wo' af' cf')) ∧ Iv run' mp' fr' kd' wd' ct' fm' cm' wr' mk' wo' := by
  rcases rf_mp (l := l) (D := D) (ad := ad) (bd := bd) (cI := cI) (cQ := cQ) (cZ := cZ) (af := af) (cf := cf) hI x y with ⟨r, h1, h2, h3⟩ | ⟨j, k, hj, hk, hr, rfl, rfl, hp⟩
  · exact ⟨r, run, mp, fr, kd, wd, ct, af, cf, fm, cm, wr, mk, wo, fun A => fp_protect_no (neg_ne h1) (h2 A), fun A => rp_protect_no (neg_nle h1) (h3 A), hI⟩
  obtain ⟨hf, hkd, hwd⟩ := hI.at hj hk hp
  have hw := kd_w (wr (64 * j + k)) (cm (64 * j + k)) (mk (64 * j + k))
  rw [← hkd] at hw
  by_cases e : wr (64 * j + k) = z
  · have e2 : up1 wr (64 * j + k) z = wr := up1_id' wr _ e
    refine ⟨0, run, mp, fr, kd, wd, ct, af, cf, fm, cm, up1 wr (64 * j + k) z, mk, wo, fun A => ?_, fun A => rp_protect_0 hj hk hr hp hI.1.1 e, by rw [e2]; exact hI⟩
    cases z
    · exact fp_protect_f0 hj hk hr ((hI.mt hj hk).mpr hp) (hw.1.mpr e) rfl
    · exact fp_protect_t0 hj hk hr ((hI.mt hj hk).mpr hp) (fun q => by rw [hw.1.mp q] at e; cases e) rfl
  · have e2 : (!wr (64 * j + k)) = z := by cases h1 : wr (64 * j + k) <;> cases z <;> simp_all
    refine ⟨1, run, mp, fr, up1 kd j (upd (kd j) k (kd j k ^^^ 1)), wd, ct, af, cf, fm, cm, up1 wr (64 * j + k) z, mk, wo, fun A => ?_, fun A => rp_protect_1 hj hk hr hp hI.1.1 e, ?_, hI.2.1, hI.2.2⟩
    · cases z
      · exact fp_protect_t1 hj hk hr ((hI.mt hj hk).mpr hp) (fun q => e (hw.1.mp q)) (by decide)
      · exact fp_protect_f1 hj hk hr ((hI.mt hj hk).mpr hp) (hw.1.mpr (by cases h1 : wr (64 * j + k) <;> simp_all)) (by decide)
    · have hk2 := hI.1.kind (x0 := (64 * j + k)) (v := kd j k ^^^ 1) (c := cm (64 * j + k)) (w := z) (k := mk (64 * j + k)) (by rw [hw.2.2.2.1, e2])
      rw [up1_id, up1_id mk] at hk2
      rw [fl_upd kd hk]
      exact hk2
set_option maxHeartbeats 4000000 in
set_option maxRecDepth 100000 in
theorem op_unmap (hI : Iv run mp fr kd wd ct fm cm wr mk wo) (x y : Int32) : ∃ (r : Int32) (run' : Nat → Bool) (mp' : Nat → Nat → Bool) (fr' : Nat → Nat → Nat) (kd' : Nat → Nat → Int32) (wd' ct' : Nat → Int32) (af' cf' : Int32) (fm' : Nat → Nat) (cm' wr' mk' : Nat → Bool) (wo' : Nat → Int32), (∀ A : Nat → Prop, gM l yX2_unmap cX2_unmap 5 (some .int) 4 90 D cls (fpT cI cQ cZ) A (fpW ad cI cQ run mp fr kd wd ct af cf) [.ref (ad 0), .int x, .int y] (some (.int r)) (fpW ad cI cQ run' mp' fr' kd' wd' ct' af' cf')) ∧ (∀ A : Nat → Prop, gM l yX3_unmap cX3_unmap 5 (some .int) 3 70 D cls (fpT cI cQ cZ) A (rfW bd cI cZ run fm cm wr mk wo af cf) [.ref (bd 0), .int x, .int y] (some (.int r)) (rfW bd cI cZ run' fm' cm' wr' mk' wo' af' cf')) ∧ Iv run' mp' fr' kd' wd' ct' fm' cm' wr' mk' wo' := by
  rcases rf_mp (l := l) (D := D) (ad := ad) (bd := bd) (cI := cI) (cQ := cQ) (cZ := cZ) (af := af) (cf := cf) hI x y with ⟨r, h1, h2, h3⟩ | ⟨j, k, hj, hk, hr, rfl, rfl, hp⟩
  · exact ⟨r, run, mp, fr, kd, wd, ct, af, cf, fm, cm, wr, mk, wo, fun A => fp_unmap_no (neg_ne h1) (h2 A), fun A => rp_unmap_no (neg_nle h1) (h3 A), hI⟩
  obtain ⟨hf, hkd, hwd⟩ := hI.at hj hk hp
  have hc := hI.1.clear (x0 := (64 * j + k)) (by omega) hp false false false
  rw [fl_at fr hk, ← fl_up mp hk] at hc
  have ht := hI.2.2
  have hu := us_clr (fm := fm) (x0 := (64 * j + k))
  have hs := ts_clr (fm := fm) hj hr hk
  have hI2 : Iv run (up1 mp j (up1 (mp j) k false)) fr kd wd (upd ct (fr j k) (ct (fr j k) - 1)) (up1 fm (64 * j + k) 0) (up1 cm (64 * j + k) false) (up1 wr (64 * j + k) false) (up1 mk (64 * j + k) false) wo := by
    refine ⟨hc, fun i hi hr2 q hq => ?_, ?_⟩
    · by_cases e : 64 * i + q = 64 * j + k
      · rw [e, up1_s]
      · rw [up1_n e]; exact hI.2.1 i hi hr2 q hq
    · unfold tot at ht ⊢; omega
  refine ⟨frR run (up1 fm (64 * j + k) 0) - frR run fm, run, up1 mp j (up1 (mp j) k false), fr, kd, wd, upd ct (fr j k) (ct (fr j k) - 1), af, cf, up1 fm (64 * j + k) 0, up1 cm (64 * j + k) false, up1 wr (64 * j + k) false, up1 mk (64 * j + k) false, wo, fun A => ?_, fun A => rp_unmap_ok hj hk hr hp hI.1.1, hI2⟩
  rw [← hI2.fre, ← hI.fre]
  exact fp_unmap_ok hj hk hr ((hI.mt hj hk).mpr hp) hf
end CM
