section CM
variable {l : Launch} {D : va_G} {ad bd : Nat → Nat} {cI cQ cZ : ClassId} {run : Nat → Bool} {mp : Nat → Nat → Bool} {fr : Nat → Nat → Nat} {kd : Nat → Nat → Int32} {wd ct : Nat → Int32} {af cf : Int32} {fm : Nat → Nat} {cm wr mk : Nat → Bool} {wo : Nat → Int32}
theorem loN_spec (mt : Nat → Bool) : ∀ d, d ≤ 64 → (loN mt d = 64 ∧ ∀ i, 64 - d ≤ i → i < 64 → mt i = false) ∨ (64 - d ≤ loN mt d ∧ loN mt d < 64 ∧ mt (loN mt d) = true ∧ ∀ i, 64 - d ≤ i → i < loN mt d → mt i = false)
  | 0, _ => Or.inl ⟨rfl, fun i h1 h2 => by omega⟩
  | d + 1, h => by
    have ih := loN_spec mt d (by omega)
    cases hm : mt (63 - d)
    · have e : loN mt (d + 1) = loN mt d := by simp [loN, hm]
      rw [e]
      rcases ih with ⟨h1, h2⟩ | ⟨h1, h2, h3, h4⟩
      · refine Or.inl ⟨h1, fun i a b => ?_⟩
        by_cases q : i = 63 - d
        · subst q; exact hm
        · exact h2 i (by omega) b
      · refine Or.inr ⟨by omega, h2, h3, fun i a b => ?_⟩
        by_cases q : i = 63 - d
        · subst q; exact hm
        · exact h4 i (by omega) b
    · have e : loN mt (d + 1) = 63 - d := by simp [loN, hm]
      rw [e]
      exact Or.inr ⟨by omega, by omega, hm, fun i a b => by omega⟩
theorem low_d (v : Int32) : ∃ d, d ≤ 64 ∧ (∀ e, e < d → v < nI (63 - e)) ∧ (d = 64 ∨ nI (63 - d) ≤ v) := by
  obtain ⟨d, h1, h2⟩ := pk_least (fun d => d = 64 ∨ nI (63 - d) ≤ v) ⟨64, Or.inl rfl⟩
  refine ⟨d, ?_, fun e he => ?_, h1⟩
  · rcases Nat.lt_or_ge 64 d with q | q
    · exact absurd (Or.inl rfl) (h2 64 q)
    · exact q
  · have := h2 e he
    exact Int32.not_le.mp (fun q => this (Or.inr q))
set_option maxHeartbeats 4000000 in
set_option maxRecDepth 100000 in
theorem op_twin (hI : Iv run mp fr kd wd ct fm cm wr mk wo) (x y u v : Int32) : ∃ (r : Int32) (run' : Nat → Bool) (mp' : Nat → Nat → Bool) (fr' : Nat → Nat → Nat) (kd' : Nat → Nat → Int32) (wd' ct' : Nat → Int32) (af' cf' : Int32) (fm' : Nat → Nat) (cm' wr' mk' : Nat → Bool) (wo' : Nat → Int32), (∀ A : Nat → Prop, gM l yX2_twin cX2_twin 9 (some .int) 2 43 D cls (fpT cI cQ cZ) A (fpW ad cI cQ run mp fr kd wd ct af cf) [.ref (ad 0), .int x, .int y, .int u, .int v] (some (.int r)) (fpW ad cI cQ run' mp' fr' kd' wd' ct' af' cf')) ∧ (∀ A : Nat → Prop, gM l yX3_twin cX3_twin 8 (some .int) 2 43 D cls (fpT cI cQ cZ) A (rfW bd cI cZ run fm cm wr mk wo af cf) [.ref (bd 0), .int x, .int y, .int u, .int v] (some (.int r)) (rfW bd cI cZ run' fm' cm' wr' mk' wo' af' cf')) ∧ Iv run' mp' fr' kd' wd' ct' fm' cm' wr' mk' wo' := by
  by_cases hu : rn run u
  · obtain ⟨n, hn, rfl, hrn⟩ := hu
    by_cases hx : rn run x
    · obtain ⟨j, hj, rfl, hr⟩ := hx
      rcases rf_mp (l := l) (D := D) (ad := ad) (bd := bd) (cI := cI) (cQ := cQ) (cZ := cZ) (af := af) (cf := cf) hI (nI j) y with ⟨r, h1, h2, h3⟩ | ⟨j2, k, hj2, hk, hr2, e, rfl, hp⟩
      · exact ⟨r, run, mp, fr, kd, wd, ct, af, cf, fm, cm, wr, mk, wo, fun A => fp_twin_no hn hrn (neg_ne h1) (h2 A), fun A => rp_twin_no hj hr hn hrn (neg_nle h1) (h3 A), hI⟩
      rw [nI_eq (by omega) (by omega)] at e
      subst e
      obtain ⟨d, hd, hv, hx0⟩ := low_d v
      have hmt := (hI.mt hj hk).mpr hp
      have hf := (hI.at hj hk hp).1
      have hfn : ∀ i, i < 64 → mp n i = true → fr n i < 24 := fun i hi hm => (hI.at hn hi ((hI.mt hn hi).mp hm)).1
      have key : ∀ i, i < 64 → ((mp n i = true ∧ fr n i = fr j k) ↔ twM fm n (fm (64 * j + k)) i = true) := by
        intro i hi
        have hq := hI.1.2.2.2.1 (64 * n + i) (64 * j + k) (by omega) (by omega)
        rw [fl_at fr hi, fl_at fr hk] at hq
        constructor
        · intro ⟨a, b⟩
          have := (hq ((hI.mt hn hi).mp a) hp).mp b
          simp [twM, this]
        · intro a
          have a2 : fm (64 * n + i) = fm (64 * j + k) := by simpa [twM] using a
          have a3 : 0 < fm (64 * n + i) := by omega
          exact ⟨(hI.mt hn hi).mpr a3, (hq a3 hp).mpr a2⟩
      have hlow : ∀ i, i < 64 → (v < nI i ↔ 64 - d ≤ i) := by
        intro i hi
        constructor
        · intro a
          rcases Nat.lt_or_ge i (64 - d) with q | q
          · rcases hx0 with q2 | q2
            · omega
            · have q3 : nI i ≤ nI (63 - d) := nI_le (by omega) (by omega)
              exact absurd a (Int32.not_lt.mpr (Int32.le_trans q3 q2))
          · exact q
        · intro a
          have := hv (63 - i) (by omega)
          rw [show 63 - (63 - i) = i by omega] at this
          exact this
      refine ⟨nI (loN (twM fm n (fm (64 * j + k))) d), run, mp, fr, kd, wd, ct, af, cf, fm, cm, wr, mk, wo, fun A => ?_, fun A => rp_twin_ok hj hr hn hrn hk hp hI.1.1 hd hv hx0, hI⟩
      rcases loN_spec (twM fm n (fm (64 * j + k))) d hd with ⟨e1, e2⟩ | ⟨e1, e2, e3, e4⟩
      · rw [e1]
        refine fp_twin_none hj hr hn hrn hk hmt hf hfn (fun i hi hP => ?_)
        have a := e2 i ((hlow i hi).mp hP.1) hi
        rw [(key i hi).mp hP.2] at a
        cases a
      · refine fp_twin_hit hj hr hn hrn hk hmt hf hfn e2 ⟨(hlow _ e2).mpr e1, (key _ e2).mpr e3⟩ (fun i hi hP => ?_)
        have a := e4 i ((hlow i (by omega)).mp hP.1) hi
        rw [(key i (by omega)).mp hP.2] at a
        cases a
    · exact ⟨-1, run, mp, fr, kd, wd, ct, af, cf, fm, cm, wr, mk, wo, fun A => fp_twin_no hn hrn (by decide) (fm_rM_1 hx), fun A => rp_twin_1a hx, hI⟩
  · by_cases hx : rn run x
    · obtain ⟨j, hj, rfl, hr⟩ := hx
      exact ⟨-1, run, mp, fr, kd, wd, ct, af, cf, fm, cm, wr, mk, wo, fun A => fp_twin_1 hu, fun A => rp_twin_1b hj hr hu, hI⟩
    · exact ⟨-1, run, mp, fr, kd, wd, ct, af, cf, fm, cm, wr, mk, wo, fun A => fp_twin_1 hu, fun A => rp_twin_1a hx, hI⟩
set_option maxHeartbeats 4000000 in
set_option maxRecDepth 100000 in
theorem fk_step {f : Nat → Nat → Nat} {mp : Nat → Nat → Bool} {kd : Nat → Nat → Int32} {wd ct : Nat → Int32} {fm : Nat → Nat} {cm wr mk : Nat → Bool} {wo : Nat → Int32} {j n i : Nat} (hj : j < 5) (hn : n < 5) (hi : i < 64) (h : Co (fl mp) (fl f) (fl kd) wd ct fm cm wr mk wo) (hp : 0 < fm (64 * j + i)) (h0 : fm (64 * n + i) = 0) :
    Co (fl (up1 mp n (up1 (mp n) i true))) (fl (up1 f n (up1 (f n) i (f j i)))) (fl (up1 (shK kd j i) n (upd (shK kd j i n) i (shK kd j i j i)))) wd (upd ct (f j i) (ct (f j i) + 1)) (up1 fm (64 * n + i) (fm (64 * j + i))) (up1 cm (64 * n + i) (cm (64 * j + i))) (up1 wr (64 * n + i) (wr (64 * j + i)))
      (up1 (up1 mk (64 * j + i) (mk (64 * j + i) || (decide (0 < fm (64 * j + i)) && !cm (64 * j + i)))) (64 * n + i) (up1 mk (64 * j + i) (mk (64 * j + i) || (decide (0 < fm (64 * j + i)) && !cm (64 * j + i))) (64 * j + i))) wo := by
  have hkd := (h.2.2.1 (64 * j + i) (by omega) hp).2.1
  rw [fl_at kd hi] at hkd
  have hV : (mk (64 * j + i) || (decide (0 < fm (64 * j + i)) && !cm (64 * j + i))) = (mk (64 * j + i) || !cm (64 * j + i)) := by simp [hp]
  rw [hV]
  have hsh : fl (shK kd j i) = up1 (fl kd) (64 * j + i) (nI (mpI (wr (64 * j + i)) (cm (64 * j + i)) (mk (64 * j + i) || !cm (64 * j + i)))) := by
    have hw := kd_w (wr (64 * j + i)) (cm (64 * j + i)) (mk (64 * j + i))
    rw [← hkd] at hw
    unfold shK
    by_cases q : kd j i &&& 2 = 0 ∧ kd j i &&& 4 = 0
    · rw [if_pos q, fl_upd kd hi, hw.2.2.2.2, hw.2.1.mp q.1, hw.2.2.1.mp q.2]; rfl
    · rw [if_neg q]
      have e : (mk (64 * j + i) || !cm (64 * j + i)) = mk (64 * j + i) := by
        cases hc : cm (64 * j + i)
        · cases hm : mk (64 * j + i)
          · exact absurd ⟨hw.2.1.mpr hc, hw.2.2.1.mpr hm⟩ q
          · rfl
        · simp
      rw [e, ← hkd, ← fl_at kd hi, up1_id]
  have h1 := h.kind (x0 := 64 * j + i) (v := nI (mpI (wr (64 * j + i)) (cm (64 * j + i)) (mk (64 * j + i) || !cm (64 * j + i)))) (c := cm (64 * j + i)) (w := wr (64 * j + i)) (k := mk (64 * j + i) || !cm (64 * j + i)) rfl
  rw [up1_id, up1_id, ← hsh] at h1
  have hv : shK kd j i j i = nI (mpI (wr (64 * j + i)) (cm (64 * j + i)) (mk (64 * j + i) || !cm (64 * j + i))) := by
    rw [← fl_at (shK kd j i) hi, hsh, up1_s]
  have h2 := h1.attach (x0 := 64 * n + i) (y0 := 64 * j + i) (v := shK kd j i j i) (c := cm (64 * j + i)) (w := wr (64 * j + i)) (k := mk (64 * j + i) || !cm (64 * j + i)) (by omega) (by omega) h0 hp hv
  rw [fl_up mp hi, fl_up f hi, fl_upd _ hi, up1_s]
  rw [fl_at f hi] at h2
  exact h2
set_option maxHeartbeats 4000000 in
set_option maxRecDepth 100000 in
theorem fk_all {j n : Nat} (hj : j < 5) (hn : n < 5) (hjn : ¬ j = n) (hC : Co (fl mp) (fl fr) (fl kd) wd ct fm cm wr mk wo) (h0 : ∀ k, k < 64 → fm (64 * n + k) = 0) : ∀ i, i ≤ 64 → Co (fl (fkS j n mp fr kd ct i).1) (fl (fkS j n mp fr kd ct i).2.1) (fl (fkS j n mp fr kd ct i).2.2.1) wd (fkS j n mp fr kd ct i).2.2.2 (rkS j n fm cm wr mk i).1 (rkS j n fm cm wr mk i).2.1 (rkS j n fm cm wr mk i).2.2.1 (rkS j n fm cm wr mk i).2.2.2 wo ∧ (∀ x, (∀ k, k < i → ¬ x = 64 * n + k) → (rkS j n fm cm wr mk i).1 x = fm x) ∧ (∀ k, k < i → (rkS j n fm cm wr mk i).1 (64 * n + k) = fm (64 * j + k))
  | 0, _ => ⟨hC, fun x _ => rfl, fun k hk => absurd hk (Nat.not_lt_zero k)⟩
  | i + 1, hi => by
    obtain ⟨h1, h2, h3⟩ := fk_all hj hn hjn hC h0 i (by omega)
    have hx : (rkS j n fm cm wr mk i).1 (64 * j + i) = fm (64 * j + i) := h2 _ (fun k hk => by omega)
    have hy : (rkS j n fm cm wr mk i).1 (64 * n + i) = 0 := by rw [h2 _ (fun k hk => by omega)]; exact h0 i (by omega)
    have hmx : (fkS j n mp fr kd ct i).1 j i = true ↔ 0 < fm (64 * j + i) := by
      have := h1.mt (x := 64 * j + i) (by omega)
      rw [fl_at _ (show i < 64 by omega), hx] at this
      exact this
    refine ⟨?_, fun x hne => ?_, fun k hk => ?_⟩
    · cases hc : (fkS j n mp fr kd ct i).1 j i
      · have e : fkS j n mp fr kd ct (i + 1) = fkS j n mp fr kd ct i := by simp [fkS, hc]
        have hz : fm (64 * j + i) = 0 := by
          rcases Nat.eq_zero_or_pos (fm (64 * j + i)) with q | q
          · exact q
          · rw [hmx.mpr q] at hc; cases hc
        have h4 := h1.clear0 (x0 := 64 * n + i) hy ((rkS j n fm cm wr mk i).2.1 (64 * j + i)) ((rkS j n fm cm wr mk i).2.2.1 (64 * j + i)) ((rkS j n fm cm wr mk i).2.2.2 (64 * j + i))
        rw [e]
        have e1 : (rkS j n fm cm wr mk (i + 1)).1 = up1 (rkS j n fm cm wr mk i).1 (64 * n + i) 0 := by
          show up1 (rkS j n fm cm wr mk i).1 (64 * n + i) ((rkS j n fm cm wr mk i).1 (64 * j + i)) = _
          rw [hx, hz]
        have e2 : (rkS j n fm cm wr mk (i + 1)).2.2.2 = up1 (rkS j n fm cm wr mk i).2.2.2 (64 * n + i) ((rkS j n fm cm wr mk i).2.2.2 (64 * j + i)) := by
          show up1 (up1 (rkS j n fm cm wr mk i).2.2.2 (64 * j + i) ((rkS j n fm cm wr mk i).2.2.2 (64 * j + i) || (decide (0 < (rkS j n fm cm wr mk i).1 (64 * j + i)) && !(rkS j n fm cm wr mk i).2.1 (64 * j + i)))) (64 * n + i) (up1 (rkS j n fm cm wr mk i).2.2.2 (64 * j + i) ((rkS j n fm cm wr mk i).2.2.2 (64 * j + i) || (decide (0 < (rkS j n fm cm wr mk i).1 (64 * j + i)) && !(rkS j n fm cm wr mk i).2.1 (64 * j + i))) (64 * j + i)) = _
          have q : ((rkS j n fm cm wr mk i).2.2.2 (64 * j + i) || (decide (0 < (rkS j n fm cm wr mk i).1 (64 * j + i)) && !(rkS j n fm cm wr mk i).2.1 (64 * j + i))) = (rkS j n fm cm wr mk i).2.2.2 (64 * j + i) := by rw [hx, hz]; simp
          rw [q, up1_id]
        rw [e1, e2]
        exact h4
      · have e : fkS j n mp fr kd ct (i + 1) = _ := if_pos hc
        have hp := hmx.mp hc
        have h4 := fk_step hj hn (show i < 64 by omega) h1 (by rw [hx]; exact hp) hy
        rw [e]
        exact h4
    · show up1 (rkS j n fm cm wr mk i).1 (64 * n + i) ((rkS j n fm cm wr mk i).1 (64 * j + i)) x = fm x
      rw [up1_n (hne i (by omega))]
      exact h2 x (fun k hk => hne k (by omega))
    · show up1 (rkS j n fm cm wr mk i).1 (64 * n + i) ((rkS j n fm cm wr mk i).1 (64 * j + i)) (64 * n + k) = fm (64 * j + k)
      by_cases q : k = i
      · subst q; rw [up1_s]; exact hx
      · rw [up1_n (by omega)]; exact h3 k (by omega)
set_option maxHeartbeats 4000000 in
set_option maxRecDepth 100000 in
theorem op_fork (hI : Iv run mp fr kd wd ct fm cm wr mk wo) (x : Int32) : ∃ (r : Int32) (run' : Nat → Bool) (mp' : Nat → Nat → Bool) (fr' : Nat → Nat → Nat) (kd' : Nat → Nat → Int32) (wd' ct' : Nat → Int32) (af' cf' : Int32) (fm' : Nat → Nat) (cm' wr' mk' : Nat → Bool) (wo' : Nat → Int32), (∀ A : Nat → Prop, gM l yX2_fork cX2_fork 6 (some .int) 4 90 D cls (fpT cI cQ cZ) A (fpW ad cI cQ run mp fr kd wd ct af cf) [.ref (ad 0), .int x] (some (.int r)) (fpW ad cI cQ run' mp' fr' kd' wd' ct' af' cf')) ∧ (∀ A : Nat → Prop, gM l yX3_fork cX3_fork 6 (some .int) 3 70 D cls (fpT cI cQ cZ) A (rfW bd cI cZ run fm cm wr mk wo af cf) [.ref (bd 0), .int x] (some (.int r)) (rfW bd cI cZ run' fm' cm' wr' mk' wo' af' cf')) ∧ Iv run' mp' fr' kd' wd' ct' fm' cm' wr' mk' wo' := by
  by_cases h : rn run x
  · obtain ⟨j, hj, rfl, hr⟩ := h
    rcases idle_or run with hall | ⟨n, hn, hn0, hm⟩
    · exact ⟨-7, run, mp, fr, kd, wd, ct, af, cf, fm, cm, wr, mk, wo, fun A => fp_fork_full hj hr hall, fun A => rp_fork_full hj hr hall, hI⟩
    have hjn : ¬ j = n := fun e => by rw [e, hn0] at hr; cases hr
    have htb := hI.tb hj
    have hfn := hI.fn
    have ht := hI.2.2
    have htl := tb_le (pgS fm j)
    by_cases h2 : tbN (pgS fm j) ≤ 24 - tot run fm
    · have h2r : nI (tbN (pgS fm j)) ≤ frR run fm := by rw [hfn, nI_leI (by omega) (by omega)]; exact h2
      have h2c : nI (tbN (mp j)) ≤ frF run mp ct := by rw [htb, hI.fre]; exact h2r
      have hall := fk_all hj hn hjn hI.1 (hI.2.1 n hn hn0)
      have hf : ∀ i, i < 64 → (fkS j n mp fr kd ct i).1 j i = true → (fkS j n mp fr kd ct i).2.1 j i < 24 := by
        intro i hi hc
        obtain ⟨a1, -, -⟩ := hall i (by omega)
        have a2 := a1.mt (x := 64 * j + i) (by omega)
        rw [fl_at _ hi] at a2
        have a3 := (a1.2.2.1 (64 * j + i) (by omega) (a2.mp hc)).1
        rw [fl_at _ hi] at a3
        exact a3
      obtain ⟨b1, b2, b3⟩ := hall 64 (Nat.le_refl _)
      refine ⟨nI n, _, _, _, _, _, _, _, _, _, _, _, _, _, fun A => fp_fork_ok hj hr hn hn0 hm h2c hf, fun A => rp_fork_ok hj hr hn hn0 hm hI.1.1 h2r, b1, ?_, ?_⟩
      · intro i hi hr2 k hk
        have e : ¬ i = n := fun e => by rw [e, up1_s] at hr2; cases hr2
        rw [up1_n e] at hr2
        rw [b2 _ (fun q hq => by omega)]
        exact hI.2.1 i hi hr2 k hk
      · have c1 : usR (rkS j n fm cm wr mk 64).1 24 ≤ usR fm 24 := by
          apply us_mono
          intro x hx hp
          by_cases q : ∃ k, k < 64 ∧ x = 64 * n + k
          · obtain ⟨k, hk, rfl⟩ := q
            exact ⟨64 * j + k, by omega, (b3 k hk).symm⟩
          · exact ⟨x, hx, (b2 x (fun k hk e => q ⟨k, hk, e⟩)).symm⟩
        have c2 : tbN (pgS (rkS j n fm cm wr mk 64).1 n) = tbN (pgS fm j) := by
          apply tbN_ext
          intro k hk
          unfold pgS
          rw [b3 k hk]
        have c3 : tsm run (pgS (rkS j n fm cm wr mk 64).1) 5 = tsm run (pgS fm) 5 := by
          rw [tsm_sm, tsm_sm]
          apply sm_ext
          intro i hi
          by_cases e : i = n
          · rw [e, hn0]; rfl
          · have q : tbN (pgS (rkS j n fm cm wr mk 64).1 i) = tbN (pgS fm i) := by
              apply tbN_ext
              intro k hk
              unfold pgS
              rw [b2 _ (fun z hz => by omega)]
            rw [q]
        unfold tot at h2 ht ⊢
        rw [ts_run hn hn0, c2, c3]
        omega
    · have h2r : ¬ nI (tbN (pgS fm j)) ≤ frR run fm := by rw [hfn, nI_leI (by omega) (by omega)]; exact h2
      have h2c : ¬ nI (tbN (mp j)) ≤ frF run mp ct := by rw [htb, hI.fre]; exact h2r
      exact ⟨-8, run, mp, fr, kd, wd, ct, af, cf, fm, cm, wr, mk, wo, fun A => fp_fork_room hj hr hn hn0 hm h2c, fun A => rp_fork_room hj hr hn hn0 hm hI.1.1 h2r, hI⟩
  · exact ⟨-1, run, mp, fr, kd, wd, ct, af, cf, fm, cm, wr, mk, wo, fun A => fp_fork_1 h, fun A => rp_fork_1 h, hI⟩
set_option maxHeartbeats 4000000 in
set_option maxRecDepth 100000 in
theorem ex_all {j : Nat} (hj : j < 5) (hC : Co (fl mp) (fl fr) (fl kd) wd ct fm cm wr mk wo) : ∀ i, i ≤ 64 → Co (fl (exS j fr mp ct i).1) (fl fr) (fl kd) wd (exS j fr mp ct i).2 (rxS j fm cm wr mk i).1 (rxS j fm cm wr mk i).2.1 (rxS j fm cm wr mk i).2.2.1 (rxS j fm cm wr mk i).2.2.2 wo ∧ (∀ x, (∀ k, k < i → ¬ x = 64 * j + k) → (rxS j fm cm wr mk i).1 x = fm x) ∧ (∀ k, k < i → (rxS j fm cm wr mk i).1 (64 * j + k) = 0)
  | 0, _ => ⟨hC, fun x _ => rfl, fun k hk => absurd hk (Nat.not_lt_zero k)⟩
  | i + 1, hi => by
    obtain ⟨h1, h2, h3⟩ := ex_all hj hC i (by omega)
    have hmx : (exS j fr mp ct i).1 j i = true ↔ 0 < (rxS j fm cm wr mk i).1 (64 * j + i) := by
      have := h1.mt (x := 64 * j + i) (by omega)
      rw [fl_at _ (show i < 64 by omega)] at this
      exact this
    refine ⟨?_, fun x hne => ?_, fun k hk => ?_⟩
    · cases hc : (exS j fr mp ct i).1 j i
      · have e : exS j fr mp ct (i + 1) = exS j fr mp ct i := by simp [exS, hc]
        have hz : (rxS j fm cm wr mk i).1 (64 * j + i) = 0 := by
          rcases Nat.eq_zero_or_pos ((rxS j fm cm wr mk i).1 (64 * j + i)) with q | q
          · exact q
          · rw [hmx.mpr q] at hc; cases hc
        rw [e]
        exact h1.clear0 (x0 := 64 * j + i) hz false false false
      · have e : exS j fr mp ct (i + 1) = _ := if_pos hc
        have h4 := h1.clear (x0 := 64 * j + i) (by omega) (hmx.mp hc) false false false
        rw [fl_at fr (show i < 64 by omega), ← fl_up _ (show i < 64 by omega)] at h4
        rw [e]
        exact h4
    · show up1 (rxS j fm cm wr mk i).1 (64 * j + i) 0 x = fm x
      rw [up1_n (hne i (by omega))]
      exact h2 x (fun k hk => hne k (by omega))
    · show up1 (rxS j fm cm wr mk i).1 (64 * j + i) 0 (64 * j + k) = 0
      by_cases q : k = i
      · subst q; rw [up1_s]
      · rw [up1_n (by omega)]; exact h3 k (by omega)
set_option maxHeartbeats 4000000 in
set_option maxRecDepth 100000 in
theorem op_exit (hI : Iv run mp fr kd wd ct fm cm wr mk wo) (x : Int32) : ∃ (r : Int32) (run' : Nat → Bool) (mp' : Nat → Nat → Bool) (fr' : Nat → Nat → Nat) (kd' : Nat → Nat → Int32) (wd' ct' : Nat → Int32) (af' cf' : Int32) (fm' : Nat → Nat) (cm' wr' mk' : Nat → Bool) (wo' : Nat → Int32), (∀ A : Nat → Prop, gM l yX2_exit cX2_exit 5 (some .int) 4 90 D cls (fpT cI cQ cZ) A (fpW ad cI cQ run mp fr kd wd ct af cf) [.ref (ad 0), .int x] (some (.int r)) (fpW ad cI cQ run' mp' fr' kd' wd' ct' af' cf')) ∧ (∀ A : Nat → Prop, gM l yX3_exit cX3_exit 4 (some .int) 3 70 D cls (fpT cI cQ cZ) A (rfW bd cI cZ run fm cm wr mk wo af cf) [.ref (bd 0), .int x] (some (.int r)) (rfW bd cI cZ run' fm' cm' wr' mk' wo' af' cf')) ∧ Iv run' mp' fr' kd' wd' ct' fm' cm' wr' mk' wo' := by
  by_cases h : rn run x
  · obtain ⟨j, hj, rfl, hr⟩ := h
    have hall := ex_all hj hI.1
    have ht := hI.2.2
    have hf : ∀ i, i < 64 → (exS j fr mp ct i).1 j i = true → fr j i < 24 := by
      intro i hi hc
      obtain ⟨a1, -, -⟩ := hall i (by omega)
      have a2 := a1.mt (x := 64 * j + i) (by omega)
      rw [fl_at _ hi] at a2
      have a3 := (a1.2.2.1 (64 * j + i) (by omega) (a2.mp hc)).1
      rw [fl_at _ hi] at a3
      exact a3
    obtain ⟨b1, b2, b3⟩ := hall 64 (Nat.le_refl _)
    have hI2 : Iv (up1 run j false) (exS j fr mp ct 64).1 fr kd wd (exS j fr mp ct 64).2 (rxS j fm cm wr mk 64).1 (rxS j fm cm wr mk 64).2.1 (rxS j fm cm wr mk 64).2.2.1 (rxS j fm cm wr mk 64).2.2.2 wo := by
      refine ⟨b1, fun i hi hr2 k hk => ?_, ?_⟩
      · by_cases e : i = j
        · rw [e]; exact b3 k hk
        · rw [up1_n e] at hr2
          rw [b2 _ (fun q hq => by omega)]
          exact hI.2.1 i hi hr2 k hk
      · have c1 : usR (rxS j fm cm wr mk 64).1 24 ≤ usR fm 24 := by
          apply us_mono
          intro x hx hp
          have q : ∀ k, k < 64 → ¬ x = 64 * j + k := fun k hk e => by rw [e, b3 k hk] at hp; omega
          exact ⟨x, hx, (b2 x q).symm⟩
        have c2 : tsm (up1 run j false) (pgS (rxS j fm cm wr mk 64).1) 5 ≤ tsm run (pgS fm) 5 := by
          rw [tsm_sm, tsm_sm]
          apply sm_mono
          intro i hi
          by_cases e : i = j
          · rw [e, up1_s]; simp
          · have q : tbN (pgS (rxS j fm cm wr mk 64).1 i) = tbN (pgS fm i) := by
              apply tbN_ext
              intro k hk
              unfold pgS
              rw [b2 _ (fun z hz => by omega)]
            rw [up1_n e, q]
            exact Nat.le_refl _
        unfold tot at ht ⊢
        omega
    refine ⟨frR (up1 run j false) (rxS j fm cm wr mk 64).1 - frR run fm, _, _, _, _, _, _, _, _, _, _, _, _, _, fun A => ?_, fun A => rp_exit_ok hj hr hI.1.1, hI2⟩
    rw [← hI2.fre, ← hI.fre]
    exact fp_exit_ok hj hr hf
  · exact ⟨-1, run, mp, fr, kd, wd, ct, af, cf, fm, cm, wr, mk, wo, fun A => fp_exit_1 h, fun A => rp_exit_1 h, hI⟩
end CM
