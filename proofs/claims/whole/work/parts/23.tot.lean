/-! frames and tables in all -/
theorem pc_mono {p q : Nat → Bool} : ∀ n, (∀ i, i < n → p i = true → q i = true) → pcN p n ≤ pcN q n
  | 0, _ => Nat.le_refl _
  | n + 1, h => by
    have ih := pc_mono n (fun i hi => h i (by omega))
    simp only [pcN]
    cases hp : p n
    · simp; omega
    · rw [h n (by omega) hp]; simp; exact ih
theorem ld_ex {fm : Nat → Nat} {c : Nat} : 0 < ldN fm c ↔ ∃ x, x < 320 ∧ fm x = c + 1 := by
  constructor
  · intro h
    obtain ⟨x, h1, h2⟩ := pc_ex 320 h
    exact ⟨x, h1, by simpa using h2⟩
  · intro ⟨x, h1, h2⟩
    exact pc_ge 320 x h1 (by simp [h2])
theorem us_mono {fm fm' : Nat → Nat} (h : ∀ x, x < 320 → 0 < fm' x → ∃ y, y < 320 ∧ fm y = fm' x) : usR fm' 24 ≤ usR fm 24 := by
  apply pc_mono
  intro c _ hc
  have h1 : 0 < ldN fm' c := by simpa using hc
  obtain ⟨x, h2, h3⟩ := ld_ex.mp h1
  obtain ⟨y, h4, h5⟩ := h x h2 (by omega)
  have h6 : 0 < ldN fm c := ld_ex.mpr ⟨y, h4, by omega⟩
  simp [h6]
theorem us_mono1 {fm fm' : Nat → Nat} {g0 : Nat} (hg : g0 < 24) (h : ∀ x, x < 320 → 0 < fm' x → fm' x = g0 + 1 ∨ ∃ y, y < 320 ∧ fm y = fm' x) : usR fm' 24 ≤ usR fm 24 + 1 := by
  have h1 : usR fm' 24 ≤ pcN (up1 (fun c => decide (0 < ldN fm c)) g0 true) 24 := by
    apply pc_mono
    intro c _ hc
    have h1 : 0 < ldN fm' c := by simpa using hc
    obtain ⟨x, h2, h3⟩ := ld_ex.mp h1
    rcases h x h2 (by omega) with h4 | ⟨y, h4, h5⟩
    · have e : c = g0 := by omega
      subst e; exact up1_s
    · have h6 : 0 < ldN fm c := ld_ex.mpr ⟨y, h4, by omega⟩
      by_cases e : c = g0
      · subst e; exact up1_s
      · rw [up1_n e]; simp [h6]
  have h2 := pc_up (fun c => decide (0 < ldN fm c)) g0 true 24 hg
  have h3 : usR fm 24 = pcN (fun c => decide (0 < ldN fm c)) 24 := rfl
  simp only [if_pos] at h2
  omega
/-- sums -/
def sm (g : Nat → Nat) : Nat → Nat
  | 0 => 0
  | n + 1 => sm g n + g n
theorem sm_ext {g g' : Nat → Nat} : ∀ n, (∀ i, i < n → g i = g' i) → sm g n = sm g' n
  | 0, _ => rfl
  | n + 1, h => by
    have ih := sm_ext n (fun i hi => h i (by omega))
    simp only [sm, ih, h n (by omega)]
theorem sm_set {g g' : Nat → Nat} {j : Nat} : ∀ n, j < n → (∀ i, i < n → ¬ i = j → g' i = g i) → sm g' n + g j = sm g n + g' j
  | 0, hj, _ => absurd hj (Nat.not_lt_zero j)
  | n + 1, hj, h => by
    by_cases e : j = n
    · subst e
      have := sm_ext (g := g') (g' := g) j (fun i hi => h i (by omega) (by omega))
      simp only [sm, this]; omega
    · have ih := sm_set n (by omega) (fun i hi => h i (by omega))
      have := h n (by omega) (fun z => e z.symm)
      simp only [sm, this]; omega
theorem sm_mono {g g' : Nat → Nat} : ∀ n, (∀ i, i < n → g' i ≤ g i) → sm g' n ≤ sm g n
  | 0, _ => Nat.le_refl _
  | n + 1, h => by
    have ih := sm_mono n (fun i hi => h i (by omega))
    have := h n (by omega)
    simp only [sm]; omega
theorem tsm_sm (run : Nat → Bool) (b : Nat → Nat → Bool) : ∀ n, tsm run b n = sm (fun j => if run j then tbN (b j) else 0) n
  | 0 => rfl
  | n + 1 => by simp only [tsm, sm, tsm_sm run b n]
theorem spU_sm (b : Nat → Bool) (w : Nat) : ∀ n, spU b w n = sm (fun i => if anB b (i * w) w then 1 else 0) n
  | 0 => rfl
  | n + 1 => by simp only [spU, sm, spU_sm b w n]
theorem anB_up {b : Nat → Bool} {a k : Nat} {v : Bool} : ∀ w, (k < a ∨ a + w ≤ k) → anB (up1 b k v) a w = anB b a w
  | 0, _ => rfl
  | w + 1, h => by
    have ih := anB_up (b := b) (a := a) (k := k) (v := v) w (by omega)
    simp only [anB, ih, up1_n (f := b) (k := k) (j := a + w) (v := v) (by omega)]
theorem sp_add {b : Nat → Bool} {w n k : Nat} (hw : 0 < w) (hk : k < n * w) (hb : b k = false) : spU (up1 b k true) w n = spU b w n + (if anB b (k / w * w) w then 0 else 1) := by
  have hd : k / w < n := (Nat.div_lt_iff_lt_mul hw).mpr hk
  have h := sm_set (g := fun i => if anB b (i * w) w then 1 else 0) (g' := fun i => if anB (up1 b k true) (i * w) w then 1 else 0) (j := k / w) n hd (fun i hi hne => by
    have e : anB (up1 b k true) (i * w) w = anB b (i * w) w := by
      apply anB_up
      have h1 := Nat.div_add_mod k w
      have h2 := Nat.mod_lt k hw
      rw [Nat.mul_comm] at h1
      rcases Nat.lt_or_gt_of_ne hne with q | q
      · right
        have h3 : (i + 1) * w ≤ k / w * w := Nat.mul_le_mul_right w q
        rw [Nat.add_mul, Nat.one_mul] at h3
        omega
      · left
        have h3 : (k / w + 1) * w ≤ i * w := Nat.mul_le_mul_right w q
        rw [Nat.add_mul, Nat.one_mul] at h3
        omega
    show (if anB (up1 b k true) (i * w) w then 1 else 0) = (if anB b (i * w) w then 1 else 0)
    rw [e])
  have e1 : anB (up1 b k true) (k / w * w) w = true := by
    rw [anB_t]
    have h1 := Nat.div_add_mod k w
    rw [Nat.mul_comm] at h1
    exact ⟨k % w, Nat.mod_lt k hw, by rw [h1]; exact up1_s⟩
  rw [spU_sm, spU_sm]
  simp only [e1, if_pos] at h
  cases e2 : anB b (k / w * w) w
  · rw [e2] at h; simp at h ⊢; omega
  · rw [e2] at h; simp at h ⊢; omega
theorem tb_add {b : Nat → Bool} {k : Nat} (hk : k < 64) (hb : b k = false) : tbN (up1 b k true) = tbN b + mrN b k := by
  unfold tbN mrN
  rw [sp_add (w := 16) (n := 4) (by decide) (by omega) hb, sp_add (w := 4) (n := 16) (by decide) (by omega) hb]
  omega
theorem tb_clr {b : Nat → Bool} {k : Nat} (hk : k < 64) : tbN (up1 b k false) ≤ tbN b := by
  cases hb : b k
  · rw [up1_id' b k hb]; exact Nat.le_refl _
  · have h := tb_add (b := up1 b k false) hk up1_s
    rw [up1_up1, up1_id' b k hb] at h
    omega
theorem tb_le (b : Nat → Bool) : tbN b ≤ 21 := by
  unfold tbN
  have := spU_le b 16 4
  have := spU_le b 4 16
  omega
/-- the pages of the processes behind a change at one place -/
theorem pg_same {fm : Nat → Nat} {j j' k v : Nat} (hk : k < 64) (hj : ¬ j' = j) : tbN (pgS (up1 fm (64 * j + k) v) j') = tbN (pgS fm j') := by
  apply tbN_ext
  intro i hi
  unfold pgS
  rw [up1_n (by omega)]
theorem pg_here {fm : Nat → Nat} {j k v : Nat} (hk : k < 64) : tbN (pgS (up1 fm (64 * j + k) v) j) = tbN (up1 (pgS fm j) k (decide (0 < v))) := by
  apply tbN_ext
  intro i hi
  unfold pgS
  by_cases e : i = k
  · subst e; rw [up1_s, up1_s]
  · rw [up1_n (by omega), up1_n e]
theorem ts_up {run : Nat → Bool} {fm : Nat → Nat} {j k v : Nat} (hj : j < 5) (hr : run j = true) (hk : k < 64) : tsm run (pgS (up1 fm (64 * j + k) v)) 5 + tbN (pgS fm j) = tsm run (pgS fm) 5 + tbN (up1 (pgS fm j) k (decide (0 < v))) := by
  rw [tsm_sm, tsm_sm]
  have h := sm_set (g := fun i => if run i then tbN (pgS fm i) else 0) (g' := fun i => if run i then tbN (pgS (up1 fm (64 * j + k) v) i) else 0) (j := j) 5 hj (fun i hi hne => by
    show (if run i then tbN (pgS (up1 fm (64 * j + k) v) i) else 0) = (if run i then tbN (pgS fm i) else 0)
    rw [pg_same hk hne])
  simp only [hr, if_pos, pg_here hk] at h
  exact h
theorem pg_f {fm : Nat → Nat} {j k : Nat} (h : fm (64 * j + k) = 0) : pgS fm j k = false := by simp [pgS, h]
/-- map and attach -/
theorem tot_add {run : Nat → Bool} {fm : Nat → Nat} {j k v : Nat} (hj : j < 5) (hr : run j = true) (hk : k < 64) (h0 : fm (64 * j + k) = 0) (hv : 0 < v) : tsm run (pgS (up1 fm (64 * j + k) v)) 5 = tsm run (pgS fm) 5 + mrN (pgS fm j) k := by
  have h := ts_up (fm := fm) (v := v) hj hr hk
  rw [show decide (0 < v) = true by simp [hv], tb_add hk (pg_f h0)] at h
  omega
theorem us_att {fm : Nat → Nat} {x0 y0 : Nat} (hy : y0 < 320) : usR (up1 fm x0 (fm y0)) 24 ≤ usR fm 24 := by
  apply us_mono
  intro x hx hp
  by_cases e : x = x0
  · subst e; exact ⟨y0, hy, up1_s.symm⟩
  · exact ⟨x, hx, (up1_n e).symm⟩
theorem us_new {fm : Nat → Nat} {x0 g0 : Nat} (hg : g0 < 24) : usR (up1 fm x0 (g0 + 1)) 24 ≤ usR fm 24 + 1 := by
  apply us_mono1 hg
  intro x hx hp
  by_cases e : x = x0
  · subst e; left; exact up1_s
  · right; exact ⟨x, hx, (up1_n e).symm⟩
theorem us_clr {fm : Nat → Nat} {x0 : Nat} : usR (up1 fm x0 0) 24 ≤ usR fm 24 := by
  apply us_mono
  intro x hx hp
  by_cases e : x = x0
  · subst e; rw [up1_s] at hp; omega
  · exact ⟨x, hx, (up1_n e).symm⟩
theorem ts_clr {run : Nat → Bool} {fm : Nat → Nat} {j k : Nat} (hj : j < 5) (hr : run j = true) (hk : k < 64) : tsm run (pgS (up1 fm (64 * j + k) 0)) 5 ≤ tsm run (pgS fm) 5 := by
  have h := ts_up (fm := fm) (v := 0) hj hr hk
  rw [show decide (0 < 0) = false from rfl] at h
  have := tb_clr (b := pgS fm j) hk
  omega
/-- a frame moves: the same pages are there -/
theorem ts_mv {run : Nat → Bool} {fm : Nat → Nat} {j k v : Nat} (hj : j < 5) (hr : run j = true) (hk : k < 64) (h0 : 0 < fm (64 * j + k)) (hv : 0 < v) : tsm run (pgS (up1 fm (64 * j + k) v)) 5 = tsm run (pgS fm) 5 := by
  have h := ts_up (fm := fm) (v := v) hj hr hk
  have e : up1 (pgS fm j) k (decide (0 < v)) = pgS fm j := up1_id' _ _ (by simp [pgS, h0, hv])
  rw [e] at h
  omega
theorem ts_run {run : Nat → Bool} {b : Nat → Nat → Bool} {j : Nat} (hj : j < 5) (h0 : run j = false) : tsm (up1 run j true) b 5 = tsm run b 5 + tbN (b j) := by
  rw [tsm_sm, tsm_sm]
  have h := sm_set (g := fun i => if run i then tbN (b i) else 0) (g' := fun i => if up1 run j true i then tbN (b i) else 0) (j := j) 5 hj (fun i hi hne => by
    show (if up1 run j true i then tbN (b i) else 0) = (if run i then tbN (b i) else 0)
    rw [up1_n hne])
  simp only [h0, up1_s, if_pos] at h
  simpa using h
theorem ts_stop {run : Nat → Bool} {b : Nat → Nat → Bool} {j : Nat} (hj : j < 5) : tsm (up1 run j false) b 5 ≤ tsm run b 5 := by
  rw [tsm_sm, tsm_sm]
  apply sm_mono
  intro i hi
  by_cases e : i = j
  · subst e; rw [up1_s]; simp
  · rw [up1_n e]; exact Nat.le_refl _
/-- a frame is left over -/
theorem un_ex {ct : Nat → Int32} : ∀ n, (∃ c, c < n ∧ ct c = 0) → ct (unF ct n) = 0
  | 0, h => by obtain ⟨c, h1, _⟩ := h; omega
  | n + 1, h => by
    simp only [unF]
    by_cases e : ct n = 0
    · rw [if_pos e]; exact e
    · rw [if_neg e]
      obtain ⟨c, h1, h2⟩ := h
      have : ¬ c = n := fun q => e (by rw [← q]; exact h2)
      exact un_ex n ⟨c, by omega, h2⟩
theorem pc_full {p : Nat → Bool} : ∀ n, pcN p n < n → ∃ c, c < n ∧ p c = false
  | 0, h => absurd h (Nat.not_lt_zero _)
  | n + 1, h => by
    cases hp : p n
    · exact ⟨n, by omega, hp⟩
    · simp only [pcN, hp, if_pos] at h
      obtain ⟨c, h1, h2⟩ := pc_full (p := p) n (by omega)
      exact ⟨c, by omega, h2⟩
theorem Co.un {m : Nat → Bool} {f : Nat → Nat} {d wd ct : Nat → Int32} {fm : Nat → Nat} {cm wr mk : Nat → Bool} {wo : Nat → Int32} (h : Co m f d wd ct fm cm wr mk wo) (hu : usR fm 24 < 24) : cN m f (unF ct 24) = 0 ∧ unF ct 24 < 24 := by
  have h1 := unF_lt ct 24 (by decide)
  refine ⟨?_, h1⟩
  rw [← h.us, us_pc] at hu
  obtain ⟨c, h2, h3⟩ := pc_full 24 hu
  have h4 : ct c = nI (cN m f c) := h.2.2.2.2 c h2
  have h5 : ¬ (0 : Int32) < ct c := by simpa using h3
  rw [h4, nI_pos_iff (cN_le m f c)] at h5
  have h6 : ct c = 0 := by rw [h4, show cN m f c = 0 by omega]; rfl
  have h7 := un_ex 24 ⟨c, h2, h6⟩
  rw [h.2.2.2.2 _ h1] at h7
  exact (nI_eq (b := 0) (by have := cN_le m f (unF ct 24); omega) (by decide)).mp h7
/-- the reference's choice -/
theorem ref_un (fm : Nat → Nat) : ∃ g, g ≤ 23 ∧ (∀ i, i < g → 0 < ldN fm i) ∧ (g = 23 ∨ ldN fm g = 0) := by
  by_cases h : ∃ g, g < 23 ∧ ldN fm g = 0
  · obtain ⟨g, ⟨h1, h2⟩, h3⟩ := pk_least (fun g => g < 23 ∧ ldN fm g = 0) h
    refine ⟨g, by omega, fun i hi => ?_, Or.inr h2⟩
    have := h3 i hi
    rcases Nat.eq_zero_or_pos (ldN fm i) with e | e
    · exact absurd ⟨by omega, e⟩ this
    · exact e
  · refine ⟨23, Nat.le_refl _, fun i hi => ?_, Or.inl rfl⟩
    rcases Nat.eq_zero_or_pos (ldN fm i) with e | e
    · exact absurd ⟨i, hi, e⟩ h
    · exact e
theorem ref_un0 {fm : Nat → Nat} {g : Nat} (hg : g ≤ 23) (hm : ∀ i, i < g → 0 < ldN fm i) (h : g = 23 ∨ ldN fm g = 0) (hu : usR fm 24 < 24) : ldN fm g = 0 := by
  rcases h with e | e
  · subst e
    obtain ⟨c, h2, h3⟩ := pc_full 24 hu
    have h5 : ¬ 0 < ldN fm c := by simpa using h3
    by_cases q : c < 23
    · exact absurd (hm c q) h5
    · have : c = 23 := by omega
      subst this; omega
  · exact e
