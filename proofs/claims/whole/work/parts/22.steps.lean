/-! what a step does to the two states -/
theorem up1_id {α : Type} (g : Nat → α) (k : Nat) : up1 g k (g k) = g := by
  funext i
  by_cases h : i = k
  · subst h; rw [up1_s]
  · rw [up1_n h]
theorem up1_id' {α : Type} (g : Nat → α) (k : Nat) {v : α} (e : g k = v) : up1 g k v = g := by subst e; exact up1_id g k
theorem up1_up1 {α : Type} (g : Nat → α) (k : Nat) (a b : α) : up1 (up1 g k a) k b = up1 g k b := by
  funext i
  by_cases h : i = k
  · subst h; rw [up1_s, up1_s]
  · rw [up1_n h, up1_n h, up1_n h]
theorem blW_eq (wd : Nat → Int32) (c w : Nat) (hw : w < 4) : blW wd c (c * 4 + w) = 0 := by
  have h : c * 4 ≤ c * 4 + w ∧ c * 4 + w < c * 4 + 4 := by omega
  simp only [blW, blN, if_pos h]
theorem blW_ne (wd : Nat → Int32) {c a w : Nat} (hw : w < 4) (hn : ¬ a = c) : blW wd c (a * 4 + w) = wd (a * 4 + w) := by
  have h : ¬ (c * 4 ≤ a * 4 + w ∧ a * 4 + w < c * 4 + 4) := by omega
  simp only [blW, blN, if_neg h]
theorem cpW_eq (wd : Nat → Int32) (b c w : Nat) (hw : w < 4) : cpW wd b c (c * 4 + w) = wd (b * 4 + w) := by
  have h : c * 4 ≤ c * 4 + w ∧ c * 4 + w < c * 4 + 4 := by omega
  have h2 : c * 4 + w - c * 4 = w := by omega
  simp only [cpW, cpN, if_pos h, h2]
theorem cpW_ne (wd : Nat → Int32) (b : Nat) {c a w : Nat} (hw : w < 4) (hn : ¬ a = c) : cpW wd b c (a * 4 + w) = wd (a * 4 + w) := by
  have h : ¬ (c * 4 ≤ a * 4 + w ∧ a * 4 + w < c * 4 + 4) := by omega
  simp only [cpW, cpN, if_neg h]
theorem upd_s {g : Nat → Int32} {k : Nat} {v : Int32} : upd g k v k = v := by rw [upd_up, up1_s]
theorem upd_n {g : Nat → Int32} {k i : Nat} {v : Int32} (h : i ≠ k) : upd g k v i = g i := by rw [upd_up, up1_n h]
section CS
variable {m : Nat → Bool} {f : Nat → Nat} {d wd ct : Nat → Int32} {fm : Nat → Nat} {cm wr mk : Nat → Bool} {wo : Nat → Int32}
theorem cN_new {x0 b c : Nat} (hx : x0 < 320) (h0 : m x0 = false) : cN (up1 m x0 true) (up1 f x0 b) c = cN m f c + (if b = c then 1 else 0) := by
  have h := cN_set (m := m) (f := f) true b c hx
  rw [h0] at h
  simp only [Bool.false_and, Bool.true_and] at h
  by_cases e : b = c
  · subst e; simp at h ⊢; exact h
  · have e2 : (b == c) = false := beq_eq_false_iff_ne.mpr e
    rw [e2] at h
    simp [e] at h ⊢; exact h
theorem cN_old {x0 c : Nat} (hx : x0 < 320) (h0 : m x0 = true) : cN (up1 m x0 false) f c + (if f x0 = c then 1 else 0) = cN m f c := by
  have h := cN_clr (m := m) (f := f) (c := c) hx
  rw [h0] at h
  simp only [Bool.true_and] at h
  by_cases e : f x0 = c
  · subst e; simp at h ⊢; exact h
  · have e2 : (f x0 == c) = false := beq_eq_false_iff_ne.mpr e
    rw [e2] at h
    simp [e] at h ⊢; exact h
/-- a page gets the frame of another -/
theorem Co.attach (h : Co m f d wd ct fm cm wr mk wo) {x0 y0 : Nat} (hx : x0 < 320) (hy : y0 < 320) (h0 : fm x0 = 0) (hp : 0 < fm y0) {v : Int32} {c w k : Bool} (hv : v = nI (mpI w c k)) :
    Co (up1 m x0 true) (up1 f x0 (f y0)) (up1 d x0 v) wd (upd ct (f y0) (ct (f y0) + 1)) (up1 fm x0 (fm y0)) (up1 cm x0 c) (up1 wr x0 w) (up1 mk x0 k) wo := by
  have hm0 : m x0 = false := (h.mf hx).mpr h0
  have key : ∀ x, x < 320 → 0 < up1 fm x0 (fm y0) x → ∃ x', x' < 320 ∧ 0 < fm x' ∧ up1 f x0 (f y0) x = f x' ∧ up1 fm x0 (fm y0) x = fm x' := by
    intro x hx' hp'
    by_cases e : x = x0
    · subst e; exact ⟨y0, hy, hp, up1_s, up1_s⟩
    · rw [up1_n e] at hp'; exact ⟨x, hx', hp', up1_n e, up1_n e⟩
  refine ⟨up1_le (h.1 y0) h.1, fun x hx' => ?_, fun x hx' hpx => ?_, fun x y hx' hy' hpx hpy => ?_, fun q hq => ?_⟩
  · by_cases e : x = x0
    · subst e; rw [up1_s, up1_s]; simp [hp]
    · rw [up1_n e, up1_n e]; exact h.2.1 x hx'
  · by_cases e : x = x0
    · subst e
      simp only [up1_s]
      exact ⟨(h.2.2.1 y0 hy hp).1, hv, (h.2.2.1 y0 hy hp).2.2⟩
    · rw [up1_n e] at hpx
      simp only [up1_n e]
      exact h.2.2.1 x hx' hpx
  · obtain ⟨x', a1, a2, a3, a4⟩ := key x hx' hpx
    obtain ⟨y', b1, b2, b3, b4⟩ := key y hy' hpy
    rw [a3, a4, b3, b4]
    exact h.2.2.2.1 x' y' a1 b1 a2 b2
  · rw [cN_new hx hm0]
    by_cases e : f y0 = q
    · subst e
      rw [upd_s, h.2.2.2.2 _ hq, if_pos rfl]
      exact nI_1 _
    · rw [upd_n (fun z => e z.symm), h.2.2.2.2 _ hq, if_neg e, Nat.add_zero]
/-- a page gets a frame that nobody uses -/
theorem Co.new (h : Co m f d wd ct fm cm wr mk wo) {x0 c0 g0 : Nat} (hx : x0 < 320) (h0 : fm x0 = 0) (hc : c0 < 24) (hg : g0 < 24) (hcz : cN m f c0 = 0) (hgz : ldN fm g0 = 0) {v : Int32} {c w k : Bool} (hv : v = nI (mpI w c k))
    {wd' wo' : Nat → Int32} (h1 : ∀ a q, q < 4 → ¬ a = c0 → wd' (a * 4 + q) = wd (a * 4 + q)) (h2 : ∀ a q, q < 4 → ¬ a = g0 → wo' (a * 4 + q) = wo (a * 4 + q)) (h3 : ∀ q, q < 4 → wd' (c0 * 4 + q) = wo' (g0 * 4 + q)) :
    Co (up1 m x0 true) (up1 f x0 c0) (up1 d x0 v) wd' (upd ct c0 (ct c0 + 1)) (up1 fm x0 (g0 + 1)) (up1 cm x0 c) (up1 wr x0 w) (up1 mk x0 k) wo' := by
  have hm0 : m x0 = false := (h.mf hx).mpr h0
  have hf : ∀ x, x < 320 → 0 < fm x → ¬ f x = c0 := by
    intro x hx' hp e
    have := pc_z hcz hx'
    rw [(h.mt hx').mpr hp, e] at this
    simp at this
  have hfm : ∀ x, x < 320 → ¬ fm x = g0 + 1 := by
    intro x hx' e
    have := pc_z hgz hx'
    rw [e] at this
    simp at this
  refine ⟨up1_le (by omega) h.1, fun x hx' => ?_, fun x hx' hpx => ?_, fun x y hx' hy' hpx hpy => ?_, fun q hq => ?_⟩
  · by_cases e : x = x0
    · subst e; rw [up1_s, up1_s]; simp
    · rw [up1_n e, up1_n e]; exact h.2.1 x hx'
  · by_cases e : x = x0
    · subst e
      simp only [up1_s]
      exact ⟨hc, hv, fun q hq => by rw [h3 q hq]; rfl⟩
    · rw [up1_n e] at hpx
      simp only [up1_n e]
      obtain ⟨a1, a2, a3⟩ := h.2.2.1 x hx' hpx
      refine ⟨a1, a2, fun q hq => ?_⟩
      have n2 : ¬ fm x - 1 = g0 := by have := hfm x hx'; omega
      rw [h1 _ q hq (hf x hx' hpx), h2 _ q hq n2]
      exact a3 q hq
  · by_cases ex : x = x0
    · by_cases ey : y = x0
      · rw [ex, ey]; exact ⟨fun _ => rfl, fun _ => rfl⟩
      · rw [up1_n ey] at hpy
        rw [ex, up1_s, up1_s, up1_n ey, up1_n ey]
        exact ⟨fun z => absurd z.symm (hf y hy' hpy), fun z => absurd z.symm (hfm y hy')⟩
    · rw [up1_n ex] at hpx
      by_cases ey : y = x0
      · rw [ey, up1_s, up1_s, up1_n ex, up1_n ex]
        exact ⟨fun z => absurd z (hf x hx' hpx), fun z => absurd z (hfm x hx')⟩
      · rw [up1_n ey] at hpy
        rw [up1_n ex, up1_n ey, up1_n ex, up1_n ey]
        exact h.2.2.2.1 x y hx' hy' hpx hpy
  · rw [cN_new hx hm0]
    by_cases e : c0 = q
    · subst e
      rw [upd_s, h.2.2.2.2 _ hq, if_pos rfl]
      exact nI_1 _
    · rw [upd_n (fun z => e z.symm), h.2.2.2.2 _ hq, if_neg e, Nat.add_zero]
/-- a page goes -/
theorem Co.clear (h : Co m f d wd ct fm cm wr mk wo) {x0 : Nat} (hx : x0 < 320) (hp : 0 < fm x0) (c w k : Bool) :
    Co (up1 m x0 false) f d wd (upd ct (f x0) (ct (f x0) - 1)) (up1 fm x0 0) (up1 cm x0 c) (up1 wr x0 w) (up1 mk x0 k) wo := by
  have hm0 : m x0 = true := (h.mt hx).mpr hp
  have key : ∀ x, 0 < up1 fm x0 0 x → ¬ x = x0 := fun x hp' e => by rw [e, up1_s] at hp'; omega
  refine ⟨up1_le (by omega) h.1, fun x hx' => ?_, fun x hx' hpx => ?_, fun x y hx' hy' hpx hpy => ?_, fun q hq => ?_⟩
  · by_cases e : x = x0
    · subst e; rw [up1_s, up1_s]; simp
    · rw [up1_n e, up1_n e]; exact h.2.1 x hx'
  · have e := key x hpx
    rw [up1_n e] at hpx
    simp only [up1_n e]
    exact h.2.2.1 x hx' hpx
  · have ex := key x hpx
    have ey := key y hpy
    rw [up1_n ex] at hpx
    rw [up1_n ey] at hpy
    rw [up1_n ex, up1_n ey]
    exact h.2.2.2.1 x y hx' hy' hpx hpy
  · have hn := cN_old (f := f) (c := q) hx hm0
    by_cases e : f x0 = q
    · subst e
      rw [if_pos rfl] at hn
      rw [upd_s, h.2.2.2.2 _ hq, ← hn]
      exact nI_pred _
    · rw [if_neg e, Nat.add_zero] at hn
      rw [upd_n (fun z => e z.symm), h.2.2.2.2 _ hq, hn]
/-- a page that isn't there goes -/
theorem Co.clear0 (h : Co m f d wd ct fm cm wr mk wo) {x0 : Nat} (hp : fm x0 = 0) (c w k : Bool) :
    Co m f d wd ct (up1 fm x0 0) (up1 cm x0 c) (up1 wr x0 w) (up1 mk x0 k) wo := by
  rw [up1_id' fm x0 hp]
  refine ⟨h.1, h.2.1, fun x hx' hpx => ?_, h.2.2.2.1, h.2.2.2.2⟩
  have e : ¬ x = x0 := fun e => by rw [e] at hpx; omega
  simp only [up1_n e]
  exact h.2.2.1 x hx' hpx
/-- a mapping gets another kind -/
theorem Co.kind (h : Co m f d wd ct fm cm wr mk wo) {x0 : Nat} {v : Int32} {c w k : Bool} (hv : v = nI (mpI w c k)) :
    Co m f (up1 d x0 v) wd ct fm (up1 cm x0 c) (up1 wr x0 w) (up1 mk x0 k) wo := by
  refine ⟨h.1, h.2.1, fun x hx' hpx => ?_, h.2.2.2.1, h.2.2.2.2⟩
  by_cases e : x = x0
  · subst e
    simp only [up1_s]
    exact ⟨(h.2.2.1 x hx' hpx).1, hv, (h.2.2.1 x hx' hpx).2.2⟩
  · simp only [up1_n e]
    exact h.2.2.1 x hx' hpx
/-- a word is written -/
theorem Co.word (h : Co m f d wd ct fm cm wr mk wo) {x0 w0 : Nat} (hx : x0 < 320) (hp : 0 < fm x0) (hw : w0 < 4) (z : Int32) :
    Co m f d (upd wd (f x0 * 4 + w0) z) ct fm cm wr mk (upd wo ((fm x0 - 1) * 4 + w0) z) := by
  refine ⟨h.1, h.2.1, fun x hx' hpx => ?_, h.2.2.2.1, h.2.2.2.2⟩
  obtain ⟨a1, a2, a3⟩ := h.2.2.1 x hx' hpx
  refine ⟨a1, a2, fun q hq => ?_⟩
  have h4 := h.2.2.2.1 x x0 hx' hx hpx hp
  by_cases e : f x = f x0
  · have e2 := h4.mp e
    by_cases eq : q = w0
    · subst eq; rw [e, e2, upd_s, upd_s]
    · rw [upd_n (by omega), upd_n (by omega)]; exact a3 q hq
  · have e2 : ¬ fm x = fm x0 := fun z => e (h4.mpr z)
    rw [upd_n (by omega), upd_n (by omega)]; exact a3 q hq
end CS
