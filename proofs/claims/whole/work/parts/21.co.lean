/-! the two states held against each other -/
def fl {α : Type} (f : Nat → Nat → α) : Nat → α := fun x => f (x / 64) (x % 64)
theorem fl_at {α : Type} (f : Nat → Nat → α) {j k : Nat} (hk : k < 64) : fl f (64 * j + k) = f j k := by
  have h1 : (64 * j + k) / 64 = j := by omega
  have h2 : (64 * j + k) % 64 = k := by omega
  unfold fl; rw [h1, h2]
theorem fl_up {α : Type} (f : Nat → Nat → α) {j k : Nat} (hk : k < 64) (v : α) : fl (up1 f j (up1 (f j) k v)) = up1 (fl f) (64 * j + k) v := by
  funext x
  by_cases h : x = 64 * j + k
  · subst h; rw [up1_s, fl_at _ hk, up1_s, up1_s]
  · rw [up1_n h]
    unfold fl
    by_cases h1 : x / 64 = j
    · have h2 : ¬ x % 64 = k := by omega
      rw [h1, up1_s, up1_n h2]
    · rw [up1_n h1]
theorem upd_up (f : Nat → Int32) (k : Nat) (v : Int32) : upd f k v = up1 f k v := by
  funext i
  by_cases h : i = k <;> simp [upd, up1, h]
theorem fl_upd (f : Nat → Nat → Int32) {j k : Nat} (hk : k < 64) (v : Int32) : fl (up1 f j (upd (f j) k v)) = up1 (fl f) (64 * j + k) v := by
  rw [upd_up]; exact fl_up f hk v
/-- the mappings of a frame on our side -/
def cN (m : Nat → Bool) (f : Nat → Nat) (c : Nat) : Nat := pcN (fun x => m x && (f x == c)) 320
def Co (m : Nat → Bool) (f : Nat → Nat) (d : Nat → Int32) (wd ct : Nat → Int32) (fm : Nat → Nat) (cm wr mk : Nat → Bool) (wo : Nat → Int32) : Prop :=
  (∀ x, fm x ≤ 24) ∧ (∀ x, x < 320 → m x = decide (0 < fm x)) ∧
  (∀ x, x < 320 → 0 < fm x → f x < 24 ∧ d x = nI (mpI (wr x) (cm x) (mk x)) ∧ ∀ w, w < 4 → wd (f x * 4 + w) = wo ((fm x - 1) * 4 + w)) ∧
  (∀ x y, x < 320 → y < 320 → 0 < fm x → 0 < fm y → (f x = f y ↔ fm x = fm y)) ∧
  (∀ c, c < 24 → ct c = nI (cN m f c))
theorem cN_le (m : Nat → Bool) (f : Nat → Nat) (c : Nat) : cN m f c ≤ 320 := pcN_320 _ 320
theorem cN_set {m : Nat → Bool} {f : Nat → Nat} {x0 : Nat} (a : Bool) (b c : Nat) (hx : x0 < 320) : cN (up1 m x0 a) (up1 f x0 b) c + (if m x0 && (f x0 == c) then 1 else 0) = cN m f c + (if a && (b == c) then 1 else 0) := by
  have e : cN (up1 m x0 a) (up1 f x0 b) c = pcN (up1 (fun x => m x && (f x == c)) x0 (a && (b == c))) 320 := by
    apply pc_ext
    intro i _
    by_cases h : i = x0
    · subst h; rw [up1_s, up1_s, up1_s]
    · rw [up1_n h, up1_n h, up1_n h]
  rw [e]
  exact pc_up (fun x => m x && (f x == c)) x0 (a && (b == c)) 320 hx
theorem cN_clr {m : Nat → Bool} {f : Nat → Nat} {x0 c : Nat} (hx : x0 < 320) : cN (up1 m x0 false) f c + (if m x0 && (f x0 == c) then 1 else 0) = cN m f c := by
  have h := cN_set (m := m) (f := f) false (f x0) c hx
  have e : up1 f x0 (f x0) = f := by
    funext i
    by_cases h : i = x0
    · subst h; rw [up1_s]
    · rw [up1_n h]
  rw [e] at h
  simpa using h
section CO
variable {m : Nat → Bool} {f : Nat → Nat} {d wd ct : Nat → Int32} {fm : Nat → Nat} {cm wr mk : Nat → Bool} {wo : Nat → Int32}
theorem Co.mt (h : Co m f d wd ct fm cm wr mk wo) {x : Nat} (hx : x < 320) : m x = true ↔ 0 < fm x := by
  rw [h.2.1 x hx]; simp
theorem Co.mf (h : Co m f d wd ct fm cm wr mk wo) {x : Nat} (hx : x < 320) : m x = false ↔ fm x = 0 := by
  rw [h.2.1 x hx]; simp
/-- both count the same mappings -/
theorem Co.ld (h : Co m f d wd ct fm cm wr mk wo) {x : Nat} (hx : x < 320) (hp : 0 < fm x) : ldN fm (fm x - 1) = cN m f (f x) := by
  apply pc_ext
  intro y hy
  by_cases hq : 0 < fm y
  · have h1 := h.2.2.2.1 y x hy hx hq hp
    have h2 := (h.mt hy).mpr hq
    rw [h2]
    by_cases e : f y = f x
    · have e2 := h1.mp e
      have e3 : fm y = fm x - 1 + 1 := by omega
      simp [e, e3]
    · have e2 : ¬ fm y = fm x := fun q => e (h1.mpr q)
      have e3 : ¬ fm y = fm x - 1 + 1 := by omega
      rw [beq_eq_false_iff_ne.mpr e, beq_eq_false_iff_ne.mpr e3]; rfl
  · have h2 : m y = false := (h.mf hy).mpr (by omega)
    have e3 : ¬ fm y = fm x - 1 + 1 := by omega
    rw [h2]; simp [e3]
theorem Co.ctr (h : Co m f d wd ct fm cm wr mk wo) {x : Nat} (hx : x < 320) (hp : 0 < fm x) : ct (f x) = nI (ldN fm (fm x - 1)) := by
  rw [h.2.2.2.2 _ (h.2.2.1 x hx hp).1, h.ld hx hp]
theorem us_pc (ct : Nat → Int32) : ∀ n, usN ct n = pcN (fun c => decide (0 < ct c)) n
  | 0 => rfl
  | n + 1 => by
    have ih := us_pc ct n
    simp only [usN, pcN, ih]
    congr 1
    by_cases h : 0 < ct n <;> simp [h]
theorem nI_pos_iff {n : Nat} (h : n ≤ 320) : (0 : Int32) < nI n ↔ 0 < n := by
  have := nI_ltI (a := 0) (b := n) (by decide) (by omega)
  exact this
theorem Co.us (h : Co m f d wd ct fm cm wr mk wo) : usN ct 24 = usR fm 24 := by
  have e1 : usN ct 24 = dis m f 320 := by
    rw [us_pc, ← dis_img m f 24 320 (fun a ha hm => (h.2.2.1 a ha ((h.mt ha).mp hm)).1)]
    apply pc_ext
    intro c hc
    rw [h.2.2.2.2 c hc]
    have := nI_pos_iff (cN_le m f c)
    by_cases q : 0 < cN m f c
    · have q2 := this.mpr q
      have q3 : 0 < pcN (fun a => m a && (f a == c)) 320 := q
      simp [q2, q3]
    · have q2 : ¬ (0 : Int32) < nI (cN m f c) := fun z => q (this.mp z)
      have q3 : ¬ 0 < pcN (fun a => m a && (f a == c)) 320 := q
      simp [q2, q3]
  have e2 : usR fm 24 = dis m (fun x => fm x - 1) 320 := by
    rw [← dis_img m (fun x => fm x - 1) 24 320 (fun a ha hm => by have := h.1 a; have := (h.mt ha).mp hm; omega)]
    apply pc_ext
    intro c hc
    have e : ldN fm c = pcN (fun a => m a && (fm a - 1 == c)) 320 := by
      apply pc_ext
      intro y hy
      by_cases hq : 0 < fm y
      · have h2 := (h.mt hy).mpr hq
        rw [h2]
        by_cases e : fm y = c + 1
        · have e3 : fm y - 1 = c := by omega
          simp [e]
        · have e3 : ¬ fm y - 1 = c := by omega
          rw [beq_eq_false_iff_ne.mpr e, beq_eq_false_iff_ne.mpr e3]; rfl
      · have h2 : m y = false := (h.mf hy).mpr (by omega)
        have e3 : ¬ fm y = c + 1 := by omega
        rw [h2]; simp [e3]
    rw [e]
  rw [e1, e2]
  apply dis_congr
  intro a b ha hb hma hmb
  have h1 := (h.mt ha).mp hma
  have h2 := (h.mt hb).mp hmb
  have h3 := h.2.2.2.1 a b ha hb h1 h2
  constructor
  · intro q; have := h3.mp q; omega
  · intro q; apply h3.mpr; omega
end CO
/-- tables do not look beyond 64 pages -/
theorem anB_ext {b b' : Nat → Bool} {a : Nat} : ∀ w, a + w ≤ 64 → (∀ k, k < 64 → b k = b' k) → anB b a w = anB b' a w
  | 0, _, _ => rfl
  | w + 1, hw, h => by
    have ih := anB_ext (b := b) (b' := b') (a := a) w (by omega) h
    simp only [anB, ih, h (a + w) (by omega)]
theorem spU_ext {b b' : Nat → Bool} {w : Nat} (h : ∀ k, k < 64 → b k = b' k) : ∀ n, n * w ≤ 64 → spU b w n = spU b' w n
  | 0, _ => rfl
  | n + 1, hn => by
    have h1 : n * w + w ≤ 64 := by rw [Nat.add_mul, Nat.one_mul] at hn; exact hn
    have ih := spU_ext (w := w) h n (by omega)
    simp only [spU, ih, anB_ext (a := n * w) w h1 h]
theorem tbN_ext {b b' : Nat → Bool} (h : ∀ k, k < 64 → b k = b' k) : tbN b = tbN b' := by
  unfold tbN
  rw [spU_ext (w := 16) h 4 (by decide), spU_ext (w := 4) h 16 (by decide)]
def tsm (run : Nat → Bool) (b : Nat → Nat → Bool) : Nat → Nat
  | 0 => 0
  | n + 1 => tsm run b n + (if run n then tbN (b n) else 0)
theorem frL_ext {run : Nat → Bool} {b b' : Nat → Nat → Bool} {u : Int32} : ∀ n, (∀ j, j < n → tbN (b j) = tbN (b' j)) → frL run b u n = frL run b' u n
  | 0, _ => rfl
  | n + 1, h => by
    have ih := frL_ext (run := run) (b := b) (b' := b') (u := u) n (fun j hj => h j (by omega))
    simp only [frL, ih, h n (by omega)]
theorem frL_nat {run : Nat → Bool} {b : Nat → Nat → Bool} {u : Nat} : ∀ n, tsm run b n ≤ u → frL run b (nI u) n = nI (u - tsm run b n)
  | 0, _ => by simp [frL, tsm]
  | n + 1, h => by
    simp only [tsm] at h
    have ih := frL_nat (run := run) (b := b) (u := u) n (by omega)
    cases hr : run n
    · simp only [frL, tsm, hr, ih]; simp
    · simp only [frL, tsm, hr, ih, if_pos]
      simp only [hr, if_pos] at h
      rw [pk_sub (by omega)]
      congr 1
      omega
def tot (run : Nat → Bool) (fm : Nat → Nat) : Nat := usR fm 24 + tsm run (pgS fm) 5
theorem frR_nat {run : Nat → Bool} {fm : Nat → Nat} (h : tot run fm ≤ 24) : frR run fm = nI (24 - tot run fm) := by
  unfold frR
  unfold tot at h ⊢
  rw [frL_nat 5 (by omega)]
  congr 1
  omega
theorem Co.fr {mp : Nat → Nat → Bool} {f : Nat → Nat} {d wd ct : Nat → Int32} {fm : Nat → Nat} {cm wr mk : Nat → Bool} {wo : Nat → Int32} (h : Co (fl mp) f d wd ct fm cm wr mk wo) (run : Nat → Bool) : frF run mp ct = frR run fm := by
  unfold frF frR
  have hu := h.us
  have h24 := usR_le fm 24
  rw [hu, pk_sub h24]
  apply frL_ext
  intro j hj
  apply tbN_ext
  intro k hk
  have := h.2.1 (64 * j + k) (by omega)
  rw [fl_at mp hk] at this
  exact this
theorem Co.pg {mp : Nat → Nat → Bool} {f : Nat → Nat} {d wd ct : Nat → Int32} {fm : Nat → Nat} {cm wr mk : Nat → Bool} {wo : Nat → Int32} (h : Co (fl mp) f d wd ct fm cm wr mk wo) {j k : Nat} (hj : j < 5) (hk : k < 64) : mp j k = pgS fm j k := by
  have := h.2.1 (64 * j + k) (by omega)
  rw [fl_at mp hk] at this
  exact this
