/-! counting -/
theorem pc_ext {p q : Nat → Bool} : ∀ n, (∀ i, i < n → p i = q i) → pcN p n = pcN q n
  | 0, _ => rfl
  | n + 1, h => by
    have ih := pc_ext n (fun i hi => h i (by omega))
    simp only [pcN, ih, h n (by omega)]
theorem pc_up (p : Nat → Bool) (k : Nat) (v : Bool) : ∀ n, k < n → pcN (up1 p k v) n + (if p k then 1 else 0) = pcN p n + (if v then 1 else 0)
  | 0, h => absurd h (Nat.not_lt_zero k)
  | n + 1, h => by
    by_cases hk : k = n
    · subst hk
      have e := pc_ext (p := up1 p k v) (q := p) k (fun i hi => up1_n (by omega))
      simp only [pcN, e, up1_s]
      omega
    · have ih := pc_up p k v n (by omega)
      have e : up1 p k v n = p n := up1_n (fun q => hk q.symm)
      simp only [pcN, e]
      omega
theorem pc_0 {p : Nat → Bool} : ∀ n, (∀ i, i < n → p i = false) → pcN p n = 0
  | 0, _ => rfl
  | n + 1, h => by
    have ih := pc_0 n (fun i hi => h i (by omega))
    simp [pcN, ih, h n (by omega)]
theorem pc_ge {p : Nat → Bool} : ∀ n k, k < n → p k = true → 0 < pcN p n
  | 0, k, h, _ => absurd h (Nat.not_lt_zero k)
  | n + 1, k, h, hp => by
    by_cases hk : k = n
    · subst hk; simp [pcN, hp]
    · have := pc_ge n k (by omega) hp
      simp only [pcN]; omega
theorem pc_ex {p : Nat → Bool} : ∀ n, 0 < pcN p n → ∃ k, k < n ∧ p k = true
  | 0, h => absurd h (Nat.lt_irrefl 0)
  | n + 1, h => by
    cases hp : p n
    · simp only [pcN, hp] at h
      obtain ⟨k, h1, h2⟩ := pc_ex n (by simpa using h)
      exact ⟨k, by omega, h2⟩
    · exact ⟨n, by omega, hp⟩
theorem pc_z {p : Nat → Bool} {n k : Nat} (h : pcN p n = 0) (hk : k < n) : p k = false := by
  cases hp : p k
  · rfl
  · have := pc_ge n k hk hp; omega
theorem pc_add (p : Nat → Bool) (a : Nat) : ∀ n, pcN p (a + n) = pcN p a + pcN (fun i => p (a + i)) n
  | 0 => rfl
  | n + 1 => by
    have ih := pc_add p a n
    show pcN p (a + n) + (if p (a + n) then 1 else 0) = pcN p a + (pcN (fun i => p (a + i)) n + (if p (a + n) then 1 else 0))
    omega
/-- how many different frames n places lead to -/
def dis (m : Nat → Bool) (f : Nat → Nat) : Nat → Nat
  | 0 => 0
  | n + 1 => dis m f n + (if m n && decide (pcN (fun a => m a && (f a == f n)) n = 0) then 1 else 0)
theorem dis_img (m : Nat → Bool) (f : Nat → Nat) (F : Nat) : ∀ n, (∀ a, a < n → m a = true → f a < F) → pcN (fun c => decide (0 < pcN (fun a => m a && (f a == c)) n)) F = dis m f n
  | 0, _ => by
    show pcN (fun c => decide (0 < 0)) F = 0
    exact pc_0 F (fun i _ => by simp)
  | n + 1, h => by
    have ih := dis_img m f F n (fun a ha => h a (by omega))
    cases hm : m n
    · have e : dis m f (n + 1) = dis m f n := by simp [dis, hm]
      rw [e, ← ih]
      apply pc_ext
      intro c _
      simp [pcN, hm]
    · have hF := h n (by omega) hm
      have e1 : pcN (fun c => decide (0 < pcN (fun a => m a && (f a == c)) (n + 1))) F = pcN (up1 (fun c => decide (0 < pcN (fun a => m a && (f a == c)) n)) (f n) true) F := by
        apply pc_ext
        intro c _
        by_cases hc : c = f n
        · subst hc; rw [up1_s]; simp [pcN, hm]
        · have hc2 : ¬ f n = c := fun q => hc q.symm
          rw [up1_n hc]; simp [pcN, hm, hc2]
      have e2 := pc_up (fun c => decide (0 < pcN (fun a => m a && (f a == c)) n)) (f n) true F hF
      rw [e1]
      have e3 : dis m f (n + 1) = dis m f n + (if pcN (fun a => m a && (f a == f n)) n = 0 then 1 else 0) := by simp [dis, hm]
      rw [e3]
      by_cases hz : pcN (fun a => m a && (f a == f n)) n = 0
      · simp [hz] at e2 ⊢; omega
      · have hz2 : 0 < pcN (fun a => m a && (f a == f n)) n := by omega
        simp [hz, hz2] at e2 ⊢; omega
theorem dis_congr (m : Nat → Bool) (f g : Nat → Nat) : ∀ n, (∀ a b, a < n → b < n → m a = true → m b = true → (f a = f b ↔ g a = g b)) → dis m f n = dis m g n
  | 0, _ => rfl
  | n + 1, h => by
    have ih := dis_congr m f g n (fun a b ha hb => h a b (by omega) (by omega))
    cases hm : m n
    · simp [dis, hm, ih]
    · have e : pcN (fun a => m a && (f a == f n)) n = pcN (fun a => m a && (g a == g n)) n := by
        apply pc_ext
        intro a ha
        cases ha2 : m a
        · simp
        · have := h a n (by omega) (by omega) ha2 hm
          by_cases hf : f a = f n
          · simp [hf, this.mp hf]
          · have hg : ¬ g a = g n := fun q => hf (this.mpr q)
            have e1 : (f a == f n) = false := beq_eq_false_iff_ne.mpr hf
            have e2 : (g a == g n) = false := beq_eq_false_iff_ne.mpr hg
            rw [e1, e2]
      simp [dis, hm, ih, e]
