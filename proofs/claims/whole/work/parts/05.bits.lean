theorem wb_tb (n : Nat) : (lN n).toBitVec = BitVec.ofNat 64 n := rfl
theorem wb_inj {a b : Int64} (h : a.toBitVec = b.toBitVec) : a = b := Int64.toBitVec_inj.mp h
theorem wb_tn {n : Nat} (h : n < 2 ^ 64) : (lN n).toBitVec.toNat = n := by rw [wb_tb, BitVec.toNat_ofNat, Nat.mod_eq_of_lt h]
theorem wb_of (x : Int64) : ∃ n, n < 2 ^ 64 ∧ x = lN n := ⟨x.toBitVec.toNat, x.toBitVec.isLt, wb_inj (by rw [wb_tb]; simp)⟩
theorem wb_of32 (x : Int32) : ∃ n, n < 2 ^ 32 ∧ x = nI n := ⟨x.toBitVec.toNat, x.toBitVec.isLt, Int32.toBitVec_inj.mp (by show _ = BitVec.ofNat 32 _; simp)⟩
theorem wb_c : ∀ k, k < 64 → ((nI k).toInt64 &&& 63) = lN k := by decide +kernel
theorem wb_cu : ∀ k, k < 64 → ((nI k).toInt64.toUInt64 &&& Int64.toUInt64 63) = UInt64.ofNat k := by decide +kernel
theorem wb_sm : ∀ k, k < 64 → (BitVec.ofNat 64 k).smod 64 = BitVec.ofNat 64 k := by decide +kernel
theorem wb_pw {a b : Nat} (h : a ≤ b) : 2 ^ b = 2 ^ a * 2 ^ (b - a) := by rw [← Nat.pow_add]; congr 1; omega
theorem wb_lt2 {a b : Nat} (h : a < b) : 2 ^ a < 2 ^ b := Nat.pow_lt_pow_right (by decide) h
theorem wb_mod (n : Nat) : lN n = lN (n % 2 ^ 64) := wb_inj (by rw [wb_tb, wb_tb]; apply BitVec.eq_of_toNat_eq; rw [BitVec.toNat_ofNat, BitVec.toNat_ofNat, Nat.mod_mod])
theorem wb_shr {n k : Nat} (hn : n < 2 ^ 64) (hk : k < 64) : ((lN n).toUInt64 >>> ((nI k).toInt64.toUInt64 &&& Int64.toUInt64 63)).toInt64 = lN (n / 2 ^ k) := by
  rw [wb_cu k hk]
  apply wb_inj
  apply BitVec.eq_of_toNat_eq
  show ((lN n).toUInt64 >>> UInt64.ofNat k).toNat = (BitVec.ofNat 64 _).toNat
  have h1 : (UInt64.ofNat k).toNat = k := by
    show (BitVec.ofNat 64 k).toNat = k
    rw [BitVec.toNat_ofNat, Nat.mod_eq_of_lt (by omega)]
  have h2 : (lN n).toUInt64.toNat = n := wb_tn hn
  rw [UInt64.toNat_shiftRight, h1, h2, Nat.mod_eq_of_lt hk, Nat.shiftRight_eq_div_pow, BitVec.toNat_ofNat, Nat.mod_eq_of_lt (Nat.lt_of_le_of_lt (Nat.div_le_self _ _) hn)]
theorem wb_shl (n : Nat) {k : Nat} (hk : k < 64) : lN n <<< ((nI k).toInt64 &&& 63) = lN (n * 2 ^ k) := by
  rw [wb_c k hk]
  apply wb_inj
  rw [Int64.toBitVec_shiftLeft, wb_tb, wb_tb, wb_tb, wb_sm k hk]
  apply BitVec.eq_of_toNat_eq
  rw [BitVec.shiftLeft_eq', BitVec.toNat_shiftLeft, BitVec.toNat_ofNat, BitVec.toNat_ofNat, BitVec.toNat_ofNat, Nat.mod_eq_of_lt (show k < 2 ^ 64 by omega), Nat.shiftLeft_eq, Nat.mul_mod, Nat.mod_mod, ← Nat.mul_mod]
theorem wb_and {a b : Nat} (ha : a < 2 ^ 64) (hb : b < 2 ^ 64) : lN a &&& lN b = lN (a &&& b) := by
  apply wb_inj
  rw [Int64.toBitVec_and, wb_tb, wb_tb, wb_tb]
  apply BitVec.eq_of_toNat_eq
  rw [BitVec.toNat_and, BitVec.toNat_ofNat, BitVec.toNat_ofNat, BitVec.toNat_ofNat, Nat.mod_eq_of_lt ha, Nat.mod_eq_of_lt hb, Nat.mod_eq_of_lt (Nat.and_lt_two_pow _ hb)]
theorem wb_or {a b : Nat} (ha : a < 2 ^ 64) (hb : b < 2 ^ 64) : lN a ||| lN b = lN (a ||| b) := by
  apply wb_inj
  rw [Int64.toBitVec_or, wb_tb, wb_tb, wb_tb]
  apply BitVec.eq_of_toNat_eq
  rw [BitVec.toNat_or, BitVec.toNat_ofNat, BitVec.toNat_ofNat, BitVec.toNat_ofNat, Nat.mod_eq_of_lt ha, Nat.mod_eq_of_lt hb, Nat.mod_eq_of_lt (Nat.or_lt_two_pow ha hb)]
theorem wb_mask {n k : Nat} (hn : n < 2 ^ 64) (hk : k < 64) : lN n &&& lN (2 ^ k - 1) = lN (n % 2 ^ k) := by
  rw [wb_and hn (by have := wb_lt2 hk; omega), Nat.and_two_pow_sub_one_eq_mod]
theorem wb_a1 {n : Nat} (hn : n < 2 ^ 64) : lN n &&& 1 = lN (n % 2) := wb_mask (k := 1) hn (by decide)
theorem wb_bit {n k : Nat} (hn : n < 2 ^ 64) (hk : k < 64) : ((lN n).toUInt64 >>> ((nI k).toInt64.toUInt64 &&& Int64.toUInt64 63)).toInt64 &&& 1 = lN (n / 2 ^ k % 2) := by
  rw [wb_shr hn hk, wb_a1 (Nat.lt_of_le_of_lt (Nat.div_le_self _ _) hn)]
theorem lN_bv (n : Nat) : (lN n).toBitVec = BitVec.ofNat 64 n := rfl
theorem lN_nat {n : Nat} (h : n < 2 ^ 64) : (lN n).toBitVec.toNat = n := by rw [lN_bv, BitVec.toNat_ofNat]; exact Nat.mod_eq_of_lt h
theorem lN_xor (a b : Nat) : lN a ^^^ lN b = lN (a ^^^ b) := by
  apply Int64.toBitVec_inj.mp; rw [Int64.toBitVec_xor, lN_bv, lN_bv, lN_bv]; apply BitVec.eq_of_getLsbD_eq; intro i hi; simp [BitVec.getLsbD_ofNat, Nat.testBit_xor, hi]
/-! the bits of a page set -/
theorem enN_lt (b : Nat → Bool) : ∀ n, enN b n < 2 ^ n
  | 0 => by simp [enN]
  | n + 1 => by
    have h := enN_lt b n
    simp only [enN, Nat.pow_succ]
    split <;> omega
theorem enN_tb (b : Nat → Bool) (k : Nat) : ∀ n, (enN b n).testBit k = (decide (k < n) && b k)
  | 0 => by simp [enN]
  | n + 1 => by
    have ih := enN_tb b k n
    have hl := enN_lt b n
    simp only [enN]
    by_cases hb : b n = true
    · rw [if_pos hb, Nat.add_comm]
      rcases Nat.lt_trichotomy k n with h | h | h
      · rw [Nat.testBit_two_pow_add_gt h, ih]
        have h2 : k < n + 1 := Nat.lt_succ_of_lt h
        simp [h, h2]
      · subst h
        rw [Nat.testBit_two_pow_add_eq, ih]
        simp [hb]
      · have h3 : 2 ^ n + enN b n < 2 ^ k := by
          have h4 : 2 ^ (n + 1) ≤ 2 ^ k := Nat.pow_le_pow_right (by decide) h
          have h5 : 2 ^ (n + 1) = 2 ^ n * 2 := Nat.pow_succ ..
          omega
        rw [Nat.testBit_lt_two_pow h3]
        have h6 : ¬ k < n + 1 := by omega
        simp [h6]
    · rw [if_neg hb, Nat.add_zero, ih]
      have hb2 : b n = false := by cases h : b n <;> simp_all
      by_cases h : k = n
      · subst h; simp [hb2]
      · by_cases h2 : k < n
        · have h3 : k < n + 1 := Nat.lt_succ_of_lt h2
          simp [h2, h3]
        · have h3 : ¬ k < n + 1 := by omega
          simp [h2, h3]
theorem enN_ext {b b' : Nat → Bool} (n : Nat) (h : ∀ k, k < n → b k = b' k) : enN b n = enN b' n := by
  apply Nat.eq_of_testBit_eq
  intro k
  rw [enN_tb, enN_tb]
  by_cases hk : k < n
  · rw [h k hk]
  · simp [hk]
theorem enN_64 (b : Nat → Bool) : enN b 64 < 2 ^ 64 := enN_lt b 64
theorem en_ext {b b' : Nat → Bool} (h : ∀ k, k < 64 → b k = b' k) : en b = en b' := by
  unfold en; rw [enN_ext 64 h]
theorem en_0 : en (fun _ => false) = 0 := by
  have h : enN (fun _ => false) 64 = 0 := by
    apply Nat.eq_of_testBit_eq
    intro k
    rw [enN_tb]
    simp
  unfold en
  rw [h]; rfl
theorem bit_dm (n k : Nat) : n / 2 ^ k % 2 = (if n.testBit k then 1 else 0) := by
  rw [Nat.testBit_eq_decide_div_mod_eq]
  by_cases h : n / 2 ^ k % 2 = 1
  · simp [h]
  · have : n / 2 ^ k % 2 = 0 := by omega
    simp [this]
theorem en_bit (b : Nat → Bool) {k : Nat} (hk : k < 64) : ((en b).toUInt64 >>> ((nI k).toInt64.toUInt64 &&& Int64.toUInt64 63)).toInt64 &&& 1 = lN (if b k then 1 else 0) := by
  unfold en
  rw [wb_bit (enN_64 b) hk, bit_dm, enN_tb]
  simp [hk]
theorem en_one {k : Nat} (hk : k < 64) : (1 : Int64) <<< ((nI k).toInt64 &&& 63) = lN (2 ^ k) := by
  have h := wb_shl 1 hk
  rw [Nat.one_mul] at h
  exact h
theorem pw_64 {k : Nat} (hk : k < 64) : 2 ^ k < 2 ^ 64 := wb_lt2 hk
theorem en_set (b : Nat → Bool) {k : Nat} (hk : k < 64) : en b ||| ((1 : Int64) <<< ((nI k).toInt64 &&& 63)) = en (up1 b k true) := by
  rw [en_one hk]
  unfold en
  rw [wb_or (enN_64 b) (pw_64 hk)]
  congr 1
  apply Nat.eq_of_testBit_eq
  intro i
  rw [Nat.testBit_or, enN_tb, enN_tb, Nat.testBit_two_pow]
  by_cases h : i = k
  · subst h; simp [up1, hk]
  · have h2 : ¬ k = i := fun e => h e.symm
    simp [up1, h, h2]
theorem en_clr (b : Nat → Bool) {k : Nat} (hk : k < 64) : en b &&& (((1 : Int64) <<< ((nI k).toInt64 &&& 63)) ^^^ (-1)) = en (up1 b k false) := by
  rw [en_one hk]
  have h1 : (-1 : Int64) = lN (2 ^ 64 - 1) := by decide
  unfold en
  rw [h1, lN_xor]
  have h2 : 2 ^ k ^^^ (2 ^ 64 - 1) < 2 ^ 64 := Nat.xor_lt_two_pow (pw_64 hk) (by decide)
  rw [wb_and (enN_64 b) h2]
  congr 1
  apply Nat.eq_of_testBit_eq
  intro i
  rw [Nat.testBit_and, enN_tb, enN_tb, Nat.testBit_xor, Nat.testBit_two_pow, Nat.testBit_two_pow_sub_one]
  by_cases h : i = k
  · subst h; simp [up1, hk]
  · have h2 : ¬ k = i := fun e => h e.symm
    by_cases h3 : i < 64 <;> simp [up1, h, h2, h3]
/-- is one of w pages from a mapped -/
def anB (b : Nat → Bool) (a : Nat) : Nat → Bool
  | 0 => false
  | w + 1 => anB b a w || b (a + w)
theorem anB_f (b : Nat → Bool) (a : Nat) : ∀ w, anB b a w = false ↔ ∀ k, k < w → b (a + k) = false
  | 0 => by simp [anB]
  | w + 1 => by
    simp only [anB, Bool.or_eq_false_iff, anB_f b a w]
    constructor
    · intro h k hk
      by_cases h2 : k = w
      · subst h2; exact h.2
      · exact h.1 k (by omega)
    · intro h
      exact ⟨fun k hk => h k (by omega), h w (by omega)⟩
theorem anB_t (b : Nat → Bool) (a w : Nat) : anB b a w = true ↔ ∃ k, k < w ∧ b (a + k) = true := by
  constructor
  · intro h
    refine Classical.byContradiction fun hn => ?_
    have h2 : anB b a w = false := (anB_f b a w).mpr (fun k hk => by
      cases h3 : b (a + k)
      · rfl
      · exact absurd ⟨k, hk, h3⟩ hn)
    rw [h] at h2; cases h2
  · intro ⟨k, hk, h⟩
    cases h2 : anB b a w
    · have := (anB_f b a w).mp h2 k hk
      rw [h] at this; cases this
    · rfl
theorem en_mask {w : Nat} (hw : w < 63) : (1 : Int64) <<< ((nI w).toInt64 &&& 63) - 1 = lN (2 ^ w - 1) := by
  rw [en_one (Nat.lt_succ_of_lt hw)]
  exact lN_sub (b := 1) (Nat.one_le_two_pow)
theorem en_span (b : Nat → Bool) {a w : Nat} (ha : a < 64) (hw : w < 63) (haw : a + w ≤ 64) : (((en b).toUInt64 >>> ((nI a).toInt64.toUInt64 &&& Int64.toUInt64 63)).toInt64 &&& lN (2 ^ w - 1) = 0) ↔ anB b a w = false := by
  unfold en
  rw [wb_shr (enN_64 b) ha, wb_mask (Nat.lt_of_le_of_lt (Nat.div_le_self _ _) (enN_64 b)) (Nat.lt_succ_of_lt hw)]
  have h63 : enN b 64 / 2 ^ a % 2 ^ w < 2 ^ 63 := Nat.lt_of_lt_of_le (Nat.mod_lt _ (Nat.two_pow_pos w)) (Nat.pow_le_pow_right (by decide) (by omega))
  have h0 : (lN (enN b 64 / 2 ^ a % 2 ^ w) = 0) ↔ enN b 64 / 2 ^ a % 2 ^ w = 0 := pk_lEQ (b := 0) h63 (by decide)
  rw [h0, anB_f]
  constructor
  · intro h k hk
    have h1 : (enN b 64 / 2 ^ a % 2 ^ w).testBit k = false := by rw [h]; exact Nat.zero_testBit k
    rw [Nat.testBit_mod_two_pow, Nat.testBit_div_two_pow, enN_tb] at h1
    have h2 : k + a < 64 := by omega
    have h3 : a + k < 64 := by omega
    have h4 : k + a = a + k := Nat.add_comm _ _
    simp [hk, h2, h3] at h1
    first | exact h1 | (rw [h4] at h1; exact h1)
  · intro h
    apply Nat.eq_of_testBit_eq
    intro k
    rw [Nat.testBit_mod_two_pow, Nat.testBit_div_two_pow, enN_tb, Nat.zero_testBit]
    by_cases hk : k < w
    · have h1 := h k hk
      rw [show k + a = a + k from Nat.add_comm k a, h1]
      simp
    · simp [hk]
/-- how many of n spans of w pages hold a mapped one; how many tables that makes -/
def spU (b : Nat → Bool) (w : Nat) : Nat → Nat
  | 0 => 0
  | n + 1 => spU b w n + (if anB b (n * w) w then 1 else 0)
def tbN (b : Nat → Bool) : Nat := 1 + spU b 16 4 + spU b 4 16
theorem spU_le (b : Nat → Bool) (w : Nat) : ∀ n, spU b w n ≤ n
  | 0 => Nat.le_refl _
  | n + 1 => by
    have := spU_le b w n
    simp only [spU]
    split <;> omega
/-- frames in use; the last one that is not -/
def usN (ct : Nat → Int32) : Nat → Nat
  | 0 => 0
  | n + 1 => usN ct n + (if 0 < ct n then 1 else 0)
def unF (ct : Nat → Int32) : Nat → Nat
  | 0 => 0
  | n + 1 => if ct n = 0 then n else unF ct n
theorem usN_le (ct : Nat → Int32) : ∀ n, usN ct n ≤ n
  | 0 => Nat.le_refl _
  | n + 1 => by
    have := usN_le ct n
    simp only [usN]
    split <;> omega
theorem unF_lt (ct : Nat → Int32) : ∀ n, 0 < n → unF ct n < n
  | 0, h => absurd h (Nat.lt_irrefl 0)
  | n + 1, _ => by
    simp only [unF]
    split
    · omega
    · by_cases h : 0 < n
      · have := unF_lt ct n h; omega
      · have : n = 0 := by omega
        subst this; simp [unF]
