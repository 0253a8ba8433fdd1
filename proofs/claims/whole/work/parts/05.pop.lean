/-! Long.bitCount: its steps, and that they count the bits -/
def bc1 (x : Int64) : Int64 := x - (((x).toUInt64 >>> ((nI 1).toInt64.toUInt64 &&& Int64.toUInt64 63)).toInt64 &&& 6148914691236517205)
def bc2 (x : Int64) : Int64 := (x &&& 3689348814741910323) + (((x).toUInt64 >>> ((nI 2).toInt64.toUInt64 &&& Int64.toUInt64 63)).toInt64 &&& 3689348814741910323)
def bc3 (x : Int64) : Int64 := (x + ((x).toUInt64 >>> ((nI 4).toInt64.toUInt64 &&& Int64.toUInt64 63)).toInt64) &&& 1085102592571150095
def bc4 (x : Int64) : Int64 := x + ((x).toUInt64 >>> ((nI 8).toInt64.toUInt64 &&& Int64.toUInt64 63)).toInt64
def bc5 (x : Int64) : Int64 := x + ((x).toUInt64 >>> ((nI 16).toInt64.toUInt64 &&& Int64.toUInt64 63)).toInt64
def bc6 (x : Int64) : Int64 := x + ((x).toUInt64 >>> ((nI 32).toInt64.toUInt64 &&& Int64.toUInt64 63)).toInt64
def bcI (x : Int64) : Int32 := (bc6 (bc5 (bc4 (bc3 (bc2 (bc1 x)))))).toInt32 &&& nI 127
def mk_ (c : Nat) : Nat → Nat
  | 0 => 0
  | k + 1 => 256 * mk_ c k + c
def f1_ (k n : Nat) : Nat := n - (n / 2 &&& mk_ 85 k)
def f2_ (k n : Nat) : Nat := (n &&& mk_ 51 k) + (n / 4 &&& mk_ 51 k)
def f3_ (k n : Nat) : Nat := (n + n / 16) &&& mk_ 15 k
/-- the set bits among the first w -/
def pcT (n : Nat) : Nat → Nat
  | 0 => 0
  | w + 1 => pcT n w + (if n.testBit w then 1 else 0)
def g_by : Nat → Nat → Nat
  | 0, _ => 0
  | k + 1, n => 256 * g_by k (n / 256) + pcT (n % 256) 8
theorem and_split (p q m c : Nat) (hq : q < 256) (hc : c < 256) : (256 * p + q) &&& (256 * m + c) = 256 * (p &&& m) + (q &&& c) := by
  have h1 : ((256 * p + q) &&& (256 * m + c)) % 2 ^ 8 = q &&& c := by
    rw [Nat.and_mod_two_pow]
    congr 1 <;> omega
  have h2 : ((256 * p + q) &&& (256 * m + c)) / 2 ^ 8 = p &&& m := by
    rw [Nat.and_div_two_pow]
    congr 1 <;> omega
  have h3 := Nat.div_add_mod ((256 * p + q) &&& (256 * m + c)) (2 ^ 8)
  rw [h1, h2] at h3
  omega
theorem by1 : ∀ b, b < 256 → ∀ e, e < 2 → ((e * 128 + b / 2) &&& 85) = (b / 2 &&& 85) ∧ (b / 2 &&& 85) ≤ b := by decide +kernel
theorem by2 : ∀ b, b < 256 → ∀ e, e < 4 → ((e * 64 + b / 4) &&& 51) = (b / 4 &&& 51) := by decide +kernel
def zb_ (b : Nat) : Nat := ((b - (b / 2 &&& 85)) &&& 51) + ((b - (b / 2 &&& 85)) / 4 &&& 51)
theorem by3 : ∀ b, b < 256 → zb_ b ≤ 68 ∧ zb_ b % 16 ≤ 4 := by decide +kernel
theorem by4 : ∀ b, b < 256 → ∀ e, e < 5 → (zb_ b + e * 16 + zb_ b / 16) &&& 15 = pcT b 8 := by decide +kernel
theorem pc_all (k : Nat) : ∀ n, f2_ k (f1_ k n) % 16 ≤ 4 ∧ f3_ k (f2_ k (f1_ k n)) = g_by k n := by
  induction k with
  | zero =>
    intro n
    simp [f2_, f3_, mk_, g_by]
  | succ k ih =>
    intro n
    obtain ⟨i1, i2⟩ := ih (n / 256)
    have hb : n % 256 < 256 := Nat.mod_lt _ (by decide)
    have hn : n = 256 * (n / 256) + n % 256 := (Nat.div_add_mod n 256).symm
    generalize n / 256 = h at i1 i2 hn
    generalize n % 256 = b at hb hn
    have e1 : f1_ (k + 1) n = 256 * f1_ k h + (b - (b / 2 &&& 85)) := by
      have q1 : n / 2 = 256 * (h / 2) + (h % 2 * 128 + b / 2) := by omega
      have q2 := by1 b hb (h % 2) (Nat.mod_lt _ (by decide))
      have q3 : h / 2 &&& mk_ 85 k ≤ h / 2 := Nat.and_le_left
      unfold f1_
      rw [q1, mk_, and_split _ _ _ _ (by omega) (by decide), q2.1]
      omega
    have hyb : b - (b / 2 &&& 85) < 256 := by omega
    have e2 : f2_ (k + 1) (f1_ (k + 1) n) = 256 * f2_ k (f1_ k h) + zb_ b := by
      rw [e1]
      generalize f1_ k h = yh
      have hz : zb_ b = ((b - (b / 2 &&& 85)) &&& 51) + ((b - (b / 2 &&& 85)) / 4 &&& 51) := rfl
      rw [hz]
      generalize b - (b / 2 &&& 85) = yb at hyb
      have q1 : (256 * yh + yb) / 4 = 256 * (yh / 4) + (yh % 4 * 64 + yb / 4) := by omega
      have q2 := by2 yb hyb (yh % 4) (Nat.mod_lt _ (by decide))
      unfold f2_
      rw [q1, mk_, and_split _ _ _ _ hyb (by decide), and_split _ _ _ _ (by omega) (by decide), q2]
      omega
    have h3 := by3 b hb
    refine ⟨by rw [e2]; omega, ?_⟩
    rw [e2]
    generalize f2_ k (f1_ k h) = zh at i1 i2
    have h4 := by4 b hb (zh % 16) (by omega)
    have q1 : 256 * zh + zb_ b + (256 * zh + zb_ b) / 16 = 256 * (zh + zh / 16) + (zb_ b + zh % 16 * 16 + zb_ b / 16) := by omega
    have q5 : n / 256 = h := by omega
    have q6 : n % 256 = b := by omega
    show (256 * zh + zb_ b + (256 * zh + zb_ b) / 16) &&& mk_ 15 (k + 1) = 256 * g_by k (n / 256) + pcT (n % 256) 8
    rw [q1, mk_, and_split _ _ _ _ (by omega) (by decide), h4, q5, q6]
    have i2' : (zh + zh / 16) &&& mk_ 15 k = g_by k h := i2
    rw [i2']
theorem pcT_le (n : Nat) : ∀ w, pcT n w ≤ w
  | 0 => Nat.le_refl _
  | w + 1 => by
    have := pcT_le n w
    simp only [pcT]
    split <;> omega
theorem pcT_add (n a : Nat) : ∀ w, pcT n (a + w) = pcT n a + pcT (n / 2 ^ a) w
  | 0 => by simp [pcT]
  | w + 1 => by
    have ih := pcT_add n a w
    show pcT n (a + w) + (if n.testBit (a + w) then 1 else 0) = pcT n a + (pcT (n / 2 ^ a) w + (if (n / 2 ^ a).testBit w then 1 else 0))
    rw [ih, Nat.testBit_div_two_pow, Nat.add_comm w a]
    omega
theorem pcT_mod (n a : Nat) : ∀ w, w ≤ a → pcT (n % 2 ^ a) w = pcT n w
  | 0, _ => rfl
  | w + 1, h => by
    have ih := pcT_mod n a w (by omega)
    have h2 : w < a := h
    show pcT (n % 2 ^ a) w + (if (n % 2 ^ a).testBit w then 1 else 0) = pcT n w + (if n.testBit w then 1 else 0)
    rw [ih, Nat.testBit_mod_two_pow]
    simp [h2]
def bs_ : Nat → Nat → Nat
  | 0, _ => 0
  | k + 1, s => s % 256 + bs_ k (s / 256)
theorem bs_g (k : Nat) : ∀ n, bs_ k (g_by k n) = pcT n (8 * k) := by
  induction k with
  | zero => intro n; rfl
  | succ k ih =>
    intro n
    have h8 := pcT_le (n % 256) 8
    have e1 : g_by (k + 1) n % 256 = pcT (n % 256) 8 := by simp only [g_by]; omega
    have e2 : g_by (k + 1) n / 256 = g_by k (n / 256) := by simp only [g_by]; omega
    show g_by (k + 1) n % 256 + bs_ k (g_by (k + 1) n / 256) = _
    rw [e1, e2, ih, show 8 * (k + 1) = 8 + 8 * k by omega, pcT_add n 8]
    have h3 := pcT_mod n 8 8 (Nat.le_refl _)
    rw [show (2 : Nat) ^ 8 = 256 from rfl] at h3 ⊢
    rw [h3]
def t3_ (s : Nat) : Nat := s + s / 256 + (s + s / 256) / 65536 + (s + s / 256 + (s + s / 256) / 65536) / 4294967296
theorem g_by8 (n : Nat) : ∃ p0 p1 p2 p3 p4 p5 p6 p7 : Nat, p0 ≤ 8 ∧ p1 ≤ 8 ∧ p2 ≤ 8 ∧ p3 ≤ 8 ∧ p4 ≤ 8 ∧ p5 ≤ 8 ∧ p6 ≤ 8 ∧ p7 ≤ 8 ∧ g_by 8 n = 256 * (256 * (256 * (256 * (256 * (256 * (256 * p7 + p6) + p5) + p4) + p3) + p2) + p1) + p0 :=
  ⟨pcT (n % 256) 8, pcT (n / 256 % 256) 8, pcT (n / 256 / 256 % 256) 8, pcT (n / 256 / 256 / 256 % 256) 8, pcT (n / 256 / 256 / 256 / 256 % 256) 8, pcT (n / 256 / 256 / 256 / 256 / 256 % 256) 8, pcT (n / 256 / 256 / 256 / 256 / 256 / 256 % 256) 8, pcT (n / 256 / 256 / 256 / 256 / 256 / 256 / 256 % 256) 8,
   pcT_le _ 8, pcT_le _ 8, pcT_le _ 8, pcT_le _ 8, pcT_le _ 8, pcT_le _ 8, pcT_le _ 8, pcT_le _ 8, by simp only [g_by, Nat.mul_zero, Nat.zero_add]⟩
theorem g_fin {p0 p1 p2 p3 p4 p5 p6 p7 a0 a1 a2 a3 a4 a5 a6 : Nat} (h0 : p0 ≤ 8) (h1 : p1 ≤ 8) (h2 : p2 ≤ 8) (h3 : p3 ≤ 8) (h4 : p4 ≤ 8) (h5 : p5 ≤ 8) (h6 : p6 ≤ 8) (h7 : p7 ≤ 8)
    (e6 : a6 = 256 * p7 + p6) (e5 : a5 = 256 * a6 + p5) (e4 : a4 = 256 * a5 + p4) (e3 : a3 = 256 * a4 + p3) (e2 : a2 = 256 * a3 + p2) (e1 : a1 = 256 * a2 + p1) (e0 : a0 = 256 * a1 + p0) : t3_ a0 % 128 = bs_ 8 a0 ∧ a0 < 2 ^ 60 := by
  have d0 : a0 / 256 = a1 := by omega
  have d1 : a1 / 256 = a2 := by omega
  have d2 : a2 / 256 = a3 := by omega
  have d3 : a3 / 256 = a4 := by omega
  have d4 : a4 / 256 = a5 := by omega
  have d5 : a5 / 256 = a6 := by omega
  have d6 : a6 / 256 = p7 := by omega
  have m0 : a0 % 256 = p0 := by omega
  have m1 : a1 % 256 = p1 := by omega
  have m2 : a2 % 256 = p2 := by omega
  have m3 : a3 % 256 = p3 := by omega
  have m4 : a4 % 256 = p4 := by omega
  have m5 : a5 % 256 = p5 := by omega
  have m6 : a6 % 256 = p6 := by omega
  have m7 : p7 % 256 = p7 := by omega
  have q1 : (a0 + a1) / 65536 = a2 + a3 := by
    have c0 : a0 = 65536 * a2 + (256 * p1 + p0) := by omega
    have c1 : a1 = 65536 * a3 + (256 * p2 + p1) := by omega
    clear e0 e1 e2 e3 e4 e5 e6 d0 d1 d2 d3 d4 d5 d6 m0 m1 m2 m3 m4 m5 m6 m7
    omega
  have q2 : (a0 + a1 + (a2 + a3)) / 4294967296 = a4 + a5 + a6 + p7 := by
    have c0 : a0 = 4294967296 * a4 + (16777216 * p3 + 65536 * p2 + 256 * p1 + p0) := by omega
    have c1 : a1 = 4294967296 * a5 + (16777216 * p4 + 65536 * p3 + 256 * p2 + p1) := by omega
    have c2 : a2 = 4294967296 * a6 + (16777216 * p5 + 65536 * p4 + 256 * p3 + p2) := by omega
    have c3 : a3 = 4294967296 * p7 + (16777216 * p6 + 65536 * p5 + 256 * p4 + p3) := by omega
    clear e0 e1 e2 e3 e4 e5 e6 d0 d1 d2 d3 d4 d5 d6 m0 m1 m2 m3 m4 m5 m6 m7 q1
    omega
  constructor
  · have b1 : bs_ 8 a0 = p0 + (p1 + (p2 + (p3 + (p4 + (p5 + (p6 + p7)))))) := by
      simp only [bs_, d0, d1, d2, d3, d4, d5, d6, m0, m1, m2, m3, m4, m5, m6, m7, Nat.add_zero]
    rw [b1]
    unfold t3_
    rw [d0, q1, q2]
    clear q1 q2 d0 d1 d2 d3 d4 d5 d6
    omega
  · clear q1 q2 d0 d1 d2 d3 d4 d5 d6 m0 m1 m2 m3 m4 m5 m6 m7
    omega
theorem g_by_fin (n : Nat) : t3_ (g_by 8 n) % 128 = bs_ 8 (g_by 8 n) ∧ g_by 8 n < 2 ^ 60 := by
  obtain ⟨p0, p1, p2, p3, p4, p5, p6, p7, h0, h1, h2, h3, h4, h5, h6, h7, e⟩ := g_by8 n
  exact g_fin h0 h1 h2 h3 h4 h5 h6 h7 rfl rfl rfl rfl rfl rfl e
theorem lN_shr {n k : Nat} (hn : n < 2 ^ 64) (hk : k < 64) {p : Nat} (hp : 2 ^ k = p) : ((lN n).toUInt64 >>> ((nI k).toInt64.toUInt64 &&& Int64.toUInt64 63)).toInt64 = lN (n / p) := by rw [wb_shr hn hk, hp]
theorem f1_le (n : Nat) : f1_ 8 n ≤ n := Nat.sub_le _ _
theorem bc1_ (n : Nat) (h : n < 2 ^ 64) : bc1 (lN n) = lN (f1_ 8 n) := by
  unfold bc1
  have hc : (6148914691236517205 : Int64) = lN (mk_ 85 8) := by decide +kernel
  rw [lN_shr h (by decide) rfl, hc, wb_and (Nat.lt_of_le_of_lt (Nat.div_le_self _ _) h) (by decide +kernel)]
  exact lN_sub (Nat.le_trans Nat.and_le_left (Nat.div_le_self _ _))
theorem bc2_ (n : Nat) (h : n < 2 ^ 64) : bc2 (lN n) = lN (f2_ 8 n) := by
  unfold bc2
  have hc : (3689348814741910323 : Int64) = lN (mk_ 51 8) := by decide +kernel
  rw [lN_shr h (by decide) rfl, hc, wb_and (Nat.lt_of_le_of_lt (Nat.div_le_self _ _) h) (by decide +kernel), wb_and h (by decide +kernel), lN_add]
  rfl
theorem mk_lt (c : Nat) : mk_ 51 8 = 3689348814741910323 := by decide +kernel
theorem f2_lt (n : Nat) : f2_ 8 n < 2 ^ 63 := by
  have h1 : n &&& mk_ 51 8 ≤ mk_ 51 8 := Nat.and_le_right
  have h2 : n / 4 &&& mk_ 51 8 ≤ mk_ 51 8 := Nat.and_le_right
  have h3 := mk_lt 0
  unfold f2_
  omega
theorem bc3_ (n : Nat) (h : n < 2 ^ 63) : bc3 (lN n) = lN (f3_ 8 n) := by
  unfold bc3
  have hc : (1085102592571150095 : Int64) = lN (mk_ 15 8) := by decide +kernel
  rw [lN_shr (Nat.lt_trans h (by decide)) (by decide) rfl, hc, lN_add, wb_and (by omega) (by decide +kernel)]
  rfl
theorem bcI_n (n : Nat) (h : n < 2 ^ 64) : bcI (lN n) = nI (pcT n 64) := by
  unfold bcI
  rw [bc1_ n h, bc2_ _ (Nat.lt_of_le_of_lt (f1_le n) h), bc3_ _ (f2_lt _), (pc_all 8 n).2]
  obtain ⟨e1, e2⟩ := g_by_fin n
  have e3 := bs_g 8 n
  rw [show 8 * 8 = 64 from rfl] at e3
  generalize g_by 8 n = s at e1 e2 e3
  have q1 : bc4 (lN s) = lN (s + s / 256) := by
    unfold bc4
    rw [lN_shr (by omega) (by decide) rfl, lN_add]
  have q2 : bc5 (lN (s + s / 256)) = lN (s + s / 256 + (s + s / 256) / 65536) := by
    unfold bc5
    rw [lN_shr (by omega) (by decide) rfl, lN_add]
  have q3 : bc6 (lN (s + s / 256 + (s + s / 256) / 65536)) = lN (t3_ s) := by
    unfold bc6
    rw [lN_shr (by omega) (by decide) rfl, lN_add]
    rfl
  rw [q1, q2, q3, lN_i]
  have q4 := pk_and (nI (t3_ s)) (m := nI 127) 7 (by decide)
  rw [q4]
  have q5 : (nI (t3_ s)).toBitVec.toNat = t3_ s % 2 ^ 32 := by
    show (BitVec.ofNat 32 (t3_ s)).toNat = _
    rw [BitVec.toNat_ofNat]
  rw [q5, ← e3, ← e1]
  congr 1
  omega
/-- the pages of a set -/
def pcN (b : Nat → Bool) : Nat → Nat
  | 0 => 0
  | n + 1 => pcN b n + (if b n then 1 else 0)
theorem pcT_en (b : Nat → Bool) (m : Nat) : ∀ w, w ≤ m → pcT (enN b m) w = pcN b w
  | 0, _ => rfl
  | w + 1, h => by
    have ih := pcT_en b m w (by omega)
    have h2 : w < m := h
    show pcT (enN b m) w + (if (enN b m).testBit w then 1 else 0) = pcN b w + (if b w then 1 else 0)
    rw [ih, enN_tb]
    simp [h2]
theorem bcI_en (b : Nat → Bool) : bcI (en b) = nI (pcN b 64) := by
  unfold en
  rw [bcI_n _ (enN_64 b), pcT_en b 64 64 (Nat.le_refl _)]
