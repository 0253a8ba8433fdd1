/-! the objects of the worlds -/
abbrev cls : List vw_C := [(RX0, TX0, 4), (RX1, TX1, 2), (RX2, TX2, 4), (RX3, TX3, 8)]
/-! the world of one ForkedPages object -/
def bI (b : Bool) : Int32 := if b then 1 else 0
def up1 {α : Type} (f : Nat → α) (k : Nat) (v : α) : Nat → α := fun i => if i = k then v else f i
def enN (b : Nat → Bool) : Nat → Nat
  | 0 => 0
  | n + 1 => enN b n + (if b n then 2 ^ n else 0)
def en (b : Nat → Bool) : Int64 := lN (enN b 64)
theorem up1_s {α : Type} {f : Nat → α} {k : Nat} {v : α} : up1 f k v k = v := by simp [up1]
theorem up1_n {α : Type} {f : Nat → α} {k j : Nat} {v : α} (h : j ≠ k) : up1 f k v j = f j := by simp [up1, h]
theorem upd_nI (g : Nat → Nat) (k v : Nat) : upd (fun i => nI (g i)) k (nI v) = fun i => nI (up1 g k v i) := by
  funext i
  by_cases h : i = k <;> simp [upd, up1, h]
theorem bI_t : bI true = 1 := rfl
theorem bI_f : bI false = 0 := rfl
def fpT (cI cQ cZ : ClassId) : List (ClassId × FieldType) := [(cI, .int), (cQ, .object RX0), (cZ, .boolean)]
def fpW (ad : Nat → Nat) (cI cQ : ClassId) (run : Nat → Bool) (mp : Nat → Nat → Bool) (fr : Nat → Nat → Nat) (kd : Nat → Nat → Int32) (wd ct : Nat → Int32) (af cf : Int32) : va_W :=
  [(ad 0, .inr (2, [.ref (ad 1), .ref (ad 2), .int af, .int cf])),
   (ad 1, .inl (cQ, 5, .inr (.inr (.inr (.inr (fun j => some (ad (5 + 3 * j)))))))),
   (ad 2, .inr (1, [.ref (ad 3), .ref (ad 4)])),
   (ad 3, .inl (cI, 96, .inl wd)),
   (ad 4, .inl (cI, 24, .inl ct)),
   (ad 5, .inr (0, [.int (bI (run 0)), .long (en (mp 0)), .ref (ad 6), .ref (ad 7)])),
   (ad 6, .inl (cI, 64, .inl (fun k => nI (fr 0 k)))),
   (ad 7, .inl (cI, 64, .inl (kd 0))),
   (ad 8, .inr (0, [.int (bI (run 1)), .long (en (mp 1)), .ref (ad 9), .ref (ad 10)])),
   (ad 9, .inl (cI, 64, .inl (fun k => nI (fr 1 k)))),
   (ad 10, .inl (cI, 64, .inl (kd 1))),
   (ad 11, .inr (0, [.int (bI (run 2)), .long (en (mp 2)), .ref (ad 12), .ref (ad 13)])),
   (ad 12, .inl (cI, 64, .inl (fun k => nI (fr 2 k)))),
   (ad 13, .inl (cI, 64, .inl (kd 2))),
   (ad 14, .inr (0, [.int (bI (run 3)), .long (en (mp 3)), .ref (ad 15), .ref (ad 16)])),
   (ad 15, .inl (cI, 64, .inl (fun k => nI (fr 3 k)))),
   (ad 16, .inl (cI, 64, .inl (kd 3))),
   (ad 17, .inr (0, [.int (bI (run 4)), .long (en (mp 4)), .ref (ad 18), .ref (ad 19)])),
   (ad 18, .inl (cI, 64, .inl (fun k => nI (fr 4 k)))),
   (ad 19, .inl (cI, 64, .inl (kd 4)))]
section FW
variable {ad : Nat → Nat} {cI cQ cZ : ClassId} {run : Nat → Bool} {mp : Nat → Nat → Bool} {fr : Nat → Nat → Nat} {kd : Nat → Nat → Int32} {wd ct : Nat → Int32} {af cf : Int32} {j : Nat}
theorem lt5 (hj : j < 5) : j = 0 ∨ j = 1 ∨ j = 2 ∨ j = 3 ∨ j = 4 := by omega
theorem fp_0 : (fpW ad cI cQ run mp fr kd wd ct af cf)[0]? = some (ad 0, .inr (2, [.ref (ad 1), .ref (ad 2), .int af, .int cf])) := rfl
theorem fp_1 : (fpW ad cI cQ run mp fr kd wd ct af cf)[1]? = some (ad 1, .inl (cQ, 5, .inr (.inr (.inr (.inr (fun j => some (ad (5 + 3 * j)))))))) := rfl
theorem fp_2 : (fpW ad cI cQ run mp fr kd wd ct af cf)[2]? = some (ad 2, .inr (1, [.ref (ad 3), .ref (ad 4)])) := rfl
theorem fp_3 : (fpW ad cI cQ run mp fr kd wd ct af cf)[3]? = some (ad 3, .inl (cI, 96, .inl wd)) := rfl
theorem fp_4 : (fpW ad cI cQ run mp fr kd wd ct af cf)[4]? = some (ad 4, .inl (cI, 24, .inl ct)) := rfl
theorem fp_5 (hj : j < 5) : (fpW ad cI cQ run mp fr kd wd ct af cf)[5 + 3 * j]? = some (ad (5 + 3 * j), .inr (0, [.int (bI (run j)), .long (en (mp j)), .ref (ad (6 + 3 * j)), .ref (ad (7 + 3 * j))])) := by
  rcases lt5 hj with rfl | rfl | rfl | rfl | rfl <;> rfl
theorem fp_6 (hj : j < 5) : (fpW ad cI cQ run mp fr kd wd ct af cf)[6 + 3 * j]? = some (ad (6 + 3 * j), .inl (cI, 64, .inl (fun k => nI (fr j k)))) := by
  rcases lt5 hj with rfl | rfl | rfl | rfl | rfl <;> rfl
theorem fp_7 (hj : j < 5) : (fpW ad cI cQ run mp fr kd wd ct af cf)[7 + 3 * j]? = some (ad (7 + 3 * j), .inl (cI, 64, .inl (kd j))) := by
  rcases lt5 hj with rfl | rfl | rfl | rfl | rfl <;> rfl
theorem fp_s0a (v : Int32) : (fpW ad cI cQ run mp fr kd wd ct af cf).set 0 (ad 0, .inr (2, [.ref (ad 1), .ref (ad 2), .int v, .int cf])) = fpW ad cI cQ run mp fr kd wd ct v cf := rfl
theorem fp_s0c (v : Int32) : (fpW ad cI cQ run mp fr kd wd ct af cf).set 0 (ad 0, .inr (2, [.ref (ad 1), .ref (ad 2), .int af, .int v])) = fpW ad cI cQ run mp fr kd wd ct af v := rfl
theorem fp_s3 (g : Nat → Int32) : (fpW ad cI cQ run mp fr kd wd ct af cf).set 3 (ad 3, .inl (cI, 96, .inl g)) = fpW ad cI cQ run mp fr kd g ct af cf := rfl
theorem fp_s4 (g : Nat → Int32) : (fpW ad cI cQ run mp fr kd wd ct af cf).set 4 (ad 4, .inl (cI, 24, .inl g)) = fpW ad cI cQ run mp fr kd wd g af cf := rfl
theorem fp_s5r (hj : j < 5) (b : Bool) : (fpW ad cI cQ run mp fr kd wd ct af cf).set (5 + 3 * j) (ad (5 + 3 * j), .inr (0, [.int (bI b), .long (en (mp j)), .ref (ad (6 + 3 * j)), .ref (ad (7 + 3 * j))])) = fpW ad cI cQ (up1 run j b) mp fr kd wd ct af cf := by
  rcases lt5 hj with rfl | rfl | rfl | rfl | rfl <;> rfl
theorem fp_s5m (hj : j < 5) (b : Nat → Bool) : (fpW ad cI cQ run mp fr kd wd ct af cf).set (5 + 3 * j) (ad (5 + 3 * j), .inr (0, [.int (bI (run j)), .long (en b), .ref (ad (6 + 3 * j)), .ref (ad (7 + 3 * j))])) = fpW ad cI cQ run (up1 mp j b) fr kd wd ct af cf := by
  rcases lt5 hj with rfl | rfl | rfl | rfl | rfl <;> rfl
theorem fp_s6 (hj : j < 5) (g : Nat → Nat) : (fpW ad cI cQ run mp fr kd wd ct af cf).set (6 + 3 * j) (ad (6 + 3 * j), .inl (cI, 64, .inl (fun k => nI (g k)))) = fpW ad cI cQ run mp (up1 fr j g) kd wd ct af cf := by
  rcases lt5 hj with rfl | rfl | rfl | rfl | rfl <;> rfl
theorem fp_s7 (hj : j < 5) (g : Nat → Int32) : (fpW ad cI cQ run mp fr kd wd ct af cf).set (7 + 3 * j) (ad (7 + 3 * j), .inl (cI, 64, .inl g)) = fpW ad cI cQ run mp fr (up1 kd j g) wd ct af cf := by
  rcases lt5 hj with rfl | rfl | rfl | rfl | rfl <;> rfl
theorem fp_s6u (hj : j < 5) (k f : Nat) : (fpW ad cI cQ run mp fr kd wd ct af cf).set (6 + 3 * j) (ad (6 + 3 * j), .inl (cI, 64, .inl (upd (fun k => nI (fr j k)) k (nI f)))) = fpW ad cI cQ run mp (up1 fr j (up1 (fr j) k f)) kd wd ct af cf := by
  rw [upd_nI]; exact fp_s6 hj _
end FW
