/-! the world of one reference object -/
def rfW (bd : Nat → Nat) (cI cZ : ClassId) (run : Nat → Bool) (fm : Nat → Nat) (cm wr mk : Nat → Bool) (wo : Nat → Int32) (fc cc : Int32) : va_W :=
  [(bd 0, .inr (3, [.ref (bd 1), .ref (bd 2), .ref (bd 3), .ref (bd 4), .ref (bd 5), .ref (bd 6), .int fc, .int cc])),
   (bd 1, .inl (cZ, 5, .inl (fun i => bI (run i)))),
   (bd 2, .inl (cI, 320, .inl (fun i => nI (fm i)))),
   (bd 3, .inl (cZ, 320, .inl (fun i => bI (cm i)))),
   (bd 4, .inl (cZ, 320, .inl (fun i => bI (wr i)))),
   (bd 5, .inl (cZ, 320, .inl (fun i => bI (mk i)))),
   (bd 6, .inl (cI, 96, .inl wo))]
theorem upd_bI (g : Nat → Bool) (k : Nat) (v : Bool) : upd (fun i => bI (g i)) k (bI v) = fun i => bI (up1 g k v i) := by
  funext i
  by_cases h : i = k <;> simp [upd, up1, h]
theorem nar_bI (b : Bool) : vp_nar .boolean (bI b) = bI b := by cases b <;> decide
section RW
variable {bd : Nat → Nat} {cI cZ : ClassId} {run : Nat → Bool} {fm : Nat → Nat} {cm wr mk : Nat → Bool} {wo : Nat → Int32} {fc cc : Int32}
theorem rf_0 : (rfW bd cI cZ run fm cm wr mk wo fc cc)[0]? = some (bd 0, .inr (3, [.ref (bd 1), .ref (bd 2), .ref (bd 3), .ref (bd 4), .ref (bd 5), .ref (bd 6), .int fc, .int cc])) := rfl
theorem rf_1 : (rfW bd cI cZ run fm cm wr mk wo fc cc)[1]? = some (bd 1, .inl (cZ, 5, .inl (fun i => bI (run i)))) := rfl
theorem rf_2 : (rfW bd cI cZ run fm cm wr mk wo fc cc)[2]? = some (bd 2, .inl (cI, 320, .inl (fun i => nI (fm i)))) := rfl
theorem rf_3 : (rfW bd cI cZ run fm cm wr mk wo fc cc)[3]? = some (bd 3, .inl (cZ, 320, .inl (fun i => bI (cm i)))) := rfl
theorem rf_4 : (rfW bd cI cZ run fm cm wr mk wo fc cc)[4]? = some (bd 4, .inl (cZ, 320, .inl (fun i => bI (wr i)))) := rfl
theorem rf_5 : (rfW bd cI cZ run fm cm wr mk wo fc cc)[5]? = some (bd 5, .inl (cZ, 320, .inl (fun i => bI (mk i)))) := rfl
theorem rf_6 : (rfW bd cI cZ run fm cm wr mk wo fc cc)[6]? = some (bd 6, .inl (cI, 96, .inl wo)) := rfl
theorem rf_s0f (v : Int32) : (rfW bd cI cZ run fm cm wr mk wo fc cc).set 0 (bd 0, .inr (3, [.ref (bd 1), .ref (bd 2), .ref (bd 3), .ref (bd 4), .ref (bd 5), .ref (bd 6), .int v, .int cc])) = rfW bd cI cZ run fm cm wr mk wo v cc := rfl
theorem rf_s0c (v : Int32) : (rfW bd cI cZ run fm cm wr mk wo fc cc).set 0 (bd 0, .inr (3, [.ref (bd 1), .ref (bd 2), .ref (bd 3), .ref (bd 4), .ref (bd 5), .ref (bd 6), .int fc, .int v])) = rfW bd cI cZ run fm cm wr mk wo fc v := rfl
theorem rf_s1 (k : Nat) (v : Bool) : (rfW bd cI cZ run fm cm wr mk wo fc cc).set 1 (bd 1, .inl (cZ, 5, .inl (upd (fun i => bI (run i)) k (bI v)))) = rfW bd cI cZ (up1 run k v) fm cm wr mk wo fc cc := by rw [upd_bI]; rfl
theorem rf_s2 (k v : Nat) : (rfW bd cI cZ run fm cm wr mk wo fc cc).set 2 (bd 2, .inl (cI, 320, .inl (upd (fun i => nI (fm i)) k (nI v)))) = rfW bd cI cZ run (up1 fm k v) cm wr mk wo fc cc := by rw [upd_nI]; rfl
theorem rf_s3 (k : Nat) (v : Bool) : (rfW bd cI cZ run fm cm wr mk wo fc cc).set 3 (bd 3, .inl (cZ, 320, .inl (upd (fun i => bI (cm i)) k (bI v)))) = rfW bd cI cZ run fm (up1 cm k v) wr mk wo fc cc := by rw [upd_bI]; rfl
theorem rf_s4 (k : Nat) (v : Bool) : (rfW bd cI cZ run fm cm wr mk wo fc cc).set 4 (bd 4, .inl (cZ, 320, .inl (upd (fun i => bI (wr i)) k (bI v)))) = rfW bd cI cZ run fm cm (up1 wr k v) mk wo fc cc := by rw [upd_bI]; rfl
theorem rf_s5 (k : Nat) (v : Bool) : (rfW bd cI cZ run fm cm wr mk wo fc cc).set 5 (bd 5, .inl (cZ, 320, .inl (upd (fun i => bI (mk i)) k (bI v)))) = rfW bd cI cZ run fm cm wr (up1 mk k v) wo fc cc := by rw [upd_bI]; rfl
theorem rf_s6 (g : Nat → Int32) : (rfW bd cI cZ run fm cm wr mk wo fc cc).set 6 (bd 6, .inl (cI, 96, .inl g)) = rfW bd cI cZ run fm cm wr mk g fc cc := rfl
end RW
section GZ
variable {p : Program} {l : Launch} {e : Env} {R : Room} {s : State} {m : MethodId} {args : Array Value} {below : List Frame} {meth : Method} {c : Code} {H : Heap} {locs : List Loc} {cells slots : Nat} {Q : State → Prop}
variable {cc : ByteArray} {pc : Nat} {ls : Array Slot} {rest : List Value} {D : va_G} {cl : List vw_C} {A : Nat → Prop} {tys : List (ClassId × FieldType)} {ws ws' : va_W} {q0 b : Nat}
theorem g_zast {t0 n i : Nat} {cA : ClassId} {f : Nat → Int32} {x : Int32} (hx : p.tables.exec = Jvm.exec) (hb : c.code = cc) (hG : gG D cl tys A s ws H locs) (ha : ws[q0]? = some (b, .inl (cA, n, .inl f))) (ht : tys[t0]? = some (cA, .boolean)) (hi : i < n) (hn : n < 2 ^ 31) (hnar : vp_nar .boolean x = x) (hw : ws.set q0 (b, .inl (cA, n, .inl (upd f i x))) = ws') (hdg : decode cc pc = .ok (.bastore, 1))
    (kk : ∀ (H1 : Heap) (locs1 : List Loc), gG D cl tys A s ws' H1 locs1 → W p l e R s m args below meth c H1 locs1 cells slots Q (F0 m (pc + 1) ls rest)) : W p l e R s m args below meth c H locs cells slots Q (F0 m pc ls (.int x :: .int (nI i) :: .ref b :: rest)) := by
  obtain ⟨hK, hP, hD, hS⟩ := hG
  refine va_zast hx hb hK hP hD hS q0 t0 ha ht (vp_in_nI hi hn) hdg (fun H1 locs1 a1 a2 a3 => ?_)
  rw [nI_clamp (Nat.lt_trans hi hn), hnar, hw] at a1 a2
  exact kk H1 locs1 ⟨hK, a1, a2, a3⟩
end GZ
theorem i45 {x : Int32} (h : nI 5 ≤ x) : nI 4 < x := by
  rw [Int32.lt_iff_toInt_lt]
  rw [Int32.le_iff_toInt_le] at h
  have h5 : (nI 5).toInt = 5 := by decide
  have h4 : (nI 4).toInt = 4 := by decide
  omega
theorem i63 {x : Int32} (h : nI 64 ≤ x) : nI 63 < x := by
  rw [Int32.lt_iff_toInt_lt]
  rw [Int32.le_iff_toInt_le] at h
  have h5 : (nI 64).toInt = 64 := by decide
  have h4 : (nI 63).toInt = 63 := by decide
  omega
theorem i255 {x : Int32} (h : nI 256 ≤ x) : nI 255 < x := by
  rw [Int32.lt_iff_toInt_lt]
  rw [Int32.le_iff_toInt_le] at h
  have h5 : (nI 256).toInt = 256 := by decide
  have h4 : (nI 255).toInt = 255 := by decide
  omega
/-- the pages of a process of the reference, the mappings of a frame, the frames in use -/
def pgS (fm : Nat → Nat) (j k : Nat) : Bool := decide (0 < fm (64 * j + k))
def ldN (fm : Nat → Nat) (f : Nat) : Nat := pcN (fun k => fm k == f + 1) 320
def usR (fm : Nat → Nat) (n : Nat) : Nat := pcN (fun f => decide (0 < ldN fm f)) n
def frR (run : Nat → Bool) (fm : Nat → Nat) : Int32 := frL run (pgS fm) (nI (24 - usR fm 24)) 5
def mrN (b : Nat → Bool) (k : Nat) : Nat := (if anB b (k / 4 * 4) 4 then 0 else 1) + (if anB b (k / 16 * 16) 16 then 0 else 1)
theorem usR_le (fm : Nat → Nat) : ∀ n, usR fm n ≤ n
  | 0 => Nat.le_refl _
  | n + 1 => by
    have := usR_le fm n
    show pcN _ (n + 1) ≤ n + 1
    simp only [pcN]
    unfold usR at this
    split <;> omega
theorem pcN_320 (p : Nat → Bool) : ∀ n, pcN p n ≤ n
  | 0 => Nat.le_refl _
  | n + 1 => by
    have := pcN_320 p n
    simp only [pcN]
    split <;> omega
theorem ldN_le (fm : Nat → Nat) (f : Nat) : ldN fm f ≤ 320 := pcN_320 _ 320
theorem nI_gt0 {n : Nat} (h : 0 < n) (hn : n < 2 ^ 31) : ¬ nI n ≤ 0 := nI_nle h hn
theorem nI_le0 {n : Nat} (h : n = 0) : nI n ≤ 0 := by subst h; decide
