/-! ===== bits: the dots of a row as a mask, and how many bits it has ===== -/
section YB
variable {l : Launch} {K : KT} {own : String} {cc : ByteArray} {nL : Nat} {R : Room} {D : va_G} {tys : List (ClassId × FieldType)} {k n : Nat} {ws : va_W} {lv : List (Nat × Value)} {pc : Nat} {st : List Value}
theorem y_iand (C : YC l K own cc nL R D tys) {x y : Int32} (hd : decode cc pc = .ok (.iand, 1)) (g : K k n ws lv (pc + 1) (.int (x &&& y) :: st)) : K k n ws lv pc (.int y :: .int x :: st) := by
  obtain ⟨p, e, s, m, args, below, meth, c, A, Q, rfl, hx, hb, hml, hown, hts, hK, hA, hNs⟩ := C
  intro H locs ls hP hD hS h
  exact lv_iand hx hb hd (g H locs ls hP hD hS h)
theorem y_ior (C : YC l K own cc nL R D tys) {x y : Int32} (hd : decode cc pc = .ok (.ior, 1)) (g : K k n ws lv (pc + 1) (.int (x ||| y) :: st)) : K k n ws lv pc (.int y :: .int x :: st) := by
  obtain ⟨p, e, s, m, args, below, meth, c, A, Q, rfl, hx, hb, hml, hown, hts, hK, hA, hNs⟩ := C
  intro H locs ls hP hD hS h
  exact lv_ior hx hb hd (g H locs ls hP hD hS h)
theorem y_ishl (C : YC l K own cc nL R D tys) {x y : Int32} (hd : decode cc pc = .ok (.ishl, 1)) (g : K k n ws lv (pc + 1) (.int (x <<< (y &&& 31)) :: st)) : K k n ws lv pc (.int y :: .int x :: st) := by
  obtain ⟨p, e, s, m, args, below, meth, c, A, Q, rfl, hx, hb, hml, hown, hts, hK, hA, hNs⟩ := C
  intro H locs ls hP hD hS h
  exact lv_ishl hx hb hd (g H locs ls hP hD hS h)
theorem y_iushr (C : YC l K own cc nL R D tys) {x y : Int32} (hd : decode cc pc = .ok (.iushr, 1)) (g : K k n ws lv (pc + 1) (.int (x.toUInt32 >>> (y.toUInt32 &&& Int32.toUInt32 31)).toInt32 :: st)) : K k n ws lv pc (.int y :: .int x :: st) := by
  obtain ⟨p, e, s, m, args, below, meth, c, A, Q, rfl, hx, hb, hml, hown, hts, hK, hA, hNs⟩ := C
  intro H locs ls hP hD hS h
  exact lv_iushr hx hb hd rfl (g H locs ls hP hD hS h)
theorem y_iaddw (C : YC l K own cc nL R D tys) {x y : Int32} (hd : decode cc pc = .ok (.iadd, 1)) (g : K k n ws lv (pc + 1) (.int (x + y) :: st)) : K k n ws lv pc (.int y :: .int x :: st) := by
  obtain ⟨p, e, s, m, args, below, meth, c, A, Q, rfl, hx, hb, hml, hown, hts, hK, hA, hNs⟩ := C
  intro H locs ls hP hD hS h
  exact lv_iadd hx hb hd (g H locs ls hP hD hS h)
theorem y_isubw (C : YC l K own cc nL R D tys) {x y : Int32} (hd : decode cc pc = .ok (.isub, 1)) (g : K k n ws lv (pc + 1) (.int (x - y) :: st)) : K k n ws lv pc (.int y :: .int x :: st) := by
  obtain ⟨p, e, s, m, args, below, meth, c, A, Q, rfl, hx, hb, hml, hown, hts, hK, hA, hNs⟩ := C
  intro H locs ls hP hD hS h
  exact lv_isub hx hb hd (g H locs ls hP hD hS h)
theorem y_ldcw (C : YC l K own cc nL R D tys) {idx : Nat} {v : Int32} (hw : Cond.constant own idx v ∈ wsL_law) (hd : decode cc pc = .ok (.ldc_w idx, 3)) (g : K k n ws lv (pc + 3) (.int v :: st)) : K k n ws lv pc st := by
  obtain ⟨p, e, s, m, args, below, meth, c, A, Q, rfl, hx, hb, hml, hown, hts, hK, hA, hNs⟩ := C
  intro H locs ls hP hD hS h
  exact lv_ldcw hx hb hown (hts _ hw) hd (g H locs ls hP hD hS h)
theorem y_val {v w : Value} (h : v = w) (g : K k n ws lv pc (w :: st)) : K k n ws lv pc (v :: st) := by rw [h]; exact g
end YB
/-- how many bits a number below 256 has -/
def popN (n : Nat) : Nat := n % 2 + n / 2 % 2 + n / 4 % 2 + n / 8 % 2 + n / 16 % 2 + n / 32 % 2 + n / 64 % 2 + n / 128 % 2
def zsh (x : Int32) (y : Int32) : Int32 := (x.toUInt32 >>> (y.toUInt32 &&& Int32.toUInt32 31)).toInt32
def bc1 (x : Int32) : Int32 := x - (zsh x 1 &&& 1431655765)
def bc2 (x : Int32) : Int32 := (bc1 x &&& 858993459) + (zsh (bc1 x) 2 &&& 858993459)
def bc3 (x : Int32) : Int32 := (bc2 x + zsh (bc2 x) 4) &&& 252645135
def bc4 (x : Int32) : Int32 := bc3 x + zsh (bc3 x) 8
def bc5 (x : Int32) : Int32 := bc4 x + zsh (bc4 x) 16
def bc6 (x : Int32) : Int32 := bc5 x &&& 63
theorem bc6_of : ∀ n : Nat, n < 256 → bc6 (Int32.ofNat n) = Int32.ofNat (popN n) := by decide +kernel
set_option maxHeartbeats 4000000 in
set_option maxRecDepth 100000 in
theorem m_J6_bitCount_0f7a4 {l : Launch} {D : va_G} {cA cB : ClassId} {n : Nat} (hn : n < 256) : MI l yJ6_bitCount_0f7a4 cJ6_bitCount_0f7a4 1 .int { frames := 0, cells := 0, slots := 0, locals := 0 } D (zT cA cB) [.int (zI (n : Int))] [] (fun r w => w = [] ∧ r = (popN n : Int)) := by
  refine MI.of RJ6 ⟨rfl, by decide +kernel⟩ (Or.inl rfl) (Nat.le_of_ble_eq_true rfl) (fun h => by cases h) ?_
  intro K C hret
  change K 0 0 _ [(0, .int (zI (n : Int)))] 0 []
  rw [zI_nat]
  refine y_iload_n C 0 dJ6_bitCount_0f7a4_0 rfl ?_
  refine y_iload_n C 0 dJ6_bitCount_0f7a4_1 rfl ?_
  refine y_iconst C dJ6_bitCount_0f7a4_2 ?_
  refine y_val (w := .int 1) (by decide +kernel) ?_
  refine y_iushr C dJ6_bitCount_0f7a4_3 ?_
  refine y_ldcw C qw_26_9 dJ6_bitCount_0f7a4_4 ?_
  refine y_iand C dJ6_bitCount_0f7a4_7 ?_
  refine y_isubw C dJ6_bitCount_0f7a4_8 ?_
  refine y_val (w := .int (bc1 (nI n))) rfl ?_
  refine y_istore_n C [(0, .int (bc1 (nI n)))] dJ6_bitCount_0f7a4_9 (by decide) rfl ?_
  refine y_iload_n C 0 dJ6_bitCount_0f7a4_10 rfl ?_
  refine y_ldcw C qw_26_10 dJ6_bitCount_0f7a4_11 ?_
  refine y_iand C dJ6_bitCount_0f7a4_14 ?_
  refine y_iload_n C 0 dJ6_bitCount_0f7a4_15 rfl ?_
  refine y_iconst C dJ6_bitCount_0f7a4_16 ?_
  refine y_val (w := .int 2) (by decide +kernel) ?_
  refine y_iushr C dJ6_bitCount_0f7a4_17 ?_
  refine y_ldcw C qw_26_10 dJ6_bitCount_0f7a4_18 ?_
  refine y_iand C dJ6_bitCount_0f7a4_21 ?_
  refine y_iaddw C dJ6_bitCount_0f7a4_22 ?_
  refine y_val (w := .int (bc2 (nI n))) rfl ?_
  refine y_istore_n C [(0, .int (bc2 (nI n)))] dJ6_bitCount_0f7a4_23 (by decide) rfl ?_
  refine y_iload_n C 0 dJ6_bitCount_0f7a4_24 rfl ?_
  refine y_iload_n C 0 dJ6_bitCount_0f7a4_25 rfl ?_
  refine y_iconst C dJ6_bitCount_0f7a4_26 ?_
  refine y_val (w := .int 4) (by decide +kernel) ?_
  refine y_iushr C dJ6_bitCount_0f7a4_27 ?_
  refine y_iaddw C dJ6_bitCount_0f7a4_28 ?_
  refine y_ldcw C qw_26_11 dJ6_bitCount_0f7a4_29 ?_
  refine y_iand C dJ6_bitCount_0f7a4_32 ?_
  refine y_val (w := .int (bc3 (nI n))) rfl ?_
  refine y_istore_n C [(0, .int (bc3 (nI n)))] dJ6_bitCount_0f7a4_33 (by decide) rfl ?_
  refine y_iload_n C 0 dJ6_bitCount_0f7a4_34 rfl ?_
  refine y_iload_n C 0 dJ6_bitCount_0f7a4_35 rfl ?_
  refine y_bipush C dJ6_bitCount_0f7a4_36 (by decide +kernel) ?_
  refine y_val (w := .int 8) (by decide +kernel) ?_
  refine y_iushr C dJ6_bitCount_0f7a4_38 ?_
  refine y_iaddw C dJ6_bitCount_0f7a4_39 ?_
  refine y_val (w := .int (bc4 (nI n))) rfl ?_
  refine y_istore_n C [(0, .int (bc4 (nI n)))] dJ6_bitCount_0f7a4_40 (by decide) rfl ?_
  refine y_iload_n C 0 dJ6_bitCount_0f7a4_41 rfl ?_
  refine y_iload_n C 0 dJ6_bitCount_0f7a4_42 rfl ?_
  refine y_bipush C dJ6_bitCount_0f7a4_43 (by decide +kernel) ?_
  refine y_val (w := .int 16) (by decide +kernel) ?_
  refine y_iushr C dJ6_bitCount_0f7a4_45 ?_
  refine y_iaddw C dJ6_bitCount_0f7a4_46 ?_
  refine y_val (w := .int (bc5 (nI n))) rfl ?_
  refine y_istore_n C [(0, .int (bc5 (nI n)))] dJ6_bitCount_0f7a4_47 (by decide) rfl ?_
  refine y_iload_n C 0 dJ6_bitCount_0f7a4_48 rfl ?_
  refine y_bipush C dJ6_bitCount_0f7a4_49 (by decide +kernel) ?_
  refine y_val (w := .int 63) (by decide +kernel) ?_
  refine y_iand C dJ6_bitCount_0f7a4_51 ?_
  refine y_val (w := .int (zI (popN n : Int))) ?_ ?_
  · show Value.int (bc6 (nI n)) = _
    rw [zI_nat]
    exact congrArg Value.int (bc6_of n hn)
  exact hret _ _ _ _ dJ6_bitCount_0f7a4_52 ⟨rfl, rfl⟩

/-! differentDots: the mask -/
theorem orb : ∀ a : Nat, a < 256 → ∀ b : Nat, b < 8 → (Int32.ofNat a) ||| (1 <<< ((Int32.ofNat b) &&& 31)) = Int32.ofNat (a ||| 2 ^ b) ∧ (a ||| 2 ^ b) < 256 ∧ ∀ v : Nat, v < 8 → ((a ||| 2 ^ b) / 2 ^ v % 2 = 1 ↔ (v = b ∨ a / 2 ^ v % 2 = 1)) := by decide +kernel
theorem popN_cnt {a : Nat} {P : Int → Prop} (h : ∀ v : Nat, v < 8 → (a / 2 ^ v % 2 = 1 ↔ P v)) : (popN a : Int) = zcnt P 8 := by
  have key : ∀ v : Nat, v < 8 → ((a / 2 ^ v % 2 : Nat) : Int) = bI (P v) := by
    intro v hv
    have h1 := h v hv
    rcases (show a / 2 ^ v % 2 = 0 ∨ a / 2 ^ v % 2 = 1 from by omega) with e | e
    · rw [e, bI_f (fun q => by have := h1.mpr q; omega)]; rfl
    · rw [e, bI_t (h1.mp e)]; rfl
  have k0 := key 0 (by omega)
  have k1 := key 1 (by omega)
  have k2 := key 2 (by omega)
  have k3 := key 3 (by omega)
  have k4 := key 4 (by omega)
  have k5 := key 5 (by omega)
  have k6 := key 6 (by omega)
  have k7 := key 7 (by omega)
  have e : zcnt P 8 = 0 + bI (P (0 : Nat)) + bI (P (1 : Nat)) + bI (P (2 : Nat)) + bI (P (3 : Nat)) + bI (P (4 : Nat)) + bI (P (5 : Nat)) + bI (P (6 : Nat)) + bI (P (7 : Nat)) := rfl
  rw [e, ← k0, ← k1, ← k2, ← k3, ← k4, ← k5, ← k6, ← k7]
  unfold popN
  simp only [Nat.pow_zero, Nat.div_one, Nat.reducePow]
  omega
noncomputable def dotsD (d : Int → Int) : Int := zcnt (fun v => ∃ k : Int, 0 ≤ k ∧ k < 32 ∧ d k = v) 8
