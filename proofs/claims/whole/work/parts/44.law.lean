/-! ===== the law ===== -/
/-- between two calls of the law -/
def LInv (u v past S P Q M T SS PS QS MS TS cd bd bdg ra : Int → Int) (kF : Nat → Nat → Int → Int) (kl kt : Nat → Int) (kA : Nat → Nat → Nat) (f : Nat → Option Nat) (len lot lenS lotS stt has pl ta bo le ri pn sg : Int) : Prop :=
  Rel u S P Q M T len lot ∧ HR past stt kF kl kt ∧ (f 0 = some (kA 0 0) ∧ f 1 = some (kA 1 0) ∧ f 2 = some (kA 2 0) ∧ f 3 = some (kA 3 0)) ∧ (has = 0 ∨ has = 1) ∧ (has = 1 → Rel v SS PS QS MS TS lenS lotS) ∧ (0 ≤ pl ∧ pl ≤ 80) ∧ (∀ k : Int, 0 ≤ k → k < 80 → 0 ≤ cd k ∧ cd k ≤ 126) ∧ Zok ta bo le ri pn sg ∧ (∀ k : Int, 0 ≤ k → k < 32 → 0 ≤ bd k ∧ bd k ≤ 32) ∧ (∀ k : Int, 0 ≤ k → k < 32 → 0 ≤ bdg k ∧ bdg k ≤ 32) ∧ (∀ k : Int, 0 ≤ k → k < 23 → 0 ≤ ra k ∧ ra k ≤ 5000)
theorem vI_0r {V : Prop} {z : Int} (h : 0 ≤ z ∧ z ≤ 80) : 0 ≤ vI V 0 z ∧ vI V 0 z ≤ 80 := by
  by_cases q : V
  · rw [vI_t q]; omega
  · rw [vI_f q]; exact h
theorem app_r {z c : Int} (h : 0 ≤ z ∧ z ≤ 80) : 0 ≤ vI (vApp z c) (z + 1) z ∧ vI (vApp z c) (z + 1) z ≤ 80 := by
  by_cases q : vApp z c
  · rw [vI_t q]; omega
  · rw [vI_f q]; exact h
theorem app_cd {cd : Int → Int} {z c : Int} (h : ∀ k : Int, 0 ≤ k → k < 80 → 0 ≤ cd k ∧ cd k ≤ 126) : ∀ k : Int, 0 ≤ k → k < 80 → 0 ≤ vI (vApp z c) (zU cd z c) cd k ∧ vI (vApp z c) (zU cd z c) cd k ≤ 126 := by
  intro k a b
  by_cases q : vApp z c
  · rw [vI_t q]
    unfold zU
    split
    · omega
    · exact h k a b
  · rw [vI_f q]; exact h k a b
def SRd (K : KT) (b : Nat) (L : Int) (X : Int → Int) : Prop := ∀ (k n : Nat) (ws : va_W) (lv : List (Nat × Value)) (pc : Nat) (st : List Value) (i : Int), decode cL_law pc = .ok (.iaload, 1) → 0 ≤ i → i < L → K k n ws lv (pc + 1) (.int (zI (X i)) :: st) → K k n ws lv pc (.int (zI i) :: .ref b :: st)
theorem y_same {l : Launch} {K : KT} {own : String} {cc : ByteArray} {nL : Nat} {R : Room} {D : va_G} {tys : List (ClassId × FieldType)} {k n : Nat} {ws : va_W} {lv : List (Nat × Value)} {pc : Nat} {st : List Value} (C : YC l K own cc nL R D tys) {x y : Int} {off : Int} (tgt : Nat) (hd : decode cc pc = .ok (.if_icmp .eq off, 3)) (ht : (pc : Int) + off = (tgt : Int)) (he : x = y) (g : K k n ws lv tgt st) : K k n ws lv pc (.int (zI y) :: .int (zI x) :: st) := by
  subst he
  obtain ⟨p, e, s, m, args, below, meth, c, A, Q, rfl, hx, hb, hml, hown, hts, hK, hA, hNs⟩ := C
  intro H locs ls hP hD hS h
  exact lv_icmp_eq hx hb hd ht (fun _ => g H locs ls hP hD hS h) (fun q => absurd rfl q)
theorem y_dstore {l : Launch} {K : KT} {own : String} {cc : ByteArray} {nL : Nat} {R : Room} {D : va_G} {tys : List (ClassId × FieldType)} {k n : Nat} {ws : va_W} {lv : List (Nat × Value)} {pc : Nat} {st : List Value} (C : YC l K own cc nL R D tys) {i : Nat} {x : UInt64} (lv' : List (Nat × Value)) (hd : decode cc pc = .ok (.dstore i, 2)) (hn : i + 1 < nL) (hl : (i, Value.double x) :: lv.filter (fun q => !(q.1 == i) && (!(q.1 == i + 1) && !(q.1 + 1 == i && q.2.category == 2))) = lv') (g : K k n ws lv' (pc + 2) st) : K k n ws lv pc (.double x :: st) := by
  obtain ⟨p, e, s, m, args, below, meth, c, A, Q, rfl, hx, hb, hml, hown, hts, hK, hA, hNs⟩ := C
  intro H locs ls hP hD hS h
  exact lv_dstore hx hb hd h hn hl (fun ls' h' => g H locs ls' hP hD hS h')
theorem y_dload {l : Launch} {K : KT} {own : String} {cc : ByteArray} {nL : Nat} {R : Room} {D : va_G} {tys : List (ClassId × FieldType)} {k n : Nat} {ws : va_W} {lv : List (Nat × Value)} {pc : Nat} {st : List Value} (C : YC l K own cc nL R D tys) {i : Nat} {x : UInt64} (j : Nat) (hd : decode cc pc = .ok (.dload i, 2)) (hl : lv[j]? = some (i, .double x)) (g : K k n ws lv (pc + 2) (.double x :: st)) : K k n ws lv pc st := by
  obtain ⟨p, e, s, m, args, below, meth, c, A, Q, rfl, hx, hb, hml, hown, hts, hK, hA, hNs⟩ := C
  intro H locs ls hP hD hS h
  exact lv_dload hx hb hd (lv_at h j hl) (g H locs ls hP hD hS h)
theorem y_dsame {l : Launch} {K : KT} {own : String} {cc : ByteArray} {nL : Nat} {R : Room} {D : va_G} {tys : List (ClassId × FieldType)} {k n : Nat} {ws : va_W} {lv : List (Nat × Value)} {pc : Nat} {st : List Value} (C : YC l K own cc nL R D tys) {x : UInt64} {op : CmpOp} (hd : decode cc pc = .ok (.dcmp op, 1)) (hx0 : Jvm.FP.Core.val64 x ≠ .nan) (g : K k n ws lv (pc + 1) (.int (zI 0) :: st)) : K k n ws lv pc (.double x :: .double x :: st) := by
  refine y_dcmp C hd ?_
  have e : FP.dcmp x x = some .eq := Jvm.FP.Core.dcmp_self hx0
  rw [e]
  have e2 : Op.cmpValue (some Ordering.eq) op = zI 0 := by rw [zI_0]; cases op <;> rfl
  rw [e2]
  exact g
